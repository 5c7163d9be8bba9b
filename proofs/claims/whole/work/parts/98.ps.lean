/-! ===== the rest of a line behind a fault (the class's side) ===== -/
section PSF48
variable {t v w : Bool} {I I0 : Nat → Nat → Int32} {L : Nat → Nat → Int64} {b : Nat → Nat} {n f g : Nat}
theorem ps_WK.set {T a k : Nat} {x : Int32} (h : ps_WK I0 T b n f g I) (hT : T = 40 ∨ T = 53) (h1 : T ≤ a) (h2 : a ≤ T + 12) (h3 : ∀ s, s < 2 → ¬ (a = T + 6 * s + 1 ∧ (k = 5 ∨ k = 6))) : ps_WK I0 T b n f g (hp_u I a k x) := by
  obtain ⟨r1, r2, r3, r4⟩ := h.rd
  have c0 : ∀ c, c < T ∨ T + 12 < c → hp_u I a k x c = I c := fun c hc => pu_cell (by omega)
  exact ⟨⟨r1, by rw [c0 1 (by omega)]; exact r2, fun j hj => by rw [c0 2 (by omega)]; exact r3 j hj, r4⟩, by rw [c0 1 (by omega)]; exact h.at_, by rw [c0 1 (by omega)]; exact h.fk, by rw [c0 1 (by omega)]; exact h.fp, by rw [c0 1 (by omega)]; exact h.tz, fun s hs => by rw [pu_ne (by have := h3 s hs; omega)]; exact h.size s hs, fun s hs => by rw [pu_ne (by have := h3 s hs; omega)]; exact h.plc s hs, fun c q1 q2 => by rw [c0 c q2]; exact h.fr c q1 q2⟩
theorem ps_WK.line200 (h : ps_WK I0 (ps_T2 t) b n f g I) (hf : f ≠ 0) (hf2 : f < 5) : ∃ J, ps_WK I0 (ps_T2 t) b n f g J ∧ fX5_readLine_200 1 (I, L, px_R t v w) = some (J, L, px_R t v w) := by
  have hT := ps_T2_le t
  unfold fX5_readLine_200
  obtain ⟨J, j1, j2⟩ := h.adv (L := L) (t := t) (v := v) (w := w) hT
  obtain ⟨H, k1, k2⟩ := j1.adv (L := L) (t := t) (v := v) (w := w) hT
  rw [j2, pb_1, j1.fail hf hf2, pb_1, k2, pb_1]
  refine ⟨H, k1, ?_⟩
  split <;> rfl
theorem ps_WK.setting10 (h : ps_WK I0 (ps_T2 t) b n f g I) (hf : f ≠ 0) (hf2 : f < 5) (x y : Int32) : ∃ (r : Int32) (J : Nat → Nat → Int32), ps_WK I0 (ps_T2 t) b n f g J ∧ fX5_readSetting_10 1 x y (I, L, px_R t v w) = some (r, (J, L, px_R t v w)) := by
  unfold fX5_readSetting_10
  obtain ⟨J, j1, j2⟩ := h.adv (L := L) (t := t) (v := v) (w := w) (ps_T2_le t)
  rw [j2, pb_1, j1.num hf hf2, pb_2]
  exact ⟨_, J, j1, rfl⟩
theorem ps_WK.player68 (h : ps_WK I0 (ps_T2 t) b n f g I) (hf : f ≠ 0) (hf2 : f < 5) {s : Nat} (hs : s < 2) (x : Int32) : ∃ J, ps_WK I0 (ps_T2 t) b n f g J ∧ fX5_readPlayer_68 1 (ps_T2 t + 6 * s + 1) x (I, L, px_R t v w) = some (J, L, px_R t v w) := by
  have hT := ps_T2_le t
  unfold fX5_readPlayer_68
  obtain ⟨J1, j1, e1⟩ := h.adv (L := L) (t := t) (v := v) (w := w) hT
  obtain ⟨J2, j2, e2⟩ := j1.adv (L := L) (t := t) (v := v) (w := w) hT
  obtain ⟨J3, j3, e3⟩ := j2.adv (L := L) (t := t) (v := v) (w := w) hT
  obtain ⟨J4, j4, e4⟩ := j3.add (L := L) (v := v) (w := w) hs x (J1 1 8) (J2 1 8) (J3 1 8)
  rw [e1, pb_1, j1.num hf hf2, pb_2, e2, pb_1, j2.num hf hf2, pb_2, e3, pb_1, j3.num hf hf2, pb_2, e4, pb_1]
  exact ⟨J4, j4, rfl⟩
theorem ps_WK.player14 (h : ps_WK I0 (ps_T2 t) b n f g I) (hf : f ≠ 0) (hf2 : f < 5) {s : Nat} (hs : s < 2) : ∃ J, ps_WK I0 (ps_T2 t) b n f g J ∧ fX5_readPlayer_14 1 (ps_T2 t) (ps_T2 t + 6 * s + 1) (I, L, px_R t v w) = some (J, L, px_R t v w) := by
  unfold fX5_readPlayer_14 fX5_readPlayer_63
  obtain ⟨J1, j1, e1⟩ := h.adv (L := L) (t := t) (v := v) (w := w) (ps_T2_le t)
  obtain ⟨J2, j2, e2⟩ := j1.player68 (L := L) (v := v) (w := w) hf hf2 hs (J1 1 8)
  obtain ⟨z0, hz0, a0⟩ := j1.size 0 (by omega)
  obtain ⟨z1, hz1, a1⟩ := j1.size 1 (by omega)
  obtain ⟨r0, -, -, f0⟩ := cx_find2 (L := L) (v := v) (w := w) (s := 0) (by omega) hz0 a0 (J1 1 8)
  obtain ⟨r1, -, -, f1⟩ := cx_find2 (L := L) (v := v) (w := w) (s := 1) (by omega) hz1 a1 (J1 1 8)
  rw [e1, pb_1, pl_let, show (J1, L, px_R t v w).2.2 (ps_T2 t) 0 = ps_T2 t + 6 * 0 + 1 from pr_T2_0, show (J1, L, px_R t v w).1 1 8 = J1 1 8 from rfl, f0, pb_2, show (J1, L, px_R t v w).2.2 (ps_T2 t) 1 = ps_T2 t + 6 * 1 + 1 from pr_T2_1, f1, pb_2, j1.fail hf hf2, pb_1, j1.fail hf hf2, pb_1, e2]
  refine ⟨J2, j2, ?_⟩
  split
  · split
    · split <;> rfl
    · rfl
  · rfl
theorem ps_WK.start40 (h : ps_WK I0 (ps_T2 t) b n f g I) (hf : f ≠ 0) (hf2 : f < 5) (c : Nat) : fX5_readStart_40 1 c (I, L, px_R t v w) = some (I, L, px_R t v w) := by
  unfold fX5_readStart_40 fx_N
  rw [fX5_readStart_43, if_neg (by decide), show (I, L, px_R t v w).1 1 2 = nI f from h.fk, if_neg (nI_ne0 (by omega) (by omega))]
theorem ps_WK.start43 (h : ps_WK I0 (ps_T2 t) b n f g I) (hf : f ≠ 0) (hf2 : f < 5) (c m : Nat) (i : Int32) : fX5_readStart_43 (m + 1) 1 c i (I, L, px_R t v w) = some (I, L, px_R t v w) := by
  rw [fX5_readStart_43, show (I, L, px_R t v w).1 1 2 = nI f from h.fk, if_neg (show ¬ nI f = 0 from nI_ne0 (by omega) (by omega))]
  split <;> rfl
theorem ps_WK.place (h : ps_WK I0 (ps_T2 t) b n f g I) {s : Nat} (hs : s < 2) (x : Int32) : ∃ J, ps_WK I0 (ps_T2 t) b n f g J ∧ fX7_place (ps_T2 t + 6 * s + 1) x (I, L, px_R t v w) = some (J, L, px_R t v w) := by
  have hT := ps_T2_le t
  obtain ⟨m, hm, h6⟩ := h.plc s hs
  unfold fX7_place
  rw [show (I, L, px_R t v w).1 (ps_T2 t + 6 * s + 1) 6 = nI m from h6]
  by_cases c : 6 ≤ m
  · rw [if_pos (show (6 : Int32) ≤ nI m from nI_le (a := 6) c (by omega))]; exact ⟨I, h, rfl⟩
  · rw [if_neg (show ¬ (6 : Int32) ≤ nI m from nI_ge (b := 6) (by omega) (by omega)), pg_pos (pi_in (by omega) (by omega)), pl_let, pl_let, pi_ix (n := m) (by omega)]
    refine ⟨hp_u (hp_u I (ps_T2 t + 6 * s + 6) m x) (ps_T2 t + 6 * s + 1) 6 (nI (m + 1)), ?_, ?_⟩
    · have h2 := h.set (a := ps_T2 t + 6 * s + 6) (k := m) (x := x) hT (by omega) (by omega) (fun s' hs' => by omega)
      obtain ⟨r1, r2, r3, r4⟩ := h2.rd
      have c0 : ∀ a, a < ps_T2 t ∨ ps_T2 t + 12 < a → hp_u (hp_u I (ps_T2 t + 6 * s + 6) m x) (ps_T2 t + 6 * s + 1) 6 (nI (m + 1)) a = hp_u I (ps_T2 t + 6 * s + 6) m x a := fun a ha => pu_cell (by omega)
      refine ⟨⟨r1, by rw [c0 1 (by omega)]; exact r2, fun k hk => by rw [c0 2 (by omega)]; exact r3 k hk, r4⟩, by rw [c0 1 (by omega)]; exact h2.at_, by rw [c0 1 (by omega)]; exact h2.fk, by rw [c0 1 (by omega)]; exact h2.fp, by rw [c0 1 (by omega)]; exact h2.tz, fun s' hs' => by rw [pu_place (by decide)]; exact h2.size s' hs', fun s' hs' => ?_, fun a q1 q2 => by rw [c0 a q2]; exact h2.fr a q1 q2⟩
      by_cases q : s' = s
      · rw [q]; exact ⟨m + 1, by omega, pu_eq⟩
      · rw [pu_cell (by omega)]; exact h2.plc s' hs'
    · show some (hp_u (hp_u I (px_R t v w (ps_T2 t + 6 * s + 1) 4) m x) (ps_T2 t + 6 * s + 1) 6 (hp_u I (px_R t v w (ps_T2 t + 6 * s + 1) 4) m x (ps_T2 t + 6 * s + 1) 6 + 1), L, px_R t v w) = _
      rw [pr_q2 hs (by omega), pu_cell (x := ps_T2 t + 6 * s + 1) (by omega), h6, nI_1]
theorem ps_WK.first13 (h : ps_WK I0 (ps_T2 t) b n f g I) (hf : f ≠ 0) (hf2 : f < 5) : ∃ J, ps_WK I0 (ps_T2 t) b n f g J ∧ fX5_readFirst_13 1 (ps_T2 t) (I, L, px_R t v w) = some (J, L, px_R t v w) := by
  have hT := ps_T2_le t
  unfold fX5_readFirst_13
  obtain ⟨J1, j1, e1⟩ := h.adv (L := L) (t := t) (v := v) (w := w) hT
  have es : ∃ r : Int32, fX5_sideHere 1 (J1, L, px_R t v w) = some (r, (J1, L, px_R t v w)) := by
    unfold fX5_sideHere
    split
    · split
      · exact ⟨_, rfl⟩
      · split
        · exact ⟨_, rfl⟩
        · exact ⟨_, rfl⟩
    · exact ⟨_, rfl⟩
  obtain ⟨r, er⟩ := es
  rw [e1, pb_1, er, pb_2, pl_let]
  have j2 := j1.set (a := ps_T2 t) (k := 5) (x := r) hT (by omega) (by omega) (fun s hs => by omega)
  refine ⟨hp_u J1 (ps_T2 t) 5 r, j2, ?_⟩
  have e2 := j2.fail (L := L) (t := t) (v := v) (w := w) hf hf2 1
  show (if hp_u J1 (ps_T2 t) 5 r (ps_T2 t) 5 = -1 then fx_b1 (fX5_fail 1 1 (hp_u J1 (ps_T2 t) 5 r, L, px_R t v w)) _ else _) = _
  rw [e2, pb_1]
  split <;> rfl
end PSF48
