/-! ===== the line of a start (the class's side) ===== -/
/-- m of the six of side s are placed -/
def ps_OKm (I0 : Nat → Nat → Int32) (T : Nat) (b : Nat → Nat) (n : Nat) (Q : ps_Q) (s m : Nat) (p : Nat) (I : Nat → Nat → Int32) : Prop :=
  (ps_rd I b n) ∧
  (p ≤ n) ∧
  (I 1 5 = nI (ps_tq b n p)) ∧
  (I 1 6 = nI p) ∧
  (I 1 7 = nI (ps_tk b n p)) ∧
  (I 1 8 = nI (ps_tcd b n p)) ∧
  (I 1 2 = 0) ∧
  (I 1 3 = -1) ∧
  (I 1 1 = 0) ∧
  (ps_QX (hp_u I (T + 6 * s + 1) 6 0) T Q) ∧
  (I (T + 6 * s + 1) 6 = nI m) ∧
  (∀ k, k < m → I (T + 6 * s + 6) k = nI (Q.start s k)) ∧
  (∀ a, a ≠ 1 → (a < T ∨ T + 12 < a) → I a = I0 a)
theorem ps_OKm.rd {I0 : Nat → Nat → Int32} {T : Nat} {b : Nat → Nat} {n : Nat} {Q : ps_Q} {s m : Nat} {p : Nat} {I : Nat → Nat → Int32} (h : ps_OKm I0 T b n Q s m p I) : ps_rd I b n := h.1
theorem ps_OKm.p {I0 : Nat → Nat → Int32} {T : Nat} {b : Nat → Nat} {n : Nat} {Q : ps_Q} {s m : Nat} {p : Nat} {I : Nat → Nat → Int32} (h : ps_OKm I0 T b n Q s m p I) : p ≤ n := h.2.1
theorem ps_OKm.q {I0 : Nat → Nat → Int32} {T : Nat} {b : Nat → Nat} {n : Nat} {Q : ps_Q} {s m : Nat} {p : Nat} {I : Nat → Nat → Int32} (h : ps_OKm I0 T b n Q s m p I) : I 1 5 = nI (ps_tq b n p) := h.2.2.1
theorem ps_OKm.pl {I0 : Nat → Nat → Int32} {T : Nat} {b : Nat → Nat} {n : Nat} {Q : ps_Q} {s m : Nat} {p : Nat} {I : Nat → Nat → Int32} (h : ps_OKm I0 T b n Q s m p I) : I 1 6 = nI p := h.2.2.2.1
theorem ps_OKm.k {I0 : Nat → Nat → Int32} {T : Nat} {b : Nat → Nat} {n : Nat} {Q : ps_Q} {s m : Nat} {p : Nat} {I : Nat → Nat → Int32} (h : ps_OKm I0 T b n Q s m p I) : I 1 7 = nI (ps_tk b n p) := h.2.2.2.2.1
theorem ps_OKm.c {I0 : Nat → Nat → Int32} {T : Nat} {b : Nat → Nat} {n : Nat} {Q : ps_Q} {s m : Nat} {p : Nat} {I : Nat → Nat → Int32} (h : ps_OKm I0 T b n Q s m p I) : I 1 8 = nI (ps_tcd b n p) := h.2.2.2.2.2.1
theorem ps_OKm.fk {I0 : Nat → Nat → Int32} {T : Nat} {b : Nat → Nat} {n : Nat} {Q : ps_Q} {s m : Nat} {p : Nat} {I : Nat → Nat → Int32} (h : ps_OKm I0 T b n Q s m p I) : I 1 2 = 0 := h.2.2.2.2.2.2.1
theorem ps_OKm.fp {I0 : Nat → Nat → Int32} {T : Nat} {b : Nat → Nat} {n : Nat} {Q : ps_Q} {s m : Nat} {p : Nat} {I : Nat → Nat → Int32} (h : ps_OKm I0 T b n Q s m p I) : I 1 3 = -1 := h.2.2.2.2.2.2.2.1
theorem ps_OKm.tz {I0 : Nat → Nat → Int32} {T : Nat} {b : Nat → Nat} {n : Nat} {Q : ps_Q} {s m : Nat} {p : Nat} {I : Nat → Nat → Int32} (h : ps_OKm I0 T b n Q s m p I) : I 1 1 = 0 := h.2.2.2.2.2.2.2.2.1
theorem ps_OKm.Q {I0 : Nat → Nat → Int32} {T : Nat} {b : Nat → Nat} {n : Nat} {Q : ps_Q} {s m : Nat} {p : Nat} {I : Nat → Nat → Int32} (h : ps_OKm I0 T b n Q s m p I) : ps_QX (hp_u I (T + 6 * s + 1) 6 0) T Q := h.2.2.2.2.2.2.2.2.2.1
theorem ps_OKm.plc {I0 : Nat → Nat → Int32} {T : Nat} {b : Nat → Nat} {n : Nat} {Q : ps_Q} {s m : Nat} {p : Nat} {I : Nat → Nat → Int32} (h : ps_OKm I0 T b n Q s m p I) : I (T + 6 * s + 1) 6 = nI m := h.2.2.2.2.2.2.2.2.2.2.1
theorem ps_OKm.st {I0 : Nat → Nat → Int32} {T : Nat} {b : Nat → Nat} {n : Nat} {Q : ps_Q} {s m : Nat} {p : Nat} {I : Nat → Nat → Int32} (h : ps_OKm I0 T b n Q s m p I) : ∀ k, k < m → I (T + 6 * s + 6) k = nI (Q.start s k) := h.2.2.2.2.2.2.2.2.2.2.2.1
theorem ps_OKm.fr {I0 : Nat → Nat → Int32} {T : Nat} {b : Nat → Nat} {n : Nat} {Q : ps_Q} {s m : Nat} {p : Nat} {I : Nat → Nat → Int32} (h : ps_OKm I0 T b n Q s m p I) : ∀ a, a ≠ 1 → (a < T ∨ T + 12 < a) → I a = I0 a := h.2.2.2.2.2.2.2.2.2.2.2.2
section PSF52
variable {t v w : Bool} {I I0 : Nat → Nat → Int32} {L : Nat → Nat → Int64} {b : Nat → Nat} {n p s m : Nat} {Q : ps_Q}
theorem ps_OK.m0 (h : ps_OK I0 (ps_T2 t) b n Q p I) (hs : s < 2) (hn : Q.stt s = false) : ps_OKm I0 (ps_T2 t) b n Q s 0 p I := by
  have h6 : I (ps_T2 t + 6 * s + 1) 6 = 0 := (h.Q.plc s hs).trans (by rw [hn]; rfl)
  have e : hp_u I (ps_T2 t + 6 * s + 1) 6 0 = I := by
    funext a k
    by_cases c : a = ps_T2 t + 6 * s + 1 ∧ k = 6
    · obtain ⟨rfl, rfl⟩ := c; rw [pu_eq, h6]
    · rw [pu_ne (by omega)]
  exact ⟨h.rd, h.p, h.q, h.pl, h.k, h.c, h.fk, h.fp, h.tz, by rw [e]; exact h.Q, h6, fun k hk => absurd hk (by omega), h.fr⟩
theorem ps_OKm.adv (h : ps_OKm I0 (ps_T2 t) b n Q s m p I) (hs : s < 2) : ∃ J, ps_OKm I0 (ps_T2 t) b n Q s m (ps_nx b n p) J ∧ fX5_advance 1 (I, L, px_R t v w) = some (J, L, px_R t v w) := by
  have hT := ps_T2_le t
  have hq := ps_tq_le (b := b) h.p
  obtain ⟨J, ⟨j1, j2, j3, j4, j5, j6⟩, j7⟩ := cx_advance (L := L) (t := t) (v := v) (w := w) h.rd hq.2.1 h.q
  obtain ⟨r1, r2, r3, r4⟩ := h.rd
  have eq : ∀ a, a ≠ 1 → hp_u J (ps_T2 t + 6 * s + 1) 6 0 a = hp_u I (ps_T2 t + 6 * s + 1) 6 0 a := fun a ha => by
    by_cases c : a = ps_T2 t + 6 * s + 1
    · rw [c]; funext k
      by_cases d : k = 6
      · rw [d, pu_eq, pu_eq]
      · rw [pu_place d, pu_place d, j6 _ (by omega)]
    · rw [pu_cell c, pu_cell c, j6 a ha]
  exact ⟨J, ⟨⟨r1, (j5 4 (by decide) (by decide) (by decide) (by decide)).trans r2, fun k hk => by rw [j6 2 (by omega)]; exact r3 k hk, r4⟩, ps_nx_le h.p, j1, j2, j3, j4, by rw [j5 2 (by decide) (by decide) (by decide) (by decide)]; exact h.fk, by rw [j5 3 (by decide) (by decide) (by decide) (by decide)]; exact h.fp, by rw [j5 1 (by decide) (by decide) (by decide) (by decide)]; exact h.tz, h.Q.near (fun a q1 q2 => eq a (by omega)), by rw [j6 _ (by omega)]; exact h.plc, fun k hk => by rw [j6 _ (by omega)]; exact h.st k hk, fun a q1 q2 => by rw [j6 a q1]; exact h.fr a q1 q2⟩, j7⟩
theorem ps_OKm.fail (h : ps_OKm I0 (ps_T2 t) b n Q s m p I) (hs : s < 2) (hm : m ≤ 6) (hl : ps_Ql Q) (k : Nat) : ∃ J, ps_WK I0 (ps_T2 t) b n k p J ∧ fX5_fail 1 (nI k) (I, L, px_R t v w) = some (J, L, px_R t v w) := by
  have hT := ps_T2_le t
  unfold fX5_fail
  rw [show (I, L, px_R t v w).1 1 2 = 0 from h.fk, if_pos rfl, pl_let, pl_let]
  obtain ⟨r1, r2, r3, r4⟩ := h.rd
  have c0 : ∀ a, a ≠ 1 → hp_u (hp_u I 1 2 (nI k)) 1 3 (nI p) a = I a := fun a ha => by rw [pu_cell ha, pu_cell ha]
  have c1 : ∀ j, j ≠ 2 → j ≠ 3 → hp_u (hp_u I 1 2 (nI k)) 1 3 (nI p) 1 j = I 1 j := fun j q1 q2 => by rw [pu_place q2, pu_place q1]
  refine ⟨hp_u (hp_u I 1 2 (nI k)) 1 3 (nI p), ⟨⟨r1, by rw [c1 4 (by decide) (by decide)]; exact r2, fun j hj => by rw [c0 2 (by omega)]; exact r3 j hj, r4⟩, ⟨_, (ps_tq_le h.p).2.1, by rw [c1 5 (by decide) (by decide)]; exact h.q⟩, by rw [pu_place (by decide), pu_eq], pu_eq, by rw [c1 1 (by decide) (by decide)]; exact h.tz, fun s' hs' => ⟨Q.size s', hl s' hs', by rw [c0 _ (by omega)]; exact (pu_place (by decide)).symm.trans (h.Q.size s' hs')⟩, fun s' hs' => ?_, fun a q1 q2 => by rw [c0 a q1]; exact h.fr a q1 q2⟩, ?_⟩
  · rw [c0 _ (by omega)]
    by_cases c : s' = s
    · rw [c]; exact ⟨m, hm, h.plc⟩
    · exact ⟨if Q.stt s' then 6 else 0, by split <;> omega, (by have e := h.Q.plc s' hs'; rw [pu_cell (by omega)] at e; exact e)⟩
  · show some (hp_u (hp_u I 1 2 (nI k)) 1 3 (hp_u I 1 2 (nI k) 1 6), L, px_R t v w) = _
    rw [pu_place (by decide), h.pl]
theorem ps_OKm.find (h : ps_OKm I0 (ps_T2 t) b n Q s m p I) (hl : ps_Ql Q) (hs : s < 2) (x : Int32) : fX7_find (ps_T2 t + 6 * s + 1) x (I, L, px_R t v w) = some (ps_e1 (ps_fd Q s x), (I, L, px_R t v w)) := by
  obtain ⟨r, -, hr, e⟩ := cx_find2 (L := L) (v := v) (w := w) hs (hl s hs) ((pu_place (by decide)).symm.trans (h.Q.size s hs)) x
  rw [e, hr]
  unfold ps_fd
  rw [ps_nf_cong (f := fun k => I (ps_T2 t + 6 * s + 2) k) (g := Q.nm s) (fun k _ hk => by have e := h.Q.nm s hs k (by omega); rw [pu_cell (by omega)] at e; exact e)]
/-- the next one is placed -/
theorem ps_OKm.place (h : ps_OKm I0 (ps_T2 t) b n Q s m p I) (hs : s < 2) (hm : m < 6) (hn : Q.stt s = false) (q : Nat) : ∃ J, ps_OKm I0 (ps_T2 t) b n (Q.puts s m q) s (m + 1) p J ∧ fX7_place (ps_T2 t + 6 * s + 1) (nI q) (I, L, px_R t v w) = some (J, L, px_R t v w) := by
  have hT := ps_T2_le t
  unfold fX7_place
  rw [show (I, L, px_R t v w).1 (ps_T2 t + 6 * s + 1) 6 = nI m from h.plc, if_neg (show ¬ (6 : Int32) ≤ nI m from nI_ge (b := 6) (by omega) (by omega)), pg_pos (pi_in (by omega) (by omega)), pl_let, pl_let, pi_ix (n := m) (by omega)]
  refine ⟨hp_u (hp_u I (ps_T2 t + 6 * s + 6) m (nI q)) (ps_T2 t + 6 * s + 1) 6 (nI (m + 1)), ?_, ?_⟩
  · have cell : ∀ a, a ≠ ps_T2 t + 6 * s + 6 → a ≠ ps_T2 t + 6 * s + 1 → hp_u (hp_u I (ps_T2 t + 6 * s + 6) m (nI q)) (ps_T2 t + 6 * s + 1) 6 (nI (m + 1)) a = I a := fun a h1 h2 => by rw [pu_cell h2, pu_cell h1]
    have c1 := cell 1 (by omega) (by omega)
    have c2 := cell 2 (by omega) (by omega)
    have eq : ∀ a, a ≠ ps_T2 t + 6 * s + 6 → hp_u (hp_u (hp_u I (ps_T2 t + 6 * s + 6) m (nI q)) (ps_T2 t + 6 * s + 1) 6 (nI (m + 1))) (ps_T2 t + 6 * s + 1) 6 0 a = hp_u I (ps_T2 t + 6 * s + 1) 6 0 a := fun a ha => by
      by_cases c : a = ps_T2 t + 6 * s + 1
      · rw [c]; funext k
        by_cases d : k = 6
        · rw [d, pu_eq, pu_eq]
        · rw [pu_place d, pu_place d, pu_place d, pu_cell (by omega)]
      · rw [pu_cell c, pu_cell c, pu_cell c, pu_cell ha]
    obtain ⟨r1, r2, r3, r4⟩ := h.rd
    refine ⟨⟨r1, by rw [c1]; exact r2, fun k hk => by rw [c2]; exact r3 k hk, r4⟩, h.p, by rw [c1]; exact h.q, by rw [c1]; exact h.pl, by rw [c1]; exact h.k, by rw [c1]; exact h.c, by rw [c1]; exact h.fk, by rw [c1]; exact h.fp, by rw [c1]; exact h.tz, ⟨by rw [eq _ (by omega)]; exact h.Q.pts, by rw [eq _ (by omega)]; exact h.Q.sbs, by rw [eq _ (by omega)]; exact h.Q.edg, by rw [eq _ (by omega)]; exact h.Q.fst, by rw [eq _ (by omega)]; exact h.Q.lns, fun s' hs' => by rw [eq _ (by omega)]; exact h.Q.size s' hs', fun s' hs' => by rw [eq _ (by omega)]; exact h.Q.plc s' hs', fun s' hs' => by rw [eq _ (by omega)]; exact h.Q.free s' hs', fun s' hs' k hk => by rw [eq _ (by omega)]; exact h.Q.nm s' hs' k hk, fun s' hs' i hi k hk => by rw [eq _ (by omega)]; exact h.Q.sk s' hs' i hi k hk, fun s' hs' e k hk => ?_⟩, pu_eq, fun k hk => ?_, fun a q1 q2 => by rw [cell a (by omega) (by omega)]; exact h.fr a q1 q2⟩
    · have hne : s' ≠ s := fun c => by rw [c] at e; exact absurd (hn.symm.trans e) (by decide)
      show _ = nI (if s' = s ∧ k = m then q else Q.start s' k)
      rw [eq _ (by omega), if_neg (fun z => hne z.1)]; exact h.Q.st s' hs' e k hk
    · show _ = nI (if s = s ∧ k = m then q else Q.start s k)
      rw [pu_cell (by omega)]
      by_cases c : k = m
      · rw [if_pos ⟨rfl, c⟩, c, pu_eq]
      · rw [if_neg (fun z => c z.2), pu_place c]; exact h.st k (by omega)
  · show some (hp_u (hp_u I (px_R t v w (ps_T2 t + 6 * s + 1) 4) m (nI q)) (ps_T2 t + 6 * s + 1) 6 (hp_u I (px_R t v w (ps_T2 t + 6 * s + 1) 4) m (nI q) (ps_T2 t + 6 * s + 1) 6 + 1), L, px_R t v w) = _
    rw [pr_q2 hs (by omega), pu_cell (x := ps_T2 t + 6 * s + 1) (by omega), h.plc, nI_1]
/-- all six are placed -/
theorem ps_OKm.done (h : ps_OKm I0 (ps_T2 t) b n Q s 6 p I) (hs : s < 2) : ps_OK I0 (ps_T2 t) b n (Q.sett s) p I := by
  have eq : ∀ a, a ≠ ps_T2 t + 6 * s + 1 → hp_u I (ps_T2 t + 6 * s + 1) 6 0 a = I a := fun a ha => pu_cell ha
  have fl : ∀ a k, k ≠ 6 → hp_u I (ps_T2 t + 6 * s + 1) 6 0 a k = I a k := fun a k hk => pu_place hk
  refine ⟨h.rd, h.p, h.q, h.pl, h.k, h.c, h.fk, h.fp, h.tz, ⟨?_, ?_, ?_, ?_, ?_, fun s' hs' => ?_, fun s' hs' => ?_, fun s' hs' => ?_, fun s' hs' k hk => ?_, fun s' hs' i hi k hk => ?_, fun s' hs' e k hk => ?_⟩, h.fr⟩
  · rw [← fl _ _ (by decide)]; exact h.Q.pts
  · rw [← fl _ _ (by decide)]; exact h.Q.sbs
  · rw [← fl _ _ (by decide)]; exact h.Q.edg
  · rw [← fl _ _ (by decide)]; exact h.Q.fst
  · rw [← eq _ (by omega)]; exact h.Q.lns
  · rw [← fl _ _ (by decide)]; exact h.Q.size s' hs'
  · show _ = nI (if (if s' = s then true else Q.stt s') then 6 else 0)
    by_cases c : s' = s
    · rw [if_pos c, c]; exact h.plc
    · rw [if_neg c, ← eq _ (by omega)]; exact h.Q.plc s' hs'
  · rw [← fl _ _ (by decide)]; exact h.Q.free s' hs'
  · rw [← eq _ (by omega)]; exact h.Q.nm s' hs' k hk
  · rw [← eq _ (by omega)]; exact h.Q.sk s' hs' i hi k hk
  · by_cases c : s' = s
    · rw [c]; exact h.st k hk
    · have e : (if s' = s then true else Q.stt s') = true := e
      rw [if_neg c] at e
      rw [← eq _ (by omega)]; exact h.Q.st s' hs' e k hk
theorem cx_start43 : ∀ (r m f : Nat) (Q : ps_Q) (p : Nat) (I : Nat → Nat → Int32), m + r = 6 → r < f → s < 2 → ps_Ql Q → (∀ q, Q.free s = some q → q < 2 ^ 31) → Q.stt s = false → ps_OKm I0 (ps_T2 t) b n Q s m p I → ∃ J, ps_CO I0 t b n (ps_Lplace b n s r m Q p) J ∧ fX5_readStart_43 f 1 (ps_T2 t + 6 * s + 1) (nI (m + 1)) (I, L, px_R t v w) = some (J, L, px_R t v w) := by
  intro r
  induction r with
  | zero =>
    intro m f Q p I hm hf hs hl _ hn h
    obtain ⟨f, rfl⟩ : ∃ f', f = f' + 1 := ⟨f - 1, by omega⟩
    obtain rfl : m = 6 := by omega
    rw [fX5_readStart_43, if_pos (show (6 : Int32) < nI (6 + 1) from by decide), ps_Lplace]
    exact ⟨I, ⟨h.done hs, hl⟩, rfl⟩
  | succ r ih =>
    intro m f Q p I hm hf hs hl hfr hn h
    have hT := ps_T2_le t
    have hz := hl s hs
    obtain ⟨f, rfl⟩ : ∃ f', f = f' + 2 := ⟨f - 2, by omega⟩
    rw [fX5_readStart_43, if_neg (show ¬ (6 : Int32) < nI (m + 1) from nI_nlt (a := 6) (by omega) (by omega)), show (I, L, px_R t v w).1 1 2 = 0 from h.fk, if_pos rfl, ps_Lplace]
    obtain ⟨J, j1, j2⟩ := h.adv (L := L) (v := v) (w := w) hs
    have htk := ps_tk_lt (b := b) (n := n) (p := ps_nx b n p)
    have bad : ∀ (k : Nat) (x : Int32), 0 < k → k < 5 → ∃ J', ps_CO I0 t b n (.error (k, ps_nx b n p)) J' ∧ (fx_b1 (fX5_fail 1 (nI k) (J, L, px_R t v w)) fun h91 => fX5_readStart_120 (fX5_readStart_43 (f + 1)) 1 (ps_T2 t + 6 * s + 1) (nI (m + 1)) x h91) = some (J', L, px_R t v w) := fun k x k1 k2 => by
      obtain ⟨H, g1, g2⟩ := j1.fail (L := L) (v := v) (w := w) hs (by omega) hl k
      obtain ⟨G, e1, e2⟩ := g1.place (L := L) (v := v) (w := w) hs x
      rw [g2, pb_1]
      unfold fX5_readStart_120
      rw [e2, pb_1, pl_let, e1.start43 (by omega) k2]
      exact ⟨G, ⟨e1, k1, k2⟩, rfl⟩
    rw [j2, pb_1, show (J, L, px_R t v w).1 1 7 = nI (ps_tk b n (ps_nx b n p)) from j1.k]
    unfold fX5_readStart_81 fX5_readStart_115
    by_cases c1 : ps_tk b n (ps_nx b n p) = 1
    · rw [if_neg (show ¬ ps_tk b n (ps_nx b n p) ≠ 1 from fun q => q c1), if_pos (show nI (ps_tk b n (ps_nx b n p)) = 1 by rw [c1]; rfl), show (J, L, px_R t v w).1 1 8 = nI (ps_tw b n (ps_nx b n p)) from j1.c.trans (by rw [(ps_tcd_w (Or.inl c1)).1]), j1.find hl hs, pb_2]
      cases e : ps_fd Q s (nI (ps_tw b n (ps_nx b n p))) with
      | none =>
        rw [if_pos (show ps_e1 none = -1 from rfl)]
        exact bad 1 _ (by omega) (by omega)
      | some q =>
        have hq := ps_fd_lt e
        rw [if_neg (show ¬ ps_e1 (some q) = -1 from nI_ne_m1 (by omega)), show (J, L, px_R t v w).1 (ps_T2 t + 6 * s + 1) 7 = ps_e1 (Q.free s) from (pu_place (by decide)).symm.trans (j1.Q.free s hs)]
        show ∃ J', ps_CO I0 t b n (if Q.free s = some q ∨ ps_inB Q s q m = true then Except.error (3, ps_nx b n p) else ps_Lplace b n s r (m + 1) (Q.puts s m q) (ps_nx b n p)) J' ∧ (if nI q = ps_e1 (Q.free s) then _ else _) = _
        by_cases c2 : Q.free s = some q
        · rw [if_pos (Or.inl c2), if_pos ((ps_e1_eq (by omega) hfr).mpr c2)]
          exact bad 3 _ (by omega) (by omega)
        · rw [if_neg (show ¬ nI q = ps_e1 (Q.free s) from fun z => c2 ((ps_e1_eq (by omega) hfr).mp z)), show ps_e1 (some q) = nI q from rfl, cx_starter2 hs (m := m) (g := Q.start s) (by omega) j1.plc (fun k hk => j1.st k hk), pb_2]
          by_cases c3 : ps_inB Q s q m = true
          · rw [if_pos (Or.inr c3), if_pos (show decide (ps_at (fun k => nI (Q.start s k)) (nI q) m 0 ≠ 0) = true from c3), if_neg (by decide)]
            exact bad 3 _ (by omega) (by omega)
          · rw [if_neg (show ¬ (Q.free s = some q ∨ ps_inB Q s q m = true) from fun z => z.elim c2 c3), if_neg (show ¬ decide (ps_at (fun k => nI (Q.start s k)) (nI q) m 0 ≠ 0) = true from c3), if_pos rfl]
            unfold fX5_readStart_120
            obtain ⟨H, g1, g2⟩ := j1.place (L := L) (v := v) (w := w) hs (by omega) hn q
            rw [g2, pb_1, pl_let, nI_1]
            exact ih (m + 1) (f + 1) (Q.puts s m q) (ps_nx b n p) H (by omega) (by omega) hs hl hfr hn g1
    · rw [if_pos c1, if_neg (show ¬ nI (ps_tk b n (ps_nx b n p)) = 1 from fun q => c1 ((nI_eq (b := 1) (by omega) (by omega)).mp q)), if_pos rfl]
      exact bad 1 _ (by omega) (by omega)
theorem cx_lstart (h : ps_OK I0 (ps_T2 t) b n Q p I) (hw : ps_Qw Q) : ∃ J, ps_CO I0 t b n (ps_Lstart b n Q p) J ∧ fX5_readStart 1 (ps_T2 t) (I, L, px_R t v w) = some (J, L, px_R t v w) := by
  have hT := ps_T2_le t
  have hl := hw.l
  unfold fX5_readStart ps_Lstart
  obtain ⟨J, j1, j2⟩ := h.adv (L := L) (v := v) (w := w)
  rw [j2, pb_1, cx_sideHere j1, pb_2]
  have bad : ∀ (k : Nat) (c : Nat), 0 < k → k < 5 → ∃ J', ps_CO I0 t b n (.error (k, ps_nx b n p)) J' ∧ (fx_b1 (fX5_fail 1 (nI k) (J, L, px_R t v w)) fun h22 => fX5_readStart_40 1 c h22) = some (J', L, px_R t v w) := fun k c k1 k2 => by
    obtain ⟨H, g1, g2⟩ := j1.fail (L := L) (v := v) (w := w) hl k
    rw [g2, pb_1, g1.start40 (by omega) k2]
    exact ⟨H, ⟨g1, k1, k2⟩, rfl⟩
  cases e : ps_sideAt b n (ps_nx b n p) with
  | none =>
    have es : ∃ c, fX8_squad (ps_T2 t) (ps_e1 none) (J, L, px_R t v w) = some (c, (J, L, px_R t v w)) := ⟨_, rfl⟩
    obtain ⟨c, es⟩ := es
    rw [es, pb_2, if_pos (show ps_e1 none = -1 from rfl)]
    exact bad 1 c (by omega) (by omega)
  | some s =>
    have hs := ps_sideAt_lt e
    have es : fX8_squad (ps_T2 t) (ps_e1 (some s)) (J, L, px_R t v w) = some (ps_T2 t + 6 * s + 1, (J, L, px_R t v w)) := by
      unfold fX8_squad
      rcases (show s = 0 ∨ s = 1 by omega) with rfl | rfl
      · rw [if_pos (show ps_e1 (some 0) = 0 from rfl)]
        show some (px_R t v w (ps_T2 t) 0, _) = _
        rw [pr_T2_0]
      · rw [if_neg (show ¬ ps_e1 (some 1) = 0 from by decide)]
        show some (px_R t v w (ps_T2 t) 1, _) = _
        rw [pr_T2_1]
    rw [es, pb_2, if_neg (show ¬ ps_e1 (some s) = -1 from nI_ne_m1 (by omega)), show (J, L, px_R t v w).1 (ps_T2 t + 6 * s + 1) 6 = nI (if Q.stt s then 6 else 0) from j1.Q.plc s hs]
    show ∃ J', ps_CO I0 t b n (if Q.stt s = true then Except.error (3, ps_nx b n p) else ps_Lplace b n s 6 0 Q (ps_nx b n p)) J' ∧ _
    cases c : Q.stt s with
    | true =>
      rw [if_pos rfl, if_pos rfl, if_neg (by decide)]
      exact bad 3 _ (by omega) (by omega)
    | false =>
      rw [if_neg (by decide), if_pos (show nI (if false = true then 6 else 0) ≤ 0 by decide)]
      unfold fX5_readStart_40
      exact cx_start43 6 0 fx_N Q (ps_nx b n p) J (by omega) (by unfold fx_N; omega) hs hl (hw.free_lt hs) c (j1.m0 hs c)
end PSF52
