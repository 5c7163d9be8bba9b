/-! ===== a player's line (the class's side) ===== -/
def ps_CO (I0 : Nat → Nat → Int32) (t : Bool) (b : Nat → Nat) (n : Nat) (r : Except (Nat × Nat) (ps_Q × Nat)) (J : Nat → Nat → Int32) : Prop := match r with | .ok x => ps_OK I0 (ps_T2 t) b n x.1 x.2 J ∧ ps_Ql x.1 | .error e => ps_WK I0 (ps_T2 t) b n e.1 e.2 J ∧ 0 < e.1 ∧ e.1 < 5
theorem ps_nf_cong {f g : Nat → Int32} {x : Int32} : ∀ {m i : Nat}, (∀ k, i ≤ k → k < i + m → f k = g k) → ps_nf f x m i = ps_nf g x m i
  | 0, _, _ => rfl
  | m + 1, i, h => by
    rw [ps_nf, ps_nf, h i (by omega) (by omega), ps_nf_cong (fun k h1 h2 => h k (by omega) (by omega))]
section PSF50
variable {t v w : Bool} {I I0 : Nat → Nat → Int32} {L : Nat → Nat → Int64} {b : Nat → Nat} {n p : Nat} {Q : ps_Q}
theorem ps_tk_lt : ps_tk b n p < 6 := by
  unfold ps_tk
  split
  · omega
  · split
    · split
      · split <;> omega
      · omega
    · split
      · omega
      · split <;> omega
theorem ps_tcd_w (h : ps_tk b n p = 1 ∨ ps_tk b n p = 2) : ps_tcd b n p = ps_tw b n p ∧ p < n ∧ ps_isL (b p) = true ∧ ps_spn ps_isL b n p - p ≤ 6 := by
  unfold ps_tk at h
  by_cases y1 : n ≤ p
  · rw [if_pos y1] at h; omega
  rw [if_neg y1] at h
  cases eL : ps_isL (b p) with
  | true =>
    rw [eL, if_pos rfl] at h
    refine ⟨by unfold ps_tcd; rw [if_neg y1, eL, if_pos rfl], by omega, rfl, ?_⟩
    by_cases y : ps_spn ps_isL b n p - p ≤ 6
    · exact y
    · rw [if_neg y] at h; omega
  | false =>
    rw [eL, if_neg (by decide)] at h
    split at h
    · omega
    · split at h <;> omega
theorem ps_OK.find (h : ps_OK I0 (ps_T2 t) b n Q p I) (hl : ps_Ql Q) {s : Nat} (hs : s < 2) (x : Int32) : fX7_find (ps_T2 t + 6 * s + 1) x (I, L, px_R t v w) = some (ps_e1 (ps_fd Q s x), (I, L, px_R t v w)) := by
  obtain ⟨r, -, hr, e⟩ := cx_find2 (L := L) (v := v) (w := w) hs (hl s hs) (h.Q.size s hs) x
  rw [e, hr]
  unfold ps_fd
  rw [ps_nf_cong (f := fun k => I (ps_T2 t + 6 * s + 2) k) (g := Q.nm s) (fun k _ hk => h.Q.nm s hs k (by omega))]
theorem ps_fd_lt {s : Nat} {x : Int32} {q : Nat} (h : ps_fd Q s x = some q) : q < Q.size s := by
  have := ps_nf_some h
  omega
theorem ps_fd_none (hl : ps_Ql Q) {s : Nat} (hs : s < 2) (x : Int32) : ps_e1 (ps_fd Q s x) = -1 ↔ ps_fd Q s x = none := ps_e1_none (fun q e => by have := ps_fd_lt e; have := hl s hs; omega)
theorem ps_OK.add (h : ps_OK I0 (ps_T2 t) b n Q p I) {s : Nat} (hs : s < 2) (hz : Q.size s < 12) (x : Int32) (y z u : Nat) : ∃ J, ps_OK I0 (ps_T2 t) b n (Q.add s x y z u) p J ∧ fX7_add (ps_T2 t + 6 * s + 1) x (nI y) (nI z) (nI u) (I, L, px_R t v w) = some (J, L, px_R t v w) := by
  have hT := ps_T2_le t
  have h5 := h.Q.size s hs
  unfold fX7_add
  rw [show (I, L, px_R t v w).1 (ps_T2 t + 6 * s + 1) 5 = nI (Q.size s) from h5, if_neg (show ¬ (12 : Int32) ≤ nI (Q.size s) from nI_ge (b := 12) (by omega) (by omega)), pg_pos (pi_in (by omega) (by omega)), pl_let, pi_ix (n := Q.size s) (by omega)]
  obtain ⟨m, hm⟩ : ∃ m, m = Q.size s := ⟨_, rfl⟩
  rw [← hm] at h5 hz ⊢
  show ∃ J, _ ∧ fx_g (fx_in (hp_u I (px_R t v w (ps_T2 t + 6 * s + 1) 0) m x (ps_T2 t + 6 * s + 1) 5) 12) (fx_let (hp_u (hp_u I (px_R t v w (ps_T2 t + 6 * s + 1) 0) m x) (px_R t v w (ps_T2 t + 6 * s + 1) 1) (fx_ix (hp_u I (px_R t v w (ps_T2 t + 6 * s + 1) 0) m x (ps_T2 t + 6 * s + 1) 5)) (nI y), L, px_R t v w) _) = _
  rw [pr_q2 hs (by omega), pr_q2 hs (by omega), pu_cell (x := ps_T2 t + 6 * s + 1) (by omega), h5, pg_pos (pi_in (by omega) (by omega)), pl_let, pi_ix (n := m) (by omega)]
  show ∃ J, _ ∧ fx_g (fx_in (hp_u (hp_u I (ps_T2 t + 6 * s + (0 + 2)) m x) (ps_T2 t + 6 * s + (1 + 2)) m (nI y) (ps_T2 t + 6 * s + 1) 5) 12) (fx_let (hp_u (hp_u (hp_u I (ps_T2 t + 6 * s + (0 + 2)) m x) (ps_T2 t + 6 * s + (1 + 2)) m (nI y)) (px_R t v w (ps_T2 t + 6 * s + 1) 2) (fx_ix (hp_u (hp_u I (ps_T2 t + 6 * s + (0 + 2)) m x) (ps_T2 t + 6 * s + (1 + 2)) m (nI y) (ps_T2 t + 6 * s + 1) 5)) (nI z), L, px_R t v w) _) = _
  rw [pr_q2 hs (by omega), pu_cell (x := ps_T2 t + 6 * s + 1) (by omega), pu_cell (x := ps_T2 t + 6 * s + 1) (by omega), h5, pg_pos (pi_in (by omega) (by omega)), pl_let, pi_ix (n := m) (by omega)]
  show ∃ J, _ ∧ fx_g (fx_in (hp_u (hp_u (hp_u I (ps_T2 t + 6 * s + (0 + 2)) m x) (ps_T2 t + 6 * s + (1 + 2)) m (nI y)) (ps_T2 t + 6 * s + (2 + 2)) m (nI z) (ps_T2 t + 6 * s + 1) 5) 12) (fx_let (hp_u (hp_u (hp_u (hp_u I (ps_T2 t + 6 * s + (0 + 2)) m x) (ps_T2 t + 6 * s + (1 + 2)) m (nI y)) (ps_T2 t + 6 * s + (2 + 2)) m (nI z)) (px_R t v w (ps_T2 t + 6 * s + 1) 3) (fx_ix (hp_u (hp_u (hp_u I (ps_T2 t + 6 * s + (0 + 2)) m x) (ps_T2 t + 6 * s + (1 + 2)) m (nI y)) (ps_T2 t + 6 * s + (2 + 2)) m (nI z) (ps_T2 t + 6 * s + 1) 5)) (nI u), L, px_R t v w) _) = _
  rw [pr_q2 hs (by omega), pu_cell (x := ps_T2 t + 6 * s + 1) (by omega), pu_cell (x := ps_T2 t + 6 * s + 1) (by omega), pu_cell (x := ps_T2 t + 6 * s + 1) (by omega), h5, pg_pos (pi_in (by omega) (by omega)), pl_let, pl_let, pi_ix (n := m) (by omega)]
  show ∃ J, _ ∧ some (hp_u (hp_u (hp_u (hp_u (hp_u I (ps_T2 t + 6 * s + (0 + 2)) m x) (ps_T2 t + 6 * s + (1 + 2)) m (nI y)) (ps_T2 t + 6 * s + (2 + 2)) m (nI z)) (ps_T2 t + 6 * s + (3 + 2)) m (nI u)) (ps_T2 t + 6 * s + 1) 5 (hp_u (hp_u (hp_u (hp_u I (ps_T2 t + 6 * s + (0 + 2)) m x) (ps_T2 t + 6 * s + (1 + 2)) m (nI y)) (ps_T2 t + 6 * s + (2 + 2)) m (nI z)) (ps_T2 t + 6 * s + (3 + 2)) m (nI u) (ps_T2 t + 6 * s + 1) 5 + 1), L, px_R t v w) = _
  rw [pu_cell (x := ps_T2 t + 6 * s + 1) (by omega), pu_cell (x := ps_T2 t + 6 * s + 1) (by omega), pu_cell (x := ps_T2 t + 6 * s + 1) (by omega), pu_cell (x := ps_T2 t + 6 * s + 1) (by omega), h5, nI_1]
  refine ⟨_, ?_, rfl⟩
  have cell : ∀ a, (a < ps_T2 t ∨ ps_T2 t + 12 < a ∨ a = ps_T2 t ∨ a = ps_T2 t + 6 * s + 6 ∨ a < ps_T2 t + 6 * s + 1 ∨ ps_T2 t + 6 * s + 6 < a) → hp_u (hp_u (hp_u (hp_u (hp_u I (ps_T2 t + 6 * s + (0 + 2)) m x) (ps_T2 t + 6 * s + (1 + 2)) m (nI y)) (ps_T2 t + 6 * s + (2 + 2)) m (nI z)) (ps_T2 t + 6 * s + (3 + 2)) m (nI u)) (ps_T2 t + 6 * s + 1) 5 (nI (m + 1)) a = I a := fun a ha => by rw [pu_cell (by omega), pu_cell (by omega), pu_cell (by omega), pu_cell (by omega), pu_cell (by omega)]
  have fld : ∀ k, k ≠ 5 → hp_u (hp_u (hp_u (hp_u (hp_u I (ps_T2 t + 6 * s + (0 + 2)) m x) (ps_T2 t + 6 * s + (1 + 2)) m (nI y)) (ps_T2 t + 6 * s + (2 + 2)) m (nI z)) (ps_T2 t + 6 * s + (3 + 2)) m (nI u)) (ps_T2 t + 6 * s + 1) 5 (nI (m + 1)) (ps_T2 t + 6 * s + 1) k = I (ps_T2 t + 6 * s + 1) k := fun k hk => by rw [pu_place hk, pu_cell (by omega), pu_cell (by omega), pu_cell (by omega), pu_cell (by omega)]
  have v5 : hp_u (hp_u (hp_u (hp_u (hp_u I (ps_T2 t + 6 * s + (0 + 2)) m x) (ps_T2 t + 6 * s + (1 + 2)) m (nI y)) (ps_T2 t + 6 * s + (2 + 2)) m (nI z)) (ps_T2 t + 6 * s + (3 + 2)) m (nI u)) (ps_T2 t + 6 * s + 1) 5 (nI (m + 1)) (ps_T2 t + 6 * s + 1) 5 = nI (m + 1) := pu_eq
  have vm : ∀ i, i < 4 → hp_u (hp_u (hp_u (hp_u (hp_u I (ps_T2 t + 6 * s + (0 + 2)) m x) (ps_T2 t + 6 * s + (1 + 2)) m (nI y)) (ps_T2 t + 6 * s + (2 + 2)) m (nI z)) (ps_T2 t + 6 * s + (3 + 2)) m (nI u)) (ps_T2 t + 6 * s + 1) 5 (nI (m + 1)) (ps_T2 t + 6 * s + (i + 2)) m = if i = 0 then x else if i = 1 then nI y else if i = 2 then nI z else nI u := fun i hi => by
    rw [pu_cell (by omega)]
    rcases (show i = 0 ∨ i = 1 ∨ i = 2 ∨ i = 3 by omega) with rfl | rfl | rfl | rfl
    · rw [pu_cell (by omega), pu_cell (by omega), pu_cell (by omega), pu_eq]; rfl
    · rw [pu_cell (by omega), pu_cell (by omega), pu_eq]; rfl
    · rw [pu_cell (by omega), pu_eq]; rfl
    · rw [pu_eq]; rfl
  have vo : ∀ i k, i < 4 → k ≠ m → hp_u (hp_u (hp_u (hp_u (hp_u I (ps_T2 t + 6 * s + (0 + 2)) m x) (ps_T2 t + 6 * s + (1 + 2)) m (nI y)) (ps_T2 t + 6 * s + (2 + 2)) m (nI z)) (ps_T2 t + 6 * s + (3 + 2)) m (nI u)) (ps_T2 t + 6 * s + 1) 5 (nI (m + 1)) (ps_T2 t + 6 * s + (i + 2)) k = I (ps_T2 t + 6 * s + (i + 2)) k := fun i k hi hk => by rw [pu_cell (by omega), pu_place hk, pu_place hk, pu_place hk, pu_place hk]
  generalize hp_u (hp_u (hp_u (hp_u (hp_u I (ps_T2 t + 6 * s + (0 + 2)) m x) (ps_T2 t + 6 * s + (1 + 2)) m (nI y)) (ps_T2 t + 6 * s + (2 + 2)) m (nI z)) (ps_T2 t + 6 * s + (3 + 2)) m (nI u)) (ps_T2 t + 6 * s + 1) 5 (nI (m + 1)) = H at cell fld v5 vm vo ⊢
  obtain ⟨r1, r2, r3, r4⟩ := h.rd
  have e1 : H 1 = I 1 := cell 1 (by omega)
  refine ⟨⟨r1, by rw [e1]; exact r2, fun k hk => by rw [cell 2 (by omega)]; exact r3 k hk, r4⟩, h.p, by rw [e1]; exact h.q, by rw [e1]; exact h.pl, by rw [e1]; exact h.k, by rw [e1]; exact h.c, by rw [e1]; exact h.fk, by rw [e1]; exact h.fp, by rw [e1]; exact h.tz, ⟨by rw [cell _ (by omega)]; exact h.Q.pts, by rw [cell _ (by omega)]; exact h.Q.sbs, by rw [cell _ (by omega)]; exact h.Q.edg, by rw [cell _ (by omega)]; exact h.Q.fst, by rw [cell _ (by omega)]; exact h.Q.lns, fun s' hs' => ?_, fun s' hs' => ?_, fun s' hs' => ?_, fun s' hs' k hk => ?_, fun s' hs' i hi k hk => ?_, fun s' hs' q k hk => ?_⟩, fun a q1 q2 => by rw [cell a (by omega)]; exact h.fr a q1 q2⟩
  · show _ = nI (if s' = s then Q.size s' + 1 else Q.size s')
    by_cases c : s' = s
    · rw [if_pos c, c, v5, hm]
    · rw [if_neg c, cell _ (by omega)]; exact h.Q.size s' hs'
  · by_cases c : s' = s
    · rw [c, fld 6 (by decide)]; exact h.Q.plc s hs
    · rw [cell _ (by omega)]; exact h.Q.plc s' hs'
  · by_cases c : s' = s
    · rw [c, fld 7 (by decide)]; exact h.Q.free s hs
    · rw [cell _ (by omega)]; exact h.Q.free s' hs'
  · show _ = (if s' = s ∧ k = Q.size s then x else Q.nm s' k)
    have hk : k < (if s' = s then Q.size s' + 1 else Q.size s') := hk
    by_cases c : s' = s
    · subst c
      rw [if_pos rfl] at hk
      by_cases d : k = Q.size s'
      · rw [if_pos ⟨rfl, d⟩, d, ← hm]
        exact vm 0 (by omega)
      · rw [if_neg (fun q => d q.2)]
        rw [vo 0 k (by omega) (by omega)]; exact h.Q.nm s' hs' k (by omega)
    · rw [if_neg c] at hk
      rw [if_neg (fun q => c q.1), cell _ (by omega)]; exact h.Q.nm s' hs' k hk
  · show _ = nI (if s' = s ∧ k = Q.size s then (if i = 0 then y else if i = 1 then z else u) else Q.sk s' k i)
    have hk : k < (if s' = s then Q.size s' + 1 else Q.size s') := hk
    by_cases c : s' = s
    · subst c
      rw [if_pos rfl] at hk
      by_cases d : k = Q.size s'
      · rw [if_pos ⟨rfl, d⟩, d, ← hm]
        rcases (show i = 0 ∨ i = 1 ∨ i = 2 by omega) with rfl | rfl | rfl
        · exact vm 1 (by omega)
        · exact vm 2 (by omega)
        · exact vm 3 (by omega)
      · rw [if_neg (fun q => d q.2)]
        have e := vo (i + 1) k (by omega) (by omega)
        rw [show ps_T2 t + 6 * s' + (i + 1 + 2) = ps_T2 t + 6 * s' + 3 + i by omega] at e
        rw [e]; exact h.Q.sk s' hs' i hi k (by omega)
    · rw [if_neg c] at hk
      rw [if_neg (fun q => c q.1), cell _ (by omega)]; exact h.Q.sk s' hs' i hi k hk
  · by_cases c : s' = s
    · rw [c, cell _ (by omega)]; exact h.Q.st s hs (by rw [← c]; exact q) k hk
    · rw [cell _ (by omega)]; exact h.Q.st s' hs' q k hk
theorem cx_lplayer (h : ps_OK I0 (ps_T2 t) b n Q p I) (hl : ps_Ql Q) {s : Nat} (hs : s < 2) : ∃ J, ps_CO I0 t b n (ps_Lplayer b n Q s p) J ∧ fX5_readPlayer 1 (ps_T2 t) (ps_T2 t + 6 * s + 1) (I, L, px_R t v w) = some (J, L, px_R t v w) := by
  have hT := ps_T2_le t
  have hz := hl s hs
  unfold fX5_readPlayer ps_Lplayer
  rw [show (I, L, px_R t v w).1 (ps_T2 t + 6 * s + 1) 5 = nI (Q.size s) from h.Q.size s hs]
  by_cases c0 : 12 ≤ Q.size s
  · rw [if_pos c0, if_neg (show ¬ nI (Q.size s) < 12 from nI_nlt (b := 12) c0 (by omega)), show (2 : Int32) = nI 2 from rfl]
    obtain ⟨J, j1, j2⟩ := h.fail (L := L) (v := v) (w := w) hl 2
    obtain ⟨H, k1, k2⟩ := j1.player14 (L := L) (v := v) (w := w) (by omega) (by omega) hs
    rw [j2, pb_1, k2]
    exact ⟨H, ⟨k1, by show 0 < 2; omega, by show 2 < 5; omega⟩, rfl⟩
  · rw [if_neg c0, if_pos (show nI (Q.size s) < 12 from nI_lt (b := 12) (by omega) (by omega))]
    unfold fX5_readPlayer_14 fX5_readPlayer_63
    obtain ⟨J, j1, j2⟩ := h.adv (L := L) (v := v) (w := w)
    have htk := ps_tk_lt (b := b) (n := n) (p := ps_nx b n p)
    rw [j2, pb_1, pl_let, show (J, L, px_R t v w).1 1 7 = nI (ps_tk b n (ps_nx b n p)) from j1.k]
    by_cases c1 : ps_tk b n (ps_nx b n p) = 1
    · rw [if_neg (show ¬ ps_tk b n (ps_nx b n p) ≠ 1 from fun q => q c1), if_pos (show nI (ps_tk b n (ps_nx b n p)) = 1 by rw [c1]; rfl), show (J, L, px_R t v w).1 1 8 = nI (ps_tw b n (ps_nx b n p)) from j1.c.trans (by rw [(ps_tcd_w (Or.inl c1)).1])]
      generalize nI (ps_tw b n (ps_nx b n p)) = x
      rw [show (J, L, px_R t v w).2.2 (ps_T2 t) 0 = ps_T2 t + 6 * 0 + 1 from pr_T2_0, j1.find hl (s := 0) (by omega), pb_2, show (J, L, px_R t v w).2.2 (ps_T2 t) 1 = ps_T2 t + 6 * 1 + 1 from pr_T2_1, j1.find hl (s := 1) (by omega), pb_2]
      have bad : (ps_fd Q 0 x ≠ none ∨ ps_fd Q 1 x ≠ none) → ∃ J', ps_CO I0 t b n (.error (3, ps_nx b n p)) J' ∧ (fx_b1 (fX5_fail 1 3 (J, L, px_R t v w)) fun h65 => fX5_readPlayer_68 1 (ps_T2 t + 6 * s + 1) x h65) = some (J', L, px_R t v w) := fun _ => by
        obtain ⟨H, k1, k2⟩ := j1.fail (L := L) (v := v) (w := w) hl 3
        obtain ⟨G, g1, g2⟩ := k1.player68 (L := L) (v := v) (w := w) (by omega) (by omega) hs x
        rw [show (3 : Int32) = nI 3 from rfl, k2, pb_1, g2]
        exact ⟨G, ⟨g1, by show 0 < 3; omega, by show 3 < 5; omega⟩, rfl⟩
      by_cases f0 : ps_fd Q 0 x = none
      · rw [if_pos ((ps_fd_none hl (by omega) x).mpr f0)]
        by_cases f1 : ps_fd Q 1 x = none
        · rw [if_pos ((ps_fd_none hl (by omega) x).mpr f1), if_neg (show ¬ (ps_fd Q 0 x ≠ none ∨ ps_fd Q 1 x ≠ none) from fun q => q.elim (fun z => z f0) (fun z => z f1))]
          unfold fX5_readPlayer_68
          obtain ⟨J2, a1, a2⟩ := j1.adv (L := L) (v := v) (w := w)
          rw [a2, pb_1, show (0 : Int32) = nI 0 from rfl, show (99 : Int32) = nI 99 from rfl]
          rcases a1.num (L := L) (v := v) (w := w) hl (lo := 0) (hi := 99) (by omega) (by omega) with ⟨y, e1, e2, -, e4⟩ | ⟨k, H, q1, q2, e1, e2, r, e3⟩
          · rw [e1, e4, pb_2]
            obtain ⟨J3, b1, b2⟩ := a1.adv (L := L) (v := v) (w := w)
            rw [b2, pb_1]
            rcases b1.num (L := L) (v := v) (w := w) hl (lo := 0) (hi := 99) (by omega) (by omega) with ⟨y2, e1', e2', -, e4'⟩ | ⟨k, H, q1, q2, e1', e2', r, e3'⟩
            · rw [e1', e4', pb_2]
              obtain ⟨J4, c1', c2'⟩ := b1.adv (L := L) (v := v) (w := w)
              rw [c2', pb_1]
              rcases c1'.num (L := L) (v := v) (w := w) hl (lo := 0) (hi := 99) (by omega) (by omega) with ⟨y3, g1, g2, -, g4⟩ | ⟨k, H, q1, q2, g1, g2, r, g3⟩
              · rw [g1, g4, pb_2]
                obtain ⟨J5, m1, m2⟩ := c1'.add (L := L) (v := v) (w := w) hs (by omega) x y y2 y3
                rw [m2, pb_1]
                refine ⟨J5, ⟨m1, fun s' hs' => ?_⟩, rfl⟩
                show (if s' = s then Q.size s' + 1 else Q.size s') ≤ 12
                by_cases d : s' = s
                · rw [if_pos d, d]; omega
                · rw [if_neg d]; exact hl s' hs'
              · rw [g1, g3, pb_2]
                obtain ⟨G, m1, m2⟩ := g2.add (L := L) (v := v) (w := w) hs x (nI y) (nI y2) r
                rw [m2, pb_1]
                exact ⟨G, ⟨m1, q1, q2⟩, rfl⟩
            · rw [e1', e3', pb_2]
              obtain ⟨G1, m1, m2⟩ := e2'.adv (L := L) (t := t) (v := v) (w := w) hT
              obtain ⟨G, m3, m4⟩ := m1.add (L := L) (v := v) (w := w) hs x (nI y) r (G1 1 8)
              rw [m2, pb_1, m1.num (by omega) q2, pb_2, m4, pb_1]
              exact ⟨G, ⟨m3, q1, q2⟩, rfl⟩
          · rw [e1, e3, pb_2]
            obtain ⟨G1, m1, m2⟩ := e2.adv (L := L) (t := t) (v := v) (w := w) hT
            obtain ⟨G2, n1, n2⟩ := m1.adv (L := L) (t := t) (v := v) (w := w) hT
            obtain ⟨G, m3, m4⟩ := n1.add (L := L) (v := v) (w := w) hs x r (G1 1 8) (G2 1 8)
            rw [m2, pb_1, m1.num (by omega) q2, pb_2, n2, pb_1, n1.num (by omega) q2, pb_2, m4, pb_1]
            exact ⟨G, ⟨m3, q1, q2⟩, rfl⟩
        · rw [if_neg (fun q => f1 ((ps_fd_none hl (by omega) x).mp q)), if_pos (Or.inr f1)]
          exact bad (Or.inr f1)
      · rw [if_neg (fun q => f0 ((ps_fd_none hl (by omega) x).mp q)), if_pos (Or.inl f0)]
        exact bad (Or.inl f0)
    · rw [if_pos c1, if_neg (show ¬ nI (ps_tk b n (ps_nx b n p)) = 1 from fun q => c1 ((nI_eq (b := 1) (by omega) (by omega)).mp q)), show (1 : Int32) = nI 1 from rfl]
      obtain ⟨H, k1, k2⟩ := j1.fail (L := L) (v := v) (w := w) hl 1
      obtain ⟨G, g1, g2⟩ := k1.player68 (L := L) (v := v) (w := w) (by omega) (by omega) hs (J 1 8)
      rw [k2, pb_1]
      refine ⟨G, ⟨g1, by show 0 < 1; omega, by show 1 < 5; omega⟩, g2⟩
end PSF50
