/-! ===== a move (the class's side) ===== -/
def ps_C.setfs (C : ps_C) (s f : Nat) : ps_C := ps_C.mk C.six C.mate C.x C.y (fun s' => if s' = s then f else C.fs s') (fun s' => if s' = s then 1 else C.mv s') C.lf C.tn C.sc C.sv C.pl
def ps_move (A : ps_A) (s f : Nat) : ps_A := (ps_push A).setC (A.C.setfs s f)
section PSV
variable {t v w : Bool} {A : ps_A} {I J : Nat → Nat → Int32} {L : Nat → Nat → Int64}
theorem cx_move (h0 : ps_wf A) (ho : A.on = true) (hX : ps_RX t A I) {s f : Nat} (hs : s < 2) (hf : f ≤ 6) (hj : sp_mayMove A (nI s) (nI f) = 0) (hfs : f = 0 → A.C.fs s ≠ 0) :
    ∃ J, fX9_move 0 (nI s) (nI f) (I, L, px_R t v w) = some (nI (A.C.six s ((if f = 0 then A.C.fs s else f) - 1)), (J, L, px_R t v w)) ∧ ps_RX t (ps_move A s f) J ∧ (∀ a, (a < 22 ∨ 32 < a) → (a < 66 ∨ 286 ≤ a) → a ≠ 0 → a ≠ 286 → a ≠ 288 → J a = I a) ∧ (∀ k, k ≠ 15 → k ≠ 16 → J 0 k = I 0 k) ∧ J 286 0 = 0 ∧ J 288 0 = 0 := by
  obtain ⟨J1, r1, r2, r3, r4, r5, r6⟩ := cx_remember (L := L) (v := v) (w := w) h0 ho hX
  have hC := r2.C (show (ps_push A).on = true from ho)
  have hfb := (h0.C ho).fs s hs
  unfold fX9_move
  rw [cx_jmove h0 hX, pb_2, hj, if_pos rfl, r1, pb_1, show (J1, L, px_R t v w).2.2 0 3 = 22 from rfl, cx_team hs, pb_2]
  have key : ∀ g, 1 ≤ g → g ≤ 6 → fX9_move_40 (nI f) (22 + 5 * s + 1) (nI g) (J1, L, px_R t v w) = some (nI (A.C.six s (g - 1)), (hp_u (hp_u J1 (22 + 5 * s + 1) 4 (nI f)) (22 + 5 * s + 1) 5 1, L, px_R t v w)) := by
    intro g g1 g2
    unfold fX9_move_40
    simp only [pl_let, hp_sI]
    rw [show nI g - 1 = nI (g - 1) from pk_sub (b := 1) g1, pg_pos (pi_in (by omega) (by omega)), pi_ix (by omega), pr_s hs (by omega), pu_cell (by omega), pu_cell (by omega), hC.six s hs (g - 1) (by omega)]
    rfl
  have q : ∀ c, c ≠ 22 + 5 * s + 1 → hp_u (hp_u J1 (22 + 5 * s + 1) 4 (nI f)) (22 + 5 * s + 1) 5 1 c = J1 c := fun c z => by rw [pu_cell z, pu_cell z]
  have q2 : ∀ c k, k ≠ 4 → k ≠ 5 → hp_u (hp_u J1 (22 + 5 * s + 1) 4 (nI f)) (22 + 5 * s + 1) 5 1 c k = J1 c k := fun c k z1 z2 => by rw [pu_place z2, pu_place z1]
  refine ⟨hp_u (hp_u J1 (22 + 5 * s + 1) 4 (nI f)) (22 + 5 * s + 1) 5 1, ?_, ?_, fun c z1 z2 z3 z4 z5 => by rw [q c (by omega), r3 c z2 z3 z4 z5], fun c z1 z2 => by rw [q 0 (by omega), r4 c z1 z2], by rw [q 286 (by omega), r5], by rw [q 288 (by omega), r6]⟩
  · by_cases c : f = 0
    · rw [if_pos (show nI f = 0 by rw [c]; rfl), if_pos c]
      show fX9_move_40 (nI f) (22 + 5 * s + 1) (J1 (22 + 5 * s + 1) 4) (J1, L, px_R t v w) = _
      rw [hC.fs s hs]
      have := hfs c
      exact key (A.C.fs s) (by omega) (by omega)
    · rw [if_neg (nI_ne0 (by omega) (by omega)), if_neg c]
      exact key f (by omega) hf
  · refine r2.setC (fun c z => q c (by omega)) (fun _ => ?_) rfl
    refine ⟨fun s' hs' k' hk' => ?_, fun s' hs' k' hk' => ?_, fun s' hs' k' hk' => ?_, fun s' hs' k' hk' => ?_, fun s' hs' => ?_, fun s' hs' => ?_, fun s' hs' => ?_, fun s' hs' => ?_, fun s' hs' => ?_, ?_, ?_⟩
    · rw [q _ (by omega)]; exact hC.six s' hs' k' hk'
    · rw [q _ (by omega)]; exact hC.mate s' hs' k' hk'
    · rw [q _ (by omega)]; exact hC.x s' hs' k' hk'
    · rw [q _ (by omega)]; exact hC.y s' hs' k' hk'
    · show _ = nI (if s' = s then f else A.C.fs s')
      by_cases c : s' = s
      · rw [if_pos c, c, pu_place (by decide), pu_eq]
      · rw [if_neg c, q _ (by omega)]; exact hC.fs s' hs'
    · show _ = nI (if s' = s then 1 else A.C.mv s')
      by_cases c : s' = s
      · rw [if_pos c, c, pu_eq]; rfl
      · rw [if_neg c, q _ (by omega)]; exact hC.mv s' hs'
    · rw [q2 _ _ (by decide) (by decide)]; exact hC.lf s' hs'
    · rw [q2 _ _ (by decide) (by decide)]; exact hC.tn s' hs'
    · rw [q2 _ _ (by decide) (by decide)]; exact hC.sc s' hs'
    · rw [q2 _ _ (by decide) (by decide)]; exact hC.sv
    · rw [q2 _ _ (by decide) (by decide)]; exact hC.pl
theorem ps_wf_move (h0 : ps_wf A) (ho : A.on = true) {s f : Nat} (hs : s < 2) (hf : f = 0 ∨ f = 1 ∨ f = 5 ∨ f = 6) (hfree : A.W.free s ≠ none) : ps_wf (ps_move A s f) := by
  refine (ps_wf_push h0 ho).setC (fun _ => ?_) rfl
  have w0 := h0.C ho
  refine ⟨w0.six, w0.sixf, w0.inj, fun s' hs' => ?_, fun s' hs' => ?_, w0.lf, w0.tn, w0.sc, w0.sc2, w0.sv, w0.pl, w0.x, w0.y, w0.mate, w0.role, w0.role2, w0.nomate⟩
  · show (if s' = s then f else A.C.fs s') = 0 ∨ ((if s' = s then f else A.C.fs s') = 1 ∨ (if s' = s then f else A.C.fs s') = 5 ∨ (if s' = s then f else A.C.fs s') = 6) ∧ A.W.free s' ≠ none
    by_cases c : s' = s
    · rw [if_pos c, c]
      rcases hf with h | h
      · exact Or.inl h
      · exact Or.inr ⟨h, hfree⟩
    · rw [if_neg c]; exact w0.fs s' hs'
  · show (if s' = s then 1 else A.C.mv s') ≤ 1
    split
    · omega
    · exact w0.mv s' hs'
end PSV
