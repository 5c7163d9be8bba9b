/-! ===== another court; stand ===== -/
section PST
variable {t v w : Bool} {A : ps_A} {I J : Nat → Nat → Int32} {L : Nat → Nat → Int64}
theorem ps_RX.setC {C : ps_C} (h : ps_RX t A I) (e : ∀ a, (a < 22 ∨ 32 < a) → J a = I a) (hC : A.on = true → ps_RC J 22 C) (hp : C.pl = A.C.pl) : ps_RX t (A.setC C) J := by
  have hT := ps_T_le t
  refine ⟨?_, ?_, ?_, ?_, ?_, fun q => ?_, hC, fun q k hk => ?_, fun q k hk => ?_, fun q k hk => ?_, ?_, fun q => ?_⟩
  · rw [e _ (by omega)]; exact h.tz
  · intro k hk; rw [e _ (by omega)]; exact h.tb k hk
  · rw [e _ (by omega)]; exact h.fk
  · rw [e _ (by omega)]; exact h.fp
  · rw [e _ (by omega)]; exact h.on
  · exact (h.W q).near (fun a z1 z2 => e a (by omega))
  · rw [e _ (by omega)]; exact h.had q k (by rw [← hp]; exact hk)
  · rw [e _ (by omega)]; exact h.svd q k (by rw [← hp]; exact hk)
  · rw [e _ (by omega)]; exact h.svr q k (by rw [← hp]; exact hk)
  · rw [e _ (by omega)]; exact h.u
  · obtain ⟨np, h1, h2, h3⟩ := h.P q
    refine ⟨np, h1, by rw [e _ (by omega)]; exact h2, fun i hi => (h3 i hi).near (fun a z1 z2 => e a (by omega))⟩
theorem ps_MX.setC {C : ps_C} (h : ps_MX A I) (e : ∀ a, 290 ≤ a → a ≠ 298 → J a = I a) (hC : A.on = true → ps_MR A C (J 298)) (hp : C.pl = A.C.pl) : ps_MX (A.setC C) J := by
  refine ⟨?_, ?_, ?_, ?_, ?_, ?_, fun q => ?_, fun q => ?_, fun q i hi => ?_, fun q k hk => ?_, fun q k hk => ?_, fun q k hk => ?_⟩
  · rw [e _ (by omega) (by omega)]; exact h.tz
  · intro k hk; rw [e _ (by omega) (by omega)]; exact h.tb k hk
  · rw [e _ (by omega) (by omega)]; exact h.fk
  · rw [e _ (by omega) (by omega)]; exact h.fp
  · rw [e _ (by omega) (by omega)]; exact h.on
  · rw [e _ (by omega) (by omega)]; exact h.u
  · have h9 := h.W q
    show ps_MW J A.W
    unfold ps_MW at h9 ⊢
    rw [e 292 (by omega) (by omega), e 295 (by omega) (by omega)]
    exact h9
  · exact ps_MR.of (A := A) (B := A.setC C) rfl rfl rfl rfl (hC q)
  · refine ps_MR.of (A := A) (B := A.setC C) rfl rfl rfl rfl ?_
    rw [e 299 (by omega) (by omega)]
    exact h.P q i hi
  · rw [e _ (by omega) (by omega)]; exact h.had q k (by rw [← hp]; exact hk)
  · rw [e _ (by omega) (by omega)]; exact h.svd q k (by rw [← hp]; exact hk)
  · rw [e _ (by omega) (by omega)]; exact h.svr q k (by rw [← hp]; exact hk)
theorem ps_wf.setC {C : ps_C} (h : ps_wf A) (hC : A.on = true → ps_wfC A.W C) (hp : C.pl = A.C.pl) : ps_wf (A.setC C) := by
  refine ⟨h.tz, h.tb, h.fk, h.u, h.off, h.W, hC, fun q i hi => ⟨(h.P q i hi).1, ?_⟩, h.mono, fun q k hk => h.had q k ?_, fun q k hk => h.svd q k ?_, fun q k hk => h.svr q k ?_⟩
  · show (A.P i).pl ≤ C.pl
    rw [hp]; exact (h.P q i hi).2
  · rw [← hp]; exact hk
  · rw [← hp]; exact hk
  · rw [← hp]; exact hk
def ps_C.setxy (C : ps_C) (s k a b : Nat) : ps_C := ps_C.mk C.six C.mate (fun s' k' => if s' = s ∧ k' = k then a else C.x s' k') (fun s' k' => if s' = s ∧ k' = k then b else C.y s' k') C.fs C.mv C.lf C.tn C.sc C.sv C.pl
def ps_stand (A : ps_A) (s k a b : Nat) : ps_A := (ps_push A).setC (A.C.setxy s k a b)
def ps_place (a : Int32) : Bool := decide (0 ≤ a) && decide (a ≤ 90)
theorem ps_place_of {a : Int32} (h : ps_place a = true) : ∃ j, j ≤ 90 ∧ a = nI j := by
  simp only [ps_place, Bool.and_eq_true, decide_eq_true_eq] at h
  exact nI_of2 (n := 90) (M := 90) rfl (Int32.not_lt.mpr h.1) h.2
theorem cx_place (a : Int32) (h : hp_T) : fX9_isPlace a h = some (if ps_place a then 1 else 0, h) := by
  unfold fX9_isPlace ps_place
  by_cases c1 : a < 0
  · rw [if_pos c1]; simp [Int32.not_le.mpr c1]
  · rw [if_neg c1]
    by_cases c2 : 90 < a
    · rw [if_pos c2]; simp [Int32.not_le.mpr c2]
    · rw [if_neg c2]; simp [Int32.not_lt.mp c1, Int32.not_lt.mp c2]
theorem cx_stand (h0 : ps_wf A) (ho : A.on = true) (hX : ps_RX t A I) {s k a b : Nat} (hs : s < 2) (hk : k < 6) (ha : a ≤ 90) (hb : b ≤ 90) :
    ∃ J, fX9_stand 0 (nI s) (nI (k + 1)) (nI a) (nI b) (I, L, px_R t v w) = some (1, (J, L, px_R t v w)) ∧ ps_RX t (ps_stand A s k a b) J ∧ (∀ a, (a < 22 ∨ 32 < a) → (a < 66 ∨ 286 ≤ a) → a ≠ 0 → a ≠ 286 → a ≠ 288 → J a = I a) ∧ (∀ k, k ≠ 15 → k ≠ 16 → J 0 k = I 0 k) ∧ J 286 0 = 0 ∧ J 288 0 = 0 := by
  have e1 : ps_sd A (nI s) = true := by
    unfold ps_sd
    rw [ho]
    rcases (show s = 0 ∨ s = 1 by omega) with rfl | rfl <;> decide
  have e2 : ps_sp (nI (k + 1)) = true := by
    rcases (show k = 0 ∨ k = 1 ∨ k = 2 ∨ k = 3 ∨ k = 4 ∨ k = 5 by omega) with rfl | rfl | rfl | rfl | rfl | rfl <;> decide
  have e3 : ∀ z, z ≤ 90 → ps_place (nI z) = true := fun z hz => by
    unfold ps_place
    rw [decide_eq_true (nI_pos' (by omega)), decide_eq_true (show nI z ≤ (90 : Int32) from nI_le (b := 90) hz (by omega))]
    rfl
  obtain ⟨J1, r1, r2, r3, r4, r5, r6⟩ := cx_remember (L := L) (v := v) (w := w) h0 ho hX
  unfold fX9_stand
  rw [cx_side hX, pb_2, e1, if_pos rfl, if_neg (by decide), cx_spot, pb_2, e2, if_pos rfl, if_neg (by decide), cx_place, pb_2, e3 a ha, if_pos rfl, if_neg (by decide), cx_place, pb_2, e3 b hb, if_pos rfl, if_neg (by decide), r1, pb_1]
  rw [show (J1, L, px_R t v w).2.2 0 3 = 22 from rfl, cx_team hs, pb_2, nI_pred, pg_pos (pi_in hk (by omega)), pi_ix (by omega), pl_let, pg_pos (pi_in hk (by omega)), pl_let]
  show ∃ J, some ((1 : Int32), (hp_u (hp_u J1 (px_R t v w (22 + 5 * s + 1) 2) k (nI a)) (px_R t v w (22 + 5 * s + 1) 3) k (nI b), L, px_R t v w)) = _ ∧ _
  rw [pr_s hs (by omega), pr_s hs (by omega)]
  have q : ∀ c, c ≠ 22 + 5 * s + (2 + 2) → c ≠ 22 + 5 * s + (3 + 2) → hp_u (hp_u J1 (22 + 5 * s + (2 + 2)) k (nI a)) (22 + 5 * s + (3 + 2)) k (nI b) c = J1 c := fun c z1 z2 => by rw [pu_cell z2, pu_cell z1]
  have hC := r2.C (show (ps_push A).on = true from ho)
  refine ⟨_, rfl, ?_, fun c z1 z2 z3 z4 z5 => by rw [q c (by omega) (by omega), r3 c z2 z3 z4 z5], fun c z1 z2 => by rw [q 0 (by omega) (by omega), r4 c z1 z2], by rw [q 286 (by omega) (by omega), r5], by rw [q 288 (by omega) (by omega), r6]⟩
  refine r2.setC (fun c z => q c (by omega) (by omega)) (fun _ => ?_) rfl
  refine ⟨fun s' hs' k' hk' => ?_, fun s' hs' k' hk' => ?_, fun s' hs' k' hk' => ?_, fun s' hs' k' hk' => ?_, fun s' hs' => ?_, fun s' hs' => ?_, fun s' hs' => ?_, fun s' hs' => ?_, fun s' hs' => ?_, ?_, ?_⟩
  · rw [q _ (by omega) (by omega)]; exact hC.six s' hs' k' hk'
  · rw [q _ (by omega) (by omega)]; exact hC.mate s' hs' k' hk'
  · show _ = nI (if s' = s ∧ k' = k then a else A.C.x s' k')
    rw [pu_cell (by omega)]
    by_cases c : s' = s ∧ k' = k
    · rw [if_pos c, c.1, c.2]; exact pu_eq
    · rw [if_neg c, pu_ne (by omega)]; exact hC.x s' hs' k' hk'
  · show _ = nI (if s' = s ∧ k' = k then b else A.C.y s' k')
    by_cases c : s' = s ∧ k' = k
    · rw [if_pos c, c.1, c.2]; exact pu_eq
    · rw [if_neg c, pu_ne (by omega), pu_cell (by omega)]; exact hC.y s' hs' k' hk'
  · rw [q _ (by omega) (by omega)]; exact hC.fs s' hs'
  · rw [q _ (by omega) (by omega)]; exact hC.mv s' hs'
  · rw [q _ (by omega) (by omega)]; exact hC.lf s' hs'
  · rw [q _ (by omega) (by omega)]; exact hC.tn s' hs'
  · rw [q _ (by omega) (by omega)]; exact hC.sc s' hs'
  · rw [q _ (by omega) (by omega)]; exact hC.sv
  · rw [q _ (by omega) (by omega)]; exact hC.pl
end PST
