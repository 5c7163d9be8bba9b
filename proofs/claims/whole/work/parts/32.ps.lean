/-! ===== the two halves of the heap ===== -/
theorem ps_RC.cong {I J : Nat → Nat → Int32} {c : Nat} {C : ps_C} (hc : c ≤ 275) (e : ∀ a, a < 290 → J a = I a) (h : ps_RC I c C) : ps_RC J c C := by
  unfold ps_RC at h ⊢
  obtain ⟨h1, h2, h3, h4, h5, h6, h7, h8, h9, h10, h11⟩ := h
  refine ⟨?_, ?_, ?_, ?_, ?_, ?_, ?_, ?_, ?_, ?_, ?_⟩
  · intro s hs k hk; rw [e _ (by omega)]; exact h1 s hs k hk
  · intro s hs k hk; rw [e _ (by omega)]; exact h2 s hs k hk
  · intro s hs k hk; rw [e _ (by omega)]; exact h3 s hs k hk
  · intro s hs k hk; rw [e _ (by omega)]; exact h4 s hs k hk
  · intro s hs; rw [e _ (by omega)]; exact h5 s hs
  · intro s hs; rw [e _ (by omega)]; exact h6 s hs
  · intro s hs; rw [e _ (by omega)]; exact h7 s hs
  · intro s hs; rw [e _ (by omega)]; exact h8 s hs
  · intro s hs; rw [e _ (by omega)]; exact h9 s hs
  · rw [e _ (by omega)]; exact h10
  · rw [e _ (by omega)]; exact h11
theorem ps_T_le (t : Bool) : ps_T t = 40 ∨ ps_T t = 53 := by cases t <;> simp [ps_T]
theorem ps_RW.cong {I J : Nat → Nat → Int32} {t : Bool} {W : ps_W} (e : ∀ a, a < 290 → J a = I a) (h : ps_RW I (ps_T t) W) : ps_RW J (ps_T t) W := by
  have hT := ps_T_le t
  unfold ps_RW at h ⊢
  obtain ⟨h1, h2, h3, h4, h5, h6, h7, h8, h9, h10, h11⟩ := h
  refine ⟨?_, ?_, ?_, ?_, ?_, ?_, ?_, ?_, ?_, ?_, ?_⟩
  · rw [e _ (by omega)]; exact h1
  · rw [e _ (by omega)]; exact h2
  · rw [e _ (by omega)]; exact h3
  · rw [e _ (by omega)]; exact h4
  · rw [e _ (by omega)]; exact h5
  · intro s hs; rw [e _ (by omega)]; exact h6 s hs
  · intro s hs; rw [e _ (by omega)]; exact h7 s hs
  · intro s hs; rw [e _ (by omega)]; exact h8 s hs
  · intro s hs p hp; rw [e _ (by omega)]; exact h9 s hs p hp
  · intro s hs w hw p hp; rw [e _ (by omega)]; exact h10 s hs w hw p hp
  · intro s hs k hk; rw [e _ (by omega)]; exact h11 s hs k hk
theorem ps_RX.cong {t : Bool} {A : ps_A} {I J : Nat → Nat → Int32} (e : ∀ a, a < 290 → J a = I a) (h : ps_RX t A I) : ps_RX t A J := by
  refine ⟨?_, ?_, ?_, ?_, ?_, fun q => (h.W q).cong e, fun q => (h.C q).cong (by omega) e, ?_, ?_, ?_, ?_, fun q => ?_⟩
  · rw [e _ (by omega)]; exact h.tz
  · intro k hk; rw [e _ (by omega)]; exact h.tb k hk
  · rw [e _ (by omega)]; exact h.fk
  · rw [e _ (by omega)]; exact h.fp
  · rw [e _ (by omega)]; exact h.on
  · intro q k hk; rw [e _ (by omega)]; exact h.had q k hk
  · intro q k hk; rw [e _ (by omega)]; exact h.svd q k hk
  · intro q k hk; rw [e _ (by omega)]; exact h.svr q k hk
  · rw [e _ (by omega)]; exact h.u
  · obtain ⟨np, h1, h2, h3⟩ := h.P q
    exact ⟨np, h1, by rw [e _ (by omega)]; exact h2, fun i hi => (h3 i hi).cong (by omega) e⟩
theorem ps_MX.cong {A : ps_A} {I J : Nat → Nat → Int32} (e : ∀ a, 290 ≤ a → a < 305 → J a = I a) (h : ps_MX A I) : ps_MX A J := by
  refine ⟨?_, ?_, ?_, ?_, ?_, ?_, fun q => ?_, fun q => ?_, fun q => ?_, fun q => ?_, fun q => ?_, fun q => ?_⟩
  · rw [e _ (by omega) (by omega)]; exact h.tz
  · intro k hk; rw [e _ (by omega) (by omega)]; exact h.tb k hk
  · rw [e _ (by omega) (by omega)]; exact h.fk
  · rw [e _ (by omega) (by omega)]; exact h.fp
  · rw [e _ (by omega) (by omega)]; exact h.on
  · rw [e _ (by omega) (by omega)]; exact h.u
  · have h9 := h.W q
    unfold ps_MW at h9 ⊢
    rw [e 292 (by omega) (by omega), e 295 (by omega) (by omega)]
    exact h9
  · rw [e _ (by omega) (by omega)]; exact h.C q
  · rw [e _ (by omega) (by omega)]; exact h.P q
  · rw [e _ (by omega) (by omega)]; exact h.had q
  · rw [e _ (by omega) (by omega)]; exact h.svd q
  · rw [e _ (by omega) (by omega)]; exact h.svr q
theorem ps_RX.flag {t : Bool} {A : ps_A} {I : Nat → Nat → Int32} {z : Int32} {k : Nat} (h : ps_RX t A I) : ps_RX t A (hp_u I 290 k z) := h.cong (fun a ha => pu_cell (by omega))
/-! ===== sides, places ===== -/
def ps_sd (A : ps_A) (a : Int32) : Bool := A.on && (decide (a = 0) || decide (a = 1))
theorem ps_sd_of {A : ps_A} {a : Int32} (h : ps_sd A a = true) : A.on = true ∧ ∃ s, s < 2 ∧ a = nI s := by
  simp only [ps_sd, Bool.and_eq_true, Bool.or_eq_true, decide_eq_true_eq] at h
  obtain ⟨h1, h2⟩ := h
  refine ⟨h1, ?_⟩
  rcases h2 with h2 | h2
  · exact ⟨0, by decide, h2⟩
  · exact ⟨1, by decide, h2⟩
def ps_sp (a : Int32) : Bool := decide (1 ≤ a) && decide (a ≤ 6)
theorem ps_sp_of {a : Int32} (h : ps_sp a = true) : ∃ k, k < 6 ∧ a = nI (k + 1) := by
  simp only [ps_sp, Bool.and_eq_true, decide_eq_true_eq] at h
  obtain ⟨h1, h2⟩ := h
  have h0 : ¬ a < 0 := by
    rw [Int32.lt_iff_toInt_lt]
    rw [Int32.le_iff_toInt_le] at h1
    have e1 : (1 : Int32).toInt = 1 := rfl
    have e2 : (0 : Int32).toInt = 0 := rfl
    omega
  obtain ⟨j, hj, rfl⟩ := nI_of2 (n := 6) (M := 6) rfl h0 h2
  have h3 : nI 1 ≤ nI j := h1
  rw [nI_leI (by omega) (by omega)] at h3
  exact ⟨j - 1, by omega, by rw [Nat.sub_add_cancel h3]⟩
section PSC
variable {t v w : Bool} {A : ps_A} {I : Nat → Nat → Int32} {L : Nat → Nat → Int64}
theorem cx_side (hX : ps_RX t A I) (a : Int32) : fX9_isSide 0 a (I, L, px_R t v w) = some (if ps_sd A a then 1 else 0, (I, L, px_R t v w)) := by
  unfold fX9_isSide ps_sd
  simp only [hX.on]
  cases A.on <;> by_cases h0 : a = 0 <;> by_cases h1 : a = 1 <;> simp [h0, h1]
theorem cm_side (hM : ps_MX A I) (a : Int32) : fX10_isSide 290 a (I, L, px_R t v w) = some (if ps_sd A a then 1 else 0, (I, L, px_R t v w)) := by
  unfold fX10_isSide ps_sd
  simp only [hM.on]
  cases A.on <;> by_cases h0 : a = 0 <;> by_cases h1 : a = 1 <;> simp [h0, h1]
theorem ps_sp_no {a : Int32} : a < 1 ∨ 6 < a ↔ ps_sp a = false := by
  simp only [ps_sp, Bool.and_eq_false_iff, decide_eq_false_iff_not, Int32.not_le]
theorem cx_spot (a : Int32) (h : hp_T) : fX9_isSpot a h = some (if ps_sp a then 1 else 0, h) := by
  unfold fX9_isSpot
  by_cases h1 : a < 1
  · rw [if_pos h1, ps_sp_no.mp (Or.inl h1)]; rfl
  · by_cases h2 : 6 < a
    · rw [if_neg h1, if_pos h2, ps_sp_no.mp (Or.inr h2)]; rfl
    · rw [if_neg h1, if_neg h2]
      cases e : ps_sp a with
      | true => rfl
      | false => exact absurd (ps_sp_no.mpr e) (fun c => c.elim h1 h2)
theorem cm_spot (a : Int32) (h : hp_T) : fX10_isSpot a h = some (if ps_sp a then 1 else 0, h) := cx_spot a h
theorem cx_team {s : Nat} (hs : s < 2) : fX1_team 22 (nI s) (I, L, px_R t v w) = some (22 + 5 * s + 1, (I, L, px_R t v w)) := by
  rcases (show s = 0 ∨ s = 1 by omega) with rfl | rfl <;> rfl
theorem cx_squad {s : Nat} (hs : s < 2) : fX8_squad (ps_T t) (nI s) (I, L, px_R t v w) = some (ps_T t + 6 * s + 1, (I, L, px_R t v w)) := by
  rcases (show s = 0 ∨ s = 1 by omega) with rfl | rfl <;> cases t <;> rfl
theorem pr_s {s k : Nat} (hs : s < 2) (hk : k < 4) : px_R t v w (22 + 5 * s + 1) k = 22 + 5 * s + (k + 2) := by
  rcases (show s = 0 ∨ s = 1 by omega) with rfl | rfl <;> rcases (show k = 0 ∨ k = 1 ∨ k = 2 ∨ k = 3 by omega) with rfl | rfl | rfl | rfl <;> rfl
theorem pr_q {s k : Nat} (hs : s < 2) (hk : k < 5) : px_R t v w (ps_T t + 6 * s + 1) k = ps_T t + 6 * s + (k + 2) := by
  rcases (show s = 0 ∨ s = 1 by omega) with rfl | rfl <;> rcases (show k = 0 ∨ k = 1 ∨ k = 2 ∨ k = 3 ∨ k = 4 by omega) with rfl | rfl | rfl | rfl | rfl <;> cases t <;> rfl
theorem pi_in {n N : Nat} (h : n < N) (hN : N < 2 ^ 31) : fx_in (nI n) N := by
  unfold fx_in
  rw [nI_toInt (by omega)]
  omega
theorem pi_ix {n : Nat} (h : n < 2 ^ 31) : fx_ix (nI n) = n := nI_clamp h
theorem cx_who (hC : ps_RC I 22 A.C) (hW : ps_RW I (ps_T t) A.W) (w0 : ps_wfC A.W A.C) {s k : Nat} (hs : s < 2) (hk : k < 6) : fX9_whoIsOn 0 (nI s) (nI (k + 1)) (I, L, px_R t v w) = some (ps_on A.W A.C s k, (I, L, px_R t v w)) := by
  unfold fX9_whoIsOn ps_on
  rw [show (I, L, px_R t v w).2.2 0 3 = 22 from rfl, cx_team hs, pb_2]
  have hf := hC.fs s hs
  have hb : A.C.fs s < 2 ^ 31 := by rcases w0.fs s hs with h | ⟨h | h | h, -⟩ <;> omega
  show (if I (22 + 5 * s + 1) 4 = nI (k + 1) then _ else _) = _
  rw [hf]
  by_cases c : A.C.fs s = k + 1
  · rw [if_pos (by rw [c]), if_pos c]
    rw [show (I, L, px_R t v w).2.2 0 11 = ps_T t from rfl, cx_squad hs, pb_2]
    show some (I (ps_T t + 6 * s + 1) 7, _) = _
    rw [hW.free s hs]
  · rw [if_neg (fun q => c ((nI_eq hb (by omega)).mp q)), if_neg c, nI_pred, pg_pos (pi_in hk (by omega)), pi_ix (by omega)]
    show some (I (px_R t v w (22 + 5 * s + 1) 0) k, _) = _
    rw [pr_s hs (by omega), hC.six s hs k hk]
theorem pm_two {s k : Nat} : fX10_two (nI s) (nI (k + 1) - 1) 6 (I, L, px_R t v w) = some (nI (6 * s + k), (I, L, px_R t v w)) := by
  unfold fX10_two
  rw [nI_pred, show (6 : Int32) = nI 6 from rfl, pk_mul, nI_add]
theorem cm_court (hC : ps_MR A A.C (I 298)) {s k : Nat} (hs : s < 2) (hk : k < 6) : fX10_court 290 (nI s) (nI (k + 1)) (I, L, px_R t v w) = some (ps_on A.W A.C s k, (I, L, px_R t v w)) := by
  unfold fX10_court
  rw [pm_two, pb_2, show (11 : Int32) = nI 11 from rfl, nI_add, pg_pos (pi_in (by omega) (by omega)), pi_ix (by omega)]
  show some (I 298 (11 + (6 * s + k)), _) = _
  rw [← Nat.add_assoc, hC.on s hs k hk]
def sp_on (A : ps_A) (a b : Int32) : Int32 := if ps_sd A a && ps_sp b then ps_on A.W A.C a.toNatClampNeg (b.toNatClampNeg - 1) else -1
theorem cx_on (h0 : ps_wf A) (hX : ps_RX t A I) (a b : Int32) : fX9_on 0 a b (I, L, px_R t v w) = some (sp_on A a b, (I, L, px_R t v w)) := by
  unfold fX9_on sp_on
  rw [cx_side hX, pb_2]
  cases e : ps_sd A a with
  | false => rfl
  | true =>
    rw [if_neg (by decide), cx_spot, pb_2]
    cases e2 : ps_sp b with
    | false => rfl
    | true =>
      obtain ⟨ho, s, hs, rfl⟩ := ps_sd_of e
      obtain ⟨k, hk, rfl⟩ := ps_sp_of e2
      rw [if_neg (by decide), cx_who (hX.C ho) (hX.W ho) (h0.C ho) hs hk, pb_2, nI_clamp (by omega), nI_clamp (by omega)]
      rfl
theorem cm_on (hM : ps_MX A I) (a b : Int32) : fX10_on 290 a b (I, L, px_R t v w) = some (sp_on A a b, (hp_u I 290 0 0, L, px_R t v w)) := by
  unfold fX10_on sp_on
  rw [pl_let]
  show fx_b2 (fX10_isSide 290 a (hp_u I 290 0 0, L, px_R t v w)) _ = _
  have hM := hM.flag (z := 0)
  rw [cm_side hM, pb_2]
  cases e : ps_sd A a with
  | false => rfl
  | true =>
    rw [if_neg (by decide), cm_spot, pb_2]
    cases e2 : ps_sp b with
    | false => rfl
    | true =>
      obtain ⟨ho, s, hs, rfl⟩ := ps_sd_of e
      obtain ⟨k, hk, rfl⟩ := ps_sp_of e2
      rw [if_neg (by decide), cm_court (hM.C ho) hs hk, pb_2, nI_clamp (by omega), nI_clamp (by omega)]
      rfl
end PSC
