/-! ===== stand of the reference; both answers ===== -/
section PSU
variable {t v w : Bool} {A : ps_A} {I J : Nat → Nat → Int32} {L : Nat → Nat → Int64}
theorem cm_stand (h0 : ps_wf A) (ho : A.on = true) (hM : ps_MX A I) {s k a b : Nat} (hs : s < 2) (hk : k < 6) (ha : a ≤ 90) (hb : b ≤ 90) :
    ∃ J, fX10_stand 290 (nI s) (nI (k + 1)) (nI a) (nI b) (I, L, px_R t v w) = some (1, (J, L, px_R t v w)) ∧ ps_MX (ps_stand A s k a b) J ∧ (∀ a, a < 290 → J a = I a) := by
  have e1 : ps_sd A (nI s) = true := by
    unfold ps_sd
    rw [ho]
    rcases (show s = 0 ∨ s = 1 by omega) with rfl | rfl <;> decide
  have e2 : ps_sp (nI (k + 1)) = true := by
    rcases (show k = 0 ∨ k = 1 ∨ k = 2 ∨ k = 3 ∨ k = 4 ∨ k = 5 by omega) with rfl | rfl | rfl | rfl | rfl | rfl <;> decide
  unfold fX10_stand
  rw [pl_let]
  show ∃ J, fx_b2 (fX10_isSide 290 (nI s) (hp_u I 290 0 0, L, px_R t v w)) _ = _ ∧ _
  have hM := hM.flag (z := 0)
  have hI : ∀ a, a < 290 → hp_u I 290 0 0 a = I a := fun a ha => pu_cell (by omega)
  generalize hp_u I 290 0 0 = K at hM hI ⊢
  obtain ⟨J1, r1, r2, r3, r4⟩ := cm_keeps (t := t) (v := v) (w := w) (L := L) h0 ho hM
  rw [cm_side hM, pb_2, e1, if_pos rfl, if_neg (by decide), cm_spot, pb_2, e2, if_pos rfl, if_neg (by decide), if_neg (nI_pos (by omega)), if_neg (show ¬ (90 : Int32) < nI a from nI_nlt (a := 90) ha (by omega)), if_neg (nI_pos (by omega)), if_pos (show nI b ≤ (90 : Int32) from nI_le (b := 90) hb (by omega)), r1, pb_1, pm_two, pb_2, pl_let, show (71 : Int32) = nI 71 from rfl, show (2 : Int32) = nI 2 from rfl, pk_mul, nI_add, pg_pos (pi_in (by omega) (by omega)), pi_ix (by omega), pl_let, nI_1, pg_pos (pi_in (by omega) (by omega)), pi_ix (by omega), pl_let]
  show ∃ J, some ((1 : Int32), (hp_u (hp_u J1 298 (71 + 2 * (6 * s + k)) (nI a)) 298 (71 + 2 * (6 * s + k) + 1) (nI b), L, px_R t v w)) = _ ∧ _
  have hC := r2.C (show (ps_push A).on = true from ho)
  refine ⟨_, rfl, ?_, fun c hc => by rw [pu_cell (by omega), pu_cell (by omega), r3 c (by omega) (by omega), hI c hc]⟩
  refine r2.setC (fun c z1 z2 => by rw [pu_cell z2, pu_cell z2]) (fun _ => ?_) rfl
  have q : ∀ j, j ≠ 71 + 2 * (6 * s + k) → j ≠ 71 + 2 * (6 * s + k) + 1 → hp_u (hp_u J1 298 (71 + 2 * (6 * s + k)) (nI a)) 298 (71 + 2 * (6 * s + k) + 1) (nI b) 298 j = J1 298 j := fun j z1 z2 => by rw [pu_place z2, pu_place z1]
  refine ⟨fun s' hs' => ?_, ?_, fun s' hs' => ?_, fun s' hs' => ?_, fun s' hs' => ?_, fun s' hs' => ?_, fun s' hs' k' hk' => ?_, fun s' hs' k' hk' => ?_, fun s' hs' k' hk' => ?_, fun s' hs' k' hk' => ?_, fun s' hs' k' hk' => ?_, fun s' hs' k' hk' => ?_, ?_⟩
  · rw [q _ (by omega) (by omega)]; exact hC.sc s' hs'
  · rw [q _ (by omega) (by omega)]; exact hC.sv
  · rw [q _ (by omega) (by omega)]; exact hC.tn s' hs'
  · rw [q _ (by omega) (by omega)]; exact hC.lf s' hs'
  · rw [q _ (by omega) (by omega)]; exact hC.fr s' hs'
  · rw [q _ (by omega) (by omega)]; exact hC.mv s' hs'
  · rw [q _ (by omega) (by omega)]; exact hC.on s' hs' k' hk'
  · rw [q _ (by omega) (by omega)]; exact hC.mate s' hs' k' hk'
  · rw [q _ (by omega) (by omega)]; exact hC.gone s' hs' k' hk'
  · show _ = nI (if s' = s ∧ k' = k then a else A.C.x s' k')
    by_cases c : s' = s ∧ k' = k
    · rw [if_pos c, c.1, c.2, pu_place (by omega), show 71 + 12 * s + 2 * k = 71 + 2 * (6 * s + k) by omega]; exact pu_eq
    · rw [if_neg c, q _ (by omega) (by omega)]; exact hC.x s' hs' k' hk'
  · show _ = nI (if s' = s ∧ k' = k then b else A.C.y s' k')
    by_cases c : s' = s ∧ k' = k
    · rw [if_pos c, c.1, c.2, show 72 + 12 * s + 2 * k = 71 + 2 * (6 * s + k) + 1 by omega]; exact pu_eq
    · rw [if_neg c, q _ (by omega) (by omega)]; exact hC.y s' hs' k' hk'
  · rw [q _ (by omega) (by omega)]; exact hC.svd s' hs' k' hk'
  · rw [q _ (by omega) (by omega)]; exact hC.pl
theorem ps_wf_stand (h0 : ps_wf A) (ho : A.on = true) {s k a b : Nat} (ha : a ≤ 90) (hb : b ≤ 90) : ps_wf (ps_stand A s k a b) := by
  refine (ps_wf_push h0 ho).setC (fun _ => ?_) rfl
  have w0 := h0.C ho
  refine ⟨w0.six, w0.sixf, w0.inj, w0.fs, w0.mv, w0.lf, w0.tn, w0.sc, w0.sc2, w0.sv, w0.pl, fun s' hs' k' hk' => ?_, fun s' hs' k' hk' => ?_, w0.mate, w0.role, w0.role2, w0.nomate⟩
  · show (if s' = s ∧ k' = k then a else A.C.x s' k') ≤ 90
    split
    · exact ha
    · exact w0.x s' hs' k' hk'
  · show (if s' = s ∧ k' = k then b else A.C.y s' k') ≤ 90
    split
    · exact hb
    · exact w0.y s' hs' k' hk'
/-- no stand -/
theorem cx_stand0 (hX : ps_RX t A I) {a b c d : Int32} (h : ¬ (ps_sd A a = true ∧ ps_sp b = true ∧ ps_place c = true ∧ ps_place d = true)) : fX9_stand 0 a b c d (I, L, px_R t v w) = some (0, (I, L, px_R t v w)) := by
  unfold fX9_stand
  rw [cx_side hX, pb_2]
  cases e1 : ps_sd A a with
  | false => rfl
  | true =>
    rw [if_pos rfl, if_neg (by decide), cx_spot, pb_2]
    cases e2 : ps_sp b with
    | false => rfl
    | true =>
      rw [if_pos rfl, if_neg (by decide), cx_place, pb_2]
      cases e3 : ps_place c with
      | false => rfl
      | true =>
        rw [if_pos rfl, if_neg (by decide), cx_place, pb_2]
        cases e4 : ps_place d with
        | false => rfl
        | true => exact absurd ⟨e1, e2, e3, e4⟩ h
theorem cm_stand0 (hM : ps_MX A I) {a b c d : Int32} (h : ¬ (ps_sd A a = true ∧ ps_sp b = true ∧ ps_place c = true ∧ ps_place d = true)) : fX10_stand 290 a b c d (I, L, px_R t v w) = some (0, (hp_u I 290 0 0, L, px_R t v w)) := by
  unfold fX10_stand
  rw [pl_let]
  show fx_b2 (fX10_isSide 290 a (hp_u I 290 0 0, L, px_R t v w)) _ = _
  have hM := hM.flag (z := 0)
  generalize hp_u I 290 0 0 = K at hM ⊢
  rw [cm_side hM, pb_2]
  cases e1 : ps_sd A a with
  | false => rfl
  | true =>
    rw [if_pos rfl, if_neg (by decide), cm_spot, pb_2]
    cases e2 : ps_sp b with
    | false => rfl
    | true =>
      rw [if_pos rfl, if_neg (by decide)]
      by_cases c1 : c < 0
      · rw [if_pos c1]
      rw [if_neg c1]
      by_cases c2 : 90 < c
      · rw [if_pos c2]
      rw [if_neg c2]
      by_cases c3 : d < 0
      · rw [if_pos c3]
      rw [if_neg c3]
      by_cases c4 : d ≤ 90
      · refine absurd ⟨e1, e2, ?_, ?_⟩ h
        · simp [ps_place, Int32.not_lt.mp c1, Int32.not_lt.mp c2]
        · simp [ps_place, Int32.not_lt.mp c3, c4]
      · rw [if_neg c4]
end PSU
