/-! ===== moves ===== -/
def ps_rear (b : Int32) : Bool := decide (b = 1 ∨ b = 5 ∨ b = 6)
theorem cx_rear (b : Int32) (h : hp_T) : fX9_isRear b h = some (if ps_rear b then 1 else 0, h) := by
  unfold fX9_isRear
  rw [cx_spot, pb_2]
  cases e : ps_sp b with
  | false =>
    have : ps_rear b = false := by
      unfold ps_rear
      rw [decide_eq_false_iff_not]
      rintro (rfl | rfl | rfl) <;> revert e <;> decide
    rw [this]; rfl
  | true =>
    obtain ⟨k, hk, rfl⟩ := ps_sp_of e
    rcases (show k = 0 ∨ k = 1 ∨ k = 2 ∨ k = 3 ∨ k = 4 ∨ k = 5 by omega) with rfl | rfl | rfl | rfl | rfl | rfl <;> rfl
theorem cm_rear (b : Int32) (h : hp_T) : fX10_isRear b h = some (if ps_rear b then 1 else 0, h) := by
  unfold fX10_isRear ps_rear
  by_cases c1 : b = 1
  · simp [c1]
  · by_cases c5 : b = 5
    · simp [c5]
    · by_cases c6 : b = 6 <;> simp [c1, c5, c6]
def ps_jmove (A : ps_A) (s : Nat) (b : Int32) : Int32 :=
  if ps_over A then -2 else if A.W.free s = none ∨ (b = 0 ↔ A.C.fs s = 0) then -3 else if A.C.mv s = 1 then -4 else if b = 1 ∧ A.C.sv = s then -5 else 0
def sp_mayMove (A : ps_A) (a b : Int32) : Int32 := if ps_sd A a && (decide (b = 0) || ps_rear b) then ps_jmove A a.toNatClampNeg b else -1
section PSJ
variable {t v w : Bool} {A : ps_A} {I : Nat → Nat → Int32} {L : Nat → Nat → Int64}
theorem cx_jm (h0 : ps_wf A) (ho : A.on = true) (hX : ps_RX t A I) {s : Nat} (hs : s < 2) (b : Int32) : fX9_judgeMove_21 0 (nI s) b (I, L, px_R t v w) = some (ps_jmove A s b, (I, L, px_R t v w)) := by
  have w0 := h0.C ho
  have hf := w0.fs s hs
  have hfr := ps_free_lt (h0.W ho) hs
  have hmv := w0.mv s hs
  have hsv := w0.sv
  unfold fX9_judgeMove_21 ps_jmove
  rw [cx_over w0 (h0.W ho) (hX.C ho) (hX.W ho), pb_2]
  cases ps_over A with
  | true => rfl
  | false =>
    rw [if_pos (by rfl), show (I, L, px_R t v w).2.2 0 3 = 22 from rfl, cx_team hs, pb_2, if_neg (show ¬ (false = true) by decide)]
    have key : ∀ z y : Int32, fX9_judgeMove_63 0 (nI s) b (22 + 5 * s + 1) z y (I, L, px_R t v w) = some (if A.W.free s = none ∨ z = y then -3 else if A.C.mv s = 1 then -4 else if b = 1 ∧ A.C.sv = s then -5 else 0, (I, L, px_R t v w)) := by
      intro z y
      unfold fX9_judgeMove_63
      rw [show (I, L, px_R t v w).2.2 0 11 = ps_T t from rfl, cx_squad hs, pb_2]
      show (if I (ps_T t + 6 * s + 1) 7 = -1 then _ else if z = y then _ else if I (22 + 5 * s + 1) 5 = 0 then (if b = 1 then (if I 22 2 = nI s then _ else _) else _) else _) = _
      rw [(hX.W ho).free s hs, (hX.C ho).mv s hs, (hX.C ho).sv]
      by_cases c1 : A.W.free s = none
      · rw [if_pos ((ps_e1_none hfr).mpr c1), if_pos (Or.inl c1)]
      · rw [if_neg (fun q => c1 ((ps_e1_none hfr).mp q))]
        by_cases c2 : z = y
        · rw [if_pos c2, if_pos (Or.inr c2)]
        · rw [if_neg c2, if_neg (show ¬ (A.W.free s = none ∨ z = y) from fun q => q.elim c1 c2)]
          by_cases c3 : A.C.mv s = 1
          · rw [if_neg (by rw [c3]; decide), if_pos c3]
          · rw [if_pos (show nI (A.C.mv s) = 0 by rw [show A.C.mv s = 0 by omega]; rfl), if_neg c3]
            by_cases c4 : b = 1
            · rw [if_pos c4]
              by_cases c5 : A.C.sv = s
              · rw [if_pos (by rw [c5]), if_pos ⟨c4, c5⟩]
              · rw [if_neg (fun q => c5 ((nI_eq (by omega) (by omega)).mp q)), if_neg (fun q => c5 q.2)]
            · rw [if_neg c4, if_neg (fun q => c4 q.1)]
    unfold fX9_judgeMove_49
    rw [key, key, key, key]
    show (if b = 0 then (if I (22 + 5 * s + 1) 4 = 0 then _ else _) else (if I (22 + 5 * s + 1) 4 = 0 then _ else _)) = _
    rw [(hX.C ho).fs s hs]
    by_cases c : b = 0
    · rw [if_pos c]
      by_cases d : A.C.fs s = 0
      · rw [if_pos (by rw [d]; rfl)]; simp [c, d]
      · rw [if_neg (nI_ne0 (by omega) (by omega))]; simp [c, d]
    · rw [if_neg c]
      by_cases d : A.C.fs s = 0
      · rw [if_pos (by rw [d]; rfl)]; simp [c, d]
      · rw [if_neg (nI_ne0 (by omega) (by omega))]; simp [c, d]
theorem cx_jmove (h0 : ps_wf A) (hX : ps_RX t A I) (a b : Int32) : fX9_judgeMove 0 a b (I, L, px_R t v w) = some (sp_mayMove A a b, (I, L, px_R t v w)) := by
  unfold fX9_judgeMove sp_mayMove
  rw [cx_side hX, pb_2]
  cases e : ps_sd A a with
  | false => rfl
  | true =>
    obtain ⟨ho, s, hs, rfl⟩ := ps_sd_of e
    rw [if_neg (by decide), cx_rear, pb_2, nI_clamp (by omega), cx_jm h0 ho hX hs]
    by_cases c : b = 0
    · rw [if_pos c]; simp [c]
    · rw [if_neg c]
      cases d : ps_rear b with
      | false => simp [c]
      | true => simp [c]
theorem cm_jm (h0 : ps_wf A) (ho : A.on = true) (hM : ps_MX A I) {s : Nat} (hs : s < 2) (b : Int32) (hb : b = 0 ∨ ps_rear b = true) : fX10_wrongMove_21 290 (nI s) b (I, L, px_R t v w) = some (ps_jmove A s b, (I, L, px_R t v w)) := by
  have w0 := h0.C ho
  have w1 := h0.W ho
  have hf := w0.fs s hs
  have hfr := ps_free_lt w1 hs
  have hmv := w0.mv s hs
  have hsv := w0.sv
  have hC := hM.C ho
  unfold fX10_wrongMove_21 ps_jmove
  rw [cm_over w0 w1 hC (hM.W ho), pb_2]
  cases ps_over A with
  | true => rfl
  | false =>
    have key : ∀ z : Int32, fX10_wrongMove_49 290 (nI s) b z (I, L, px_R t v w) = some (if A.W.free s = none ∨ (z = if b ≤ 0 then 0 else 1) then -3 else if A.C.mv s = 1 then -4 else if b = 1 ∧ A.C.sv = s then -5 else 0, (I, L, px_R t v w)) := by
      intro z
      have k2 : ∀ y : Int32, fX10_wrongMove_73 290 (nI s) b z y (I, L, px_R t v w) = some (if z = y then -3 else if A.C.mv s = 1 then -4 else if b = 1 ∧ A.C.sv = s then -5 else 0, (I, L, px_R t v w)) := by
        intro y
        unfold fX10_wrongMove_73
        by_cases c2 : z = y
        · rw [if_pos c2, if_pos c2]
        · rw [if_neg c2, if_neg c2, show (9 : Int32) = nI 9 from rfl, nI_add, pg_pos (pi_in (by omega) (by omega)), pi_ix (by omega)]
          show (if I 298 (9 + s) = 1 then _ else if b = 1 then (if I 298 2 = nI s then _ else _) else _) = _
          rw [hC.mv s hs, hC.sv]
          by_cases c3 : A.C.mv s = 1
          · rw [if_pos (by rw [c3]; rfl), if_pos c3]
          · rw [if_neg (show ¬ nI (A.C.mv s) = 1 by rw [show A.C.mv s = 0 by omega]; decide), if_neg c3]
            by_cases c4 : b = 1
            · rw [if_pos c4]
              by_cases c5 : A.C.sv = s
              · rw [if_pos (by rw [c5]), if_pos ⟨c4, c5⟩]
              · rw [if_neg (fun q => c5 ((nI_eq (by omega) (by omega)).mp q)), if_neg (fun q => c5 q.2)]
            · rw [if_neg c4, if_neg (fun q => c4 q.1)]
      unfold fX10_wrongMove_49
      rw [k2, k2, show (7 : Int32) = nI 7 from rfl, nI_add, pg_pos (pi_in (by omega) (by omega)), pi_ix (by omega)]
      show (if I 292 (7 + s) = -1 then _ else _) = _
      rw [(hM.W ho).free s hs]
      by_cases c1 : A.W.free s = none
      · rw [if_pos ((ps_e1_none hfr).mpr c1), if_pos (Or.inl c1)]
      · rw [if_neg (fun q => c1 ((ps_e1_none hfr).mp q))]
        by_cases c : b ≤ 0 <;> simp [c, c1]
    rw [if_pos (by rfl), if_neg (show ¬ (false = true) by decide), key, key, show (7 : Int32) = nI 7 from rfl, nI_add, pg_pos (pi_in (by omega) (by omega)), pi_ix (by omega)]
    show (if I 298 (7 + s) = -1 then _ else _) = _
    rw [hC.fr s hs]
    have hb2 : (if b ≤ 0 then (0 : Int32) else 1) = if b = 0 then 0 else 1 := by
      rcases hb with rfl | hb
      · rfl
      · simp only [ps_rear, decide_eq_true_eq] at hb
        rcases hb with rfl | rfl | rfl <;> rfl
    rw [hb2]
    have hsix : ∀ k, k < 6 → nI (A.C.six s k) ≠ -1 := fun k hk => nI_ne_m1 (by have := w0.six s hs k hk; have := w1.size s hs; omega)
    by_cases d : A.C.fs s = 0
    · rw [if_pos (by unfold ps_for; rw [if_pos d])]
      by_cases c : b = 0 <;> simp [c, d]
    · rw [if_neg (by unfold ps_for; rw [if_neg d]; exact hsix _ (by omega))]
      by_cases c : b = 0 <;> simp [c, d]
theorem cm_jmove (h0 : ps_wf A) (hM : ps_MX A I) (a b : Int32) : fX10_wrongMove 290 a b (I, L, px_R t v w) = some (sp_mayMove A a b, (I, L, px_R t v w)) := by
  unfold fX10_wrongMove sp_mayMove
  rw [cm_side hM, pb_2]
  cases e : ps_sd A a with
  | false => rfl
  | true =>
    obtain ⟨ho, s, hs, rfl⟩ := ps_sd_of e
    rw [if_neg (by decide), cm_rear, pb_2, nI_clamp (by omega)]
    by_cases c : b = 0
    · rw [if_pos c, cm_jm h0 ho hM hs b (Or.inl c)]; simp [c]
    · rw [if_neg c]
      cases d : ps_rear b with
      | false => simp [c]
      | true => rw [cm_jm h0 ho hM hs b (Or.inr d)]; simp [c]
theorem cx_mayMove (h0 : ps_wf A) (hX : ps_RX t A I) (a b : Int32) : fX9_mayMove 0 a b (I, L, px_R t v w) = some (sp_mayMove A a b, (I, L, px_R t v w)) := by
  unfold fX9_mayMove
  rw [cx_jmove h0 hX, pb_2]
theorem cm_mayMove (h0 : ps_wf A) (hM : ps_MX A I) (a b : Int32) : fX10_mayMove 290 a b (I, L, px_R t v w) = some (sp_mayMove A a b, (hp_u I 290 0 0, L, px_R t v w)) := by
  unfold fX10_mayMove
  rw [pl_let]
  show fx_b2 (fX10_wrongMove 290 a b (hp_u I 290 0 0, L, px_R t v w)) _ = _
  rw [cm_jmove h0 hM.flag, pb_2]
end PSJ
