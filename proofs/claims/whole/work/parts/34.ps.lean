/-! ===== answers that only read: lineUp, standing, was, now, count, named, till ===== -/
section PSE
variable {t v w : Bool} {A : ps_A} {I : Nat → Nat → Int32} {L : Nat → Nat → Int64}
def sp_lineUp (A : ps_A) (a b : Int32) : Int32 := if ps_sd A a && ps_sp b then nI (A.C.six a.toNatClampNeg (b.toNatClampNeg - 1)) else -1
theorem cx_lineUp (hX : ps_RX t A I) (a b : Int32) : fX9_lineUp 0 a b (I, L, px_R t v w) = some (sp_lineUp A a b, (I, L, px_R t v w)) := by
  unfold fX9_lineUp sp_lineUp
  rw [cx_side hX, pb_2]
  cases e : ps_sd A a with
  | false => rfl
  | true =>
    rw [if_neg (by decide), cx_spot, pb_2]
    cases e2 : ps_sp b with
    | false => rfl
    | true =>
      obtain ⟨ho, s, hs, rfl⟩ := ps_sd_of e
      obtain ⟨k, hk, rfl⟩ := ps_sp_of e2
      rw [if_neg (by decide), show (I, L, px_R t v w).2.2 0 3 = 22 from rfl, cx_team hs, pb_2, nI_clamp (by omega), nI_clamp (by omega), nI_pred, pg_pos (pi_in hk (by omega)), pi_ix (by omega)]
      show some (I (px_R t v w (22 + 5 * s + 1) 0) k, _) = _
      rw [pr_s hs (by omega), (hX.C ho).six s hs k hk]
      rfl
theorem cm_lineUp (h0 : ps_wf A) (hM : ps_MX A I) (a b : Int32) : fX10_lineUp 290 a b (I, L, px_R t v w) = some (sp_lineUp A a b, (hp_u I 290 0 0, L, px_R t v w)) := by
  unfold fX10_lineUp sp_lineUp
  rw [pl_let]
  show fx_b2 (fX10_isSide 290 a (hp_u I 290 0 0, L, px_R t v w)) _ = _
  have hM := hM.flag (z := 0)
  rw [cm_side hM, pb_2]
  cases e : ps_sd A a with
  | false => rfl
  | true =>
    rw [if_neg (by decide), cm_spot, pb_2]
    cases e2 : ps_sp b with
    | false => rfl
    | true =>
      obtain ⟨ho, s, hs, rfl⟩ := ps_sd_of e
      obtain ⟨k, hk, rfl⟩ := ps_sp_of e2
      rw [if_neg (by decide), cm_lined h0 ho hM hs hk, pb_2, nI_clamp (by omega), nI_clamp (by omega)]
      rfl
def sp_standing (A : ps_A) (a b c : Int32) : Int32 := if ps_sd A a && ps_sp b then (if c = 0 then nI (A.C.x a.toNatClampNeg (b.toNatClampNeg - 1)) else if c = 1 then nI (A.C.y a.toNatClampNeg (b.toNatClampNeg - 1)) else -1) else -1
theorem cx_standing (hX : ps_RX t A I) (a b c : Int32) : fX9_standing 0 a b c (I, L, px_R t v w) = some (sp_standing A a b c, (I, L, px_R t v w)) := by
  unfold fX9_standing sp_standing
  rw [cx_side hX, pb_2]
  cases e : ps_sd A a with
  | false => rfl
  | true =>
    rw [if_neg (by decide), cx_spot, pb_2]
    cases e2 : ps_sp b with
    | false => rfl
    | true =>
      obtain ⟨ho, s, hs, rfl⟩ := ps_sd_of e
      obtain ⟨k, hk, rfl⟩ := ps_sp_of e2
      rw [if_neg (by decide), show (I, L, px_R t v w).2.2 0 3 = 22 from rfl, cx_team hs, pb_2, nI_clamp (by omega), nI_clamp (by omega), nI_pred, pg_pos (pi_in hk (by omega)), pg_pos (pi_in hk (by omega)), pi_ix (by omega)]
      show (if c = 0 then some (I (px_R t v w (22 + 5 * s + 1) 2) k, _) else if c = 1 then some (I (px_R t v w (22 + 5 * s + 1) 3) k, _) else _) = _
      rw [pr_s hs (by omega), pr_s hs (by omega), (hX.C ho).x s hs k hk, (hX.C ho).y s hs k hk]
      by_cases c0 : c = 0
      · simp [c0]
      · by_cases c1 : c = 1
        · simp [c1]
        · simp [c0, c1]
theorem cm_stands (hC : ps_MR A A.C (I 298)) {s k j : Nat} (hs : s < 2) (hk : k < 6) (hj : j < 2) : fX10_stands 290 (nI s) (nI (k + 1)) (nI j) (I, L, px_R t v w) = some (nI (if j = 0 then A.C.x s k else A.C.y s k), (I, L, px_R t v w)) := by
  unfold fX10_stands
  rw [pm_two, pb_2, show (71 : Int32) = nI 71 from rfl, show (2 : Int32) = nI 2 from rfl, pk_mul, nI_add, nI_add, pg_pos (pi_in (by omega) (by omega)), pi_ix (by omega)]
  show some (I 298 (71 + 2 * (6 * s + k) + j), _) = _
  rcases (show j = 0 ∨ j = 1 by omega) with rfl | rfl
  · rw [show 71 + 2 * (6 * s + k) + 0 = 71 + 12 * s + 2 * k by omega, hC.x s hs k hk]; rfl
  · rw [show 71 + 2 * (6 * s + k) + 1 = 72 + 12 * s + 2 * k by omega, hC.y s hs k hk]; rfl
theorem cm_standing (hM : ps_MX A I) (a b c : Int32) : fX10_standing 290 a b c (I, L, px_R t v w) = some (sp_standing A a b c, (hp_u I 290 0 0, L, px_R t v w)) := by
  unfold fX10_standing sp_standing
  rw [pl_let]
  show fx_b2 (fX10_isSide 290 a (hp_u I 290 0 0, L, px_R t v w)) _ = _
  have hM := hM.flag (z := 0)
  rw [cm_side hM, pb_2]
  cases e : ps_sd A a with
  | false => rfl
  | true =>
    rw [if_neg (by decide), cm_spot, pb_2]
    cases e2 : ps_sp b with
    | false => rfl
    | true =>
      obtain ⟨ho, s, hs, rfl⟩ := ps_sd_of e
      obtain ⟨k, hk, rfl⟩ := ps_sp_of e2
      rw [if_neg (by decide), nI_clamp (by omega), nI_clamp (by omega)]
      unfold fX10_standing_29
      by_cases c0 : c = 0
      · rw [if_pos c0, show c = nI 0 from c0, cm_stands (hM.C ho) hs hk (by decide), pb_2]; rfl
      · rw [if_neg c0]
        by_cases c1 : c = 1
        · rw [if_pos c1, show c = nI 1 from c1, cm_stands (hM.C ho) hs hk (by decide), pb_2]; rfl
        · rw [if_neg c1]; simp [c0, c1]
def sp_was (A : ps_A) (a b : Int32) : Int32 := if A.on = false ∨ a < 0 ∨ b < 0 ∨ ¬ b ≤ 2 then -1 else if nI A.C.pl ≤ a then -2 else if b = 0 then nI (A.had a.toNatClampNeg) else if b = 1 then nI (A.svd a.toNatClampNeg) else nI (A.svr a.toNatClampNeg)
theorem ps_pl_le (h0 : ps_wf A) (ho : A.on = true) : A.C.pl ≤ 49 := by
  have w0 := h0.C ho
  have h1 := w0.pl
  have h2 := w0.sc 0 (by decide)
  have h3 := w0.sc 1 (by decide)
  have h4 := w0.sc2
  have h5 := (h0.W ho).p25
  omega
theorem cx_was (h0 : ps_wf A) (hX : ps_RX t A I) (a b : Int32) : fX9_was 0 a b (I, L, px_R t v w) = some (sp_was A a b, (I, L, px_R t v w)) := by
  unfold fX9_was sp_was
  show (if I 0 13 = 0 then _ else _) = _
  rw [hX.on]
  cases ho : A.on with
  | false => simp
  | true =>
    rw [if_neg (by decide)]
    by_cases c1 : a < 0
    · rw [if_pos c1]; simp [c1]
    · rw [if_neg c1]
      by_cases c2 : b < 0
      · rw [if_pos c2]; simp [c2]
      · rw [if_neg c2]
        by_cases c3 : b ≤ 2
        · rw [if_pos c3]
          obtain ⟨i, hi, rfl⟩ := nI_of c1
          have hl := ps_pl_le h0 ho
          show (if nI i < I 22 3 then _ else _) = _
          rw [show I 22 3 = nI A.C.pl from (hX.C ho).pl]
          by_cases c4 : i < A.C.pl
          · rw [if_pos (nI_lt c4 (by omega)), pg_pos (pi_in (by omega) (by omega)), pg_pos (pi_in (by omega) (by omega)), pg_pos (pi_in (by omega) (by omega)), pi_ix (by omega)]
            show (if b = 0 then some (I 19 i, _) else if b = 1 then some (I 20 i, _) else some (I 21 i, _)) = _
            rw [hX.had ho i c4, hX.svd ho i c4, hX.svr ho i c4, nI_clamp (by omega)]
            have c5 : ¬ nI A.C.pl ≤ nI i := nI_ge (by omega) (by omega)
            by_cases d0 : b = 0
            · simp [d0, c1, c5]
            · by_cases d1 : b = 1
              · simp [d1, c1, c5]
              · simp [d0, d1, c1, c2, c3, c5]
          · rw [if_neg (nI_nlt (by omega) (by omega))]
            have c5 : nI A.C.pl ≤ nI i := nI_le (by omega) (by omega)
            simp [c1, c2, c3, c5]
        · rw [if_neg c3]; simp [c3]
theorem cm_was (h0 : ps_wf A) (hM : ps_MX A I) (a b : Int32) : fX10_was 290 a b (I, L, px_R t v w) = some (sp_was A a b, (hp_u I 290 0 0, L, px_R t v w)) := by
  unfold fX10_was sp_was
  rw [pl_let]
  have hM := hM.flag (z := 0)
  show (if hp_u I 290 0 0 290 7 = 0 then _ else _) = _
  rw [hM.on]
  cases ho : A.on with
  | false => simp [hp_sI]
  | true =>
    rw [if_neg (by decide)]
    by_cases c1 : a < 0
    · rw [if_pos c1]; simp [c1, hp_sI]
    · rw [if_neg c1]
      by_cases c2 : b < 0
      · rw [if_pos c2]; simp [c2, hp_sI]
      · rw [if_neg c2]
        by_cases c3 : b ≤ 2
        · rw [if_pos c3]
          obtain ⟨i, hi, rfl⟩ := nI_of c1
          obtain ⟨j, hj, rfl⟩ := nI_of2 (n := 2) (M := 2) rfl c2 c3
          have hl := ps_pl_le h0 ho
          show (if hp_u I 290 0 0 298 119 ≤ nI i then _ else _) = _
          rw [show hp_u I 290 0 0 298 119 = nI A.C.pl from (hM.C ho).pl]
          by_cases c4 : i < A.C.pl
          · have c5 : ¬ nI A.C.pl ≤ nI i := nI_ge (by omega) (by omega)
            rw [if_neg c5, show (3 : Int32) = nI 3 from rfl, pk_mul, nI_add, pg_pos (pi_in (by omega) (by omega)), pi_ix (by omega), nI_clamp (by omega)]
            show some (hp_u I 290 0 0 300 (3 * i + j), _) = _
            rw [if_neg (by simp [c1, c2, c3]), if_neg c5]
            rcases (show j = 0 ∨ j = 1 ∨ j = 2 by omega) with rfl | rfl | rfl
            · rw [show 3 * i + 0 = 3 * i from rfl, hM.had ho i c4]; rfl
            · rw [hM.svd ho i c4]; rfl
            · rw [hM.svr ho i c4]; rfl
          · have c5 : nI A.C.pl ≤ nI i := nI_le (by omega) (by omega)
            rw [if_pos c5]
            simp [c1, c2, c3, c5, hp_sI]
        · rw [if_neg c3]; simp [c3, hp_sI]
end PSE
