/-! ===== runs of the reference ===== -/
section PSF35
variable {t v w : Bool} {A : ps_A} {I : Nat → Nat → Int32} {L : Nat → Nat → Int64}
theorem cm_own (h0 : ps_wf A) (ho : A.on = true) (hM : ps_MX A I) {k : Nat} (hk : k < A.C.pl) : fX10_isOwn 290 (nI k) (I, L, px_R t v w) = some (if ps_own A k then 1 else 0, (I, L, px_R t v w)) := by
  have hpl := ps_pl_le h0 ho
  have b1 := h0.had ho k hk
  have b2 := h0.svd ho k hk
  unfold fX10_isOwn ps_own
  rw [show (3 : Int32) = nI 3 from rfl, show (1 : Int32) = nI 1 from rfl, pk_mul, nI_add, pg_pos (pi_in (by omega) (by omega)), pg_pos (pi_in (by omega) (by omega)), pi_ix (by omega), pi_ix (by omega)]
  show (if I 300 (3 * k) = I 300 (3 * k + 1) then _ else _) = _
  rw [hM.had ho k hk, hM.svd ho k hk]
  by_cases c : A.had k = A.svd k
  · rw [if_pos (by rw [c]), decide_eq_true c]; rfl
  · rw [if_neg (fun q => c ((nI_eq (by omega) (by omega)).mp q)), decide_eq_false c]; rfl
theorem cm_gor (h0 : ps_wf A) (ho : A.on = true) (hM : ps_MX A I) {k : Nat} (hk : k < A.C.pl) : fX10_goesOnRun 290 (nI k) (I, L, px_R t v w) = some (if ps_gr A k then 1 else 0, (I, L, px_R t v w)) := by
  have hpl := ps_pl_le h0 ho
  unfold fX10_goesOnRun ps_gr
  cases k with
  | zero => rw [if_pos (by decide)]; rfl
  | succ k =>
    have b2 := h0.svd ho (k + 1) hk
    have b3 := h0.svr ho (k + 1) hk
    have d2 := h0.svd ho k (by omega)
    have d3 := h0.svr ho k (by omega)
    rw [if_neg (nI_nle (by omega) (by omega)), nI_pred, cm_own h0 ho hM (by omega), pb_2, show k + 1 - 1 = k from rfl, decide_eq_true (show 0 < k + 1 by omega), Bool.true_and]
    cases eo : ps_own A k with
    | false => rfl
    | true =>
      rw [if_neg (by decide), show (3 : Int32) = nI 3 from rfl, show (1 : Int32) = nI 1 from rfl, show (2 : Int32) = nI 2 from rfl, pk_mul, nI_add, nI_add, pk_sub (by omega), pk_sub (by omega), pg_pos (pi_in (by omega) (by omega)), pg_pos (pi_in (by omega) (by omega)), pg_pos (pi_in (by omega) (by omega)), pg_pos (pi_in (by omega) (by omega)), pi_ix (by omega), pi_ix (by omega), pi_ix (by omega), pi_ix (by omega)]
      show (if I 300 (3 * (k + 1) + 1) = I 300 (3 * (k + 1) - 2) then (if I 300 (3 * (k + 1) + 2) = I 300 (3 * (k + 1) - 1) then _ else _) else _) = _
      rw [show 3 * (k + 1) - 2 = 3 * k + 1 by omega, show 3 * (k + 1) - 1 = 3 * k + 2 by omega, hM.svd ho (k + 1) hk, hM.svr ho (k + 1) hk, hM.svd ho k (by omega), hM.svr ho k (by omega)]
      by_cases c1 : A.svd (k + 1) = A.svd k
      · rw [if_pos (by rw [c1]), decide_eq_true c1]
        by_cases c2 : A.svr (k + 1) = A.svr k
        · rw [if_pos (by rw [c2]), decide_eq_true c2]; rfl
        · rw [if_neg (fun q => c2 ((nI_eq (by omega) (by omega)).mp q)), decide_eq_false c2]; rfl
      · rw [if_neg (fun q => c1 ((nI_eq (by omega) (by omega)).mp q)), decide_eq_false c1]; rfl
theorem cm_runNow (h0 : ps_wf A) (ho : A.on = true) (hM : ps_MX A I) : fX10_runNow 290 (I, L, px_R t v w) = some (nI (ps_ru A A.C.sv (ps_onN A.W A.C A.C.sv 0) A.C.pl), (I, L, px_R t v w)) := by
  have hpl := ps_pl_le h0 ho
  have w0 := h0.C ho
  have hsv := w0.sv
  have hon := ps_onN_six (h0.W ho) w0 hsv 0 (by omega)
  have hz := (h0.W ho).size _ hsv
  have hct : fX10_court 290 (nI A.C.sv) (nI (0 + 1)) (I, L, px_R t v w) = some (nI (ps_onN A.W A.C A.C.sv 0), (I, L, px_R t v w)) := by
    rw [cm_court (A := A) (hM.C ho) hsv (by omega), ps_onN_eq w0 hsv]
  have key : ∀ n, n ≤ A.C.pl → ∀ f x, n < f → fX10_runNow_12 f 290 (nI x) (nI n - 1) (I, L, px_R t v w) = some (nI (x + ps_ru A A.C.sv (ps_onN A.W A.C A.C.sv 0) n), (I, L, px_R t v w)) := by
    intro n
    induction n with
    | zero =>
      intro _ f x hf
      obtain ⟨f, rfl⟩ : ∃ f', f = f' + 1 := ⟨f - 1, by omega⟩
      rw [fX10_runNow_12, if_pos (by decide)]; rfl
    | succ n ih =>
      intro hn f x hf
      obtain ⟨f, rfl⟩ : ∃ f', f = f' + 1 := ⟨f - 1, by omega⟩
      have b1 := h0.had ho n (by omega)
      have b2 := h0.svd ho n (by omega)
      have b3 := h0.svr ho n (by omega)
      rw [fX10_runNow_12, nI_pred, if_neg (nI_pos (by omega)), cm_own h0 ho hM (by omega), pb_2, ps_ru]
      unfold fX10_runNow_71 fX10_runNow_72
      have no : ¬ (A.had n = A.C.sv ∧ A.svd n = A.C.sv ∧ A.svr n = ps_onN A.W A.C A.C.sv 0) → some (nI x, (I, L, px_R t v w)) = some (nI (x + if A.had n = A.C.sv ∧ A.svd n = A.C.sv ∧ A.svr n = ps_onN A.W A.C A.C.sv 0 then ps_ru A A.C.sv (ps_onN A.W A.C A.C.sv 0) n + 1 else 0), (I, L, px_R t v w)) := fun c => by rw [if_neg c]; rfl
      cases eo : ps_own A n with
      | false =>
        rw [if_pos (by decide), if_pos (show (0 : Int32) = 0 from rfl)]
        refine no (fun q => ?_)
        have := of_decide_eq_false eo
        exact this (by rw [q.1, q.2.1])
      | true =>
        have eo := of_decide_eq_true eo
        rw [if_neg (by decide), show (3 : Int32) = nI 3 from rfl, show (1 : Int32) = nI 1 from rfl, show (2 : Int32) = nI 2 from rfl, pk_mul, nI_add, nI_add, pg_pos (pi_in (by omega) (by omega)), pg_pos (pi_in (by omega) (by omega)), pi_ix (n := 3 * n + 1) (by omega), pi_ix (n := 3 * n + 2) (by omega), show (I, L, px_R t v w).1 ((I, L, px_R t v w).2.2 290 23) (3 * n + 1) = nI (A.svd n) from hM.svd ho n (by omega), show (I, L, px_R t v w).1 ((I, L, px_R t v w).2.2 290 23) (3 * n + 2) = nI (A.svr n) from hM.svr ho n (by omega), show (I, L, px_R t v w).1 ((I, L, px_R t v w).2.2 290 20) (fx_ix (nI 2)) = nI A.C.sv from (hM.C ho).sv, show nI 1 = nI (0 + 1) from rfl, hct, pb_2]
        by_cases c1 : A.svd n = A.C.sv
        · rw [if_pos (by rw [c1])]
          by_cases c2 : A.svr n = ps_onN A.W A.C A.C.sv 0
          · rw [if_pos (by rw [c2]), if_neg (show ¬ nI (0 + 1) = 0 by decide), pl_let, pl_let, show nI (0 + 1) = (1 : Int32) from rfl, nI_1, ← Int32.sub_eq_add_neg, ih (by omega) f (x + 1) (by omega), if_pos ⟨by rw [eo, c1], c1, c2⟩]
            congr 3; omega
          · rw [if_neg (fun q => c2 ((nI_eq (by omega) (by omega)).mp q)), if_pos (show (0 : Int32) = 0 from rfl)]
            exact no (fun q => c2 q.2.2)
        · rw [if_neg (fun q => c1 ((nI_eq (by omega) (by omega)).mp q)), if_pos (show (0 : Int32) = 0 from rfl)]
          exact no (fun q => c1 q.2.1)
  unfold fX10_runNow
  rw [pl_let, show (I, L, px_R t v w).1 ((I, L, px_R t v w).2.2 290 20) (fx_ix 119) = nI A.C.pl from (hM.C ho).pl]
  have := key A.C.pl (Nat.le_refl _) fx_N 0 (by unfold fx_N; omega)
  rw [Nat.zero_add] at this
  exact this
def ps_ri (b : Nat × Option Nat) : Int32 := match b.2 with | none => -2 | some i => nI i
theorem cm_run (h0 : ps_wf A) (hM : ps_MX A I) (a : Int32) : ∃ J, ps_fm (hp_u I 290 0 0) J ∧ fX10_run 290 a (I, L, px_R t v w) = some (sp_run A a, (J, L, px_R t v w)) := by
  unfold fX10_run sp_run
  rw [pl_let]
  have hM := hM.flag (z := 0)
  show ∃ J, _ ∧ (if hp_u I 290 0 0 290 7 = 0 then some (-1, (hp_u I 290 0 0, L, px_R t v w)) else if a < 0 then some (-1, (hp_u I 290 0 0, L, px_R t v w)) else if a ≤ 4 then (if a = 0 then fx_b2 (fX10_runNow 290 (hp_u I 290 0 0, L, px_R t v w)) _ else if a = 1 then fx_b2 (fX10_court 290 (hp_u I 290 0 0 298 2) 1 (hp_u I 290 0 0, L, px_R t v w)) _ else fX10_run_60 fx_N 290 a 0 (-2) 0 0 (hp_u I 290 0 0, L, px_R t v w)) else some (-1, (hp_u I 290 0 0, L, px_R t v w))) = _
  generalize hp_u I 290 0 0 = I at hM ⊢
  refine ⟨I, ps_fm.refl I, ?_⟩
  rw [hM.on]
  cases ho : A.on with
  | false => simp
  | true =>
    rw [if_neg (by decide)]
    by_cases c1 : a < 0
    · rw [if_pos c1, if_pos (Or.inr (Or.inl c1))]
    rw [if_neg c1]
    by_cases c2 : a ≤ 4
    · rw [if_pos c2, if_neg (show ¬ (true = false ∨ a < 0 ∨ ¬ a ≤ 4) from fun q => q.elim (fun z => nomatch z) (fun z => z.elim c1 (fun y => y c2)))]
      have w0 := h0.C ho
      have hsv := w0.sv
      have hpl := ps_pl_le h0 ho
      by_cases d0 : a = 0
      · rw [if_pos d0, if_pos d0, cm_runNow h0 ho hM, pb_2]
      rw [if_neg d0, if_neg d0]
      by_cases d1 : a = 1
      · rw [if_pos d1, if_pos d1, (hM.C ho).sv, show (1 : Int32) = nI (0 + 1) from rfl, cm_court (A := A) (hM.C ho) hsv (by omega), pb_2, ps_onN_eq w0 hsv]
      rw [if_neg d1, if_neg d1]
      have hc2 : ∀ n, fX10_run_60 (n + 1) 290 a (nI (ps_rb A A.C.pl).1) (ps_ri (ps_rb A A.C.pl)) (if A.C.pl = 0 then 0 else nI (ps_rk2 A (A.C.pl - 1))) (nI A.C.pl) (I, L, px_R t v w) = some (if a = 2 then nI (ps_rb A A.C.pl).1 else match (ps_rb A A.C.pl).2 with | none => -2 | some i => if a = 3 then nI (A.svr i) else nI (A.svd i), (I, L, px_R t v w)) := by
        intro n
        rw [fX10_run_60, show (I, L, px_R t v w).1 ((I, L, px_R t v w).2.2 290 20) (fx_ix 119) = nI A.C.pl from (hM.C ho).pl, if_pos (nI_le (Nat.le_refl _) (by omega))]
        refine pq_if rfl ?_
        obtain ⟨r1, r2, r3⟩ := ps_rb_pos A A.C.pl
        unfold ps_ri
        cases ek : (ps_rb A A.C.pl).2 with
        | none => rfl
        | some i =>
          have hi := (r2 i ek).2
          show (if nI i = -2 then _ else _) = some (if a = 3 then nI (A.svr i) else nI (A.svd i), _)
          rw [if_neg (nI_ne_m2 (by omega)), show (3 : Int32) * nI i = nI (3 * i) from pk_mul 3 i, show nI (3 * i) + (2 : Int32) = nI (3 * i + 2) from nI_add _ 2, nI_1, pg_pos (pi_in (by omega) (by omega)), pg_pos (pi_in (by omega) (by omega)), pi_ix (n := 3 * i + 2) (by omega), pi_ix (n := 3 * i + 1) (by omega), show (I, L, px_R t v w).1 ((I, L, px_R t v w).2.2 290 23) (3 * i + 2) = nI (A.svr i) from hM.svr ho i hi, show (I, L, px_R t v w).1 ((I, L, px_R t v w).2.2 290 23) (3 * i + 1) = nI (A.svd i) from hM.svd ho i hi]
          exact pq_if rfl rfl
      obtain ⟨x, hx, e⟩ := pf_loop (S := Int32 × Int32 × Int32) (fun n i x => fX10_run_60 n 290 a x.1 x.2.1 x.2.2 (nI i) (I, L, px_R t v w)) (fun x => some (if a = 2 then nI (ps_rb A A.C.pl).1 else match (ps_rb A A.C.pl).2 with | none => -2 | some i => if a = 3 then nI (A.svr i) else nI (A.svd i), (I, L, px_R t v w)))
        (fun i x => x = (nI (ps_rb A i).1, ps_ri (ps_rb A i), if i = 0 then 0 else nI (ps_rk2 A (i - 1)))) A.C.pl (by
          rintro n x rfl
          exact hc2 n) (by
          rintro n i x hi rfl
          refine ⟨_, rfl, ?_⟩
          show fX10_run_60 (n + 1) _ _ _ _ _ (nI i) _ = fX10_run_60 n _ _ _ _ _ (nI (i + 1)) _
          obtain ⟨r1, r2, r3⟩ := ps_rb_pos A i
          have hle := ps_ru_le A (A.svd i) (A.svr i) (i + 1)
          rw [fX10_run_60, show (I, L, px_R t v w).1 ((I, L, px_R t v w).2.2 290 20) (fx_ix 119) = nI A.C.pl from (hM.C ho).pl, if_neg (nI_ge hi (by omega)), cm_own h0 ho hM hi, pb_2, cm_gor h0 ho hM hi, pb_2]
          have fin : fX10_run_102 (fX10_run_60 n) 290 a (nI (ps_rb A i).1) (ps_ri (ps_rb A i)) (nI i) (nI (ps_rk2 A i)) (I, L, px_R t v w) = fX10_run_60 n 290 a (nI (ps_rb A (i + 1)).1) (ps_ri (ps_rb A (i + 1))) (if i + 1 = 0 then 0 else nI (ps_rk2 A (i + 1 - 1))) (nI (i + 1)) (I, L, px_R t v w) := by
            unfold fX10_run_102 fX10_run_119
            have em : ps_ru A (A.svd i) (A.svr i) (i + 1) = ps_rk2 A i := rfl
            rw [em] at hle
            rw [pl_let, pl_let, nI_1, if_neg (show ¬ i + 1 = 0 by omega), show i + 1 - 1 = i from rfl, ps_rb]
            by_cases c : (ps_rb A i).1 < ps_rk2 A i
            · rw [if_pos (nI_lt c (by omega)), if_pos c]; rfl
            · rw [if_neg (nI_nlt (by omega) (by omega)), if_neg c]
          rw [← fin]
          rw [ps_rk2_eq A i]
          cases eo : ps_own A i with
          | false => rw [if_pos (by decide), if_pos rfl]; rfl
          | true =>
            rw [if_neg (by decide), if_neg (show ¬ (true = false) by decide)]
            cases eg : ps_gr A i with
            | false => rw [if_pos (by decide), if_neg (show ¬ (false = true) by decide)]; rfl
            | true =>
              have hi0 : i ≠ 0 := by
                intro q; subst q; unfold ps_gr at eg; simp at eg
              rw [if_neg (by decide), if_pos rfl, if_neg hi0, nI_1]) A.C.pl 0 fx_N (0, -2, 0) (by omega) (by unfold fx_N; omega) rfl
      exact e
    · rw [if_neg c2, if_pos (Or.inr (Or.inr c2))]
end PSF35
