/-! ===== streak ===== -/
def sp_streak (A : ps_A) (a b : Int32) : Int32 := if ps_sd A a && (decide (0 ≤ b) && decide (b ≤ nI (if ps_over A then 0 else A.W.pts - A.C.sc a.toNatClampNeg))) then nI (ps_stv A.W A.C.six a.toNatClampNeg A.C.sv b.toNatClampNeg) else -1
section PSF13
variable {t v w : Bool} {A : ps_A} {I : Nat → Nat → Int32} {L : Nat → Nat → Int64}
theorem cm_streak76 (w1 : ps_wfW A.W) (hW : ps_MW I A.W) {q : Nat → Nat → Nat} (hq : ∀ s, s < 2 → ps_six A.W s (q s)) (hS : ps_S I q) {s sv m : Nat} (hs : s < 2) (hsv : sv < 2) (hm : m ≤ 25) :
    fX10_streak_76 fx_N 290 (nI s) (nI m) 1000000 0 (nI sv) 0 (I, L, px_R t v w) = some (nI (ps_stv A.W q s sv m), (I, L, px_R t v w)) := by
  obtain ⟨x, hx, e⟩ := pf_loop (S := Int64 × Int32 × Int32) (fun n i x => fX10_streak_76 n 290 (nI s) (nI m) x.1 x.2.1 x.2.2 (nI i) (I, L, px_R t v w)) (fun x => some (Int64.toInt32 x.1, (I, L, px_R t v w)))
    (fun i x => x = (lN (ps_stv A.W q s sv i), nI (ps_tn s sv i), nI (ps_se s sv i))) m (by
      intro n x _
      show fX10_streak_76 (n + 1) _ _ _ _ _ _ (nI m) _ = _
      rw [fX10_streak_76, if_pos (nI_le (Nat.le_refl _) (by omega))]) (by
      rintro n i x hi rfl
      refine ⟨_, rfl, ?_⟩
      show fX10_streak_76 (n + 1) _ _ _ _ _ _ (nI i) _ = fX10_streak_76 n _ _ _ _ _ _ (nI (i + 1)) _
      have hse : ps_se s sv i < 2 := by unfold ps_se; split <;> omega
      have htn : ps_tn s sv i < 2 := by unfold ps_tn; split <;> omega
      have hch := ps_ch_le A.W q (if s = 0 then ps_tn s sv i else 0) (if s = 0 then 0 else ps_tn s sv i) (ps_se s sv i)
      have hst := ps_stv_le A.W q s sv i
      rw [fX10_streak_76, if_neg (nI_ge hi (by omega))]
      unfold fX10_streak_93 fX10_streak_104
      have e1 : ∀ (k : Int32 → hp_T → Option (Int32 × hp_T)), (if nI s = 0 then (if nI s = 1 then fx_b2 (fX10_chanceOf 290 (nI (ps_tn s sv i)) (nI (ps_tn s sv i)) (nI (ps_se s sv i)) (I, L, px_R t v w)) k else fx_b2 (fX10_chanceOf 290 (nI (ps_tn s sv i)) 0 (nI (ps_se s sv i)) (I, L, px_R t v w)) k) else (if nI s = 1 then fx_b2 (fX10_chanceOf 290 0 (nI (ps_tn s sv i)) (nI (ps_se s sv i)) (I, L, px_R t v w)) k else fx_b2 (fX10_chanceOf 290 0 0 (nI (ps_se s sv i)) (I, L, px_R t v w)) k)) = k (nI (ps_stc A.W q s sv i)) (I, L, px_R t v w) := by
        intro k
        unfold ps_stc
        rcases (show s = 0 ∨ s = 1 by omega) with rfl | rfl
        · rw [if_pos (show nI 0 = 0 from rfl), if_neg (show ¬ nI 0 = 1 by decide), show (0 : Int32) = nI 0 from rfl, cm_chanceOf w1 hW hq hS (by omega) (by omega) hse, pb_2]; rfl
        · rw [if_neg (show ¬ nI 1 = 0 by decide), if_pos (show nI 1 = 1 from rfl), show (0 : Int32) = nI 0 from rfl, cm_chanceOf w1 hW hq hS (by omega) (by omega) hse, pb_2]; rfl
      rw [e1]
      have hst2 : ps_stc A.W q s sv i ≤ 950 := hch.2
      unfold fX10_streak_130 fX10_streak_151
      rw [show (1000 : Int32) = nI 1000 from rfl, pk_sub (by omega), nI_l (by omega), nI_l (by omega), show (1000 : Int64) = lN 1000 from rfl, lN_mul, lN_mul, pk_lDiv (Nat.lt_of_le_of_lt (Nat.mul_le_mul hst (show _ ≤ 1000 by omega)) (by omega)) (by omega) (by omega), pk_lDiv (Nat.lt_of_le_of_lt (Nat.mul_le_mul hst (show _ ≤ 1000 by omega)) (by omega)) (by omega) (by omega)]
      have z0 : ∀ x : Nat, nI x + 0 = nI x := fun x => by rw [show (0 : Int32) = nI 0 from rfl, nI_add]; rfl
      simp only [pl_let, nI_1, z0]
      rw [ps_stv]
      by_cases c : ps_se s sv i = s
      · rw [if_pos (by rw [c]), if_pos (by rw [c]), if_pos c]
        have t1 : ps_tn s sv (i + 1) = ps_tn s sv i := by
          unfold ps_tn ps_se at *
          by_cases z : i = 0
          · rw [if_pos z] at c; rw [if_pos (Or.inl z), if_pos (Or.inr c)]
          · by_cases y : sv = s
            · rw [if_pos (Or.inr y), if_pos (Or.inr y)]
            · rw [if_neg (by omega), if_neg (by omega)]
        rw [t1, show ps_se s sv (i + 1) = s from rfl]
      · rw [if_neg (fun y => c ((nI_eq (by omega) (by omega)).mp y)), if_neg (fun y => c ((nI_eq (by omega) (by omega)).mp y)), if_neg c]
        have t1 : ps_tn s sv (i + 1) = ps_tn s sv i + 1 := by
          unfold ps_tn ps_se at *
          by_cases z : i = 0
          · rw [if_pos z] at c; rw [if_neg (by omega), if_pos (Or.inl z)]
          · rw [if_neg z] at c; exact absurd rfl c
        rw [t1, show ps_se s sv (i + 1) = s from rfl]) m 0 fx_N (1000000, 0, nI sv) (by omega) (by unfold fx_N; omega) (by
      have h1 : ps_tn s sv 0 = 0 := by unfold ps_tn; rw [if_pos (Or.inl rfl)]
      rw [h1, show ps_se s sv 0 = sv from rfl]; rfl)
  rw [hx] at e
  have e' : fX10_streak_76 fx_N 290 (nI s) (nI m) 1000000 0 (nI sv) 0 (I, L, px_R t v w) = some ((lN (ps_stv A.W q s sv m)).toInt32, (I, L, px_R t v w)) := e
  rw [e', lN_i]
theorem ps_str_m (h0 : ps_wf A) (ho : A.on = true) {s : Nat} (hs : s < 2) {b : Int32} (h1 : ¬ b < 0) (h2 : b ≤ nI (if ps_over A then 0 else A.W.pts - A.C.sc s)) : ∃ m, m ≤ 25 ∧ b = nI m := by
  obtain ⟨j, hj, rfl⟩ := nI_of h1
  have := (h0.W ho).p25
  have h3 : (if ps_over A = true then 0 else A.W.pts - A.C.sc s) ≤ 25 := by split <;> omega
  rw [nI_leI hj (by omega)] at h2
  exact ⟨j, by omega, rfl⟩
theorem cx_streak (h0 : ps_wf A) (hX : ps_RX t A I) (a b : Int32) : ∃ J, ps_fx I J ∧ fX9_streak 0 a b (I, L, px_R t v w) = some (sp_streak A a b, (J, L, px_R t v w)) := by
  unfold fX9_streak sp_streak
  rw [cx_side hX, pb_2]
  cases e : ps_sd A a with
  | false => exact ⟨I, ps_fx.refl I, rfl⟩
  | true =>
    obtain ⟨ho, s, hs, rfl⟩ := ps_sd_of e
    have w0 := h0.C ho
    rw [if_neg (by decide), nI_clamp (n := s) (by omega)]
    by_cases c1 : 0 ≤ b
    · rw [if_pos c1, decide_eq_true c1, cx_over w0 (h0.W ho) (hX.C ho) (hX.W ho), pb_2]
      have key : ∃ J, ps_fx I J ∧ fX9_streak_44 0 (nI s) b (nI (if ps_over A then 0 else A.W.pts - A.C.sc s)) (I, L, px_R t v w) = some (if true && (true && decide (b ≤ nI (if ps_over A then 0 else A.W.pts - A.C.sc s))) then nI (ps_stv A.W A.C.six s A.C.sv b.toNatClampNeg) else -1, (J, L, px_R t v w)) := by
        unfold fX9_streak_44
        by_cases c2 : b ≤ nI (if ps_over A then 0 else A.W.pts - A.C.sc s)
        · rw [if_pos c2, decide_eq_true c2]
          obtain ⟨m, hm, rfl⟩ := ps_str_m h0 ho hs (Int32.not_lt.mpr c1) c2
          obtain ⟨J, j1, j2, j3⟩ := cx_weighNow (L := L) (v := v) (w := w) h0 ho hX
          refine ⟨J, ps_fx.of (fun a ha _ _ => j2 a ha), ?_⟩
          rw [j3, pb_1]
          show fx_b2 (fX4_streakOf 3 _ _ (J 22 2) _) _ = _
          rw [j2 22 (by omega), (hX.C ho).sv, cx_streakOf (h0.W ho) (fun s hs => w0.six s hs) j1 hs w0.sv hm, pb_2, nI_clamp (n := m) (by omega)]
          rfl
        · rw [if_neg c2, decide_eq_false c2]
          exact ⟨I, ps_fx.refl I, rfl⟩
      cases eo : ps_over A with
      | true => rw [eo] at key; exact key
      | false =>
        rw [eo] at key
        rw [if_pos (by decide), show (I, L, px_R t v w).2.2 0 3 = 22 from rfl, cx_team hs, pb_2]
        show ∃ J, _ ∧ fX9_streak_44 0 (nI s) b (I (ps_T t) 2 - I (22 + 5 * s + 1) 8) _ = _
        rw [(hX.W ho).pts, (hX.C ho).sc s hs, pk_sub (w0.sc s hs)]
        exact key
    · rw [if_neg c1, decide_eq_false c1]
      exact ⟨I, ps_fx.refl I, rfl⟩
theorem cm_streak (h0 : ps_wf A) (hM : ps_MX A I) (a b : Int32) : ∃ J, ps_fm (hp_u I 290 0 0) J ∧ fX10_streak 290 a b (I, L, px_R t v w) = some (sp_streak A a b, (J, L, px_R t v w)) := by
  unfold fX10_streak sp_streak
  rw [pl_let]
  have hM := hM.flag (z := 0)
  show ∃ J, _ ∧ fx_b2 (fX10_isSide 290 a (hp_u I 290 0 0, L, px_R t v w)) _ = _
  generalize hp_u I 290 0 0 = I at hM ⊢
  rw [cm_side hM, pb_2]
  cases e : ps_sd A a with
  | false => exact ⟨I, ps_fm.refl I, rfl⟩
  | true =>
    obtain ⟨ho, s, hs, rfl⟩ := ps_sd_of e
    have w0 := h0.C ho
    rw [if_neg (by decide), nI_clamp (n := s) (by omega)]
    by_cases c1 : 0 ≤ b
    · rw [if_pos c1, decide_eq_true c1, cm_over w0 (h0.W ho) (hM.C ho) (hM.W ho), pb_2]
      have key : ∃ J, ps_fm I J ∧ fX10_streak_45 290 (nI s) b (nI (if ps_over A then 0 else A.W.pts - A.C.sc s)) (I, L, px_R t v w) = some (if true && (true && decide (b ≤ nI (if ps_over A then 0 else A.W.pts - A.C.sc s))) then nI (ps_stv A.W A.C.six s A.C.sv b.toNatClampNeg) else -1, (J, L, px_R t v w)) := by
        unfold fX10_streak_45
        by_cases c2 : b ≤ nI (if ps_over A then 0 else A.W.pts - A.C.sc s)
        · rw [if_pos c2, decide_eq_true c2]
          obtain ⟨m, hm, rfl⟩ := ps_str_m h0 ho hs (Int32.not_lt.mpr c1) c2
          obtain ⟨J, j1, j2, j3⟩ := cm_takesLines (L := L) (t := t) (v := v) (w := w) h0 ho hM
          have fm : ps_fm I J := fun a ha => j2 a (by omega)
          refine ⟨J, fm, ?_⟩
          rw [j3, pb_1, pl_let]
          show fX10_streak_76 fx_N 290 _ _ _ _ (J 298 2) _ _ = _
          rw [j2 298 (by omega), (hM.C ho).sv, cm_streak76 (h0.W ho) ((hM.fm fm).W ho) (fun s hs => w0.six s hs) j1 hs w0.sv hm, nI_clamp (n := m) (by omega)]
          rfl
        · rw [if_neg c2, decide_eq_false c2]
          exact ⟨I, ps_fm.refl I, rfl⟩
      cases eo : ps_over A with
      | true => rw [eo] at key; exact key
      | false =>
        rw [eo] at key
        rw [if_pos (by decide), show (0 : Int32) = nI 0 from rfl, nI_add, Nat.zero_add, pg_pos (pi_in (by omega) (by omega)), pi_ix (n := s) (by omega)]
        show ∃ J, _ ∧ fX10_streak_45 290 (nI s) b (I 292 0 - I 298 s) _ = _
        rw [(hM.W ho).pts, (hM.C ho).sc s hs, pk_sub (w0.sc s hs)]
        exact key
    · rw [if_neg c1, decide_eq_false c1]
      exact ⟨I, ps_fm.refl I, rfl⟩
end PSF13
