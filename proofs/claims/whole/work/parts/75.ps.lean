/-! ===== table, safe, saddle, reply of the reference ===== -/
theorem ps_bx_t (g : Nat → Int32) (i : Nat) : ps_bx g true (i + 1) = if g (ps_bx g true i) < g (i + 1) then i + 1 else ps_bx g true i := by
  rw [ps_bx]; simp only [if_true]
theorem ps_bx_f (g : Nat → Int32) (i : Nat) : ps_bx g false (i + 1) = if g (i + 1) < g (ps_bx g false i) then i + 1 else ps_bx g false i := by
  rw [ps_bx]; simp only [Bool.false_eq_true, if_false]
section PSF25
variable {t v w : Bool} {A : ps_A} {I : Nat → Nat → Int32} {L : Nat → Nat → Int64}
theorem cm_laysTable (h0 : ps_wf A) (ho : A.on = true) (hM : ps_MX A I) : ∃ J, ps_lv J A A.W.start ∧ ps_fm I J ∧ fX10_laysTable 290 (I, L, px_R t v w) = some (J, L, px_R t v w) := by
  unfold fX10_laysTable
  obtain ⟨J, j1, j2, j3⟩ := cm_takesStart (A := A) (L := L) (t := t) (v := v) (w := w) (hM.W ho)
  have fm : ps_fm I J := fun a ha => j2 a (by omega)
  obtain ⟨H, k1, k2, k3⟩ := cm_laysValues (I := J) (L := L) (t := t) (v := v) (w := w) (h0.W ho) ((hM.fm fm).W ho) (ps_st_six h0 ho) j1
  refine ⟨H, k1, fm.trans (fun a ha => k2 a (by omega) (by omega)), ?_⟩
  rw [j3, pb_1, k3, pb_1]
theorem cm_tableAtq (w1 : ps_wfW A.W) {q : Nat → Nat → Nat} (hf : I 292 3 = nI A.W.fst) (hl : ps_lv I A q) {r s : Nat} (hr : r < 6) (hs : s < 6) : fX10_tableAt 290 (nI r) (nI s) (I, L, px_R t v w) = some (nI (ps_V (ps_ch A.W q) A.W.pts A.W.pts r s A.W.fst), (I, L, px_R t v w)) := by
  have := w1.fst
  unfold fX10_tableAt
  show fx_b2 (fX10_at (nI 0) (nI 0) _ _ (I 292 3) _) _ = _
  rw [hf, cm_at, pb_2, pg_pos (pi_in (by omega) (by omega)), pi_ix (by omega)]
  show some (I 302 _, _) = _
  rw [hl 0 0 r s A.W.fst (by omega) (by omega) hr hs w1.fst]; rfl
theorem cm_tableAt (h0 : ps_wf A) (ho : A.on = true) (hM : ps_MX A I) (hl : ps_lv I A A.W.start) {r s : Nat} (hr : r < 6) (hs : s < 6) : fX10_tableAt 290 (nI r) (nI s) (I, L, px_R t v w) = some (ps_tb A r s, (I, L, px_R t v w)) := by
  rw [cm_tableAtq (h0.W ho) (hM.W ho).fst hl hr hs]; rfl
theorem cm_table (h0 : ps_wf A) (hM : ps_MX A I) (a b : Int32) : ∃ J, ps_fm (hp_u I 290 0 0) J ∧ fX10_table 290 a b (I, L, px_R t v w) = some (sp_table A a b, (J, L, px_R t v w)) := by
  unfold fX10_table sp_table
  rw [pl_let]
  have hM := hM.flag (z := 0)
  show ∃ J, _ ∧ fx_b2 (fX10_isTurn 290 a (hp_u I 290 0 0, L, px_R t v w)) _ = _
  generalize hp_u I 290 0 0 = I at hM ⊢
  rw [cm_turns hM, pb_2]
  cases ho : A.on with
  | false => exact ⟨I, ps_fm.refl I, rfl⟩
  | true =>
    cases e1 : ps_tu a with
    | false => exact ⟨I, ps_fm.refl I, rfl⟩
    | true =>
      rw [if_neg (by decide), cm_turns hM, pb_2, ho]
      cases e2 : ps_tu b with
      | false => exact ⟨I, ps_fm.refl I, rfl⟩
      | true =>
        obtain ⟨r, hr, rfl⟩ := ps_tu_of e1
        obtain ⟨s, hs, rfl⟩ := ps_tu_of e2
        obtain ⟨J, j1, j2, j3⟩ := cm_laysTable (L := L) (t := t) (v := v) (w := w) h0 ho hM
        refine ⟨J, j2, ?_⟩
        rw [if_neg (by decide), j3, pb_1, cm_tableAt h0 ho (hM.fm j2) j1 hr hs, pb_2, nI_clamp (n := r) (by omega), nI_clamp (n := s) (by omega)]; rfl
theorem cm_worstOf (h0 : ps_wf A) (ho : A.on = true) (hM : ps_MX A I) (hl : ps_lv I A A.W.start) {s k : Nat} (hs : s < 2) (hk : k < 6) : fX10_worstOf 290 (nI s) (nI k) (I, L, px_R t v w) = some (ps_sg A s k, (I, L, px_R t v w)) := by
  have at5 : ∀ x : Int32, x = ps_to A s k 0 → fX10_worstOf_23 fx_N 290 (nI s) (nI k) x 1 (I, L, px_R t v w) = some (ps_sg A s k, (I, L, px_R t v w)) := by
    intro x0 hx0
    obtain ⟨x, hx, e⟩ := pf_loop (S := Int32) (fun n i x => fX10_worstOf_23 n 290 (nI s) (nI k) x (nI (i + 1)) (I, L, px_R t v w)) (fun x => some (x, (I, L, px_R t v w))) (fun i x => x = ps_wr A s k i) 5 (by
      intro n x _
      show fX10_worstOf_23 (n + 1) _ _ _ _ (nI 6) _ = _
      rw [fX10_worstOf_23, if_pos (by decide)]) (by
      rintro n i x hi rfl
      refine ⟨_, rfl, ?_⟩
      show fX10_worstOf_23 (n + 1) _ _ _ _ (nI (i + 1)) _ = fX10_worstOf_23 n _ _ _ _ (nI (i + 1 + 1)) _
      rw [fX10_worstOf_23, if_neg (show ¬ (6 : Int32) ≤ nI (i + 1) from nI_ge (b := 6) (by omega) (by omega)), cm_tableAt h0 ho hM hl hk (by omega), pb_2, cm_tableAt h0 ho hM hl (show i + 1 < 6 by omega) hk, pb_2]
      unfold fX10_worstOf_51 fX10_worstOf_72
      simp only [pl_let, nI_1]
      rw [ps_wr]
      unfold ps_to
      rcases (show s = 0 ∨ s = 1 by omega) with rfl | rfl
      · rw [if_pos (show nI 0 = 0 from rfl), if_pos (show nI 0 = 0 from rfl), if_pos (show 0 = 0 from rfl), if_pos (show 0 = 0 from rfl)]
      · rw [if_neg (show ¬ nI 1 = 0 by decide), if_neg (show ¬ nI 1 = 0 by decide), if_neg (show ¬ 1 = 0 by decide), if_neg (show ¬ 1 = 0 by decide)]) 5 0 fx_N x0 (by omega) (by unfold fx_N; omega) hx0
    rw [hx, ps_sg_eq] at e
    exact e
  unfold fX10_worstOf fX10_worstOf_19
  rw [show (0 : Int32) = nI 0 from rfl, cm_tableAt h0 ho hM hl hk (by omega), pb_2, cm_tableAt h0 ho hM hl (show 0 < 6 by omega) hk, pb_2]
  rcases (show s = 0 ∨ s = 1 by omega) with rfl | rfl
  · rw [if_pos (show nI 0 = nI 0 from rfl), at5 _ (by unfold ps_to; rw [if_pos rfl])]
  · rw [if_neg (show ¬ nI 1 = nI 0 by decide), at5 _ (by unfold ps_to; rw [if_neg (by decide)])]
theorem cm_safeOf (h0 : ps_wf A) (ho : A.on = true) (hM : ps_MX A I) (hl : ps_lv I A A.W.start) {s : Nat} (hs : s < 2) : fX10_safeOf 290 (nI s) (I, L, px_R t v w) = some (nI (ps_sx A s), (I, L, px_R t v w)) := by
  unfold fX10_safeOf ps_sx
  obtain ⟨x, hx, e⟩ := pf_loop (S := Nat) (fun n i x => fX10_safeOf_4 n 290 (nI s) (nI x) (nI (i + 1)) (I, L, px_R t v w)) (fun x => some (nI x, (I, L, px_R t v w))) (fun i x => x = ps_bx (ps_sg A s) (decide (s = 0)) i) 5 (by
    intro n x _
    show fX10_safeOf_4 (n + 1) _ _ _ (nI 6) _ = _
    rw [fX10_safeOf_4, if_pos (by decide)]) (by
    rintro n i x hi rfl
    refine ⟨_, rfl, ?_⟩
    show fX10_safeOf_4 (n + 1) _ _ _ (nI (i + 1)) _ = fX10_safeOf_4 n _ _ _ (nI (i + 1 + 1)) _
    have hb := ps_bx_le (ps_sg A s) (decide (s = 0)) i
    have hwi := cm_worstOf (L := L) (t := t) (v := v) (w := w) h0 ho hM hl hs (show i + 1 < 6 by omega)
    have hwb := cm_worstOf (L := L) (t := t) (v := v) (w := w) h0 ho hM hl hs (show ps_bx (ps_sg A s) (decide (s = 0)) i < 6 by omega)
    rw [fX10_safeOf_4, if_neg (show ¬ (6 : Int32) ≤ nI (i + 1) from nI_ge (b := 6) (by omega) (by omega))]
    unfold fX10_safeOf_57 fX10_safeOf_69
    simp only [pl_let, nI_1, if_neg (show ¬ (1 : Int32) = 0 by decide), if_true]
    rcases (show s = 0 ∨ s = 1 by omega) with rfl | rfl
    · rw [show decide (0 = 0) = true from rfl] at hwb ⊢
      rw [show nI 0 = (0 : Int32) from rfl] at hwi hwb ⊢
      rw [if_pos rfl, hwi, pb_2, hwb, pb_2, ps_bx_t]
      generalize ps_bx (ps_sg A 0) true i = b
      generalize ps_sg A 0 (i + 1) = y1
      generalize ps_sg A 0 b = y2
      by_cases c : y2 < y1
      · rw [if_neg (Int32.not_le.mpr c), if_pos c]
      · rw [if_pos (Int32.not_lt.mp c), if_neg c]
    · rw [show decide (1 = 0) = false from rfl] at hwb ⊢
      rw [show nI 1 = (1 : Int32) from rfl] at hwi hwb ⊢
      rw [if_neg (by decide), hwi, pb_2, hwb, pb_2, ps_bx_f]
      generalize ps_bx (ps_sg A 1) false i = b
      generalize ps_sg A 1 (i + 1) = y1
      generalize ps_sg A 1 b = y2
      by_cases c : y1 < y2
      · rw [if_neg (Int32.not_le.mpr c), if_pos c]
      · rw [if_pos (Int32.not_lt.mp c), if_neg c]) 5 0 fx_N 0 (by omega) (by unfold fx_N; omega) rfl
  rw [hx] at e
  exact e
theorem ps_sx_lt (A : ps_A) (s : Nat) : ps_sx A s < 6 := by
  have := ps_bx_le (ps_sg A s) (decide (s = 0)) 5
  unfold ps_sx; omega
theorem cm_safe (h0 : ps_wf A) (hM : ps_MX A I) (a b : Int32) : ∃ J, ps_fm (hp_u I 290 0 0) J ∧ fX10_safe 290 a b (I, L, px_R t v w) = some (sp_safe A a b, (J, L, px_R t v w)) := by
  unfold fX10_safe sp_safe
  rw [pl_let]
  have hM := hM.flag (z := 0)
  show ∃ J, _ ∧ fx_b2 (fX10_isSide 290 a (hp_u I 290 0 0, L, px_R t v w)) _ = _
  generalize hp_u I 290 0 0 = I at hM ⊢
  rw [cm_side hM, pb_2]
  cases e : ps_sd A a with
  | false => exact ⟨I, ps_fm.refl I, rfl⟩
  | true =>
    rw [if_neg (by decide), ps_01_if]
    cases e1 : ps_01 b with
    | false => exact ⟨I, ps_fm.refl I, rfl⟩
    | true =>
      obtain ⟨ho, s, hs, rfl⟩ := ps_sd_of e
      obtain ⟨J, j1, j2, j3⟩ := cm_laysTable (L := L) (t := t) (v := v) (w := w) h0 ho hM
      refine ⟨J, j2, ?_⟩
      rw [if_pos rfl, j3, pb_1, cm_safeOf h0 ho (hM.fm j2) j1 hs, pb_2, cm_worstOf h0 ho (hM.fm j2) j1 hs (ps_sx_lt A s), pb_2, nI_clamp (n := s) (by omega), if_pos (show (true && true) = true from rfl)]
      generalize ps_sg A s (ps_sx A s) = y
      generalize ps_sx A s = x
      rcases ps_01_of e1 with rfl | rfl <;> rfl
theorem cm_saddle (h0 : ps_wf A) (hM : ps_MX A I) : ∃ J, ps_fm (hp_u I 290 0 0) J ∧ fX10_saddle 290 (I, L, px_R t v w) = some (sp_saddle A, (J, L, px_R t v w)) := by
  unfold fX10_saddle sp_saddle
  rw [pl_let]
  have hM := hM.flag (z := 0)
  show ∃ J, _ ∧ (if hp_u I 290 0 0 290 7 = 0 then some (-1, (hp_u I 290 0 0, L, px_R t v w)) else fx_b1 (fX10_laysTable 290 (hp_u I 290 0 0, L, px_R t v w)) _) = _
  generalize hp_u I 290 0 0 = I at hM ⊢
  rw [hM.on]
  cases ho : A.on with
  | false => exact ⟨I, ps_fm.refl I, rfl⟩
  | true =>
    obtain ⟨J, j1, j2, j3⟩ := cm_laysTable (L := L) (t := t) (v := v) (w := w) h0 ho hM
    refine ⟨J, j2, ?_⟩
    have q0 := cm_safeOf (L := L) (t := t) (v := v) (w := w) h0 ho (hM.fm j2) j1 (s := 0) (by omega)
    have q1 := cm_safeOf (L := L) (t := t) (v := v) (w := w) h0 ho (hM.fm j2) j1 (s := 1) (by omega)
    have u0 := cm_worstOf (L := L) (t := t) (v := v) (w := w) h0 ho (hM.fm j2) j1 (s := 0) (by omega) (ps_sx_lt A 0)
    have u1 := cm_worstOf (L := L) (t := t) (v := v) (w := w) h0 ho (hM.fm j2) j1 (s := 1) (by omega) (ps_sx_lt A 1)
    rw [show nI 0 = 0 from rfl] at q0 u0
    rw [show nI 1 = 1 from rfl] at q1 u1
    rw [if_neg (by decide), j3, pb_1, q0, pb_2, u0, pb_2, q1, pb_2, u1, pb_2, if_neg (show ¬ (true = false) by decide)]
    generalize ps_sg A 0 (ps_sx A 0) = x0
    generalize ps_sg A 1 (ps_sx A 1) = x1
    by_cases c : x0 = x1
    · rw [if_pos c, if_pos c]
    · rw [if_neg c, if_neg c]
theorem cm_reply (h0 : ps_wf A) (hM : ps_MX A I) (a b : Int32) : ∃ J, ps_fm (hp_u I 290 0 0) J ∧ fX10_reply 290 a b (I, L, px_R t v w) = some (sp_reply A a b, (J, L, px_R t v w)) := by
  unfold fX10_reply sp_reply
  rw [pl_let]
  have hM := hM.flag (z := 0)
  show ∃ J, _ ∧ fx_b2 (fX10_isSide 290 a (hp_u I 290 0 0, L, px_R t v w)) _ = _
  generalize hp_u I 290 0 0 = I at hM ⊢
  rw [cm_side hM, pb_2]
  cases e : ps_sd A a with
  | false => exact ⟨I, ps_fm.refl I, rfl⟩
  | true =>
    obtain ⟨ho, s, hs, rfl⟩ := ps_sd_of e
    rw [if_neg (by decide), cm_turns hM, pb_2, ho]
    cases e1 : ps_tu b with
    | false => exact ⟨I, ps_fm.refl I, rfl⟩
    | true =>
      obtain ⟨o, hoo, rfl⟩ := ps_tu_of e1
      obtain ⟨J, j1, j2, j3⟩ := cm_laysTable (L := L) (t := t) (v := v) (w := w) h0 ho hM
      refine ⟨J, j2, ?_⟩
      rw [if_neg (by decide), j3, pb_1, nI_clamp (n := s) (by omega), nI_clamp (n := o) (by omega), if_pos (show (true && true) = true from rfl)]
      have hMJ := hM.fm j2
      obtain ⟨x, hx, e⟩ := pf_loop (S := Nat) (fun n i x => fX10_reply_32 n 290 (nI s) (nI o) (nI x) (nI (i + 1)) (J, L, px_R t v w)) (fun x => some (nI x, (J, L, px_R t v w))) (fun i x => x = ps_bx (fun k => ps_to A s k o) (decide (s = 0)) i) 5 (by
        intro n x _
        show fX10_reply_32 (n + 1) _ _ _ _ (nI 6) _ = _
        rw [fX10_reply_32, if_pos (by decide)]) (by
        rintro n i x hi rfl
        refine ⟨_, rfl, ?_⟩
        show fX10_reply_32 (n + 1) _ _ _ _ (nI (i + 1)) _ = fX10_reply_32 n _ _ _ _ (nI (i + 1 + 1)) _
        have hb := ps_bx_le (fun k => ps_to A s k o) (decide (s = 0)) i
        rw [fX10_reply_32, if_neg (show ¬ (6 : Int32) ≤ nI (i + 1) from nI_ge (b := 6) (by omega) (by omega))]
        unfold fX10_reply_88 fX10_reply_101
        simp only [pl_let, nI_1, if_neg (show ¬ (1 : Int32) = 0 by decide), if_true]
        rcases (show s = 0 ∨ s = 1 by omega) with rfl | rfl
        · rw [show decide (0 = 0) = true from rfl] at hb ⊢
          rw [if_pos (show nI 0 = 0 from rfl), ps_bx_t]
          generalize ps_bx (fun k => ps_to A 0 k o) true i = b at hb ⊢
          rw [cm_tableAt h0 ho hMJ j1 (show i + 1 < 6 by omega) hoo, pb_2, cm_tableAt h0 ho hMJ j1 (show b < 6 by omega) hoo, pb_2, show ps_to A 0 b o = ps_tb A b o from if_pos rfl, show ps_to A 0 (i + 1) o = ps_tb A (i + 1) o from if_pos rfl]
          generalize ps_tb A (i + 1) o = y1
          generalize ps_tb A b o = y2
          by_cases c : y2 < y1
          · rw [if_neg (Int32.not_le.mpr c), if_pos c]
          · rw [if_pos (Int32.not_lt.mp c), if_neg c]
        · rw [show decide (1 = 0) = false from rfl] at hb ⊢
          rw [if_neg (show ¬ nI 1 = 0 by decide), ps_bx_f]
          generalize ps_bx (fun k => ps_to A 1 k o) false i = b at hb ⊢
          rw [cm_tableAt h0 ho hMJ j1 hoo (show i + 1 < 6 by omega), pb_2, cm_tableAt h0 ho hMJ j1 hoo (show b < 6 by omega), pb_2, show ps_to A 1 b o = ps_tb A o b from if_neg (by decide), show ps_to A 1 (i + 1) o = ps_tb A o (i + 1) from if_neg (by decide)]
          generalize ps_tb A o (i + 1) = y1
          generalize ps_tb A o b = y2
          by_cases c : y1 < y2
          · rw [if_neg (Int32.not_le.mpr c), if_pos c]
          · rw [if_pos (Int32.not_lt.mp c), if_neg c]) 5 0 fx_N 0 (by omega) (by unfold fx_N; omega) rfl
      rw [hx] at e
      exact e
end PSF25
