/-! ===== wrong ===== -/
def ps_cf : List Nat := [3, 2, 1, 3, 2, 4, 5]
def ps_cg : List Nat := [4, 5, 0, 2, 1, 5, 0]
def ps_wrg (A : ps_A) (s c : Nat) : Bool := if ps_cg.getD c 0 = 0 ∧ A.C.sv = s then false else if c < 3 then decide (A.C.y s (ps_cg.getD c 0) ≤ A.C.y s (ps_cf.getD c 0)) else decide (A.C.x s (ps_cg.getD c 0) ≤ A.C.x s (ps_cf.getD c 0))
/-- the first wrong one behind so many -/
def ps_wk (A : ps_A) (s : Nat) : Nat → Nat → Nat → Int32
  | 0, _, _ => -2
  | m + 1, i, k => if ps_wrg A s i then (if k = 0 then nI i else ps_wk A s m (i + 1) (k - 1)) else ps_wk A s m (i + 1) k
def sp_wrong (A : ps_A) (a b : Int32) : Int32 := if ps_sd A a && decide (0 ≤ b) then ps_wk A a.toNatClampNeg 7 0 b.toNatClampNeg else -1
section PSM
variable {t v w : Bool} {A : ps_A} {I : Nat → Nat → Int32} {L : Nat → Nat → Int64}
theorem cx_w60 {f g X : Nat} (hf : f < 6) (hg : g < 6) {a b : Nat} (ea : I X f = nI a) (eb : I X g = nI b) (ha : a ≤ 90) (hb : b ≤ 90) : fX9_isWrong_60 (nI (f + 1)) (nI (g + 1)) X (I, L, px_R t v w) = some (if decide (b ≤ a) = true then 1 else 0, (I, L, px_R t v w)) := by
  unfold fX9_isWrong_60
  rw [nI_pred, nI_pred, pg_pos (pi_in hf (by omega)), pg_pos (pi_in hg (by omega)), pi_ix (by omega), pi_ix (by omega)]
  show (if I X f < I X g then _ else _) = _
  rw [ea, eb]
  by_cases c : b ≤ a
  · rw [if_neg (nI_nlt c (by omega)), decide_eq_true c]; rfl
  · rw [if_pos (nI_lt (by omega) (by omega)), decide_eq_false c]; rfl
theorem cx_w32 (h0 : ps_wf A) (ho : A.on = true) (hX : ps_RX t A I) {s c f g : Nat} (hs : s < 2) (hc : c < 7) (hf : f < 6) (hg : g < 6) : fX9_isWrong_32 0 (nI s) (nI c) (nI (f + 1)) (nI (g + 1)) (I, L, px_R t v w) = some (if (if c < 3 then decide (A.C.y s g ≤ A.C.y s f) else decide (A.C.x s g ≤ A.C.x s f)) = true then 1 else 0, (I, L, px_R t v w)) := by
  have w0 := h0.C ho
  have hC := hX.C ho
  unfold fX9_isWrong_32
  rw [show (I, L, px_R t v w).2.2 0 3 = 22 from rfl, cx_team hs, pb_2]
  show (if (3 : Int32) ≤ nI c then fX9_isWrong_60 (nI (f + 1)) (nI (g + 1)) (px_R t v w (22 + 5 * s + 1) 2) (I, L, px_R t v w) else fX9_isWrong_60 (nI (f + 1)) (nI (g + 1)) (px_R t v w (22 + 5 * s + 1) 3) (I, L, px_R t v w)) = _
  rw [pr_s hs (by omega), pr_s hs (by omega)]
  by_cases d : c < 3
  · rw [if_neg (show ¬ (3 : Int32) ≤ nI c from nI_ge (b := 3) d (by omega)), if_pos d]
    exact cx_w60 hf hg (hC.y s hs f hf) (hC.y s hs g hg) (w0.y s hs f hf) (w0.y s hs g hg)
  · rw [if_pos (show (3 : Int32) ≤ nI c from nI_le (a := 3) (by omega) (by omega)), if_neg d]
    exact cx_w60 hf hg (hC.x s hs f hf) (hC.x s hs g hg) (w0.x s hs f hf) (w0.x s hs g hg)
theorem cx_isWrong (h0 : ps_wf A) (ho : A.on = true) (hX : ps_RX t A I) {s c : Nat} (hs : s < 2) (hc : c < 7) : fX9_isWrong 0 (nI s) (nI c) (I, L, px_R t v w) = some (if ps_wrg A s c then 1 else 0, (I, L, px_R t v w)) := by
  have hsv := (h0.C ho).sv
  have hv := (hX.C ho).sv
  have nz : ∀ z y : Option (Int32 × hp_T), (if I 22 2 = nI s then z else y) = if A.C.sv = s then z else y := fun z y => by
    rw [hv]
    by_cases q : A.C.sv = s
    · rw [if_pos (by rw [q]), if_pos q]
    · rw [if_neg (fun e => q ((nI_eq (by omega) (by omega)).mp e)), if_neg q]
  unfold fX9_isWrong ps_wrg
  rcases (show c = 0 ∨ c = 1 ∨ c = 2 ∨ c = 3 ∨ c = 4 ∨ c = 5 ∨ c = 6 by omega) with rfl | rfl | rfl | rfl | rfl | rfl | rfl
  · rw [pg_pos (by decide), pl_let, pg_pos (by decide), pl_let, show hp_zt 2 (fx_ix (nI 0)) = nI (3 + 1) by decide, show hp_zt 3 (fx_ix (nI 0)) = nI (4 + 1) by decide]
    rw [if_neg (show ¬ nI (4 + 1) = 1 by decide), cx_w32 h0 ho hX hs (by omega) (by omega) (by omega), if_neg (show ¬ (ps_cg.getD 0 0 = 0 ∧ A.C.sv = s) from fun e => absurd e.1 (by decide))]; rfl
  · rw [pg_pos (by decide), pl_let, pg_pos (by decide), pl_let, show hp_zt 2 (fx_ix (nI 1)) = nI (2 + 1) by decide, show hp_zt 3 (fx_ix (nI 1)) = nI (5 + 1) by decide]
    rw [if_neg (show ¬ nI (5 + 1) = 1 by decide), cx_w32 h0 ho hX hs (by omega) (by omega) (by omega), if_neg (show ¬ (ps_cg.getD 1 0 = 0 ∧ A.C.sv = s) from fun e => absurd e.1 (by decide))]; rfl
  · rw [pg_pos (by decide), pl_let, pg_pos (by decide), pl_let, show hp_zt 2 (fx_ix (nI 2)) = nI (1 + 1) by decide, show hp_zt 3 (fx_ix (nI 2)) = nI (0 + 1) by decide]
    rw [if_pos (show nI (0 + 1) = 1 by decide), cx_w32 h0 ho hX hs (by omega) (by omega) (by omega)]
    refine (nz _ _).trans ?_
    by_cases q : A.C.sv = s
    · rw [if_pos q, if_pos (show ps_cg.getD 2 0 = 0 ∧ A.C.sv = s from ⟨rfl, q⟩)]; rfl
    · rw [if_neg q, if_neg (show ¬ (ps_cg.getD 2 0 = 0 ∧ A.C.sv = s) from fun e => q e.2)]; rfl
  · rw [pg_pos (by decide), pl_let, pg_pos (by decide), pl_let, show hp_zt 2 (fx_ix (nI 3)) = nI (3 + 1) by decide, show hp_zt 3 (fx_ix (nI 3)) = nI (2 + 1) by decide]
    rw [if_neg (show ¬ nI (2 + 1) = 1 by decide), cx_w32 h0 ho hX hs (by omega) (by omega) (by omega), if_neg (show ¬ (ps_cg.getD 3 0 = 0 ∧ A.C.sv = s) from fun e => absurd e.1 (by decide))]; rfl
  · rw [pg_pos (by decide), pl_let, pg_pos (by decide), pl_let, show hp_zt 2 (fx_ix (nI 4)) = nI (2 + 1) by decide, show hp_zt 3 (fx_ix (nI 4)) = nI (1 + 1) by decide]
    rw [if_neg (show ¬ nI (1 + 1) = 1 by decide), cx_w32 h0 ho hX hs (by omega) (by omega) (by omega), if_neg (show ¬ (ps_cg.getD 4 0 = 0 ∧ A.C.sv = s) from fun e => absurd e.1 (by decide))]; rfl
  · rw [pg_pos (by decide), pl_let, pg_pos (by decide), pl_let, show hp_zt 2 (fx_ix (nI 5)) = nI (4 + 1) by decide, show hp_zt 3 (fx_ix (nI 5)) = nI (5 + 1) by decide]
    rw [if_neg (show ¬ nI (5 + 1) = 1 by decide), cx_w32 h0 ho hX hs (by omega) (by omega) (by omega), if_neg (show ¬ (ps_cg.getD 5 0 = 0 ∧ A.C.sv = s) from fun e => absurd e.1 (by decide))]; rfl
  · rw [pg_pos (by decide), pl_let, pg_pos (by decide), pl_let, show hp_zt 2 (fx_ix (nI 6)) = nI (5 + 1) by decide, show hp_zt 3 (fx_ix (nI 6)) = nI (0 + 1) by decide]
    rw [if_pos (show nI (0 + 1) = 1 by decide), cx_w32 h0 ho hX hs (by omega) (by omega) (by omega)]
    refine (nz _ _).trans ?_
    by_cases q : A.C.sv = s
    · rw [if_pos q, if_pos (show ps_cg.getD 6 0 = 0 ∧ A.C.sv = s from ⟨rfl, q⟩)]; rfl
    · rw [if_neg q, if_neg (show ¬ (ps_cg.getD 6 0 = 0 ∧ A.C.sv = s) from fun e => q e.2)]; rfl
theorem cx_wrong (h0 : ps_wf A) (hX : ps_RX t A I) (a b : Int32) : fX9_wrong 0 a b (I, L, px_R t v w) = some (sp_wrong A a b, (I, L, px_R t v w)) := by
  unfold fX9_wrong sp_wrong
  rw [cx_side hX, pb_2]
  cases e : ps_sd A a with
  | false => rfl
  | true =>
    obtain ⟨ho, s, hs, rfl⟩ := ps_sd_of e
    rw [if_neg (by decide)]
    by_cases c : 0 ≤ b
    · rw [if_pos c, decide_eq_true c, if_pos (show (true && true) = true from rfl), nI_clamp (by omega)]
      obtain ⟨k, hk, rfl⟩ := nI_of (x := b) (Int32.not_lt.mpr c)
      rw [nI_clamp hk]
      have key : ∀ m i n k, i + m = 7 → m < n → k < 2 ^ 31 → fX9_wrong_19 n 0 (nI s) (nI k) (nI i) (I, L, px_R t v w) = some (ps_wk A s m i k, (I, L, px_R t v w)) := by
        intro m
        induction m with
        | zero =>
          intro i n k h1 h2 h3
          obtain ⟨n, rfl⟩ : ∃ n', n = n' + 1 := ⟨n - 1, by omega⟩
          unfold fX9_wrong_19
          rw [if_pos (show (7 : Int32) ≤ nI i from nI_le (a := 7) (by omega) (by omega))]; rfl
        | succ m ih =>
          intro i n k h1 h2 h3
          obtain ⟨n, rfl⟩ : ∃ n', n = n' + 1 := ⟨n - 1, by omega⟩
          unfold fX9_wrong_19 ps_wk fX9_wrong_46
          rw [if_neg (show ¬ (7 : Int32) ≤ nI i from nI_ge (b := 7) (by omega) (by omega)), cx_isWrong h0 ho hX hs (by omega), pb_2]
          simp only [pl_let, nI_1]
          cases ps_wrg A s i with
          | false => exact ih (i + 1) n k (by omega) (by omega) h3
          | true =>
            rw [if_pos rfl, if_pos rfl, if_neg (by decide)]
            by_cases z : k = 0
            · rw [if_pos (by rw [z]; rfl), if_pos z]
            · rw [if_neg (nI_ne0 (by omega) h3), if_neg z, show nI k + (-1) = nI (k - 1) by rw [← Int32.sub_eq_add_neg]; exact pk_sub (b := 1) (by omega)]
              exact ih (i + 1) n (k - 1) (by omega) (by omega) (by omega)
      exact key 7 0 fx_N k rfl (by decide) hk
    · rw [if_neg c, decide_eq_false c]; rfl
theorem cm_w68 (hC : ps_MR A A.C (I 298)) (w0 : ps_wfC A.W A.C) {s f g j : Nat} (hs : s < 2) (hf : f < 6) (hg : g < 6) (hj : j < 2) : fX10_isWrong_68 290 (nI s) (nI (f + 1)) (nI (g + 1)) (nI j) 0 (I, L, px_R t v w) = some (if (if j = 1 then decide (A.C.y s g ≤ A.C.y s f) else decide (A.C.x s g ≤ A.C.x s f)) = true then 1 else 0, (I, L, px_R t v w)) := by
  unfold fX10_isWrong_68
  rw [if_pos rfl, cm_stands hC hs hf hj, pb_2, cm_stands hC hs hg hj, pb_2]
  have bx := w0.x s hs f hf
  have bx2 := w0.x s hs g hg
  have bY := w0.y s hs f hf
  have bY2 := w0.y s hs g hg
  rcases (show j = 0 ∨ j = 1 by omega) with rfl | rfl
  · rw [if_pos rfl, if_pos rfl, if_neg (show ¬ (0 : Nat) = 1 by decide)]
    by_cases c : A.C.x s g ≤ A.C.x s f
    · rw [if_neg (nI_nlt c (by omega)), decide_eq_true c]; rfl
    · rw [if_pos (nI_lt (by omega) (by omega)), decide_eq_false c]; rfl
  · rw [if_neg (show ¬ (1 : Nat) = 0 by decide), if_neg (show ¬ (1 : Nat) = 0 by decide), if_pos (show (1 : Nat) = 1 from rfl)]
    by_cases c : A.C.y s g ≤ A.C.y s f
    · rw [if_neg (nI_nlt c (by omega)), decide_eq_true c]; rfl
    · rw [if_pos (nI_lt (by omega) (by omega)), decide_eq_false c]; rfl
theorem cm_isWrong (h0 : ps_wf A) (ho : A.on = true) (hM : ps_MX A I) {s c : Nat} (hs : s < 2) (hc : c < 7) : fX10_isWrong 290 (nI s) (nI c) (I, L, px_R t v w) = some (if ps_wrg A s c then 1 else 0, (I, L, px_R t v w)) := by
  have w0 := h0.C ho
  have hsv := w0.sv
  have hC := hM.C ho
  have nz : ∀ z y : Option (Int32 × hp_T), (if I 298 2 = nI s then z else y) = if A.C.sv = s then z else y := fun z y => by
    rw [hC.sv]
    by_cases q : A.C.sv = s
    · rw [if_pos (by rw [q]), if_pos q]
    · rw [if_neg (fun e => q ((nI_eq (by omega) (by omega)).mp e)), if_neg q]
  unfold fX10_isWrong ps_wrg
  rcases (show c = 0 ∨ c = 1 ∨ c = 2 ∨ c = 3 ∨ c = 4 ∨ c = 5 ∨ c = 6 by omega) with rfl | rfl | rfl | rfl | rfl | rfl | rfl
  · rw [pg_pos (by decide), pl_let, pg_pos (by decide), pl_let, pg_pos (by decide), pl_let, show hp_st 1 (fx_ix (3 * nI 0)) - 48 = nI (3 + 1) by decide, show hp_st 1 (fx_ix (3 * nI 0 + 1)) - 48 = nI (4 + 1) by decide, show hp_st 1 (fx_ix (3 * nI 0 + 2)) - 48 = nI 1 by decide]
    unfold fX10_isWrong_67 fX10_isWrong_63
    rw [cm_w68 hC w0 hs (by omega) (by omega) (by omega), if_neg (show ¬ nI (3 + 1) = 1 by decide)]
    refine (nz _ _).trans ?_
    rw [if_neg (show ¬ nI (4 + 1) = 1 by decide), ite_self, if_neg (show ¬ (ps_cg.getD 0 0 = 0 ∧ A.C.sv = s) from fun e => absurd e.1 (by decide))]; rfl
  · rw [pg_pos (by decide), pl_let, pg_pos (by decide), pl_let, pg_pos (by decide), pl_let, show hp_st 1 (fx_ix (3 * nI 1)) - 48 = nI (2 + 1) by decide, show hp_st 1 (fx_ix (3 * nI 1 + 1)) - 48 = nI (5 + 1) by decide, show hp_st 1 (fx_ix (3 * nI 1 + 2)) - 48 = nI 1 by decide]
    unfold fX10_isWrong_67 fX10_isWrong_63
    rw [cm_w68 hC w0 hs (by omega) (by omega) (by omega), if_neg (show ¬ nI (2 + 1) = 1 by decide)]
    refine (nz _ _).trans ?_
    rw [if_neg (show ¬ nI (5 + 1) = 1 by decide), ite_self, if_neg (show ¬ (ps_cg.getD 1 0 = 0 ∧ A.C.sv = s) from fun e => absurd e.1 (by decide))]; rfl
  · rw [pg_pos (by decide), pl_let, pg_pos (by decide), pl_let, pg_pos (by decide), pl_let, show hp_st 1 (fx_ix (3 * nI 2)) - 48 = nI (1 + 1) by decide, show hp_st 1 (fx_ix (3 * nI 2 + 1)) - 48 = nI (0 + 1) by decide, show hp_st 1 (fx_ix (3 * nI 2 + 2)) - 48 = nI 1 by decide]
    unfold fX10_isWrong_67 fX10_isWrong_63
    rw [cm_w68 hC w0 hs (by omega) (by omega) (by omega), if_neg (show ¬ nI (1 + 1) = 1 by decide)]
    refine (nz _ _).trans ?_
    rw [if_pos (show nI (0 + 1) = 1 by decide)]
    by_cases q : A.C.sv = s
    · rw [if_pos q, if_pos (show ps_cg.getD 2 0 = 0 ∧ A.C.sv = s from ⟨rfl, q⟩)]; rfl
    · rw [if_neg q, if_neg (show ¬ (ps_cg.getD 2 0 = 0 ∧ A.C.sv = s) from fun e => q e.2)]; rfl
  · rw [pg_pos (by decide), pl_let, pg_pos (by decide), pl_let, pg_pos (by decide), pl_let, show hp_st 1 (fx_ix (3 * nI 3)) - 48 = nI (3 + 1) by decide, show hp_st 1 (fx_ix (3 * nI 3 + 1)) - 48 = nI (2 + 1) by decide, show hp_st 1 (fx_ix (3 * nI 3 + 2)) - 48 = nI 0 by decide]
    unfold fX10_isWrong_67 fX10_isWrong_63
    rw [cm_w68 hC w0 hs (by omega) (by omega) (by omega), if_neg (show ¬ nI (3 + 1) = 1 by decide)]
    refine (nz _ _).trans ?_
    rw [if_neg (show ¬ nI (2 + 1) = 1 by decide), ite_self, if_neg (show ¬ (ps_cg.getD 3 0 = 0 ∧ A.C.sv = s) from fun e => absurd e.1 (by decide))]; rfl
  · rw [pg_pos (by decide), pl_let, pg_pos (by decide), pl_let, pg_pos (by decide), pl_let, show hp_st 1 (fx_ix (3 * nI 4)) - 48 = nI (2 + 1) by decide, show hp_st 1 (fx_ix (3 * nI 4 + 1)) - 48 = nI (1 + 1) by decide, show hp_st 1 (fx_ix (3 * nI 4 + 2)) - 48 = nI 0 by decide]
    unfold fX10_isWrong_67 fX10_isWrong_63
    rw [cm_w68 hC w0 hs (by omega) (by omega) (by omega), if_neg (show ¬ nI (2 + 1) = 1 by decide)]
    refine (nz _ _).trans ?_
    rw [if_neg (show ¬ nI (1 + 1) = 1 by decide), ite_self, if_neg (show ¬ (ps_cg.getD 4 0 = 0 ∧ A.C.sv = s) from fun e => absurd e.1 (by decide))]; rfl
  · rw [pg_pos (by decide), pl_let, pg_pos (by decide), pl_let, pg_pos (by decide), pl_let, show hp_st 1 (fx_ix (3 * nI 5)) - 48 = nI (4 + 1) by decide, show hp_st 1 (fx_ix (3 * nI 5 + 1)) - 48 = nI (5 + 1) by decide, show hp_st 1 (fx_ix (3 * nI 5 + 2)) - 48 = nI 0 by decide]
    unfold fX10_isWrong_67 fX10_isWrong_63
    rw [cm_w68 hC w0 hs (by omega) (by omega) (by omega), if_neg (show ¬ nI (4 + 1) = 1 by decide)]
    refine (nz _ _).trans ?_
    rw [if_neg (show ¬ nI (5 + 1) = 1 by decide), ite_self, if_neg (show ¬ (ps_cg.getD 5 0 = 0 ∧ A.C.sv = s) from fun e => absurd e.1 (by decide))]; rfl
  · rw [pg_pos (by decide), pl_let, pg_pos (by decide), pl_let, pg_pos (by decide), pl_let, show hp_st 1 (fx_ix (3 * nI 6)) - 48 = nI (5 + 1) by decide, show hp_st 1 (fx_ix (3 * nI 6 + 1)) - 48 = nI (0 + 1) by decide, show hp_st 1 (fx_ix (3 * nI 6 + 2)) - 48 = nI 0 by decide]
    unfold fX10_isWrong_67 fX10_isWrong_63
    rw [cm_w68 hC w0 hs (by omega) (by omega) (by omega), if_neg (show ¬ nI (5 + 1) = 1 by decide)]
    refine (nz _ _).trans ?_
    rw [if_pos (show nI (0 + 1) = 1 by decide)]
    by_cases q : A.C.sv = s
    · rw [if_pos q, if_pos (show ps_cg.getD 6 0 = 0 ∧ A.C.sv = s from ⟨rfl, q⟩)]; rfl
    · rw [if_neg q, if_neg (show ¬ (ps_cg.getD 6 0 = 0 ∧ A.C.sv = s) from fun e => q e.2)]; rfl
theorem cm_wrong (h0 : ps_wf A) (hM : ps_MX A I) (a b : Int32) : fX10_wrong_ 290 a b (I, L, px_R t v w) = some (sp_wrong A a b, (hp_u I 290 0 0, L, px_R t v w)) := by
  unfold fX10_wrong_ sp_wrong
  rw [pl_let]
  show fx_b2 (fX10_isSide 290 a (hp_u I 290 0 0, L, px_R t v w)) _ = _
  have hM := hM.flag (z := 0)
  generalize hp_u I 290 0 0 = J at hM ⊢
  rw [cm_side hM, pb_2]
  cases e : ps_sd A a with
  | false => rfl
  | true =>
    obtain ⟨ho, s, hs, rfl⟩ := ps_sd_of e
    rw [if_neg (by decide)]
    by_cases c : 0 ≤ b
    · rw [if_pos c, decide_eq_true c, if_pos (show (true && true) = true from rfl), nI_clamp (by omega)]
      obtain ⟨k, hk, rfl⟩ := nI_of (x := b) (Int32.not_lt.mpr c)
      rw [nI_clamp hk]
      have key : ∀ m i n k, i + m = 7 → m < n → k < 2 ^ 31 → fX10_wrong__24 n 290 (nI s) (nI k) (nI i) (J, L, px_R t v w) = some (ps_wk A s m i k, (J, L, px_R t v w)) := by
        intro m
        induction m with
        | zero =>
          intro i n k h1 h2 h3
          obtain ⟨n, rfl⟩ : ∃ n', n = n' + 1 := ⟨n - 1, by omega⟩
          unfold fX10_wrong__24
          rw [if_pos (show (7 : Int32) ≤ nI i from nI_le (a := 7) (by omega) (by omega))]; rfl
        | succ m ih =>
          intro i n k h1 h2 h3
          obtain ⟨n, rfl⟩ : ∃ n', n = n' + 1 := ⟨n - 1, by omega⟩
          unfold fX10_wrong__24 ps_wk fX10_wrong__54
          rw [if_neg (show ¬ (7 : Int32) ≤ nI i from nI_ge (b := 7) (by omega) (by omega)), cm_isWrong h0 ho hM hs (by omega), pb_2]
          simp only [pl_let, nI_1]
          cases ps_wrg A s i with
          | false => exact ih (i + 1) n k (by omega) (by omega) h3
          | true =>
            rw [if_pos rfl, if_pos rfl, if_neg (by decide)]
            by_cases z : k = 0
            · rw [if_pos (by rw [z]; rfl), if_pos z]
            · rw [if_neg (nI_ne0 (by omega) h3), if_neg z, show nI k + (-1) = nI (k - 1) by rw [← Int32.sub_eq_add_neg]; exact pk_sub (b := 1) (by omega)]
              exact ih (i + 1) n (k - 1) (by omega) (by omega) (by omega)
      exact key 7 0 fx_N k rfl (by decide) hk
    · rw [if_neg c, decide_eq_false c]; rfl
end PSM
