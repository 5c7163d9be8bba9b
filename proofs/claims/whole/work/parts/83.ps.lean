/-! ===== likely, ends, length ===== -/
def ps_rA (A : ps_A) (a b : Nat) : Int64 := ps_rch (ps_cc (ps_ch A.W A.C.six) 0 0 A.C.sv) A.C.sv A.W.pts (A.C.sc 0) (A.C.sc 1) a b
def sp_likely (A : ps_A) (a b : Int32) : Int32 := if A.on && ps_sco A.W a b then Int64.toInt32 (ps_rA A a.toNatClampNeg b.toNatClampNeg / 1000000) else -1
def sp_ends (A : ps_A) (a b : Int32) : Int32 := if ps_sd A a && (!decide (b < 0) && decide (b < nI A.W.pts)) then Int64.toInt32 ((if a.toNatClampNeg = 0 then ps_rA A A.W.pts b.toNatClampNeg else ps_rA A b.toNatClampNeg A.W.pts) / 1000000) else -1
def ps_len (A : ps_A) : Nat → Int64
  | 0 => 0
  | n + 1 => ps_len A n + (ps_rA A A.W.pts n + ps_rA A n A.W.pts) * lN (A.W.pts + n)
def sp_length (A : ps_A) : Int32 := if A.on = false then -1 else Int64.toInt32 (ps_len A A.W.pts / 10000000000)
section PSF33
variable {t v w : Bool} {A : ps_A} {I : Nat → Nat → Int32} {L : Nat → Nat → Int64}
theorem cx_spreadFromNow (h0 : ps_wf A) (ho : A.on = true) (hX : ps_RX t A I) : ∃ (w' : Bool) (J : Nat → Nat → Int32) (H : Nat → Nat → Int64), (∀ a b, a ≤ A.W.pts → b ≤ A.W.pts → H 13 (26 * a + b) = ps_rA A a b) ∧ ps_fx I J ∧ fX9_spreadFromNow 0 (I, L, px_R t v w) = some (J, H, px_R t v w') := by
  have w1 := h0.W ho
  have w0 := h0.C ho
  unfold fX9_spreadFromNow
  obtain ⟨J, j1, j2, j3⟩ := cx_weighNow (L := L) (v := v) (w := w) h0 ho hX
  have fx := ps_fx.of (fun a ha _ _ => j2 a ha)
  have hXJ := hX.fx fx
  rw [j3, pb_1]
  show ∃ (w' : Bool) (J2 : Nat → Nat → Int32) (H : Nat → Nat → Int64), _ ∧ _ ∧ fx_b1 (fX4_spread 3 (J 23 8) (J 28 8) (J 22 2) _) _ = _
  have s0 := (hXJ.C ho).sc 0 (by omega)
  have s1 := (hXJ.C ho).sc 1 (by omega)
  rw [show J 23 8 = _ from s0, show J 28 8 = _ from s1, (hXJ.C ho).sv]
  obtain ⟨w', J2, H, ⟨k1, k2⟩, k3⟩ := cx_spread (I := J) (L := L) (t := t) (v := v) (w := w) (C := ps_ch A.W A.C.six) (fun r s sv => by have := ps_ch_le A.W A.C.six r s sv; omega) w0.sv w1.p25 (w0.sc 0 (by omega)) (w0.sc 1 (by omega)) j1.pts (fun H e r s sv q1 q2 q3 => cx_chanceOf w1 (fun s hs => w0.six s hs) (j1.cong (fun a q1 q2 => e a (by omega))) q1 q2 q3)
  rw [k3, pb_1]
  exact ⟨w', J2, H, k1, fx.trans (fun a ha => k2 a (by unfold ps_sc at ha; omega)), rfl⟩
theorem cx_reached {p a b : Nat} {g : Int64} (hp : p ≤ 25) (ha : a ≤ p) (hb : b ≤ p) (h : L 13 (26 * a + b) = g) : fX4_reachedAt 3 (nI a) (nI b) (I, L, px_R t v w) = some (g, (I, L, px_R t v w)) := by
  unfold fX4_reachedAt
  rw [show (26 : Int32) = nI 26 from rfl, pk_mul, nI_add, pg_pos (pi_in (by omega) (by omega)), pi_ix (by omega), show a * 26 + b = 26 * a + b by omega]
  show some (L 13 _, _) = _
  rw [h]
theorem cx_likely (h0 : ps_wf A) (hX : ps_RX t A I) (a b : Int32) : ∃ (w' : Bool) (J : Nat → Nat → Int32) (H : Nat → Nat → Int64), ps_fx I J ∧ fX9_likely 0 a b (I, L, px_R t v w) = some (sp_likely A a b, (J, H, px_R t v w')) := by
  unfold fX9_likely sp_likely
  show ∃ (w' : Bool) (J : Nat → Nat → Int32) (H : Nat → Nat → Int64), _ ∧ (if I 0 13 = 0 then _ else _) = _
  rw [hX.on]
  cases ho : A.on with
  | false => exact ⟨w, I, L, ps_fx.refl I, by simp⟩
  | true =>
    rw [if_neg (by decide), cx_score (hX.W ho), pb_2]
    cases e2 : ps_sco A.W a b with
    | false => exact ⟨w, I, L, ps_fx.refl I, rfl⟩
    | true =>
      obtain ⟨i, j, rfl, rfl, hi, hj, hij⟩ := ps_sco_of (h0.W ho) e2
      have h25 := (h0.W ho).p25
      obtain ⟨w', J, H, k1, k2, k3⟩ := cx_spreadFromNow (L := L) (v := v) (w := w) h0 ho hX
      refine ⟨w', J, H, k2, ?_⟩
      rw [if_neg (by decide), k3, pb_1]
      show fx_b2 (fX4_reachedAt 3 _ _ _) _ = _
      rw [cx_reached h25 hi hj (k1 i j hi hj), pb_2, nI_clamp (n := i) (by omega), nI_clamp (n := j) (by omega)]; rfl
theorem cx_ends (h0 : ps_wf A) (hX : ps_RX t A I) (a b : Int32) : ∃ (w' : Bool) (J : Nat → Nat → Int32) (H : Nat → Nat → Int64), ps_fx I J ∧ fX9_ends 0 a b (I, L, px_R t v w) = some (sp_ends A a b, (J, H, px_R t v w')) := by
  unfold fX9_ends sp_ends fX9_ends_66
  rw [cx_side hX, pb_2]
  cases e : ps_sd A a with
  | false => exact ⟨w, I, L, ps_fx.refl I, rfl⟩
  | true =>
    obtain ⟨ho, s, hs, rfl⟩ := ps_sd_of e
    have h25 := (h0.W ho).p25
    rw [if_neg (by decide), show (I, L, px_R t v w).1 ((I, L, px_R t v w).2.2 0 11) 2 = nI A.W.pts from (hX.W ho).pts]
    by_cases c1 : b < 0
    · rw [if_pos c1, decide_eq_true c1]; exact ⟨w, I, L, ps_fx.refl I, rfl⟩
    · rw [if_neg c1, decide_eq_false c1]
      by_cases c2 : b < nI A.W.pts
      · rw [if_pos c2, decide_eq_true c2]
        obtain ⟨n, hn, rfl⟩ := nI_of c1
        rw [nI_ltI hn (by omega)] at c2
        obtain ⟨w', J, H, k1, k2, k3⟩ := cx_spreadFromNow (L := L) (v := v) (w := w) h0 ho hX
        refine ⟨w', J, H, k2, ?_⟩
        rw [k3, pb_1]
        show (if nI s = 0 then fx_b2 (fX4_reachedAt 3 (J (ps_T t) 2) _ _) _ else fx_b2 (fX4_reachedAt 3 _ (J (ps_T t) 2) _) _) = _
        rw [((hX.fx k2).W ho).pts, cx_reached h25 (Nat.le_refl _) (show n ≤ A.W.pts by omega) (k1 A.W.pts n (Nat.le_refl _) (by omega)), pb_2, cx_reached h25 (show n ≤ A.W.pts by omega) (Nat.le_refl _) (k1 n A.W.pts (by omega) (Nat.le_refl _)), pb_2, nI_clamp (n := n) (by omega), nI_clamp (n := s) (by omega)]
        rcases (show s = 0 ∨ s = 1 by omega) with rfl | rfl <;> rfl
      · rw [if_neg c2, decide_eq_false c2]; exact ⟨w, I, L, ps_fx.refl I, rfl⟩
theorem cx_length (h0 : ps_wf A) (hX : ps_RX t A I) : ∃ (w' : Bool) (J : Nat → Nat → Int32) (H : Nat → Nat → Int64), ps_fx I J ∧ fX9_length 0 (I, L, px_R t v w) = some (sp_length A, (J, H, px_R t v w')) := by
  unfold fX9_length sp_length
  show ∃ (w' : Bool) (J : Nat → Nat → Int32) (H : Nat → Nat → Int64), _ ∧ (if I 0 13 = 0 then _ else _) = _
  rw [hX.on]
  cases ho : A.on with
  | false => exact ⟨w, I, L, ps_fx.refl I, by simp⟩
  | true =>
    have h25 := (h0.W ho).p25
    obtain ⟨w', J, H, k1, k2, k3⟩ := cx_spreadFromNow (L := L) (v := v) (w := w) h0 ho hX
    refine ⟨w', J, H, k2, ?_⟩
    rw [if_neg (by decide), k3, pb_1, pl_let, show (J, H, px_R t v w').1 ((J, H, px_R t v w').2.2 0 11) 2 = nI A.W.pts from ((hX.fx k2).W ho).pts]
    obtain ⟨x, hx, e⟩ := pf_loop (S := Int64) (fun n i x => fX9_length_26 n 0 x (nI A.W.pts) (nI i) (J, H, px_R t v w')) (fun x => some (Int64.toInt32 (x / 10000000000), (J, H, px_R t v w'))) (fun i x => x = ps_len A i) A.W.pts (by
      intro n x _
      show fX9_length_26 (n + 1) _ _ _ _ _ = _
      rw [fX9_length_26, if_pos (nI_le (Nat.le_refl _) (by omega))]) (by
      rintro n i x hi rfl
      refine ⟨_, rfl, ?_⟩
      show fX9_length_26 (n + 1) _ _ _ (nI i) _ = fX9_length_26 n _ _ _ (nI (i + 1)) _
      rw [fX9_length_26, if_neg (nI_ge hi (by omega))]
      show fx_b2 (fX4_reachedAt 3 _ _ _) _ = _
      rw [cx_reached h25 (Nat.le_refl _) (show i ≤ A.W.pts by omega) (k1 A.W.pts i (Nat.le_refl _) (by omega)), pb_2]
      show fx_b2 (fX4_reachedAt 3 _ _ _) _ = _
      rw [cx_reached h25 (show i ≤ A.W.pts by omega) (Nat.le_refl _) (k1 i A.W.pts (by omega) (Nat.le_refl _)), pb_2, pl_let, pl_let, nI_1, nI_add, nI_l (by omega)]; rfl) A.W.pts 0 fx_N 0 (by omega) (by unfold fx_N; omega) rfl
    rw [hx] at e
    exact e
theorem cm_likely (h0 : ps_wf A) (hM : ps_MX A I) (a b : Int32) : ∃ (J : Nat → Nat → Int32) (H : Nat → Nat → Int64), ps_fm (hp_u I 290 0 0) J ∧ fX10_likely 290 a b (I, L, px_R t v w) = some (sp_likely A a b, (J, H, px_R t v w)) := by
  unfold fX10_likely sp_likely
  rw [pl_let]
  have hM := hM.flag (z := 0)
  show ∃ (J : Nat → Nat → Int32) (H : Nat → Nat → Int64), _ ∧ fx_b2 (fX10_arePoints 290 a b (hp_u I 290 0 0, L, px_R t v w)) _ = _
  generalize hp_u I 290 0 0 = I at hM ⊢
  rw [cm_score hM, pb_2]
  cases ho : A.on with
  | false => exact ⟨I, L, ps_fm.refl I, rfl⟩
  | true =>
    cases e2 : ps_sco A.W a b with
    | false => exact ⟨I, L, ps_fm.refl I, rfl⟩
    | true =>
      obtain ⟨i, j, rfl, rfl, hi, hj, hij⟩ := ps_sco_of (h0.W ho) e2
      have h25 := (h0.W ho).p25
      obtain ⟨J, H, k1, k2, k3⟩ := cm_laysWays (L := L) (t := t) (v := v) (w := w) h0 ho hM
      refine ⟨J, H, k1, ?_⟩
      rw [if_neg (by decide), k3, pb_1, cm_allAt (h0.C ho).sv h25 k2 hi hj, pb_2, ps_Tw_end ((h0.C ho).sc 0 (by omega)) ((h0.C ho).sc 1 (by omega)) hi hj, nI_clamp (n := i) (by omega), nI_clamp (n := j) (by omega)]; rfl
theorem cm_ends (h0 : ps_wf A) (hM : ps_MX A I) (a b : Int32) : ∃ (J : Nat → Nat → Int32) (H : Nat → Nat → Int64), ps_fm (hp_u I 290 0 0) J ∧ fX10_ends 290 a b (I, L, px_R t v w) = some (sp_ends A a b, (J, H, px_R t v w)) := by
  unfold fX10_ends sp_ends fX10_ends_62
  rw [pl_let]
  have hM := hM.flag (z := 0)
  show ∃ (J : Nat → Nat → Int32) (H : Nat → Nat → Int64), _ ∧ fx_b2 (fX10_isSide 290 a (hp_u I 290 0 0, L, px_R t v w)) _ = _
  generalize hp_u I 290 0 0 = I at hM ⊢
  rw [cm_side hM, pb_2]
  cases e : ps_sd A a with
  | false => exact ⟨I, L, ps_fm.refl I, rfl⟩
  | true =>
    obtain ⟨ho, s, hs, rfl⟩ := ps_sd_of e
    have h25 := (h0.W ho).p25
    have s0 := (h0.C ho).sc 0 (by omega)
    have s1 := (h0.C ho).sc 1 (by omega)
    rw [if_neg (by decide), show (I, L, px_R t v w).1 ((I, L, px_R t v w).2.2 290 3) (fx_ix 0) = nI A.W.pts from (hM.W ho).pts]
    by_cases c1 : b < 0
    · rw [if_pos c1, decide_eq_true c1]; exact ⟨I, L, ps_fm.refl I, rfl⟩
    · rw [if_neg c1, decide_eq_false c1]
      by_cases c2 : b < nI A.W.pts
      · rw [if_pos c2, decide_eq_true c2]
        obtain ⟨n, hn, rfl⟩ := nI_of c1
        rw [nI_ltI hn (by omega)] at c2
        obtain ⟨J, H, k1, k2, k3⟩ := cm_laysWays (L := L) (t := t) (v := v) (w := w) h0 ho hM
        refine ⟨J, H, k1, ?_⟩
        rw [k3, pb_1]
        show (if nI s = 0 then fx_b2 (fX10_allAt 290 (J 292 0) _ _) _ else fx_b2 (fX10_allAt 290 _ (J 292 0) _) _) = _
        rw [((hM.fm k1).W ho).pts, cm_allAt (h0.C ho).sv h25 k2 (Nat.le_refl _) (show n ≤ A.W.pts by omega), pb_2, cm_allAt (h0.C ho).sv h25 k2 (show n ≤ A.W.pts by omega) (Nat.le_refl _), pb_2, ps_Tw_end s0 s1 (Nat.le_refl _) (show n ≤ A.W.pts by omega), ps_Tw_end s0 s1 (show n ≤ A.W.pts by omega) (Nat.le_refl _), nI_clamp (n := n) (by omega), nI_clamp (n := s) (by omega)]
        rcases (show s = 0 ∨ s = 1 by omega) with rfl | rfl <;> rfl
      · rw [if_neg c2, decide_eq_false c2]; exact ⟨I, L, ps_fm.refl I, rfl⟩
theorem cm_length (h0 : ps_wf A) (hM : ps_MX A I) : ∃ (J : Nat → Nat → Int32) (H : Nat → Nat → Int64), ps_fm (hp_u I 290 0 0) J ∧ fX10_length 290 (I, L, px_R t v w) = some (sp_length A, (J, H, px_R t v w)) := by
  unfold fX10_length sp_length
  rw [pl_let]
  have hM := hM.flag (z := 0)
  show ∃ (J : Nat → Nat → Int32) (H : Nat → Nat → Int64), _ ∧ (if hp_u I 290 0 0 290 7 = 0 then some (-1, (hp_u I 290 0 0, L, px_R t v w)) else fx_b1 (fX10_laysWays 290 (hp_u I 290 0 0, L, px_R t v w)) _) = _
  generalize hp_u I 290 0 0 = I at hM ⊢
  rw [hM.on]
  cases ho : A.on with
  | false => exact ⟨I, L, ps_fm.refl I, rfl⟩
  | true =>
    have h25 := (h0.W ho).p25
    have s0 := (h0.C ho).sc 0 (by omega)
    have s1 := (h0.C ho).sc 1 (by omega)
    obtain ⟨J, H, k1, k2, k3⟩ := cm_laysWays (L := L) (t := t) (v := v) (w := w) h0 ho hM
    refine ⟨J, H, k1, ?_⟩
    rw [if_neg (by decide), k3, pb_1, pl_let, show (J, H, px_R t v w).1 ((J, H, px_R t v w).2.2 290 3) (fx_ix 0) = nI A.W.pts from ((hM.fm k1).W ho).pts]
    obtain ⟨x, hx, e⟩ := pf_loop (S := Int64) (fun n i x => fX10_length_30 n 290 (nI A.W.pts) x (nI i) (J, H, px_R t v w)) (fun x => some (Int64.toInt32 (x / 10000000000), (J, H, px_R t v w))) (fun i x => x = ps_len A i) A.W.pts (by
      intro n x _
      show fX10_length_30 (n + 1) _ _ _ _ _ = _
      rw [fX10_length_30, if_pos (nI_le (Nat.le_refl _) (by omega))]) (by
      rintro n i x hi rfl
      refine ⟨_, rfl, ?_⟩
      show fX10_length_30 (n + 1) _ _ _ (nI i) _ = fX10_length_30 n _ _ _ (nI (i + 1)) _
      rw [fX10_length_30, if_neg (nI_ge hi (by omega)), cm_allAt (h0.C ho).sv h25 k2 (Nat.le_refl _) (show i ≤ A.W.pts by omega), pb_2, cm_allAt (h0.C ho).sv h25 k2 (show i ≤ A.W.pts by omega) (Nat.le_refl _), pb_2, pl_let, pl_let, nI_1, nI_add, nI_l (by omega), ps_Tw_end s0 s1 (Nat.le_refl _) (show i ≤ A.W.pts by omega), ps_Tw_end s0 s1 (show i ≤ A.W.pts by omega) (Nat.le_refl _)]; rfl) A.W.pts 0 fx_N 0 (by omega) (by unfold fx_N; omega) rfl
    rw [hx] at e
    exact e
end PSF33
