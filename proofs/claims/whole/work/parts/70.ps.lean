/-! ===== worth; what would be behind a change ===== -/
def ps_wt (A : ps_A) (s : Nat) : Int32 := nI (ps_V (ps_ch A.W A.C.six) (A.W.pts - (A.C.sc 0 + if s = 0 then 1 else 0)) (A.W.pts - (A.C.sc 1 + if s = 0 then 0 else 1)) (if s = 0 then (if A.C.sv = s then 0 else 1) else 0) (if s = 0 then 0 else (if A.C.sv = s then 0 else 1)) s)
def sp_worth (A : ps_A) (a : Int32) : Int32 := if ps_sd A a && !ps_over A then ps_wt A a.toNatClampNeg - ps_val A A.C.six else -2000000
theorem ps_over_lt {A : ps_A} (h0 : ps_wf A) (ho : A.on = true) (h : ps_over A = false) : A.C.sc 0 < A.W.pts ∧ A.C.sc 1 < A.W.pts := by
  unfold ps_over at h
  simp only [Bool.or_eq_false_iff, decide_eq_false_iff_not] at h
  have h1 := (h0.C ho).sc 0 (by omega)
  have h2 := (h0.C ho).sc 1 (by omega)
  omega
section PSF20
variable {t v w : Bool} {A : ps_A} {I : Nat → Nat → Int32} {L : Nat → Nat → Int64}
theorem cx_worth104 (h0 : ps_wf A) (ho : A.on = true) (hX : ps_RX t A I) (hov : ps_over A = false) {s : Nat} (hs : s < 2) :
    ∃ z : Bool × (Nat → Nat → Int32), ps_fx I z.2 ∧ fX9_worth_104 0 (nI s) (nI (A.C.sc 0 + if s = 0 then 1 else 0)) (nI (A.C.sc 1 + if s = 0 then 0 else 1)) (nI (if s = 0 then (if A.C.sv = s then 0 else 1) else 0)) (nI (if s = 0 then 0 else (if A.C.sv = s then 0 else 1))) (I, L, px_R t v w) = some (ps_wt A s - ps_val A A.C.six, (z.2, L, px_R t z.1 w)) := by
  unfold fX9_worth_104
  obtain ⟨l0, l1⟩ := ps_over_lt h0 ho hov
  obtain ⟨J, j1, j2, j3⟩ := cx_weighNow (L := L) (v := v) (w := w) h0 ho hX
  have fx := ps_fx.of (fun a ha _ _ => j2 a ha)
  have six := fun s hs => (h0.C ho).six s hs
  obtain ⟨z, k1, k2⟩ := cx_valueOf (I := J) (L := L) (t := t) (v := v) (w := w) (h0.W ho) six j1 (a := A.C.sc 0 + if s = 0 then 1 else 0) (b := A.C.sc 1 + if s = 0 then 0 else 1) (r := if s = 0 then (if A.C.sv = s then 0 else 1) else 0) (s := if s = 0 then 0 else (if A.C.sv = s then 0 else 1)) (sv := s) (by split; split <;> omega; omega) (by split; omega; split <;> omega) hs (by split <;> omega) (by split <;> omega) (by split; exact Or.inr (by omega); exact Or.inl (by omega))
  obtain ⟨z2, u1, u2⟩ := cx_valueFromNow (I := z.2) (L := L) (t := t) (v := z.1) (w := w) h0 ho ((hX.fx fx).fx (ps_fx.val k1)) six (j1.cong (fun a h1 h2 => k1 a (by omega)))
  refine ⟨z2, (fx.trans (ps_fx.val k1)).trans (ps_fx.val u1), ?_⟩
  rw [j3, pb_1]
  show fx_b2 (fX4_valueOf 3 _ _ _ _ _ _) _ = _
  rw [k2, pb_2, u2, pb_2]; rfl
theorem cx_worth (h0 : ps_wf A) (hX : ps_RX t A I) (a : Int32) : ∃ z : Bool × (Nat → Nat → Int32), ps_fx I z.2 ∧ fX9_worth 0 a (I, L, px_R t v w) = some (sp_worth A a, (z.2, L, px_R t z.1 w)) := by
  unfold fX9_worth sp_worth
  rw [cx_side hX, pb_2]
  cases e1 : ps_sd A a with
  | false => exact ⟨(v, I), ps_fx.refl I, rfl⟩
  | true =>
    obtain ⟨ho, s, hs, rfl⟩ := ps_sd_of e1
    have w0 := h0.C ho
    have hsv := w0.sv
    rw [if_neg (by decide), cx_over w0 (h0.W ho) (hX.C ho) (hX.W ho), pb_2]
    cases eo : ps_over A with
    | true => exact ⟨(v, I), ps_fx.refl I, rfl⟩
    | false =>
      obtain ⟨z, k1, k2⟩ := cx_worth104 (L := L) (v := v) (w := w) h0 ho hX eo hs
      refine ⟨z, k1, ?_⟩
      rw [if_pos (by decide), if_pos (show (true && !false) = true from rfl), nI_clamp (n := s) (by omega), ← k2]
      unfold fX9_worth_38 fX9_worth_60 fX9_worth_81 fX9_worth_82 fX9_worth_103
      have s0 : I 23 8 = nI (A.C.sc 0) := (hX.C ho).sc 0 (by omega)
      have s1 : I 28 8 = nI (A.C.sc 1) := (hX.C ho).sc 1 (by omega)
      have sv := (hX.C ho).sv
      simp only [pl_let, show (I, L, px_R t v w).1 ((I, L, px_R t v w).2.2 ((I, L, px_R t v w).2.2 0 3) 0) 8 = nI (A.C.sc 0) from s0, show (I, L, px_R t v w).1 ((I, L, px_R t v w).2.2 ((I, L, px_R t v w).2.2 0 3) 1) 8 = nI (A.C.sc 1) from s1, show (I, L, px_R t v w).1 ((I, L, px_R t v w).2.2 0 3) 2 = nI A.C.sv from sv, show I (px_R t v w (px_R t v w 0 3) 0) 8 = nI (A.C.sc 0) from s0, show I (px_R t v w (px_R t v w 0 3) 1) 8 = nI (A.C.sc 1) from s1, show I (px_R t v w 0 3) 2 = nI A.C.sv from sv]
      rw [show (0 : Int32) = nI 0 from rfl, show (1 : Int32) = nI 1 from rfl]
      simp only [nI_add]
      rcases (show s = 0 ∨ s = 1 by omega) with rfl | rfl <;> rcases (show A.C.sv = 0 ∨ A.C.sv = 1 by omega) with e | e <;> rw [e] <;> rfl
theorem cm_worth (h0 : ps_wf A) (hM : ps_MX A I) (a : Int32) : ∃ J, ps_fm (hp_u I 290 0 0) J ∧ fX10_worth 290 a (I, L, px_R t v w) = some (sp_worth A a, (J, L, px_R t v w)) := by
  unfold fX10_worth sp_worth
  rw [pl_let]
  have hM := hM.flag (z := 0)
  show ∃ J, _ ∧ fx_b2 (fX10_isSide 290 a (hp_u I 290 0 0, L, px_R t v w)) _ = _
  generalize hp_u I 290 0 0 = I at hM ⊢
  rw [cm_side hM, pb_2]
  cases e1 : ps_sd A a with
  | false => exact ⟨I, ps_fm.refl I, rfl⟩
  | true =>
    obtain ⟨ho, s, hs, rfl⟩ := ps_sd_of e1
    have w0 := h0.C ho
    have hsv := w0.sv
    have h25 := (h0.W ho).p25
    rw [if_neg (by decide), cm_over w0 (h0.W ho) (hM.C ho) (hM.W ho), pb_2]
    cases eo : ps_over A with
    | true => exact ⟨I, ps_fm.refl I, rfl⟩
    | false =>
      obtain ⟨l0, l1⟩ := ps_over_lt h0 ho eo
      obtain ⟨J, j1, j2, j3⟩ := cm_valueNow (L := L) (t := t) (v := v) (w := w) h0 ho hM
      refine ⟨J, j2, ?_⟩
      rw [if_pos (by decide), if_pos (show (true && !false) = true from rfl), j3, pb_2, nI_clamp (n := s) (by omega)]
      have hC := (hM.fm j2).C ho
      have s0 : J 298 0 = nI (A.C.sc 0) := hC.sc 0 (by omega)
      have s1 : J 298 1 = nI (A.C.sc 1) := hC.sc 1 (by omega)
      have sv := hC.sv
      unfold fX10_worth_44 fX10_worth_60 fX10_worth_79 fX10_worth_99 fX10_worth_109
      simp only [pl_let, show J (px_R t v w 290 20) (fx_ix 0) = nI (A.C.sc 0) from s0, show J (px_R t v w 290 20) (fx_ix 1) = nI (A.C.sc 1) from s1, show J (px_R t v w 290 20) (fx_ix 2) = nI A.C.sv from sv]
      rw [show (0 : Int32) = nI 0 from rfl, show (1 : Int32) = nI 1 from rfl]
      simp only [nI_add]
      have fin : ∀ a b r s' : Nat, a ≤ A.W.pts → b ≤ A.W.pts → r < 2 → s' < 2 → fx_b2 (fX10_at (nI a) (nI b) (nI r) (nI s') (nI s) (J, L, px_R t v w)) (fun r110 h110 => fx_g (fx_in r110 48672) (some (h110.1 (px_R t v w 290 25) (fx_ix r110) - ps_val A A.C.six, h110))) = some (nI (ps_V (ps_ch A.W A.C.six) (A.W.pts - a) (A.W.pts - b) r s' s) - ps_val A A.C.six, (J, L, px_R t v w)) := fun a b r s' ha hb hr hs' => by
        rw [cm_at, pb_2, pg_pos (pi_in (by omega) (by omega)), pi_ix (by omega)]
        show some (J 302 _ - _, _) = _
        rw [j1 a b r s' s ha hb (by omega) (by omega) hs]
      unfold ps_wt
      rcases (show s = 0 ∨ s = 1 by omega) with rfl | rfl <;> rcases (show A.C.sv = 0 ∨ A.C.sv = 1 by omega) with e | e <;> rw [e]
      · exact fin (A.C.sc 0 + 1) (A.C.sc 1 + 0) 0 0 (by omega) (by omega) (by omega) (by omega)
      · exact fin (A.C.sc 0 + 1) (A.C.sc 1 + 0) 1 0 (by omega) (by omega) (by omega) (by omega)
      · exact fin (A.C.sc 0 + 0) (A.C.sc 1 + 1) 0 1 (by omega) (by omega) (by omega) (by omega)
      · exact fin (A.C.sc 0 + 0) (A.C.sc 1 + 1) 0 0 (by omega) (by omega) (by omega) (by omega)
def ps_sq (A : ps_A) (s g c : Nat) (s' k' : Nat) : Nat := if s' = s ∧ A.C.six s' k' = g then c else A.C.six s' k'
theorem ps_sq_six (h0 : ps_wf A) (ho : A.on = true) {s g c : Nat} (hc : c < A.W.size s) : ∀ s', s' < 2 → ps_six A.W s' (ps_sq A s g c s') := by
  intro s' hs' k hk
  unfold ps_sq
  split
  · rename_i h; rw [h.1]; exact hc
  · exact (h0.C ho).six s' hs' k hk
theorem ps_spot_k (h0 : ps_wf A) (ho : A.on = true) {s g : Nat} (hs : s < 2) (hg : g < A.W.size s) (h : ps_spot A.C s (nI g) ≠ 0) : ∃ k, k < 6 ∧ ps_spot A.C s (nI g) = k + 1 ∧ A.C.six s k = g ∧ ∀ j, j < 6 → (A.C.six s j = g ↔ j = k) := by
  have w0 := h0.C ho
  have hz := (h0.W ho).size s hs
  obtain ⟨k, h1, h2, h3, h4⟩ := ps_at_some (f := fun k => nI (A.C.six s k)) (p := nI g) (m := 6) (i := 0) h
  have hk : k < 6 := by omega
  have h5 := w0.six s hs k hk
  have h6 : A.C.six s k = g := (nI_eq (by omega) (by omega)).mp h4
  refine ⟨k, hk, h3, h6, fun j hj => ⟨fun e => w0.inj s hs j k hj hk (by rw [e, h6]), fun e => by rw [e, h6]⟩⟩
theorem cx_behindSub (h0 : ps_wf A) (ho : A.on = true) (hX : ps_RX t A I) {s g c : Nat} (hs : s < 2) (hg : g < A.W.size s) (hc : c < A.W.size s) (hsp : ps_spot A.C s (nI g) ≠ 0) :
    ∃ z : Bool × (Nat → Nat → Int32), ps_fx I z.2 ∧ z.2 37 = I 37 ∧ fX9_valueBehindSub 0 (nI s) (nI g) (nI c) (I, L, px_R t v w) = some (ps_val A (ps_sq A s g c), (z.2, L, px_R t z.1 w)) := by
  have hT := ps_T_le t
  have w0 := h0.C ho
  have hC := hX.C ho
  obtain ⟨k, hk, k1, k2, k3⟩ := ps_spot_k h0 ho hs hg hsp
  unfold fX9_valueBehindSub
  rw [pl_let, pl_let]
  show ∃ z : Bool × (Nat → Nat → Int32), _ ∧ _ ∧ fx_b2 (fX1_team 22 (nI s) (hp_w (hp_w I 35 (I 24)) 36 (hp_w I 35 (I 24) 29), L, px_R t v w)) _ = _
  rw [pw_cell (x := 29) (by omega), cx_team hs, pb_2]
  have near : ∀ a, a ≠ 35 → a ≠ 36 → hp_w (hp_w I 35 (I 24)) 36 (I 29) a = I a := fun a h1 h2 => by rw [pw_cell h2, pw_cell h1]
  have c35 : hp_w (hp_w I 35 (I 24)) 36 (I 29) 35 = I 24 := by rw [pw_cell (by omega), pw_eq]
  have c36 : hp_w (hp_w I 35 (I 24)) 36 (I 29) 36 = I 29 := pw_eq
  generalize hp_w (hp_w I 35 (I 24)) 36 (I 29) = H at near c35 c36 ⊢
  rw [cx_spotOf (A := A) (hC.near (fun a h1 h2 => near a (by omega) (by omega))) hs, pb_2, if_neg (nI_ne0 (by omega) (by have := ps_spot_le A.C s (nI g); omega)), k1]
  have e1 : fX9_trialOf 0 (nI s) (H, L, px_R t v w) = some (35 + s, (H, L, px_R t v w)) := by
    rcases (show s = 0 ∨ s = 1 by omega) with rfl | rfl <;> rfl
  rw [e1, pb_2, nI_pred, pg_pos (pi_in hk (by omega)), pl_let, pi_ix (by omega)]
  show ∃ z : Bool × (Nat → Nat → Int32), _ ∧ _ ∧ fX9_valueBehindSub_72 0 (hp_u H (35 + s) k (nI c), L, px_R t v w) = _
  unfold fX9_valueBehindSub_72
  have near2 : ∀ a, a ≠ 35 → a ≠ 36 → hp_u H (35 + s) k (nI c) a = I a := fun a h1 h2 => by rw [pu_cell (by omega)]; exact near a h1 h2
  have rd : ∀ s', s' < 2 → ∀ k', k' < 6 → hp_u H (35 + s) k (nI c) (35 + s') k' = nI (ps_sq A s g c s' k') := by
    intro s' hs' k' hk'
    unfold ps_sq
    have base : H (35 + s') k' = nI (A.C.six s' k') := by
      rcases (show s' = 0 ∨ s' = 1 by omega) with rfl | rfl
      · rw [show 35 + 0 = 35 from rfl, c35]; exact hC.six 0 (by omega) k' hk'
      · rw [show 35 + 1 = 36 from rfl, c36]; exact hC.six 1 (by omega) k' hk'
    by_cases q : s' = s
    · subst q
      by_cases y : k' = k
      · rw [if_pos ⟨rfl, (k3 k' hk').mpr y⟩, y, pu_eq]
      · rw [if_neg (fun z => y ((k3 k' hk').mp z.2)), pu_place y]; exact base
    · rw [if_neg (fun z => q z.1), pu_cell (by omega)]; exact base
  obtain ⟨J2, m1, m2, m3⟩ := cx_weighTrials (I := hp_u H (35 + s) k (nI c)) (L := L) (t := t) (v := v) (w := w) (q := ps_sq A s g c) (h0.W ho) ((hX.W ho).near (fun a h1 h2 => near2 a (by omega) (by omega))) (ps_sq_six h0 ho hc) (rd 0 (by omega)) (rd 1 (by omega))
  have fx : ps_fx I J2 := fun a ha => by unfold ps_sc at ha; rw [m2 a (by omega)]; exact near2 a (by omega) (by omega)
  obtain ⟨z, u1, u2⟩ := cx_valueFromNow (I := J2) (L := L) (t := t) (v := v) (w := w) h0 ho (hX.fx fx) (ps_sq_six h0 ho hc) m1
  refine ⟨z, fx.trans (ps_fx.val u1), by rw [u1 37 (by omega), m2 37 (by omega)]; exact near2 37 (by omega) (by omega), ?_⟩
  rw [m3, pb_1, u2, pb_2]
end PSF20
