/-! ===== weak, strong of the reference; strength ===== -/
def ps_ac (d : Int32 × Int32) (b : Option (Int32 × Int32 × Int32)) : Int32 × Int32 := match b with | none => d | some b => (b.1, b.2.1)
section PSF11
variable {t v w : Bool} {A : ps_A} {I : Nat → Nat → Int32} {L : Nat → Nat → Int64}
theorem ps_wb_eq (g : Nat → Int32) : ∀ k b, ps_wb g k = some b → b.2.1 = b.2.2
  | 0, b, h => by cases h
  | k + 1, b, h => by
    unfold ps_wb ps_bo at h
    cases e : ps_wb g k with
    | none => rw [e] at h; cases h; rfl
    | some c =>
      rw [e] at h
      simp only [if_true] at h
      by_cases q : c.2.2 < g k
      · rw [if_pos q] at h; cases h; rfl
      · rw [if_neg q] at h; rw [← Option.some.inj h]; exact ps_wb_eq g k c e
theorem ps_wb_step (g : Nat → Int32) (hg : ∀ k, (-1 : Int32) < g k) (k : Nat) : ps_ac (0, -1) (ps_wb g (k + 1)) = if (ps_ac (0, -1) (ps_wb g k)).2 < g k then (nI k, g k) else ps_ac (0, -1) (ps_wb g k) := by
  rw [ps_wb]
  cases e : ps_wb g k with
  | none => rw [if_pos (show (ps_ac (0, -1) none).2 < g k from hg k)]; rfl
  | some c =>
    have h1 := ps_wb_eq g k c e
    show ps_ac (0, -1) (if (if true = true then c.2.2 < g k else g k < c.2.2) then some (nI k, g k, g k) else some c) = if c.2.1 < g k then _ else _
    rw [h1]
    by_cases q : c.2.2 < g k
    · rw [if_pos q]; simp only [if_true, if_pos q]; rfl
    · rw [if_neg q]; simp only [if_true, if_neg q]
theorem ps_tg_pos (W : ps_W) (q : Nat → Nat → Nat) (s sv k : Nat) : (-1 : Int32) < ps_tg W q s sv k := by
  unfold ps_tg
  have h1 := ps_ch_le W q k 0 sv
  have h2 := ps_ch_le W q 0 k sv
  rw [Int32.lt_iff_toInt_lt]
  split
  · rw [nI_toInt (by omega), show (-1 : Int32).toInt = -1 from rfl]; omega
  · rw [nI_toInt (by omega), show (-1 : Int32).toInt = -1 from rfl]; omega
theorem ps_pa_ac {b : Option (Int32 × Int32 × Int32)} {d : Int32 × Int32} {c : Int32 × Int32 × Int32} (h : b = some c) {a : Int32} (ha : a = 0 ∨ a = 1) : ps_pa (b.getD (0, 0, 0)) a = if a = 0 then (ps_ac d b).1 else (ps_ac d b).2 := by
  subst h
  unfold ps_pa ps_ac
  rcases ha with rfl | rfl <;> rfl
theorem cm_strong36 (w1 : ps_wfW A.W) (hW : ps_MW I A.W) {q : Nat → Nat → Nat} (hq : ∀ s, s < 2 → ps_six A.W s (q s)) (hS : ps_S I q) {s : Nat} (hs : s < 2) {a : Int32} (ha : a = 0 ∨ a = 1) :
    fX10_strong_36 fx_N 290 (nI s) a 0 (-1) 0 (I, L, px_R t v w) = some (ps_pa ((ps_wb (ps_tg A.W q s s) 6).getD (0, 0, 0)) a, (I, L, px_R t v w)) := by
  obtain ⟨x, hx, e⟩ := pf_loop (S := Int32 × Int32) (fun n i x => fX10_strong_36 n 290 (nI s) a x.1 x.2 (nI i) (I, L, px_R t v w)) (fun x => some (if a = 0 then x.1 else x.2, (I, L, px_R t v w)))
    (fun i x => x = ps_ac (0, -1) (ps_wb (ps_tg A.W q s s) i)) 6 (by
      intro n x _
      show fX10_strong_36 (n + 1) _ _ _ _ _ (nI 6) _ = _
      rw [fX10_strong_36, if_pos (by decide)]
      exact pq_if rfl rfl) (by
      rintro n i x hi rfl
      refine ⟨_, rfl, ?_⟩
      rw [ps_wb_step _ (ps_tg_pos A.W q s s)]
      show fX10_strong_36 (n + 1) _ _ _ _ _ (nI i) _ = fX10_strong_36 n _ _ _ _ _ (nI (i + 1)) _
      generalize ps_ac (0, -1) (ps_wb (ps_tg A.W q s s) i) = x
      rw [fX10_strong_36, if_neg (show ¬ (6 : Int32) ≤ nI i from nI_ge (b := 6) hi (by omega)), show (0 : Int32) = nI 0 from rfl, show (1 : Int32) = nI 1 from rfl]
      unfold fX10_strong_66 fX10_strong_85
      rw [cm_chanceOf w1 hW hq hS hi (by omega) (by omega), pb_2, cm_chanceOf w1 hW hq hS (by omega) hi (by omega), pb_2]
      simp only [pl_let, nI_1, nI_add]
      rcases (show s = 0 ∨ s = 1 by omega) with rfl | rfl
      · rw [if_pos rfl]
        show (if x.2 < nI (ps_ch A.W q i 0 0) then _ else _) = fX10_strong_36 n 290 (nI 0) a (if x.2 < nI (ps_ch A.W q i 0 0) then (nI i, nI (ps_ch A.W q i 0 0)) else x).1 (if x.2 < nI (ps_ch A.W q i 0 0) then (nI i, nI (ps_ch A.W q i 0 0)) else x).2 _ _
        split <;> rfl
      · rw [if_neg (by decide)]
        show (if x.2 < nI (ps_ch A.W q 0 i 1) then _ else _) = fX10_strong_36 n 290 (nI 1) a (if x.2 < nI (ps_ch A.W q 0 i 1) then (nI i, nI (ps_ch A.W q 0 i 1)) else x).1 (if x.2 < nI (ps_ch A.W q 0 i 1) then (nI i, nI (ps_ch A.W q 0 i 1)) else x).2 _ _
        split <;> rfl) 6 0 fx_N (0, -1) (by omega) (by unfold fx_N; omega) rfl
  obtain ⟨c, hc⟩ := ps_wb_some (ps_tg A.W q s s) 5
  rw [ps_pa_ac (d := (0, -1)) hc ha, ← hx]
  exact e
theorem cm_weak36 (w1 : ps_wfW A.W) (hW : ps_MW I A.W) {q : Nat → Nat → Nat} (hq : ∀ s, s < 2 → ps_six A.W s (q s)) (hS : ps_S I q) {s : Nat} (hs : s < 2) {a : Int32} (ha : a = 0 ∨ a = 1) :
    fX10_weak_36 fx_N 290 (nI s) a 0 (-1) 0 (I, L, px_R t v w) = some (ps_pa ((ps_wb (ps_tg A.W q s (1 - s)) 6).getD (0, 0, 0)) a, (I, L, px_R t v w)) := by
  obtain ⟨x, hx, e⟩ := pf_loop (S := Int32 × Int32) (fun n i x => fX10_weak_36 n 290 (nI s) a x.1 x.2 (nI i) (I, L, px_R t v w)) (fun x => some (if a = 0 then x.1 else x.2, (I, L, px_R t v w)))
    (fun i x => x = ps_ac (0, -1) (ps_wb (ps_tg A.W q s (1 - s)) i)) 6 (by
      intro n x _
      show fX10_weak_36 (n + 1) _ _ _ _ _ (nI 6) _ = _
      rw [fX10_weak_36, if_pos (by decide)]
      exact pq_if rfl rfl) (by
      rintro n i x hi rfl
      refine ⟨_, rfl, ?_⟩
      rw [ps_wb_step _ (ps_tg_pos A.W q s (1 - s))]
      show fX10_weak_36 (n + 1) _ _ _ _ _ (nI i) _ = fX10_weak_36 n _ _ _ _ _ (nI (i + 1)) _
      generalize ps_ac (0, -1) (ps_wb (ps_tg A.W q s (1 - s)) i) = x
      rw [fX10_weak_36, if_neg (show ¬ (6 : Int32) ≤ nI i from nI_ge (b := 6) hi (by omega)), show (0 : Int32) = nI 0 from rfl, show (1 : Int32) = nI 1 from rfl]
      unfold fX10_weak_66 fX10_weak_85
      rw [cm_chanceOf w1 hW hq hS hi (by omega) (by omega), pb_2, cm_chanceOf w1 hW hq hS (by omega) hi (by omega), pb_2]
      simp only [pl_let, nI_1, nI_add]
      rcases (show s = 0 ∨ s = 1 by omega) with rfl | rfl
      · rw [if_pos rfl]
        show (if x.2 < nI (ps_ch A.W q i 0 1) then _ else _) = fX10_weak_36 n 290 (nI 0) a (if x.2 < nI (ps_ch A.W q i 0 1) then (nI i, nI (ps_ch A.W q i 0 1)) else x).1 (if x.2 < nI (ps_ch A.W q i 0 1) then (nI i, nI (ps_ch A.W q i 0 1)) else x).2 _ _
        split <;> rfl
      · rw [if_neg (by decide)]
        show (if x.2 < nI (ps_ch A.W q 0 i 0) then _ else _) = fX10_weak_36 n 290 (nI 1) a (if x.2 < nI (ps_ch A.W q 0 i 0) then (nI i, nI (ps_ch A.W q 0 i 0)) else x).1 (if x.2 < nI (ps_ch A.W q 0 i 0) then (nI i, nI (ps_ch A.W q 0 i 0)) else x).2 _ _
        split <;> rfl) 6 0 fx_N (0, -1) (by omega) (by unfold fx_N; omega) rfl
  obtain ⟨c, hc⟩ := ps_wb_some (ps_tg A.W q s (1 - s)) 5
  rw [ps_pa_ac (d := (0, -1)) hc ha, ← hx]
  exact e
theorem cm_weak (h0 : ps_wf A) (hM : ps_MX A I) (a b : Int32) : ∃ J, ps_fm (hp_u I 290 0 0) J ∧ fX10_weak 290 a b (I, L, px_R t v w) = some (sp_tu A (fun s => 1 - s) a b, (J, L, px_R t v w)) := by
  unfold fX10_weak sp_tu
  rw [pl_let]
  have hM := hM.flag (z := 0)
  show ∃ J, _ ∧ fx_b2 (fX10_isSide 290 a (hp_u I 290 0 0, L, px_R t v w)) _ = _
  generalize hp_u I 290 0 0 = I at hM ⊢
  rw [cm_side hM, pb_2]
  cases e : ps_sd A a with
  | false => exact ⟨I, ps_fm.refl I, rfl⟩
  | true =>
    rw [if_neg (by decide), ps_01_if]
    cases e1 : ps_01 b with
    | false => exact ⟨I, ps_fm.refl I, rfl⟩
    | true =>
      obtain ⟨ho, s, hs, rfl⟩ := ps_sd_of e
      obtain ⟨J, j1, j2, j3⟩ := cm_takesLines (L := L) (t := t) (v := v) (w := w) h0 ho hM
      have fm : ps_fm I J := fun a ha => j2 a (by omega)
      refine ⟨J, fm, ?_⟩
      rw [if_pos rfl, j3, pb_1, nI_clamp (n := s) (by omega), cm_weak36 (h0.W ho) ((hM.fm fm).W ho) (fun s hs => (h0.C ho).six s hs) j1 hs (ps_01_of e1)]
      rfl
theorem cm_strong (h0 : ps_wf A) (hM : ps_MX A I) (a b : Int32) : ∃ J, ps_fm (hp_u I 290 0 0) J ∧ fX10_strong 290 a b (I, L, px_R t v w) = some (sp_tu A (fun s => s) a b, (J, L, px_R t v w)) := by
  unfold fX10_strong sp_tu
  rw [pl_let]
  have hM := hM.flag (z := 0)
  show ∃ J, _ ∧ fx_b2 (fX10_isSide 290 a (hp_u I 290 0 0, L, px_R t v w)) _ = _
  generalize hp_u I 290 0 0 = I at hM ⊢
  rw [cm_side hM, pb_2]
  cases e : ps_sd A a with
  | false => exact ⟨I, ps_fm.refl I, rfl⟩
  | true =>
    rw [if_neg (by decide), ps_01_if]
    cases e1 : ps_01 b with
    | false => exact ⟨I, ps_fm.refl I, rfl⟩
    | true =>
      obtain ⟨ho, s, hs, rfl⟩ := ps_sd_of e
      obtain ⟨J, j1, j2, j3⟩ := cm_takesLines (L := L) (t := t) (v := v) (w := w) h0 ho hM
      have fm : ps_fm I J := fun a ha => j2 a (by omega)
      refine ⟨J, fm, ?_⟩
      rw [if_pos rfl, j3, pb_1, nI_clamp (n := s) (by omega), cm_strong36 (h0.W ho) ((hM.fm fm).W ho) (fun s hs => (h0.C ho).six s hs) j1 hs (ps_01_of e1)]
      rfl
def sp_strength (A : ps_A) (a b : Int32) : Int32 := if ps_sd A a then (if b = 0 then nI (ps_fs A.W a.toNatClampNeg (ps_onN A.W A.C a.toNatClampNeg) 0 6) else if b = 1 then nI (ps_rs A.W a.toNatClampNeg (ps_onN A.W A.C a.toNatClampNeg) 0 6) else if b = 2 then nI (A.W.sk a.toNatClampNeg (ps_onN A.W A.C a.toNatClampNeg 0) 0) else -1) else -1
theorem cx_strength (h0 : ps_wf A) (hX : ps_RX t A I) (a b : Int32) : ∃ J, ps_fx I J ∧ fX9_strength 0 a b (I, L, px_R t v w) = some (sp_strength A a b, (J, L, px_R t v w)) := by
  unfold fX9_strength sp_strength
  rw [cx_side hX, pb_2]
  cases e : ps_sd A a with
  | false => exact ⟨I, ps_fx.refl I, rfl⟩
  | true =>
    obtain ⟨ho, s, hs, rfl⟩ := ps_sd_of e
    obtain ⟨J, j1, j2, j3⟩ := cx_weighCourt (L := L) (v := v) (w := w) h0 ho hX
    refine ⟨J, ps_fx.of j2, ?_⟩
    rw [if_neg (by decide), j3, pb_1, nI_clamp (n := s) (by omega), if_pos rfl]
    have f1 := j1.fr s hs 0 (by omega)
    have f2 := j1.re s hs 0 (by omega)
    have f3 := j1.sv s hs 0 (by omega)
    have e1 : fX4_force 3 (nI s) (J, L, px_R t v w) = some (4 + 4 * s, (J, L, px_R t v w)) := by
      rcases (show s = 0 ∨ s = 1 by omega) with rfl | rfl <;> rfl
    show fx_b2 (fX4_force 3 _ _) _ = _
    rw [e1, pb_2]
    show (if b = 0 then some (J (px_R t v w (4 + 4 * s) 1) 0, _) else if b = 1 then some (J (px_R t v w (4 + 4 * s) 2) 0, _) else if b = 2 then some (J (px_R t v w (4 + 4 * s) 0) 0, _) else _) = _
    rw [pr_f0 t v w s hs 1 (by omega), pr_f0 t v w s hs 2 (by omega), pr_f0 t v w s hs 0 (by omega), show 5 + 4 * s + 1 = 6 + 4 * s by omega, show 5 + 4 * s + 2 = 7 + 4 * s by omega, f1, f2, show 5 + 4 * s + 0 = 5 + 4 * s from rfl, f3]
    exact pq_if rfl (pq_if rfl (pq_if rfl rfl))
end PSF11
