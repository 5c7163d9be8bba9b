/-! ===== a text (the reference's side) ===== -/
section PSF65
variable {t v w : Bool} {I I0 : Nat → Nat → Int32} {L : Nat → Nat → Int64} {b : Nat → Nat} {n p f g : Nat} {Q Q' : ps_Q} {A : ps_A}
theorem cm_copy169 : ∀ m i f I, i + m = 24 → m < f → ∃ J, (∀ a, a ≠ 295 → J a = I a) ∧ (∀ k, k < i → J 295 k = I 295 k) ∧ (∀ k, i ≤ k → k < 24 → J 295 k = I 294 k) ∧ fX10_text_169 f 290 (nI i) (I, L, px_R t v w) = fX10_text_169 1 290 (nI 24) (J, L, px_R t v w) := by
  intro m
  induction m with
  | zero =>
    intro i f I h1 h2
    obtain ⟨f, rfl⟩ : ∃ f', f = f' + 1 := ⟨f - 1, by omega⟩
    obtain rfl : i = 24 := by omega
    refine ⟨I, fun a _ => rfl, fun k _ => rfl, fun k q1 q2 => by omega, ?_⟩
    rw [fX10_text_169, fX10_text_169, if_pos (show (24 : Int32) ≤ nI 24 by decide), if_pos (show (24 : Int32) ≤ nI 24 by decide)]
  | succ m ih =>
    intro i f I h1 h2
    obtain ⟨f, rfl⟩ : ∃ f', f = f' + 1 := ⟨f - 1, by omega⟩
    obtain ⟨J, j1, j2, j3, j4⟩ := ih (i + 1) f (hp_u I 295 i (I 294 i)) (by omega) (by omega)
    refine ⟨J, fun a ha => by rw [j1 a ha, pu_cell ha], fun k hk => by rw [j2 k (by omega), pu_place (by omega)], fun k q1 q2 => ?_, ?_⟩
    · by_cases d : k = i
      · rw [j2 k (by omega), d, pu_eq]
      · rw [j3 k (by omega) q2, pu_cell (by decide)]
    · rw [fX10_text_169, if_neg (show ¬ (24 : Int32) ≤ nI i from nI_ge (b := 24) (by omega) (by omega)), pg_pos (pi_in (by omega) (by omega)), pg_pos (pi_in (by omega) (by omega)), pl_let, pl_let, pi_ix (by omega), nI_1]
      exact j4
theorem cm_copy143 : ∀ m i f I, i + m = 117 → m < f → ∃ J, (∀ a, a ≠ 292 → J a = I a) ∧ (∀ k, k < i → J 292 k = I 292 k) ∧ (∀ k, i ≤ k → k < 117 → J 292 k = I 293 k) ∧ fX10_text_143 f 290 (nI i) (I, L, px_R t v w) = fX10_text_169 fx_N 290 0 (J, L, px_R t v w) := by
  intro m
  induction m with
  | zero =>
    intro i f I h1 h2
    obtain ⟨f, rfl⟩ : ∃ f', f = f' + 1 := ⟨f - 1, by omega⟩
    obtain rfl : i = 117 := by omega
    refine ⟨I, fun a _ => rfl, fun k _ => rfl, fun k q1 q2 => by omega, ?_⟩
    rw [fX10_text_143, if_pos (show (117 : Int32) ≤ nI 117 by decide)]
  | succ m ih =>
    intro i f I h1 h2
    obtain ⟨f, rfl⟩ : ∃ f', f = f' + 1 := ⟨f - 1, by omega⟩
    obtain ⟨J, j1, j2, j3, j4⟩ := ih (i + 1) f (hp_u I 292 i (I 293 i)) (by omega) (by omega)
    refine ⟨J, fun a ha => by rw [j1 a ha, pu_cell ha], fun k hk => by rw [j2 k (by omega), pu_place (by omega)], fun k q1 q2 => ?_, ?_⟩
    · by_cases d : k = i
      · rw [j2 k (by omega), d, pu_eq]
      · rw [j3 k (by omega) q2, pu_cell (by decide)]
    · rw [fX10_text_143, if_neg (show ¬ (117 : Int32) ≤ nI i from nI_ge (b := 117) (by omega) (by omega)), pg_pos (pi_in (by omega) (by omega)), pg_pos (pi_in (by omega) (by omega)), pl_let, pl_let, pi_ix (by omega), nI_1]
      exact j4
/-- the end of a text with a fault -/
theorem cm_text100F (hM : ps_MX A I0) (h : ps_MF I0 f g I) : ∃ J, fX10_text_100 290 (I, L, px_R t v w) = some (-1, (J, L, px_R t v w)) ∧ ps_MX (ps_failA A f g) J ∧ ∀ a, a < 290 → J a = I0 a := by
  unfold fX10_text_100 fX10_text_129
  rw [pl_let, pl_let, pl_let, pl_let]
  have e14 : hp_u (hp_u I 290 2 0) 290 16 (nI f) 290 14 = nI f := by rw [pu_place (by decide), pu_place (by decide)]; exact h.fk
  have e15 : hp_u (hp_u I 290 2 0) 290 16 (nI f) 290 15 = nI g := by rw [pu_place (by decide), pu_place (by decide)]; exact h.fp
  have nz : ¬ nI f = 0 := nI_ne0 (by have := h.f0; omega) (by have := h.f5; omega)
  show ∃ J, (if hp_u (hp_u I 290 2 0) 290 16 (hp_u I 290 2 0 290 14) 290 14 = 0 then (if hp_u (hp_u (hp_u I 290 2 0) 290 16 (hp_u I 290 2 0 290 14)) 290 17 (-1) 290 14 = 0 then fX10_text_143 fx_N 290 0 (hp_u (hp_u (hp_u I 290 2 0) 290 16 (hp_u I 290 2 0 290 14)) 290 17 (-1), L, px_R t v w) else some (-1, (hp_u (hp_u (hp_u I 290 2 0) 290 16 (hp_u I 290 2 0 290 14)) 290 17 (-1), L, px_R t v w))) else (if hp_u (hp_u (hp_u I 290 2 0) 290 16 (hp_u I 290 2 0 290 14)) 290 17 (hp_u (hp_u I 290 2 0) 290 16 (hp_u I 290 2 0 290 14) 290 15) 290 14 = 0 then fX10_text_143 fx_N 290 0 (hp_u (hp_u (hp_u I 290 2 0) 290 16 (hp_u I 290 2 0 290 14)) 290 17 (hp_u (hp_u I 290 2 0) 290 16 (hp_u I 290 2 0 290 14) 290 15), L, px_R t v w) else some (-1, (hp_u (hp_u (hp_u I 290 2 0) 290 16 (hp_u I 290 2 0 290 14)) 290 17 (hp_u (hp_u I 290 2 0) 290 16 (hp_u I 290 2 0 290 14) 290 15), L, px_R t v w)))) = _ ∧ _
  rw [show hp_u I 290 2 0 290 14 = nI f by rw [pu_place (by decide)]; exact h.fk, e14, if_neg nz, e15, show hp_u (hp_u (hp_u I 290 2 0) 290 16 (nI f)) 290 17 (nI g) 290 14 = nI f by rw [pu_place (by decide)]; exact e14, if_neg nz]
  have c : ∀ a, a ≠ 290 → hp_u (hp_u (hp_u I 290 2 0) 290 16 (nI f)) 290 17 (nI g) a = I a := fun a ha => by rw [pu_cell ha, pu_cell ha, pu_cell ha]
  have k0 : ∀ k, k ≠ 2 → k ≠ 16 → k ≠ 17 → hp_u (hp_u (hp_u I 290 2 0) 290 16 (nI f)) 290 17 (nI g) 290 k = I 290 k := fun k q1 q2 q3 => by rw [pu_place q3, pu_place q2, pu_place q1]
  have v2 : hp_u (hp_u (hp_u I 290 2 0) 290 16 (nI f)) 290 17 (nI g) 290 2 = 0 := by rw [pu_place (by decide), pu_place (by decide), pu_eq]
  have v16 : hp_u (hp_u (hp_u I 290 2 0) 290 16 (nI f)) 290 17 (nI g) 290 16 = nI f := by rw [pu_place (by decide), pu_eq]
  have v17 : hp_u (hp_u (hp_u I 290 2 0) 290 16 (nI f)) 290 17 (nI g) 290 17 = nI g := pu_eq
  generalize hp_u (hp_u (hp_u I 290 2 0) 290 16 (nI f)) 290 17 (nI g) = H at c k0 v2 v16 v17 ⊢
  have q : ∀ a, a ≠ 290 → a ≠ 293 → a ≠ 294 → a ≠ 296 → a ≠ 297 → H a = I0 a := fun a h1 h2 h3 h4 h5 => by rw [c a h1]; exact h.fr a h1 h2 h3 h4 h5
  refine ⟨H, rfl, ⟨v2, fun k hk => absurd hk (by show ¬ k < 0; omega), v16, v17, by rw [k0 7 (by decide) (by decide) (by decide), h.fl 7 (by omega)]; exact hM.on, by rw [k0 22 (by decide) (by decide) (by decide), h.fl 22 (by omega)]; exact hM.u, fun z => ?_, fun z => ?_, fun z i hi => ?_, fun z => ?_, fun z => ?_, fun z => ?_⟩, fun a ha => q a (by omega) (by omega) (by omega) (by omega) (by omega)⟩
  · have h9 := hM.W z
    unfold ps_MW at h9 ⊢
    rw [q 292 (by omega) (by omega) (by omega) (by omega) (by omega), q 295 (by omega) (by omega) (by omega) (by omega) (by omega)]; exact h9
  · rw [q 298 (by omega) (by omega) (by omega) (by omega) (by omega)]; exact ps_MR.of (A := A) (B := ps_failA A f g) rfl rfl rfl rfl (hM.C z)
  · rw [q 299 (by omega) (by omega) (by omega) (by omega) (by omega)]; exact ps_MR.of (A := A) (B := ps_failA A f g) rfl rfl rfl rfl (hM.P z i hi)
  · rw [q 300 (by omega) (by omega) (by omega) (by omega) (by omega)]; exact hM.had z
  · rw [q 300 (by omega) (by omega) (by omega) (by omega) (by omega)]; exact hM.svd z
  · rw [q 300 (by omega) (by omega) (by omega) (by omega) (by omega)]; exact hM.svr z
/-- the end of a text with no fault -/
theorem cm_text100K (hw : ps_wfW Q.W) (hs : ∀ s, s < 2 → Q.stt s = true) (h : ps_MK I0 b n Q n I) : ∃ J, fX10_text_100 290 (I, L, px_R t v w) = some (nI Q.lns, (J, L, px_R t v w)) ∧ ps_MX (ps_begin A Q.W) J ∧ ∀ a, a < 290 → J a = I0 a := by
  unfold fX10_text_100 fX10_text_129
  rw [pl_let, pl_let, pl_let, pl_let]
  have e14 : hp_u (hp_u I 290 2 0) 290 16 0 290 14 = 0 := by rw [pu_place (by decide), pu_place (by decide)]; exact h.fk
  show ∃ J, (if hp_u (hp_u I 290 2 0) 290 16 (hp_u I 290 2 0 290 14) 290 14 = 0 then (if hp_u (hp_u (hp_u I 290 2 0) 290 16 (hp_u I 290 2 0 290 14)) 290 17 (-1) 290 14 = 0 then fX10_text_143 fx_N 290 0 (hp_u (hp_u (hp_u I 290 2 0) 290 16 (hp_u I 290 2 0 290 14)) 290 17 (-1), L, px_R t v w) else some (-1, (hp_u (hp_u (hp_u I 290 2 0) 290 16 (hp_u I 290 2 0 290 14)) 290 17 (-1), L, px_R t v w))) else _) = _ ∧ _
  rw [show hp_u I 290 2 0 290 14 = 0 by rw [pu_place (by decide)]; exact h.fk, e14, if_pos rfl, show hp_u (hp_u (hp_u I 290 2 0) 290 16 0) 290 17 (-1) 290 14 = 0 by rw [pu_place (by decide)]; exact e14, if_pos rfl]
  have c : ∀ a, a ≠ 290 → hp_u (hp_u (hp_u I 290 2 0) 290 16 0) 290 17 (-1) a = I a := fun a ha => by rw [pu_cell ha, pu_cell ha, pu_cell ha]
  have v2 : hp_u (hp_u (hp_u I 290 2 0) 290 16 0) 290 17 (-1) 290 2 = 0 := by rw [pu_place (by decide), pu_place (by decide), pu_eq]
  have v16 : hp_u (hp_u (hp_u I 290 2 0) 290 16 0) 290 17 (-1) 290 16 = 0 := by rw [pu_place (by decide), pu_eq]
  have v17 : hp_u (hp_u (hp_u I 290 2 0) 290 16 0) 290 17 (-1) 290 17 = -1 := pu_eq
  generalize hp_u (hp_u (hp_u I 290 2 0) 290 16 0) 290 17 (-1) = H at c v2 v16 v17 ⊢
  obtain ⟨J, j1, -, j3, j4⟩ := cm_copy143 (L := L) (t := t) (v := v) (w := w) 117 0 fx_N H (by omega) (by unfold fx_N; omega)
  have j4 : fX10_text_143 fx_N 290 0 (H, L, px_R t v w) = _ := j4
  obtain ⟨G, g1, -, g3, g4⟩ := cm_copy169 (L := L) (t := t) (v := v) (w := w) 24 0 fx_N J (by omega) (by unfold fx_N; omega)
  have g4 : fX10_text_169 fx_N 290 0 (J, L, px_R t v w) = _ := g4
  rw [j4, g4, fX10_text_169, if_pos (show (24 : Int32) ≤ nI 24 by decide), pl_let]
  have w292 : ∀ k, k < 117 → hp_u G 290 7 1 292 k = I 293 k := fun k hk => by rw [pu_cell (by decide), g1 _ (by decide), j3 k (by omega) hk, c _ (by decide)]
  have w295 : ∀ k, k < 24 → hp_u G 290 7 1 295 k = I 294 k := fun k hk => by rw [pu_cell (by decide), g3 k (by omega) hk, j1 _ (by decide), c _ (by decide)]
  have hW : ps_MW (hp_u G 290 7 1) Q.W := by
    obtain ⟨q1, q2, q3, q4, q5, q6, q7, q8, q9, q10, q11, q12, q13, q14, q15⟩ := h.Q
    refine ⟨by rw [w292 _ (by omega)]; exact q1, by rw [w292 _ (by omega)]; exact q2, by rw [w292 _ (by omega)]; exact q3, by rw [w292 _ (by omega)]; exact q4, by rw [w292 _ (by omega)]; exact q9, fun s z => by rw [w292 _ (by omega)]; exact q10 s z, fun s z => by rw [w292 _ (by omega)]; exact q11 s z, fun s z k hk => by rw [w292 _ (by omega)]; exact q13 s z (hs s z) k hk, fun s z i hi k hk => ?_, fun s z k hk => ?_⟩
    · have := hw.size s z
      have hk' : k < Q.W.size s := hk
      rw [w292 _ (by omega)]; exact q14 s z i hi k hk
    · have := hw.size s z
      have hk' : k < Q.W.size s := hk
      rw [w295 _ (by omega)]; exact q15 s z k hk
  obtain ⟨K, k1, k2, k3, k4, k5⟩ := cm_serveFirst (I := hp_u G 290 7 1) (L := L) (t := t) (v := v) (w := w) (A := ps_begin A Q.W) hW rfl rfl
  show ∃ J', fx_b1 (fX10_serveFirst 290 (hp_u G 290 7 1, L, px_R t v w)) _ = _ ∧ _
  rw [k5, pb_1]
  have e292 : K 292 = hp_u G 290 7 1 292 := k1 _ (by decide) (by decide)
  have e290 : ∀ k, k ≠ 22 → k ≠ 7 → K 290 k = H 290 k := fun k z1 z2 => by rw [k2 k z1, pu_place z2, g1 _ (by decide), j1 _ (by decide)]
  have hWK : ps_MW K Q.W := by
    unfold ps_MW at hW ⊢
    rw [e292, k1 295 (by decide) (by decide)]; exact hW
  refine ⟨K, ?_, ⟨by rw [e290 2 (by decide) (by decide)]; exact v2, fun k hk => absurd hk (by show ¬ k < 0; omega), by rw [e290 16 (by decide) (by decide)]; exact v16, by rw [e290 17 (by decide) (by decide)]; exact v17, by rw [k2 7 (by decide), pu_eq]; rfl, k3, fun _ => hWK, fun _ => k4, fun _ i hi => absurd hi (by show ¬ i < 0; omega), fun _ k hk => absurd hk (by show ¬ k < 0; omega), fun _ k hk => absurd hk (by show ¬ k < 0; omega), fun _ k hk => absurd hk (by show ¬ k < 0; omega)⟩, fun a ha => by rw [k1 a (by omega) (by omega), pu_cell (by omega), g1 a (by omega), j1 a (by omega), c a (by omega)]; exact h.fr a (by omega) (by omega) (by omega) (by omega) (by omega)⟩
  show some (K 292 4, _) = _
  rw [hWK.lns]; rfl
end PSF65
