/-! ===== bestSub ===== -/
def ps_kb (I : Nat → Nat → Int32) (c : Nat) (b : Option (Int32 × Int32 × Int32)) : Prop := I c 0 = 0 ∨ ∃ d, b = some d ∧ ps_BC I c (some d)
theorem ps_kb.cell {I J : Nat → Nat → Int32} {c : Nat} {b : Option (Int32 × Int32 × Int32)} (h : ps_kb I c b) (e : J c = I c) : ps_kb J c b := by
  rcases h with h | ⟨d, h1, h2⟩
  · exact Or.inl (by rw [e]; exact h)
  · exact Or.inr ⟨d, h1, h2.cell e⟩
def ps_a3 (d : Int32) (b : Option (Int32 × Int32 × Int32)) : Int32 × Int32 × Int32 := match b with | none => (d, d, d) | some b => b
theorem ps_a3_bo {b : Option (Int32 × Int32 × Int32)} {e : Int32} (hb : ∀ c, b = some c → c.1 ≠ e) (f s z : Int32) (m : Bool) :
    ps_a3 e (ps_bo b f s z m) = if (ps_a3 e b).1 = e then (f, s, z) else if m = true then (if z ≤ (ps_a3 e b).2.2 then ps_a3 e b else (f, s, z)) else (if (ps_a3 e b).2.2 ≤ z then ps_a3 e b else (f, s, z)) := by
  cases b with
  | none => rw [if_pos (show (ps_a3 e none).1 = e from rfl)]; rfl
  | some c =>
    rw [if_neg (show ¬ (ps_a3 e (some c)).1 = e from hb c rfl)]
    show ps_a3 e (if (if m = true then c.2.2 < z else z < c.2.2) then some (f, s, z) else some c) = if m = true then (if z ≤ c.2.2 then c else (f, s, z)) else (if c.2.2 ≤ z then c else (f, s, z))
    cases m with
    | true =>
      simp only [if_true]
      by_cases q : c.2.2 < z
      · rw [if_pos q, if_neg (Int32.not_le.mpr q)]; rfl
      · rw [if_neg q, if_pos (Int32.not_lt.mp q)]; rfl
    | false =>
      simp only [Bool.false_eq_true, if_false]
      by_cases q : z < c.2.2
      · rw [if_pos q, if_neg (Int32.not_le.mpr q)]; rfl
      · rw [if_neg q, if_pos (Int32.not_lt.mp q)]; rfl
theorem ps_ans_a3 {b : Option (Int32 × Int32 × Int32)} {a : Int32} : ps_ans b a = if a = 0 then (ps_a3 (-2) b).1 else if a = 1 then (ps_a3 (-2) b).2.1 else (ps_a3 (-2) b).2.2 := by
  cases b with
  | none =>
    show (-2 : Int32) = if a = 0 then -2 else if a = 1 then -2 else -2
    split
    · rfl
    · split <;> rfl
  | some c => rfl
theorem ps_sbr_ne {A : ps_A} {s g : Nat} (hg : g < 2 ^ 31) {b : Option (Int32 × Int32 × Int32)} (hb : ∀ c, b = some c → c.1 ≠ -2) : ∀ i c, ps_sbr A s g b i = some c → c.1 ≠ -2
  | 0, c, h => hb c h
  | i + 1, c, h => by
    rw [ps_sbr] at h
    by_cases q : ps_judge A s g i = 0
    · rw [if_pos q] at h
      rcases ps_bo_some (ps_sbr A s g b i) (nI g) (nI i) (ps_val A (ps_sq A s g i)) (decide (s = 0)) with e | e
      · rw [e] at h; rw [← Option.some.inj h]; exact nI_ne_m2 hg
      · rw [e] at h; exact ps_sbr_ne hg hb i c h
    · rw [if_neg q] at h; exact ps_sbr_ne hg hb i c h
theorem ps_sbs_ne {A : ps_A} {s : Nat} : ∀ i, i < 2 ^ 31 → ∀ c, ps_sbs A s i = some c → c.1 ≠ -2
  | 0, _, c, h => by cases h
  | i + 1, hi, c, h => by
    rw [ps_sbs] at h
    exact ps_sbr_ne (by omega) (fun c h => ps_sbs_ne i (by omega) c h) _ c h
section PSF22
variable {t v w : Bool} {A : ps_A} {I : Nat → Nat → Int32} {L : Nat → Nat → Int64}
theorem pr_38 : ∀ t v w : Bool, ∀ s, s < 2 → px_R t v w 38 s = 286 + 2 * s ∧ px_R t v w 39 s = 287 + 2 * s := by decide +kernel
theorem cx_bs60 {c : Nat} {b : Option (Int32 × Int32 × Int32)} (hb : ps_BC I c b) (a : Int32) (R : Nat → Nat → Nat) : fX9_bestSub_60 a c (I, L, R) = some (ps_ans b a, (I, L, R)) := by
  unfold fX9_bestSub_60
  cases b with
  | none => rw [if_pos (show (I, L, R).1 c 0 = 0 from hb)]; rfl
  | some d => rw [if_neg (show ¬ (I, L, R).1 c 0 = 0 by rw [show (I, L, R).1 c 0 = 1 from hb.1]; decide), cx_part hb, pb_2]; rfl
theorem cx_bestSub (h0 : ps_wf A) (hX : ps_RX t A I) (hK : A.on = true → ∀ s, s < 2 → ps_kb I (286 + 2 * s) (ps_sbs A s (A.W.size s))) (a b : Int32) :
    ∃ z : Bool × (Nat → Nat → Int32), ps_G I z.2 ∧ z.2 0 = I 0 ∧ z.2 34 = I 34 ∧ (∀ s, s < 2 → z.2 (287 + 2 * s) = I (287 + 2 * s)) ∧ (A.on = true → ∀ s, s < 2 → ps_kb z.2 (286 + 2 * s) (ps_sbs A s (A.W.size s))) ∧ fX9_bestSub 0 a b (I, L, px_R t v w) = some (sp_bestSub A a b, (z.2, L, px_R t z.1 w)) := by
  have triv : ∀ x, fX9_bestSub 0 a b (I, L, px_R t v w) = some (x, (I, L, px_R t v w)) → x = sp_bestSub A a b → ∃ z : Bool × (Nat → Nat → Int32), ps_G I z.2 ∧ z.2 0 = I 0 ∧ z.2 34 = I 34 ∧ (∀ s, s < 2 → z.2 (287 + 2 * s) = I (287 + 2 * s)) ∧ (A.on = true → ∀ s, s < 2 → ps_kb z.2 (286 + 2 * s) (ps_sbs A s (A.W.size s))) ∧ fX9_bestSub 0 a b (I, L, px_R t v w) = some (sp_bestSub A a b, (z.2, L, px_R t z.1 w)) :=
    fun x e1 e2 => ⟨(v, I), ps_G.refl I, rfl, rfl, fun _ _ => rfl, hK, by rw [e1, e2]⟩
  have unf : fX9_bestSub 0 a b (I, L, px_R t v w) = fX9_bestSub 0 a b (I, L, px_R t v w) := rfl
  conv at unf => rhs; unfold fX9_bestSub; rw [cx_side hX, pb_2]
  cases e : ps_sd A a with
  | false => exact triv (-1) (by rw [unf, e]; rfl) (by unfold sp_bestSub; rw [e]; rfl)
  | true =>
    rw [e, if_neg (by decide), ps_02_if] at unf
    cases e1 : ps_02 b with
    | false => exact triv (-1) (by rw [unf, e1]; rfl) (by unfold sp_bestSub; rw [e, e1]; rfl)
    | true =>
      obtain ⟨ho, s, hs, rfl⟩ := ps_sd_of e
      have w0 := h0.C ho
      have hlf := w0.lf s hs
      have hs2 : sp_bestSub A (nI s) b = ps_ans (ps_sbs A s (A.W.size s)) b := by
        unfold sp_bestSub
        rw [e, e1, nI_clamp (n := s) (by omega)]; rfl
      rw [e1, if_pos rfl, pg_pos (pi_in hs (by omega)), pi_ix (by omega), show (I, L, px_R t v w).2.2 ((I, L, px_R t v w).2.2 0 9) s = 286 + 2 * s from (pr_38 t v w s hs).1] at unf
      rcases hK ho s hs with k0 | ⟨d, d1, d2⟩
      · rw [if_pos (show (I, L, px_R t v w).1 (286 + 2 * s) 0 = 0 from k0), show (I, L, px_R t v w).2.2 0 3 = 22 from rfl, cx_team hs, pb_2, show (I, L, px_R t v w).1 (22 + 5 * s + 1) 6 = nI (A.C.lf s) from (hX.C ho).lf s hs] at unf
        have bc0 : ps_BC I (286 + 2 * s) none := k0
        by_cases c1 : A.C.lf s = 0
        · have none : ps_sbs A s (A.W.size s) = none := ps_sbs_none (fun g c h => (ps_judge0 h).2.1 c1) _
          rw [if_pos (show nI (A.C.lf s) ≤ 0 by rw [c1]; decide), cx_bs60 bc0] at unf
          exact triv _ unf (by rw [hs2, none])
        · rw [if_neg (nI_nle (by omega) (by omega)), cx_over w0 (h0.W ho) (hX.C ho) (hX.W ho), pb_2] at unf
          cases eo : ps_over A with
          | true =>
            have none : ps_sbs A s (A.W.size s) = none := ps_sbs_none (fun g c h => by have := (ps_judge0 h).1; rw [eo] at this; cases this) _
            rw [eo, if_neg (by decide), cx_bs60 bc0] at unf
            exact triv _ unf (by rw [hs2, none])
          | false =>
            rw [eo, if_pos (by decide)] at unf
            obtain ⟨z, ⟨z1, z2⟩, z3⟩ := cx_offerSubs (L := L) (v := v) (w := w) h0 ho hX hs bc0
            rw [z3, pb_1, cx_bs60 z1] at unf
            refine ⟨z, ps_ge (fun a h1 h2 => z2 a h1 (by omega)), z2 0 (by unfold ps_sc; omega) (by omega), z2 34 (by unfold ps_sc; omega) (by omega), fun s' hs' => z2 _ (by unfold ps_sc; omega) (by omega), fun _ s' hs' => ?_, by rw [unf, hs2]⟩
            by_cases q : s' = s
            · subst q
              cases eb : ps_sbs A s' (A.W.size s') with
              | none => rw [eb] at z1; exact Or.inl z1
              | some d => rw [eb] at z1; exact Or.inr ⟨d, rfl, z1⟩
            · exact (hK ho s' hs').cell (z2 _ (by unfold ps_sc; omega) (by omega))
      · rw [if_neg (show ¬ (I, L, px_R t v w).1 (286 + 2 * s) 0 = 0 by rw [show (I, L, px_R t v w).1 (286 + 2 * s) 0 = 1 from d2.1]; decide), cx_bs60 d2] at unf
        exact triv _ unf (by rw [hs2, d1])
theorem cm_bestSub (h0 : ps_wf A) (hM : ps_MX A I) (a b : Int32) : ∃ J, ps_fm (hp_u I 290 0 0) J ∧ fX10_bestSub 290 a b (I, L, px_R t v w) = some (sp_bestSub A a b, (J, L, px_R t v w)) := by
  unfold fX10_bestSub sp_bestSub
  rw [pl_let]
  have hM := hM.flag (z := 0)
  show ∃ J, _ ∧ fx_b2 (fX10_isSide 290 a (hp_u I 290 0 0, L, px_R t v w)) _ = _
  generalize hp_u I 290 0 0 = I at hM ⊢
  rw [cm_side hM, pb_2]
  cases e : ps_sd A a with
  | false => exact ⟨I, ps_fm.refl I, rfl⟩
  | true =>
    rw [if_neg (by decide), ps_02_if]
    cases e1 : ps_02 b with
    | false => exact ⟨I, ps_fm.refl I, rfl⟩
    | true =>
      obtain ⟨ho, s, hs, rfl⟩ := ps_sd_of e
      have hz := (h0.W ho).size s hs
      rw [if_pos rfl, nI_clamp (n := s) (by omega)]
      have inner : ∀ (g : Nat), g < A.W.size s → ∀ (bb : Option (Int32 × Int32 × Int32)) (J0 : Nat → Nat → Int32), (∀ c, bb = some c → c.1 ≠ -2) → ps_fm I J0 → ∀ (k38 : Nat → Int32 → Int32 → Int32 → Int32 → Int32 → Int32 → hp_T → Option (Int32 × hp_T)),
          ∃ J : Nat → Nat → Int32, ps_fm I J ∧ fX10_bestSub_54 k38 fx_N 290 (nI s) b (ps_a3 (-2) bb).1 (ps_a3 (-2) bb).2.1 (ps_a3 (-2) bb).2.2 (nI g) 0 (J0, L, px_R t v w) = k38 290 (nI s) b (ps_a3 (-2) (ps_sbr A s g bb (A.W.size s))).1 (ps_a3 (-2) (ps_sbr A s g bb (A.W.size s))).2.1 (ps_a3 (-2) (ps_sbr A s g bb (A.W.size s))).2.2 (nI (g + 1)) (J, L, px_R t v w) := by
        intro g hg bb J0 hbb hJ0 k38
        obtain ⟨⟨x, J⟩, ⟨hx, hJ⟩, e⟩ := pf_loop (S := (Int32 × Int32 × Int32) × (Nat → Nat → Int32)) (fun n i x => fX10_bestSub_54 k38 n 290 (nI s) b x.1.1 x.1.2.1 x.1.2.2 (nI g) (nI i) (x.2, L, px_R t v w)) (fun x => k38 290 (nI s) b x.1.1 x.1.2.1 x.1.2.2 (nI (g + 1)) (x.2, L, px_R t v w))
          (fun i x => x.1 = ps_a3 (-2) (ps_sbr A s g bb i) ∧ ps_fm I x.2) (A.W.size s) (by
            rintro n ⟨x, J⟩ ⟨hx, hJ⟩
            show fX10_bestSub_54 k38 (n + 1) _ _ _ _ _ _ _ _ _ = _
            rw [fX10_bestSub_54, show (5 : Int32) = nI 5 from rfl, nI_add, pg_pos (pi_in (by omega) (by omega)), pi_ix (n := 5 + s) (by omega), show (J, L, px_R t v w).1 ((J, L, px_R t v w).2.2 290 3) (5 + s) = nI (A.W.size s) from ((hM.fm hJ).W ho).size s hs, if_pos (nI_le (Nat.le_refl _) (by omega)), pl_let, nI_1]) (by
            rintro n i ⟨x, J⟩ hi ⟨hx, hJ⟩
            dsimp only at hx hJ
            subst hx
            have hMJ := hM.fm hJ
            show ∃ s', _ ∧ fX10_bestSub_54 k38 (n + 1) _ _ _ _ _ _ _ (nI i) _ = fX10_bestSub_54 k38 n _ _ _ _ _ _ _ (nI (i + 1)) _
            rw [fX10_bestSub_54, show (5 : Int32) = nI 5 from rfl, nI_add, pg_pos (pi_in (by omega) (by omega)), pi_ix (n := 5 + s) (by omega), show (J, L, px_R t v w).1 ((J, L, px_R t v w).2.2 290 3) (5 + s) = nI (A.W.size s) from (hMJ.W ho).size s hs, if_neg (nI_ge hi (by omega)), cm_judge h0 hMJ, pb_2, ps_may_eq h0 ho hs hg hi]
            unfold fX10_bestSub_120 fX10_bestSub_124 fX10_bestSub_125 fX10_bestSub_146
            rw [ps_sbr]
            by_cases c : ps_judge A s g i = 0
            · rw [if_pos c, if_pos c]
              obtain ⟨H, k1, k2⟩ := cm_behindSub (I := J) (L := L) (t := t) (v := v) (w := w) h0 ho hMJ hs hg hi c
              rw [k2, pb_2]
              refine ⟨(ps_a3 (-2) (ps_bo (ps_sbr A s g bb i) (nI g) (nI i) (ps_val A (ps_sq A s g i)) (decide (s = 0))), H), ⟨rfl, hJ.trans k1⟩, ?_⟩
              dsimp only
              rw [ps_a3_bo (fun c h => ps_sbr_ne (by omega) hbb i c h)]
              simp only [pl_let, nI_1]
              generalize ps_a3 (-2) (ps_sbr A s g bb i) = x
              simp only [if_neg (show ¬ (1 : Int32) = 0 by decide), if_true]
              by_cases d0 : x.1 = -2
              · rw [if_pos d0, if_pos d0]
              · rw [if_neg d0, if_neg d0]
                rcases (show s = 0 ∨ s = 1 by omega) with rfl | rfl
                · rw [if_pos (show nI 0 = 0 from rfl), if_pos (show decide (0 = 0) = true from rfl)]
                  by_cases d2 : ps_val A (ps_sq A 0 g i) ≤ x.2.2
                  · rw [if_pos d2, if_pos d2]
                  · rw [if_neg d2, if_neg d2]
                · rw [if_neg (show ¬ nI 1 = 0 by decide), if_neg (show ¬ decide (1 = 0) = true by decide)]
                  by_cases d2 : x.2.2 ≤ ps_val A (ps_sq A 1 g i)
                  · rw [if_pos d2, if_pos d2]
                  · rw [if_neg d2, if_neg d2]
            · rw [if_neg c, if_neg c, pl_let, nI_1]
              exact ⟨(_, J), ⟨rfl, hJ⟩, rfl⟩) (A.W.size s) 0 fx_N (ps_a3 (-2) bb, J0) (by omega) (by unfold fx_N; omega) ⟨rfl, hJ0⟩
        dsimp only at hx hJ
        subst hx
        exact ⟨J, hJ, e⟩
      obtain ⟨⟨x, J⟩, ⟨hx, hJ⟩, e⟩ := pf_loop (S := (Int32 × Int32 × Int32) × (Nat → Nat → Int32)) (fun n i x => fX10_bestSub_38 n 290 (nI s) b x.1.1 x.1.2.1 x.1.2.2 (nI i) (x.2, L, px_R t v w)) (fun x => some (if b = 0 then x.1.1 else if b = 1 then x.1.2.1 else x.1.2.2, (x.2, L, px_R t v w)))
        (fun i x => x.1 = ps_a3 (-2) (ps_sbs A s i) ∧ ps_fm I x.2) (A.W.size s) (by
          rintro n ⟨x, J⟩ ⟨hx, hJ⟩
          show fX10_bestSub_38 (n + 1) _ _ _ _ _ _ _ _ = _
          rw [fX10_bestSub_38, show (5 : Int32) = nI 5 from rfl, nI_add, pg_pos (pi_in (by omega) (by omega)), pi_ix (n := 5 + s) (by omega), show (J, L, px_R t v w).1 ((J, L, px_R t v w).2.2 290 3) (5 + s) = nI (A.W.size s) from ((hM.fm hJ).W ho).size s hs, if_pos (nI_le (Nat.le_refl _) (by omega))]
          exact pq_if rfl (pq_if rfl rfl)) (by
          rintro n i ⟨x, J⟩ hi ⟨hx, hJ⟩
          dsimp only at hx hJ
          subst hx
          show ∃ s', _ ∧ fX10_bestSub_38 (n + 1) _ _ _ _ _ _ (nI i) _ = fX10_bestSub_38 n _ _ _ _ _ _ (nI (i + 1)) _
          rw [fX10_bestSub_38, show (5 : Int32) = nI 5 from rfl, nI_add, pg_pos (pi_in (by omega) (by omega)), pi_ix (n := 5 + s) (by omega), show (J, L, px_R t v w).1 ((J, L, px_R t v w).2.2 290 3) (5 + s) = nI (A.W.size s) from ((hM.fm hJ).W ho).size s hs, if_neg (nI_ge hi (by omega))]
          obtain ⟨H, k1, k2⟩ := inner i hi (ps_sbs A s i) J (fun c h => ps_sbs_ne i (by omega) c h) hJ (fX10_bestSub_38 n)
          exact ⟨(ps_a3 (-2) (ps_sbs A s (i + 1)), H), ⟨rfl, k1⟩, k2⟩) (A.W.size s) 0 fx_N ((-2, -2, -2), I) (by omega) (by unfold fx_N; omega) ⟨rfl, ps_fm.refl I⟩
      dsimp only at hx hJ
      refine ⟨J, hJ, ?_⟩
      have e' : fX10_bestSub_38 fx_N 290 (nI s) b (-2) (-2) (-2) 0 (I, L, px_R t v w) = some (if b = 0 then x.1 else if b = 1 then x.2.1 else x.2.2, (J, L, px_R t v w)) := e
      rw [e', hx, ← ps_ans_a3]
      rfl
end PSF22
