/-! ===== bestMove of the reference ===== -/
theorem ps_bo_some (b : Option (Int32 × Int32 × Int32)) (f s z : Int32) (m : Bool) : ps_bo b f s z m = some (f, s, z) ∨ ps_bo b f s z m = b := by
  cases b with
  | none => exact Or.inl rfl
  | some b =>
    show (if (if m = true then b.2.2 < z else z < b.2.2) then some (f, s, z) else some b) = _ ∨ (if (if m = true then b.2.2 < z else z < b.2.2) then some (f, s, z) else some b) = _
    split <;> (split <;> simp)
theorem ps_mb_eq (A : ps_A) (s : Nat) : ∀ k b, ps_mb A s k = some b → b.2.1 = b.2.2 ∧ b.1 ≠ -2
  | 0, b, h => by cases h
  | k + 1, b, h => by
    rw [ps_mb] at h
    by_cases c : sp_mayMove A (nI s) (nI (ps_re k + 1)) = 0
    · rw [if_pos c] at h
      rcases ps_bo_some (ps_mb A s k) (nI (ps_re k + 1)) (ps_mc A s k) (ps_mc A s k) (decide (A.C.sv = s)) with e | e
      · rw [e] at h; cases h; exact ⟨rfl, nI_ne_m2 (by unfold ps_re; split <;> omega)⟩
      · rw [e] at h; exact ps_mb_eq A s k b h
    · rw [if_neg c] at h; exact ps_mb_eq A s k b h
theorem ps_ac_bo {b : Option (Int32 × Int32 × Int32)} (hb : ∀ c, b = some c → c.2.1 = c.2.2 ∧ c.1 ≠ -2) (f z : Int32) (m : Bool) :
    ps_ac (-2, -2) (ps_bo b f z z m) = if (ps_ac (-2, -2) b).1 = -2 then (f, z) else if m = true then (if z ≤ (ps_ac (-2, -2) b).2 then ps_ac (-2, -2) b else (f, z)) else (if (ps_ac (-2, -2) b).2 ≤ z then ps_ac (-2, -2) b else (f, z)) := by
  cases b with
  | none => rfl
  | some c =>
    obtain ⟨h1, h2⟩ := hb c rfl
    rw [if_neg (show ¬ (ps_ac (-2, -2) (some c)).1 = -2 from h2)]
    show ps_ac (-2, -2) (if (if m = true then c.2.2 < z else z < c.2.2) then some (f, z, z) else some c) = if m = true then (if z ≤ c.2.1 then (c.1, c.2.1) else (f, z)) else (if c.2.1 ≤ z then (c.1, c.2.1) else (f, z))
    rw [h1]
    cases m with
    | true =>
      simp only [if_true]
      by_cases q : c.2.2 < z
      · rw [if_pos q, if_neg (Int32.not_le.mpr q)]; rfl
      · rw [if_neg q, if_pos (Int32.not_lt.mp q), ← h1]; rfl
    | false =>
      simp only [Bool.false_eq_true, if_false]
      by_cases q : z < c.2.2
      · rw [if_pos q, if_neg (Int32.not_le.mpr q)]; rfl
      · rw [if_neg q, if_pos (Int32.not_lt.mp q), ← h1]; rfl
section PSF15
variable {t v w : Bool} {A : ps_A} {I : Nat → Nat → Int32} {L : Nat → Nat → Int64}
theorem cm_behindMove (h0 : ps_wf A) (ho : A.on = true) (hM : ps_MX A I) {s k p : Nat} (hs : s < 2) (hk : k < 6) (hp : A.W.free s = some p) (K : Int32 → hp_T → Option (Int32 × hp_T)) :
    ∃ J, ps_fm I J ∧ fx_b1 (fX10_puts 290 (nI s) (nI (k + 1)) (nI p) (I, L, px_R t v w)) (fun h91 => fx_b1 (fX10_takesCourt 290 h91) fun h95 => fx_b2 (fX10_chanceOf 290 0 0 (h95.1 (h95.2.2 290 20) (fx_ix 2)) h95) fun r107 h107 => fx_b1 (fX10_puts 290 (nI s) (nI (k + 1)) (nI (ps_onN A.W A.C s k)) h107) fun h118 => K r107 h118) = K (nI (ps_ch A.W (ps_mq A s k) 0 0 A.C.sv)) (J, L, px_R t v w) := by
  have hC := hM.C ho
  rw [cm_puts hs hk, pb_1]
  have rd : ∀ s', s' < 2 → ∀ k', k' < 6 → hp_u I 298 (11 + 6 * s + k) (nI p) 298 (11 + 6 * s' + k') = nI (ps_mq A s k s' k') := by
    intro s' hs' k' hk'
    unfold ps_mq
    by_cases c : s' = s ∧ k' = k
    · rw [if_pos c, c.1, c.2, pu_eq, hp]; rfl
    · rw [if_neg c, pu_place (by omega), hC.on s' hs' k' hk', ps_onN_eq (h0.C ho) hs']
  obtain ⟨J, j1, j2, j3⟩ := cm_takesCourtq (L := L) (t := t) (v := v) (w := w) rd
  rw [j3, pb_1]
  have hMW : ps_MW J A.W := by
    have h9 := hM.W ho
    unfold ps_MW at h9 ⊢
    rw [j2 292 (by omega), j2 295 (by omega), pu_cell (by omega), pu_cell (by omega)]
    exact h9
  show ∃ H, _ ∧ fx_b2 (fX10_chanceOf 290 (nI 0) (nI 0) (J 298 2) _) _ = _
  rw [j2 298 (by omega), pu_place (by omega), hC.sv, cm_chanceOf (h0.W ho) hMW (ps_mq_six h0 ho hs hp k) j1 (by omega) (by omega) (h0.C ho).sv, pb_2, cm_puts hs hk, pb_1]
  refine ⟨_, fun a ha => ?_, rfl⟩
  by_cases c : a = 298
  · subst c
    funext j
    by_cases d : j = 11 + 6 * s + k
    · rw [d, pu_eq, hC.on s hs k hk, ps_onN_eq (h0.C ho) hs]
    · rw [pu_place d, j2 298 (by omega), pu_place d]
  · rw [pu_cell c, j2 a (by omega), pu_cell c]
theorem cm_bestMove (h0 : ps_wf A) (hM : ps_MX A I) (a b : Int32) : ∃ J, ps_fm (hp_u I 290 0 0) J ∧ fX10_bestMove 290 a b (I, L, px_R t v w) = some (sp_bestMove A a b, (J, L, px_R t v w)) := by
  unfold fX10_bestMove sp_bestMove
  rw [pl_let]
  have hM := hM.flag (z := 0)
  show ∃ J, _ ∧ fx_b2 (fX10_isSide 290 a (hp_u I 290 0 0, L, px_R t v w)) _ = _
  generalize hp_u I 290 0 0 = I at hM ⊢
  rw [cm_side hM, pb_2]
  cases e : ps_sd A a with
  | false => exact ⟨I, ps_fm.refl I, rfl⟩
  | true =>
    rw [if_neg (by decide), ps_01_if]
    cases e1 : ps_01 b with
    | false => exact ⟨I, ps_fm.refl I, rfl⟩
    | true =>
      obtain ⟨ho, s, hs, rfl⟩ := ps_sd_of e
      have w0 := h0.C ho
      rw [if_pos rfl, nI_clamp (n := s) (by omega)]
      obtain ⟨⟨x, J⟩, ⟨hx, hJ⟩, e⟩ := pf_loop (S := (Int32 × Int32) × (Nat → Nat → Int32)) (fun n i x => fX10_bestMove_34 n 290 (nI s) b x.1.1 x.1.2 (nI i) (x.2, L, px_R t v w)) (fun x => some (if b = 0 then x.1.1 else x.1.2, (x.2, L, px_R t v w)))
        (fun i x => x.1 = ps_ac (-2, -2) (ps_mb A s i) ∧ ps_fm I x.2) 3 (by
          intro n x _
          show fX10_bestMove_34 (n + 1) _ _ _ _ _ (nI 3) _ = _
          rw [fX10_bestMove_34, if_pos (by decide)]
          exact pq_if rfl rfl) (by
          rintro n i ⟨x, J⟩ hi ⟨hx, hJ⟩
          dsimp only at hx hJ
          subst hx
          show ∃ s', _ ∧ fX10_bestMove_34 (n + 1) _ _ _ _ _ (nI i) _ = fX10_bestMove_34 n _ _ _ _ _ (nI (i + 1)) _
          have hMJ := hM.fm hJ
          have hre : ps_re i < 6 := by unfold ps_re; split <;> omega
          have es : (if nI i = 0 then fX10_bestMove_54 (fX10_bestMove_34 n) 290 (nI s) b (ps_ac (-2, -2) (ps_mb A s i)).1 (ps_ac (-2, -2) (ps_mb A s i)).2 (nI i) 1 (J, L, px_R t v w) else fX10_bestMove_54 (fX10_bestMove_34 n) 290 (nI s) b (ps_ac (-2, -2) (ps_mb A s i)).1 (ps_ac (-2, -2) (ps_mb A s i)).2 (nI i) (7 - nI i) (J, L, px_R t v w)) = fX10_bestMove_54 (fX10_bestMove_34 n) 290 (nI s) b (ps_ac (-2, -2) (ps_mb A s i)).1 (ps_ac (-2, -2) (ps_mb A s i)).2 (nI i) (nI (ps_re i + 1)) (J, L, px_R t v w) := by
            rcases (show i = 0 ∨ i = 1 ∨ i = 2 by omega) with rfl | rfl | rfl <;> rfl
          rw [fX10_bestMove_34, if_neg (show ¬ (3 : Int32) ≤ nI i from nI_ge (b := 3) hi (by omega)), es]
          unfold fX10_bestMove_54
          rw [cm_jmove h0 hMJ, pb_2]
          unfold fX10_bestMove_154 fX10_bestMove_158 fX10_bestMove_159 fX10_bestMove_176
          rw [ps_mb]
          by_cases c : sp_mayMove A (nI s) (nI (ps_re i + 1)) = 0
          · obtain ⟨p, hp⟩ := ps_mv_free h0 ho hs hi c
            rw [if_pos c, if_pos c, cm_court (A := A) (hMJ.C ho) hs hre, ps_onN_eq w0 hs, pb_2, show (7 : Int32) = nI 7 from rfl, nI_add, pg_pos (pi_in (by omega) (by omega)), pi_ix (n := 7 + s) (by omega)]
            rw [show (J, L, px_R t v w).1 ((J, L, px_R t v w).2.2 290 3) (7 + s) = nI p by
              show J 292 (7 + s) = nI p
              rw [(hMJ.W ho).free s hs, hp]; rfl]
            obtain ⟨H, hH, eH⟩ := cm_behindMove (I := J) (L := L) (t := t) (v := v) (w := w) h0 ho hMJ hs hre hp (fun r107 h118 => if (ps_ac (-2, -2) (ps_mb A s i)).1 = -2 then (if (1 : Int32) = 0 then fx_let (nI i + 1) fun x => fX10_bestMove_34 n 290 (nI s) b (ps_ac (-2, -2) (ps_mb A s i)).1 (ps_ac (-2, -2) (ps_mb A s i)).2 x h118 else fx_let (nI i + 1) fun x => fX10_bestMove_34 n 290 (nI s) b (nI (ps_re i + 1)) r107 x h118) else if h118.1 (h118.2.2 290 20) (fx_ix 2) = nI s then (if r107 ≤ (ps_ac (-2, -2) (ps_mb A s i)).2 then (if (0 : Int32) = 0 then fx_let (nI i + 1) fun x => fX10_bestMove_34 n 290 (nI s) b (ps_ac (-2, -2) (ps_mb A s i)).1 (ps_ac (-2, -2) (ps_mb A s i)).2 x h118 else fx_let (nI i + 1) fun x => fX10_bestMove_34 n 290 (nI s) b (nI (ps_re i + 1)) r107 x h118) else (if (1 : Int32) = 0 then fx_let (nI i + 1) fun x => fX10_bestMove_34 n 290 (nI s) b (ps_ac (-2, -2) (ps_mb A s i)).1 (ps_ac (-2, -2) (ps_mb A s i)).2 x h118 else fx_let (nI i + 1) fun x => fX10_bestMove_34 n 290 (nI s) b (nI (ps_re i + 1)) r107 x h118)) else (if (ps_ac (-2, -2) (ps_mb A s i)).2 ≤ r107 then (if (0 : Int32) = 0 then fx_let (nI i + 1) fun x => fX10_bestMove_34 n 290 (nI s) b (ps_ac (-2, -2) (ps_mb A s i)).1 (ps_ac (-2, -2) (ps_mb A s i)).2 x h118 else fx_let (nI i + 1) fun x => fX10_bestMove_34 n 290 (nI s) b (nI (ps_re i + 1)) r107 x h118) else (if (1 : Int32) = 0 then fx_let (nI i + 1) fun x => fX10_bestMove_34 n 290 (nI s) b (ps_ac (-2, -2) (ps_mb A s i)).1 (ps_ac (-2, -2) (ps_mb A s i)).2 x h118 else fx_let (nI i + 1) fun x => fX10_bestMove_34 n 290 (nI s) b (nI (ps_re i + 1)) r107 x h118)))
            refine ⟨(ps_ac (-2, -2) (ps_bo (ps_mb A s i) (nI (ps_re i + 1)) (ps_mc A s i) (ps_mc A s i) (decide (A.C.sv = s))), H), ⟨rfl, hJ.trans hH⟩, ?_⟩
            refine Eq.trans eH ?_
            dsimp only
            rw [ps_ac_bo (ps_mb_eq A s i)]
            show (if (ps_ac (-2, -2) (ps_mb A s i)).1 = -2 then _ else if H 298 2 = nI s then (if ps_mc A s i ≤ _ then _ else _) else (if _ ≤ ps_mc A s i then _ else _)) = _
            have hsv : H 298 2 = nI A.C.sv := ((hMJ.fm hH).C ho).sv
            have hsv2 := w0.sv
            rw [hsv]
            simp only [pl_let, nI_1]
            rw [if_neg (show ¬ (1 : Int32) = 0 by decide)]
            simp only [if_true]
            generalize ps_ac (-2, -2) (ps_mb A s i) = x
            by_cases d0 : x.1 = -2
            · rw [if_pos d0, if_pos d0]; rfl
            · rw [if_neg d0, if_neg d0]
              by_cases d : A.C.sv = s
              · rw [if_pos (by rw [d]), decide_eq_true d, if_pos rfl]
                by_cases d2 : ps_mc A s i ≤ x.2
                · rw [if_pos d2, if_pos d2]
                · rw [if_neg d2, if_neg d2]; rfl
              · rw [if_neg (fun y => d ((nI_eq (by omega) (by omega)).mp y)), decide_eq_false d, if_neg (show ¬ (false = true) by decide)]
                by_cases d2 : x.2 ≤ ps_mc A s i
                · rw [if_pos d2, if_pos d2]
                · rw [if_neg d2, if_neg d2]; rfl
          · rw [if_neg c, if_neg c, pl_let, nI_1]
            exact ⟨(_, J), ⟨rfl, hJ⟩, rfl⟩) 3 0 fx_N ((-2, -2), I) (by omega) (by unfold fx_N; omega) ⟨rfl, ps_fm.refl I⟩
      dsimp only at hx hJ
      refine ⟨J, hJ, ?_⟩
      have e' : fX10_bestMove_34 fx_N 290 (nI s) b (-2) (-2) 0 (I, L, px_R t v w) = some (if b = 0 then x.1 else x.2, (J, L, px_R t v w)) := e
      rw [e', hx]
      have hb := ps_01_of e1
      rcases hb with rfl | rfl <;> (cases ps_mb A s 3 <;> rfl)
end PSF15
