/-! ===== strength of the reference; streak ===== -/
def ps_tn (s sv k : Nat) : Nat := if k = 0 ∨ sv = s then 0 else 1
def ps_se (s sv k : Nat) : Nat := if k = 0 then sv else s
def ps_stc (W : ps_W) (q : Nat → Nat → Nat) (s sv k : Nat) : Nat := ps_ch W q (if s = 0 then ps_tn s sv k else 0) (if s = 0 then 0 else ps_tn s sv k) (ps_se s sv k)
def ps_stv (W : ps_W) (q : Nat → Nat → Nat) (s sv : Nat) : Nat → Nat
  | 0 => 1000000
  | k + 1 => ps_stv W q s sv k * (if ps_se s sv k = s then ps_stc W q s sv k else 1000 - ps_stc W q s sv k) / 1000
theorem ps_stv_le (W : ps_W) (q : Nat → Nat → Nat) (s sv : Nat) : ∀ k, ps_stv W q s sv k ≤ 1000000
  | 0 => Nat.le_refl _
  | k + 1 => by
    have h1 := ps_stv_le W q s sv k
    have h2 := ps_ch_le W q (if s = 0 then ps_tn s sv k else 0) (if s = 0 then 0 else ps_tn s sv k) (ps_se s sv k)
    unfold ps_stv
    have h3 : (if ps_se s sv k = s then ps_stc W q s sv k else 1000 - ps_stc W q s sv k) ≤ 1000 := by unfold ps_stc; split <;> omega
    have h4 := Nat.mul_le_mul h1 h3
    exact Nat.div_le_of_le_mul (by omega)
section PSF12
variable {t v w : Bool} {A : ps_A} {I : Nat → Nat → Int32} {L : Nat → Nat → Int64}
theorem cm_strength (h0 : ps_wf A) (hM : ps_MX A I) (a b : Int32) : ∃ J, ps_fm (hp_u I 290 0 0) J ∧ fX10_strength 290 a b (I, L, px_R t v w) = some (sp_strength A a b, (J, L, px_R t v w)) := by
  unfold fX10_strength sp_strength
  rw [pl_let]
  have hM := hM.flag (z := 0)
  show ∃ J, _ ∧ fx_b2 (fX10_isSide 290 a (hp_u I 290 0 0, L, px_R t v w)) _ = _
  generalize hp_u I 290 0 0 = I at hM ⊢
  refine ⟨I, ps_fm.refl I, ?_⟩
  rw [cm_side hM, pb_2]
  cases e : ps_sd A a with
  | false => rfl
  | true =>
    obtain ⟨ho, s, hs, rfl⟩ := ps_sd_of e
    have w1 := h0.W ho
    have hz12 := w1.size s hs
    have hW := hM.W ho
    have on := ps_onN_six w1 (h0.C ho) hs
    have hc : ∀ k, k < 6 → fX10_court 290 (nI s) (nI (k + 1)) (I, L, px_R t v w) = some (nI (ps_onN A.W A.C s k), (I, L, px_R t v w)) := fun k hk => by
      rw [cm_court (A := A) (hM.C ho) hs hk, ps_onN_eq (h0.C ho) hs]
    rw [if_neg (by decide), if_pos rfl, nI_clamp (n := s) (by omega)]
    by_cases c1 : b < 0
    · have d : ∀ n : Nat, n ≤ 8 → b ≠ nI n := fun n hn e => nI_pos (n := n) (by omega) (e ▸ c1)
      rw [if_pos c1, if_neg (show ¬ b = 0 from d 0 (by decide)), if_neg (show ¬ b = 1 from d 1 (by decide)), if_neg (show ¬ b = 2 from d 2 (by decide))]
    rw [if_neg c1]
    by_cases c2 : b ≤ 2
    · rw [if_pos c2]
      obtain ⟨j, hj, rfl⟩ := nI_of2 (n := 2) (M := 2) rfl c1 c2
      by_cases c3 : j = 2
      · subst c3
        have c0 := hc 0 (by omega)
        rw [if_pos (show nI 2 = 2 from rfl), show (1 : Int32) = nI (0 + 1) from rfl, c0, pb_2, show (0 : Int32) = nI 0 from rfl, cm_skill hW hs (by omega) (on 0 (by omega)) (by have := on 0 (by omega); omega), pb_2]
        rfl
      · rw [if_neg (show ¬ nI j = 2 from fun q => c3 ((nI_eq (by omega) (by omega)).mp q))]
        have hj2 : j = 0 ∨ j = 1 := by omega
        obtain ⟨x, hx, e⟩ := pf_loop (S := Int32) (fun n i x => fX10_strength_47 n 290 (nI s) (nI j) x (nI (i + 1)) (I, L, px_R t v w)) (fun x => some (x, (I, L, px_R t v w)))
          (fun i x => x = nI (if j = 0 then ps_fs A.W s (ps_onN A.W A.C s) 0 i else ps_rs A.W s (ps_onN A.W A.C s) 0 i)) 6 (by
            intro n x _
            show fX10_strength_47 (n + 1) _ _ _ _ (nI 7) _ = _
            rw [fX10_strength_47, if_pos (by decide)]) (by
            rintro n i x hi rfl
            refine ⟨_, rfl, ?_⟩
            show fX10_strength_47 (n + 1) _ _ _ _ (nI (i + 1)) _ = fX10_strength_47 n _ _ _ _ (nI (i + 1 + 1)) _
            have hon := on i hi
            have z0 : ∀ x : Nat, nI x + 0 = nI x := fun x => by rw [show (0 : Int32) = nI 0 from rfl, nI_add]; rfl
            rw [fX10_strength_47, if_neg (show ¬ (6 : Int32) < nI (i + 1) from nI_nlt (a := 6) (by omega) (by omega)), cm_frn hi, pb_2]
            unfold fX10_strength_68 fX10_strength_76 fX10_strength_103
            rw [hc i hi, pb_2, nI_1 j, cm_skill hW hs (by omega) hon (by omega), pb_2]
            simp only [pl_let, nI_1, nI_add, z0]
            rcases hj2 with rfl | rfl
            · by_cases c : 1 ≤ i ∧ i ≤ 3
              · simp [show nI 0 = 0 from rfl, c, ps_fs, Nat.mod_eq_of_lt hi]
              · simp [show nI 0 = 0 from rfl, c, ps_fs, Nat.mod_eq_of_lt hi]
            · by_cases c : 1 ≤ i ∧ i ≤ 3
              · simp [show ¬ nI 1 = 0 by decide, c, ps_rs, Nat.mod_eq_of_lt hi]
              · simp [show ¬ nI 1 = 0 by decide, c, ps_rs, Nat.mod_eq_of_lt hi]) 6 0 fx_N 0 (by omega) (by unfold fx_N; omega) (by rcases hj2 with rfl | rfl <;> rfl)
        have e' : fX10_strength_47 fx_N 290 (nI s) (nI j) 0 1 (I, L, px_R t v w) = some (x, (I, L, px_R t v w)) := e
        rw [e', hx]
        rcases hj2 with rfl | rfl <;> rfl
    · have d : ∀ n : Nat, n ≤ 2 → b ≠ nI n := fun n hn e => c2 (by rw [e]; exact nI_le (b := 2) hn (by decide))
      rw [if_neg c2, if_neg (show ¬ b = 0 from d 0 (by decide)), if_neg (show ¬ b = 1 from d 1 (by decide)), if_neg (show ¬ b = 2 from d 2 (by decide))]
theorem cx_streakOf {W : ps_W} (w1 : ps_wfW W) {q : Nat → Nat → Nat} (hq : ∀ s, s < 2 → ps_six W s (q s)) (hF : ps_F I W q) {s sv m : Nat} (hs : s < 2) (hsv : sv < 2) (hm : m ≤ 25) :
    fX4_streakOf 3 (nI s) (nI m) (nI sv) (I, L, px_R t v w) = some (nI (ps_stv W q s sv m), (I, L, px_R t v w)) := by
  unfold fX4_streakOf
  obtain ⟨x, hx, e⟩ := pf_loop (S := Int32 × Int32 × Int32 × Int32) (fun n i x => fX4_streakOf_16 n 3 (nI s) (nI m) x.1 x.2.1 x.2.2.1 x.2.2.2 (nI i) (I, L, px_R t v w)) (fun x => some (x.1, (I, L, px_R t v w)))
    (fun i x => x = (nI (ps_stv W q s sv i), nI (ps_se s sv i), nI (if s = 0 then ps_tn s sv i else 0), nI (if s = 0 then 0 else ps_tn s sv i))) m (by
      intro n x _
      show fX4_streakOf_16 (n + 1) _ _ _ _ _ _ _ (nI m) _ = _
      rw [fX4_streakOf_16, if_pos (nI_le (Nat.le_refl _) (by omega))]) (by
      rintro n i x hi rfl
      refine ⟨_, rfl, ?_⟩
      show fX4_streakOf_16 (n + 1) _ _ _ _ _ _ _ (nI i) _ = fX4_streakOf_16 n _ _ _ _ _ _ _ (nI (i + 1)) _
      have hse : ps_se s sv i < 2 := by unfold ps_se; split <;> omega
      have htn : ps_tn s sv i < 2 := by unfold ps_tn; split <;> omega
      have hch := ps_ch_le W q (if s = 0 then ps_tn s sv i else 0) (if s = 0 then 0 else ps_tn s sv i) (ps_se s sv i)
      have hst := ps_stv_le W q s sv i
      rw [fX4_streakOf_16, if_neg (nI_ge hi (by omega)), cx_chanceOf w1 hq hF (by split <;> omega) (by split <;> omega) hse, pb_2, show (1000 : Int32) = nI 1000 from rfl, pk_sub (by omega)]
      change (if nI (ps_se s sv i) = nI s then fX4_streakOf_53 _ _ _ _ _ _ _ _ _ (nI (ps_stc W q s sv i)) _ else fX4_streakOf_53 _ _ _ _ _ _ _ _ _ (nI (1000 - ps_stc W q s sv i)) _) = _
      have hst2 : ps_stc W q s sv i ≤ 950 := hch.2
      unfold fX4_streakOf_53 fX4_streakOf_78 fX4_streakOf_89 fX4_streakOf_91
      rw [show (1000 : Int32) = nI 1000 from rfl, pk_mul, pk_mul, pk_div (Nat.lt_of_le_of_lt (Nat.mul_le_mul hst (show _ ≤ 1000 by omega)) (by omega)) (by omega) (by omega), pk_div (Nat.lt_of_le_of_lt (Nat.mul_le_mul hst (show _ ≤ 1000 by omega)) (by omega)) (by omega) (by omega)]
      simp only [pl_let, nI_1]
      rw [ps_stv]
      by_cases c : ps_se s sv i = s
      · rw [if_pos (by rw [c]), if_pos (by rw [c]), if_pos c]
        have t1 : ps_tn s sv (i + 1) = ps_tn s sv i := by
          unfold ps_tn ps_se at *
          by_cases z : i = 0
          · rw [if_pos z] at c; rw [if_pos (Or.inl z), if_pos (Or.inr c)]
          · by_cases y : sv = s
            · rw [if_pos (Or.inr y), if_pos (Or.inr y)]
            · rw [if_neg (by omega), if_neg (by omega)]
        rw [t1, show ps_se s sv (i + 1) = s from rfl, c]
      · rw [if_neg (fun y => c ((nI_eq (by omega) (by omega)).mp y)), if_neg (fun y => c ((nI_eq (by omega) (by omega)).mp y)), if_neg c]
        have t1 : ps_tn s sv (i + 1) = 1 := by
          unfold ps_tn ps_se at *
          by_cases z : i = 0
          · rw [if_pos z] at c; rw [if_neg (by omega)]
          · rw [if_neg z] at c; exact absurd rfl c
        rw [t1, show ps_se s sv (i + 1) = s from rfl]
        rcases (show s = 0 ∨ s = 1 by omega) with rfl | rfl <;> rfl) m 0 fx_N (1000000, nI sv, 0, 0) (by omega) (by unfold fx_N; omega) (by
      have h1 : ps_tn s sv 0 = 0 := by unfold ps_tn; rw [if_pos (Or.inl rfl)]
      rw [h1, show ps_se s sv 0 = sv from rfl]
      rcases (show s = 0 ∨ s = 1 by omega) with rfl | rfl <;> rfl)
  rw [hx] at e
  exact e
end PSF12
