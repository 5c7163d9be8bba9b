/-! ===== values ===== -/
def ps_Vy (C : Nat → Nat → Nat → Nat) (P : Nat → Nat → Nat → Nat → Nat) : Nat → Nat → Nat → Nat → Nat
  | 0, _, _, _ => 0
  | y + 1, r, s, sv => if sv = 0 then (C r s 0 * P (y + 1) r s 0 + (1000 - C r s 0) * ps_Vy C P y r ((s + 1) % 6) 1) / 1000 else (C r s 1 * ps_Vy C P y r s 1 + (1000 - C r s 1) * P (y + 1) ((r + 1) % 6) s 0) / 1000
def ps_V (C : Nat → Nat → Nat → Nat) : Nat → Nat → Nat → Nat → Nat → Nat
  | 0 => fun _ _ _ _ => 1000000
  | x + 1 => ps_Vy C (ps_V C x)
def ps_Cok (C : Nat → Nat → Nat → Nat) : Prop := ∀ r s sv, C r s sv ≤ 1000
theorem ps_mix {c a b : Nat} (hc : c ≤ 1000) (ha : a ≤ 1000000) (hb : b ≤ 1000000) : c * a + (1000 - c) * b ≤ 1000000000 := by
  have h1 : c * a ≤ c * 1000000 := Nat.mul_le_mul (Nat.le_refl _) ha
  have h2 : (1000 - c) * b ≤ (1000 - c) * 1000000 := Nat.mul_le_mul (Nat.le_refl _) hb
  have h3 : c * 1000000 + (1000 - c) * 1000000 = 1000 * 1000000 := by rw [← Nat.add_mul]; congr 1; omega
  omega
theorem ps_Vy_le {C : Nat → Nat → Nat → Nat} (hC : ps_Cok C) {P : Nat → Nat → Nat → Nat → Nat} (hP : ∀ y r s sv, P y r s sv ≤ 1000000) : ∀ y r s sv, ps_Vy C P y r s sv ≤ 1000000
  | 0, _, _, _ => Nat.zero_le _
  | y + 1, r, s, sv => by
    rw [ps_Vy]
    split
    · have := ps_mix (hC r s 0) (hP (y + 1) r s 0) (ps_Vy_le hC hP y r ((s + 1) % 6) 1); omega
    · have := ps_mix (hC r s 1) (ps_Vy_le hC hP y r s 1) (hP (y + 1) ((r + 1) % 6) s 0); omega
theorem ps_V_le {C : Nat → Nat → Nat → Nat} (hC : ps_Cok C) : ∀ x y r s sv, ps_V C x y r s sv ≤ 1000000
  | 0, _, _, _, _ => Nat.le_refl _
  | x + 1, y, r, s, sv => ps_Vy_le hC (ps_V_le hC x) y r s sv
def ps_cv (sv k : Nat) : Nat := (sv + k) % 2
def ps_cR (r sv k : Nat) : Nat := (r + (k + sv) / 2) % 6
def ps_cS (s sv k : Nat) : Nat := (s + (k + 1 - sv) / 2) % 6
def ps_cc (C : Nat → Nat → Nat → Nat) (r s sv k : Nat) : Nat := C (ps_cR r sv k) (ps_cS s sv k) (ps_cv sv k)
def ps_Vk (C : Nat → Nat → Nat → Nat) (r s sv x y k : Nat) : Nat := ps_V C x y (ps_cR r sv k) (ps_cS s sv k) (ps_cv sv k)
def ps_kn (k : Nat) : Nat := if k + 1 = 12 then 0 else k + 1
theorem ps_Vk_step (C : Nat → Nat → Nat → Nat) {r s sv k : Nat} (hsv : sv < 2) (hk : k < 12) (x y : Nat) :
    ps_Vk C r s sv (x + 1) (y + 1) k = if (k + sv) % 2 = 0 then (ps_cc C r s sv k * ps_Vk C r s sv x (y + 1) k + (1000 - ps_cc C r s sv k) * ps_Vk C r s sv (x + 1) y (ps_kn k)) / 1000 else (ps_cc C r s sv k * ps_Vk C r s sv (x + 1) y k + (1000 - ps_cc C r s sv k) * ps_Vk C r s sv x (y + 1) (ps_kn k)) / 1000 := by
  unfold ps_Vk ps_cc
  rw [show ps_V C (x + 1) (y + 1) = ps_Vy C (ps_V C x) (y + 1) from rfl, ps_Vy, show ps_V C (x + 1) y = ps_Vy C (ps_V C x) y from rfl]
  by_cases c : (k + sv) % 2 = 0
  · have e0 : ps_cv sv k = 0 := by unfold ps_cv; omega
    have e1 : ps_cv sv (ps_kn k) = 1 := by unfold ps_cv ps_kn; split <;> omega
    have e2 : ps_cR r sv (ps_kn k) = ps_cR r sv k := by unfold ps_cR ps_kn; split <;> omega
    have e3 : ps_cS s sv (ps_kn k) = (ps_cS s sv k + 1) % 6 := by unfold ps_cS ps_kn; split <;> omega
    rw [e0, if_pos rfl, if_pos c, e1, e2, e3]
  · have e0 : ps_cv sv k = 1 := by unfold ps_cv; omega
    have e1 : ps_cv sv (ps_kn k) = 0 := by unfold ps_cv ps_kn; split <;> omega
    have e2 : ps_cR r sv (ps_kn k) = (ps_cR r sv k + 1) % 6 := by unfold ps_cR ps_kn; split <;> omega
    have e3 : ps_cS s sv (ps_kn k) = ps_cS s sv k := by unfold ps_cS ps_kn; split <;> omega
    rw [e0, if_neg (by decide), if_neg c, e1, e2, e3]
def ps_vc (v : Bool) : Nat := if v then 15 else 14
def ps_va (v : Bool) : Nat := if v then 14 else 15
section PSF16
variable {t v w : Bool} {A : ps_A} {I : Nat → Nat → Int32} {L : Nat → Nat → Int64}
theorem pr_3_4 : px_R t v w 3 4 = ps_vc v := by cases v <;> rfl
theorem pr_3_5 : px_R t v w 3 5 = ps_va v := by cases v <;> rfl
theorem ps_vc_ne (v : Bool) : (ps_vc v = 14 ∧ ps_va v = 15) ∨ (ps_vc v = 15 ∧ ps_va v = 14) := by cases v <;> simp [ps_vc, ps_va]
theorem cx_fillCycle {C : Nat → Nat → Nat → Nat} {r s sv : Nat} (hr : r < 6) (hs : s < 6) (hsv : sv < 2) (hC : ∀ J, (∀ a, a ≠ 12 → J a = I a) → ∀ r s sv, r < 6 → s < 6 → sv < 2 → fX4_chanceOf 3 (nI r) (nI s) (nI sv) (J, L, px_R t v w) = some (nI (C r s sv), (J, L, px_R t v w))) :
    ∃ J, ((∀ k, k < 12 → J 12 k = nI (ps_cc C r s sv k)) ∧ ∀ a, a ≠ 12 → J a = I a) ∧ fX4_fillCycle 3 (nI r) (nI s) (nI sv) (I, L, px_R t v w) = some (J, L, px_R t v w) := by
  unfold fX4_fillCycle
  obtain ⟨⟨x, y, z, J⟩, ⟨hx, hy, hz, h1, h2⟩, e⟩ := pf_loop (S := Int32 × Int32 × Int32 × (Nat → Nat → Int32)) (fun n i x => fX4_fillCycle_12 n 3 x.1 x.2.1 x.2.2.1 (nI i) (x.2.2.2, L, px_R t v w)) (fun x => some (x.2.2.2, L, px_R t v w))
    (fun i x => x.1 = nI (ps_cv sv i) ∧ x.2.1 = nI (ps_cR r sv i) ∧ x.2.2.1 = nI (ps_cS s sv i) ∧ (∀ k, k < i → x.2.2.2 12 k = nI (ps_cc C r s sv k)) ∧ ∀ a, a ≠ 12 → x.2.2.2 a = I a) 12 (by
      intro n x _
      show fX4_fillCycle_12 (n + 1) _ _ _ _ (nI 12) _ = _
      rw [fX4_fillCycle_12, if_pos (by decide)]) (by
      rintro n i ⟨x, y, z, J⟩ hi ⟨hx, hy, hz, h1, h2⟩
      dsimp only at hx hy hz h1 h2
      subst hx hy hz
      have b1 : ps_cR r sv i < 6 := Nat.mod_lt _ (by omega)
      have b2 : ps_cS s sv i < 6 := Nat.mod_lt _ (by omega)
      have b3 : ps_cv sv i < 2 := Nat.mod_lt _ (by omega)
      refine ⟨(nI (ps_cv sv (i + 1)), nI (ps_cR r sv (i + 1)), nI (ps_cS s sv (i + 1)), hp_u J 12 i (nI (ps_cc C r s sv i))), ⟨rfl, rfl, rfl, fun k hk => ?_, fun a ha => ?_⟩, ?_⟩
      · by_cases c : k = i
        · subst c; exact pu_eq
        · show hp_u J 12 i _ 12 k = _
          rw [pu_place c]; exact h1 k (by omega)
      · show hp_u J 12 i _ a = _
        rw [pu_cell ha]; exact h2 a ha
      · show fX4_fillCycle_12 (n + 1) _ _ _ _ (nI i) _ = fX4_fillCycle_12 n _ _ _ _ (nI (i + 1)) _
        rw [fX4_fillCycle_12, if_neg (show ¬ (12 : Int32) ≤ nI i from nI_ge (b := 12) hi (by omega)), hC J h2 _ _ _ b1 b2 b3, pb_2, pg_pos (pi_in hi (by omega)), pl_let, pl_let, pi_ix (by omega), show (1 : Int32) - nI (ps_cv sv i) = nI (1 - ps_cv sv i) from pk_sub (a := 1) (by omega)]
        unfold fX4_fillCycle_68
        simp only [pl_let, nI_1]
        rw [nI_rem6 (by omega), nI_rem6 (by omega)]
        have e0 : 1 - ps_cv sv i = ps_cv sv (i + 1) := by unfold ps_cv; omega
        rw [e0]
        by_cases c : ps_cv sv (i + 1) = 0
        · have e2 : ps_cR r sv (i + 1) = (ps_cR r sv i + 1) % 6 := by unfold ps_cR; unfold ps_cv at c; omega
          have e3 : ps_cS s sv (i + 1) = ps_cS s sv i := by unfold ps_cS; unfold ps_cv at c; omega
          rw [if_pos (by rw [c]; rfl), e2, e3]; rfl
        · have e2 : ps_cR r sv (i + 1) = ps_cR r sv i := by unfold ps_cR; unfold ps_cv at c; omega
          have e3 : ps_cS s sv (i + 1) = (ps_cS s sv i + 1) % 6 := by unfold ps_cS; unfold ps_cv at c; omega
          have b4 : ps_cv sv (i + 1) < 2 := Nat.mod_lt _ (by omega)
          rw [if_neg (nI_ne0 (by omega) (by omega)), e2, e3]; rfl) 12 0 fx_N (nI sv, nI r, nI s, I) (by omega) (by unfold fx_N; omega)
      ⟨by show nI sv = _; congr 1; unfold ps_cv; omega, by show nI r = _; congr 1; unfold ps_cR; omega, by show nI s = _; congr 1; unfold ps_cS; omega, fun k hk => absurd hk (by omega), fun _ _ => rfl⟩
  exact ⟨J, ⟨h1, h2⟩, e⟩
theorem nI_and1 {n : Nat} (h : n < 2 ^ 31) : (nI n &&& 1 = 0) ↔ n % 2 = 0 := by
  rw [pk_andN (n := n) (by omega) (m := 1) 1 (by decide)]
  have h2 : n % 2 ^ 1 < 2 := Nat.mod_lt _ (by omega)
  rw [show (0 : Int32) = nI 0 from rfl, nI_eq (by omega) (by omega)]
theorem cx_fillCell {C : Nat → Nat → Nat → Nat} (hC : ps_Cok C) {r s sv j x y : Nat} (hr : r < 6) (hs : s < 6) (hsv : sv < 2) (hj : j < 25) (hcy : ∀ k, k < 12 → I 12 k = nI (ps_cc C r s sv k))
    (hn : ∀ k, k < 12 → I (ps_vc v) (12 * (j + 1) + k) = nI (ps_Vk C r s sv (x + 1) y k)) (ha : ∀ k, k < 12 → I (ps_va v) (12 * j + k) = nI (ps_Vk C r s sv x (y + 1) k)) :
    ∃ J, ((∀ k, k < 12 → J (ps_vc v) (12 * j + k) = nI (ps_Vk C r s sv (x + 1) (y + 1) k)) ∧ (∀ k, (k < 12 * j ∨ 12 * j + 12 ≤ k) → J (ps_vc v) k = I (ps_vc v) k) ∧ ∀ a, a ≠ ps_vc v → J a = I a) ∧ fX4_fillCell 3 (nI (12 * j)) (nI sv) (I, L, px_R t v w) = some (J, L, px_R t v w) := by
  have hv := ps_vc_ne v
  unfold fX4_fillCell
  rw [pl_let, show (12 : Int32) = nI 12 from rfl, nI_add]
  refine pf_loop (S := Nat → Nat → Int32) (fun n i J => fX4_fillCell_8 n 3 (nI (12 * j)) (nI sv) (nI (12 * j + 12)) (nI i) (J, L, px_R t v w)) (fun J => some (J, L, px_R t v w))
    (fun i J => (∀ k, k < i → J (ps_vc v) (12 * j + k) = nI (ps_Vk C r s sv (x + 1) (y + 1) k)) ∧ (∀ k, (k < 12 * j ∨ 12 * j + 12 ≤ k) → J (ps_vc v) k = I (ps_vc v) k) ∧ ∀ a, a ≠ ps_vc v → J a = I a) 12 ?_ ?_ 12 0 fx_N I (by omega) (by unfold fx_N; omega) ⟨fun k hk => absurd hk (by omega), fun _ _ => rfl, fun _ _ => rfl⟩
  · intro n J _
    show fX4_fillCell_8 (n + 1) _ _ _ _ (nI 12) _ = _
    rw [fX4_fillCell_8, if_pos (by decide)]
  · rintro n i J hi ⟨p1, p2, p3⟩
    have hkn : ps_kn i < 12 := by unfold ps_kn; split <;> omega
    have hcc : ps_cc C r s sv i ≤ 1000 := hC _ _ _
    have v1 : J (ps_vc v) (12 * j + 12 + i) = nI (ps_Vk C r s sv (x + 1) y i) := by rw [p2 _ (by omega)]; exact hn i hi
    have v2 : J (ps_vc v) (12 * j + 12 + ps_kn i) = nI (ps_Vk C r s sv (x + 1) y (ps_kn i)) := by rw [p2 _ (by omega)]; exact hn _ hkn
    have v3 : J (ps_va v) (12 * j + i) = nI (ps_Vk C r s sv x (y + 1) i) := by rw [p3 _ (by omega)]; exact ha i hi
    have v4 : J (ps_va v) (12 * j + ps_kn i) = nI (ps_Vk C r s sv x (y + 1) (ps_kn i)) := by rw [p3 _ (by omega)]; exact ha _ hkn
    have c0 : J 12 i = nI (ps_cc C r s sv i) := by rw [p3 _ (by omega)]; exact hcy i hi
    refine ⟨hp_u J (ps_vc v) (12 * j + i) (nI (ps_Vk C r s sv (x + 1) (y + 1) i)), ⟨fun k hk => ?_, fun k hk => ?_, fun a ha => ?_⟩, ?_⟩
    · by_cases c : k = i
      · subst c; exact pu_eq
      · rw [pu_place (by omega)]; exact p1 k (by omega)
    · rw [pu_place (by omega)]; exact p2 k hk
    · rw [pu_cell ha]; exact p3 a ha
    · show fX4_fillCell_8 (n + 1) _ _ _ _ (nI i) _ = fX4_fillCell_8 n _ _ _ _ (nI (i + 1)) _
      have es : ∀ h, (if nI i + 1 = 12 then fX4_fillCell_32 (fX4_fillCell_8 n) 3 (nI (12 * j)) (nI sv) (nI (12 * j + 12)) (nI i) 0 h else fX4_fillCell_32 (fX4_fillCell_8 n) 3 (nI (12 * j)) (nI sv) (nI (12 * j + 12)) (nI i) (nI i + 1) h) = fX4_fillCell_32 (fX4_fillCell_8 n) 3 (nI (12 * j)) (nI sv) (nI (12 * j + 12)) (nI i) (nI (ps_kn i)) h := by
        intro h
        rw [nI_1]
        unfold ps_kn
        by_cases c : i + 1 = 12
        · rw [if_pos (by rw [c]; rfl), if_pos c]; rfl
        · rw [if_neg (show ¬ nI (i + 1) = 12 from fun q => c ((nI_eq (b := 12) (by omega) (by omega)).mp q)), if_neg c]
      rw [fX4_fillCell_8, if_neg (show ¬ (12 : Int32) ≤ nI i from nI_ge (b := 12) hi (by omega)), es]
      unfold fX4_fillCell_32 fX4_fillCell_57 fX4_fillCell_85 fX4_fillCell_113
      rw [pg_pos (pi_in hi (by omega)), pl_let, pi_ix (n := i) (by omega), show (J, L, px_R t v w).1 ((J, L, px_R t v w).2.2 3 2) i = nI (ps_cc C r s sv i) from c0, nI_add]
      simp only [nI_add, nI_and1 (show i + sv < 2 ^ 31 by omega)]
      have V1 := ps_V_le hC (x + 1) y
      have V2 := ps_V_le hC x (y + 1)
      rw [ps_Vk_step C hsv hi]
      by_cases c : (i + sv) % 2 = 0
      · rw [if_pos c, if_pos c, if_neg (show ¬ (1 : Int32) = 0 by decide), pg_pos (pi_in (by omega) (by omega)), if_neg (show ¬ (1 : Int32) = 0 by decide), pg_pos (pi_in (by omega) (by omega)), pg_pos (pi_in (by omega) (by omega)), pl_let, pl_let, nI_1, pi_ix (n := 12 * j + i) (by omega), pi_ix (n := 12 * j + 12 + ps_kn i) (by omega)]
        show fX4_fillCell_8 n 3 _ _ _ _ (hp_u J (px_R t v w 3 4) _ ((nI (ps_cc C r s sv i) * J (px_R t v w 3 5) (12 * j + i) + (1000 - nI (ps_cc C r s sv i)) * J (px_R t v w 3 4) (12 * j + 12 + ps_kn i)) / 1000), L, px_R t v w) = _
        have m1 := ps_mix hcc (V2 (ps_cR r sv i) (ps_cS s sv i) (ps_cv sv i)) (V1 (ps_cR r sv (ps_kn i)) (ps_cS s sv (ps_kn i)) (ps_cv sv (ps_kn i)))
        rw [pr_3_4, pr_3_5, v3, v2, show (1000 : Int32) = nI 1000 from rfl, pk_sub (by omega), pk_mul, pk_mul, nI_add, pk_div (by unfold ps_Vk; omega) (by omega) (by omega)]
      · rw [if_neg c, if_neg c, if_pos (show True from trivial), pg_pos (pi_in (by omega) (by omega)), if_pos (show True from trivial), pg_pos (pi_in (by omega) (by omega)), pg_pos (pi_in (by omega) (by omega)), pl_let, pl_let, nI_1, pi_ix (n := 12 * j + 12 + i) (by omega), pi_ix (n := 12 * j + i) (by omega), pi_ix (n := 12 * j + ps_kn i) (by omega)]
        show fX4_fillCell_8 n 3 _ _ _ _ (hp_u J (px_R t v w 3 4) _ ((nI (ps_cc C r s sv i) * J (px_R t v w 3 4) (12 * j + 12 + i) + (1000 - nI (ps_cc C r s sv i)) * J (px_R t v w 3 5) (12 * j + ps_kn i)) / 1000), L, px_R t v w) = _
        have m1 := ps_mix hcc (V1 (ps_cR r sv i) (ps_cS s sv i) (ps_cv sv i)) (V2 (ps_cR r sv (ps_kn i)) (ps_cS s sv (ps_kn i)) (ps_cv sv (ps_kn i)))
        rw [pr_3_4, pr_3_5, v1, v4, show (1000 : Int32) = nI 1000 from rfl, pk_sub (by omega), pk_mul, pk_mul, nI_add, pk_div (by unfold ps_Vk; omega) (by omega) (by omega)]
end PSF16
