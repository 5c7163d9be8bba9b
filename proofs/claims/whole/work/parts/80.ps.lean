/-! ===== the reference's ways ===== -/
def ps_ix (sv k : Nat) : Nat := 12 * ps_cR 0 sv k + 2 * ps_cS 0 sv k + ps_cv sv k
def ps_kk (sv m : Nat) : Option Nat := if sv = 0 then (if m % 2 = 0 then (if m / 12 = m / 2 % 6 then some (2 * (m / 12)) else none) else (if m / 2 % 6 = (m / 12 + 1) % 6 then some (2 * (m / 12) + 1) else none)) else (if m % 2 = 1 then (if m / 12 = m / 2 % 6 then some (2 * (m / 12)) else none) else (if m / 12 = (m / 2 % 6 + 1) % 6 then some (2 * (m / 2 % 6) + 1) else none))
theorem ps_kk_ix : ∀ sv, sv < 2 → ∀ m, m < 72 → ∀ k, k < 12 → (ps_kk sv m = some k ↔ ps_ix sv k = m) := by decide +kernel
theorem ps_kk_lt : ∀ sv, sv < 2 → ∀ m, m < 72 → (ps_kk sv m = none ∨ ∃ k, k < 12 ∧ ps_kk sv m = some k) := by decide +kernel
theorem ps_ix_lt : ∀ sv, sv < 2 → ∀ k, k < 12 → ps_ix sv k < 72 := by decide +kernel
theorem ps_ix_inj : ∀ sv, sv < 2 → ∀ k, k < 12 → ∀ j, j < 12 → (ps_ix sv k = ps_ix sv j ↔ k = j) := by decide +kernel
theorem ps_ix_kn : ∀ sv, sv < 2 → ∀ k, k < 12 → (ps_cv sv k = 0 → ps_ix sv (ps_kn k) = 12 * ps_cR 0 sv k + 2 * ((ps_cS 0 sv k + 1) % 6) + 1) ∧ (ps_cv sv k = 1 → ps_ix sv (ps_kn k) = 12 * ((ps_cR 0 sv k + 1) % 6) + 2 * ps_cS 0 sv k) := by decide +kernel
def ps_ex (sv : Nat) (g : Nat → Int64) (m : Nat) : Int64 := match ps_kk sv m with | none => 0 | some k => g k
theorem ps_sm_cong {f g : Nat → Int64} : ∀ n, (∀ m, m < n → f m = g m) → ps_sm f n = ps_sm g n
  | 0, _ => rfl
  | n + 1, h => by rw [ps_sm, ps_sm, ps_sm_cong n (fun m hm => h m (by omega)), h n (by omega)]
theorem ps_sm_ex0 (g : Nat → Int64) : ps_sm (ps_ex 0 g) 72 = ps_sm g 12 := by
  simp [ps_sm, ps_ex, ps_kk]
  grind
theorem ps_sm_ex1 (g : Nat → Int64) : ps_sm (ps_ex 1 g) 72 = ps_sm g 12 := by
  simp [ps_sm, ps_ex, ps_kk]
  grind
theorem ps_sm_ex {sv : Nat} (h : sv < 2) (g : Nat → Int64) : ps_sm (ps_ex sv g) 72 = ps_sm g 12 := by
  rcases (show sv = 0 ∨ sv = 1 by omega) with rfl | rfl
  · exact ps_sm_ex0 g
  · exact ps_sm_ex1 g
theorem ps_cz_same {c : Nat → Nat} {sv e : Nat} {g : Nat → Int64} {ρ : Nat → Nat} {m k : Nat} (h : ∀ k, k < 12 → (ρ k < m + 1 ↔ ρ k < m)) (hk : k < 12) : ps_cz c sv e g ρ (m + 1) k = ps_cz c sv e g ρ m k := by
  unfold ps_cz
  simp only [h k hk, h _ (ps_kp_lt hk)]
def ps_U (a b : Nat) : Nat := 72 * (26 * a + b)
section PSF30
variable {t v w : Bool} {A : ps_A} {I : Nat → Nat → Int32} {L : Nat → Nat → Int64}
theorem cm_goes0 {a b m : Nat} (ha : a < 25) (hb : b < 25) (hm : m < 72) (h : L 304 (ps_U a b + m) = 0) : fX10_goesOn 290 (nI a) (nI b) (nI (m / 12)) (nI (m / 2 % 6)) (nI (m % 2)) (I, L, px_R t v w) = some (I, L, px_R t v w) := by
  unfold fX10_goesOn
  rw [cm_at, pb_2, pg_pos (pi_in (by omega) (by omega)), pl_let, pi_ix (by omega)]
  rw [if_pos]
  rw [lg_cmp0]
  show L 304 _ = 0
  rw [← h]; congr 1; unfold ps_U; omega
theorem cm_goes {c : Nat → Nat} {C : Nat → Nat → Nat → Nat} (hC : ps_Cok C) {sv a b k : Nat} (hsv : sv < 2) (ha : a < 25) (hb : b < 25) (hk : k < 12) (hcc : c k = C (ps_cR 0 sv k) (ps_cS 0 sv k) (ps_cv sv k)) (hch : ∀ m, m < 72 → I 303 m = nI (C (m / 12) (m / 2 % 6) (m % 2))) {g : Int64} (hg : L 304 (ps_U a b + ps_ix sv k) = g) (g0 : g ≠ 0) :
    fX10_goesOn 290 (nI a) (nI b) (nI (ps_ix sv k / 12)) (nI (ps_ix sv k / 2 % 6)) (nI (ps_ix sv k % 2)) (I, L, px_R t v w) =
      some (I, if ps_cv sv k = 0 then hp_u (hp_u L 304 (ps_U (a + 1) b + ps_ix sv k) (L 304 (ps_U (a + 1) b + ps_ix sv k) + ps_Kc c k g)) 304 (ps_U a (b + 1) + ps_ix sv (ps_kn k)) (L 304 (ps_U a (b + 1) + ps_ix sv (ps_kn k)) + ps_Dc c k g) else hp_u (hp_u L 304 (ps_U a (b + 1) + ps_ix sv k) (L 304 (ps_U a (b + 1) + ps_ix sv k) + ps_Kc c k g)) 304 (ps_U (a + 1) b + ps_ix sv (ps_kn k)) (L 304 (ps_U (a + 1) b + ps_ix sv (ps_kn k)) + ps_Dc c k g), px_R t v w) := by
  have hm := ps_ix_lt sv hsv k hk
  have hkn := ps_kn_lt hk
  have hmn := ps_ix_lt sv hsv _ hkn
  obtain ⟨n0, n1⟩ := ps_ix_kn sv hsv k hk
  have b1 : ps_cR 0 sv k < 6 := Nat.mod_lt _ (by omega)
  have b2 : ps_cS 0 sv k < 6 := Nat.mod_lt _ (by omega)
  have b3 : ps_cv sv k < 2 := Nat.mod_lt _ (by omega)
  have d1 : ps_ix sv k / 12 = ps_cR 0 sv k := by unfold ps_ix; omega
  have d2 : ps_ix sv k / 2 % 6 = ps_cS 0 sv k := by unfold ps_ix; omega
  have d3 : ps_ix sv k % 2 = ps_cv sv k := by unfold ps_ix; omega
  have hck := hch _ hm
  rw [d1, d2, d3, ← hcc] at hck
  have hc1 : c k ≤ 1000 := by rw [hcc]; exact hC _ _ _
  rw [d1, d2, d3]
  have di : ps_ix sv k = 12 * ps_cR 0 sv k + 2 * ps_cS 0 sv k + ps_cv sv k := rfl
  unfold fX10_goesOn fX10_goesOn_82 fX10_goesOn_124
  rw [cm_at, pb_2, pg_pos (pi_in (by omega) (by omega)), pl_let, pi_ix (by omega), show (I, L, px_R t v w).2.1 ((I, L, px_R t v w).2.2 290 27) (72 * (26 * a + b) + 12 * ps_cR 0 sv k + 2 * ps_cS 0 sv k + ps_cv sv k) = g by
    show L 304 _ = g
    rw [← hg]; congr 1; unfold ps_U ps_ix; omega, if_neg (fun y => g0 (lg_cmp0.mp y))]
  rw [show (12 : Int32) = nI 12 from rfl, show (2 : Int32) = nI 2 from rfl, pk_mul, pk_mul, nI_add, nI_add, pg_pos (pi_in (by omega) (by omega)), pl_let, pi_ix (n := 12 * ps_cR 0 sv k + 2 * ps_cS 0 sv k + ps_cv sv k) (by omega), show (I, L, px_R t v w).1 ((I, L, px_R t v w).2.2 290 26) (12 * ps_cR 0 sv k + 2 * ps_cS 0 sv k + ps_cv sv k) = nI (c k) from hck, nI_l (by omega), nI_1, nI_1, nI_1, nI_1, nI_rem6 (by omega), nI_rem6 (by omega), show (0 : Int32) = nI 0 from rfl, show (1 : Int32) = nI 1 from rfl]
  have hK : g * lN (c k) / (1000 : Int64) = ps_Kc c k g := rfl
  rw [hK]
  rcases (show ps_cv sv k = 0 ∨ ps_cv sv k = 1 by omega) with e | e
  · have e1 := n0 e
    rw [e, if_pos rfl, if_pos rfl, cm_at, pb_2, if_pos rfl, cm_at, pb_2, pg_pos (pi_in (by omega) (by omega)), pg_pos (pi_in (by omega) (by omega)), pl_let, pg_pos (pi_in (by omega) (by omega)), pg_pos (pi_in (by omega) (by omega)), pl_let, pi_ix (by omega), pi_ix (by omega)]
    rw [show 72 * (26 * (a + 1) + b) + 12 * ps_cR 0 sv k + 2 * ps_cS 0 sv k + 0 = ps_U (a + 1) b + ps_ix sv k by unfold ps_U; omega, show 72 * (26 * a + (b + 1)) + 12 * ps_cR 0 sv k + 2 * ((ps_cS 0 sv k + 1) % 6) + 1 = ps_U a (b + 1) + ps_ix sv (ps_kn k) by unfold ps_U; omega]
    show some (I, hp_u (hp_u L 304 _ (L 304 _ + ps_Kc c k g)) 304 _ (hp_u L 304 (ps_U (a + 1) b + ps_ix sv k) (L 304 (ps_U (a + 1) b + ps_ix sv k) + ps_Kc c k g) 304 (ps_U a (b + 1) + ps_ix sv (ps_kn k)) + ps_Dc c k g), _) = _
    rw [pu_place (show ¬ ps_U a (b + 1) + ps_ix sv (ps_kn k) = ps_U (a + 1) b + ps_ix sv k by unfold ps_U; omega)]
    rfl
  · have e1 := n1 e
    rw [e, if_neg (by decide), if_neg (by decide), cm_at, pb_2, if_neg (by decide), cm_at, pb_2, pg_pos (pi_in (by omega) (by omega)), pg_pos (pi_in (by omega) (by omega)), pl_let, pg_pos (pi_in (by omega) (by omega)), pg_pos (pi_in (by omega) (by omega)), pl_let, pi_ix (by omega), pi_ix (by omega)]
    rw [show 72 * (26 * a + (b + 1)) + 12 * ps_cR 0 sv k + 2 * ps_cS 0 sv k + 1 = ps_U a (b + 1) + ps_ix sv k by unfold ps_U; omega, show 72 * (26 * (a + 1) + b) + 12 * ((ps_cR 0 sv k + 1) % 6) + 2 * ps_cS 0 sv k + 0 = ps_U (a + 1) b + ps_ix sv (ps_kn k) by unfold ps_U; omega]
    show some (I, hp_u (hp_u L 304 _ (L 304 _ + ps_Kc c k g)) 304 _ (hp_u L 304 (ps_U a (b + 1) + ps_ix sv k) (L 304 (ps_U a (b + 1) + ps_ix sv k) + ps_Kc c k g) 304 (ps_U (a + 1) b + ps_ix sv (ps_kn k)) + ps_Dc c k g), _) = _
    rw [pu_place (show ¬ ps_U (a + 1) b + ps_ix sv (ps_kn k) = ps_U a (b + 1) + ps_ix sv k by unfold ps_U; omega)]
    rfl
end PSF30
