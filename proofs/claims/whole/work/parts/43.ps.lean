/-! ===== together, ranked ===== -/
def ps_fr (z : Nat) : Bool := decide (1 ≤ z) && decide (z ≤ 3)
theorem cx_front {z : Nat} (hz : z < 6) (h : hp_T) : fX9_isFront (nI (z + 1)) h = some (if ps_fr z then 1 else 0, h) := by
  rcases (show z = 0 ∨ z = 1 ∨ z = 2 ∨ z = 3 ∨ z = 4 ∨ z = 5 by omega) with rfl | rfl | rfl | rfl | rfl | rfl <;> rfl
theorem cm_front {z : Nat} (hz : z < 6) (h : hp_T) : fX10_isFront (nI (z + 1)) h = some (if ps_fr z then 1 else 0, h) := cx_front hz h
theorem px_sub6 {i k : Nat} (hi : i < 6) (hk : k ≤ 6) : nI i - nI k + 6 = nI (i + 6 - k) := by
  rw [show (6 : Int32) = nI 6 from rfl]
  have h1 : nI (i + 6 - k) + nI k = nI i + nI 6 := by rw [nI_add, nI_add]; congr 1; omega
  have h2 : nI i - nI k + nI 6 = nI i + nI 6 - nI k := by
    rw [Int32.sub_eq_add_neg, Int32.sub_eq_add_neg, Int32.add_assoc, Int32.add_assoc, Int32.add_comm (-nI k)]
  rw [h2, ← h1, Int32.add_sub_cancel]
theorem cx_behind {i k : Nat} (hi : i < 6) (hk : k < 6) (h : hp_T) : fX9_spotBehind (nI (i + 1)) (nI k) h = some (nI ((i + 6 - k) % 6 + 1), h) := by
  unfold fX9_spotBehind
  rw [nI_pred, px_sub6 hi (by omega)]
  unfold fx_rem
  rw [show (6 : Int32) = nI 6 from rfl, pk_rem (by omega) (by omega) (by omega), nI_1]
def ps_tc (i j : Nat) (q : Bool) : Nat → Nat → Nat
  | 0, _ => 0
  | m + 1, k => (if ps_fr ((i + 6 - k) % 6) = q ∧ ps_fr ((j + 6 - k) % 6) = q then 1 else 0) + ps_tc i j q m (k + 1)
def ps_tm (i j : Nat) (q : Bool) : Nat → Nat → Nat
  | 0, _ => 0
  | m + 1, k => (if ps_fr ((i + k) % 6) = q ∧ ps_fr ((j + k) % 6) = q then 1 else 0) + ps_tm i j q m (k + 1)
theorem ps_t_eq : ∀ i, i < 6 → ∀ j, j < 6 → ∀ q, ps_tc i j q 6 0 = ps_tm i j q 6 0 := by decide
theorem cx_t95 {i j : Nat} (hi : i < 6) (hj : j < 6) (q : Bool) (h : hp_T) : ∀ m k n x, k + m = 6 → m < n → fX9_together_95 n (nI (i + 1)) (nI (j + 1)) (if q then 1 else 0) (nI x) (nI k) h = some (nI (x + ps_tc i j q m k), h) := by
  intro m
  induction m with
  | zero =>
    intro k n x h1 h2
    obtain ⟨n, rfl⟩ : ∃ n', n = n' + 1 := ⟨n - 1, by omega⟩
    unfold fX9_together_95
    rw [if_pos (show (6 : Int32) ≤ nI k from nI_le (a := 6) (by omega) (by omega))]; rfl
  | succ m ih =>
    intro k n x h1 h2
    obtain ⟨n, rfl⟩ : ∃ n', n = n' + 1 := ⟨n - 1, by omega⟩
    unfold fX9_together_95 ps_tc fX9_together_135
    have key : ∀ y z : Bool, ((if y then (1 : Int32) else 0) = (if z then 1 else 0)) ↔ y = z := by decide
    have s1 : (i + 6 - k) % 6 < 6 := Nat.mod_lt _ (by omega)
    have s2 : (j + 6 - k) % 6 < 6 := Nat.mod_lt _ (by omega)
    rw [if_neg (show ¬ (6 : Int32) ≤ nI k from nI_ge (b := 6) (by omega) (by omega)), cx_behind hi (by omega), pb_2, cx_front s1, pb_2, cx_behind hj (by omega), pb_2, cx_front s2, pb_2]
    simp only [pl_let, nI_1, key]
    rw [ih (k + 1) n x (by omega) (by omega), ih (k + 1) n (x + 1) (by omega) (by omega)]
    cases q <;> cases e1 : ps_fr ((i + 6 - k) % 6) <;> cases e2 : ps_fr ((j + 6 - k) % 6) <;> simp [Nat.add_assoc]
theorem cm_t76 {i j : Nat} (hi : i < 6) (hj : j < 6) (q : Bool) (h : hp_T) : ∀ m k n x, k + m = 6 → m < n → fX10_together_76 n (if q then 0 else 1) (nI (i + 1)) (nI (j + 1)) (nI x) (nI k) h = some (nI (x + ps_tm i j q m k), h) := by
  intro m
  induction m with
  | zero =>
    intro k n x h1 h2
    obtain ⟨n, rfl⟩ : ∃ n', n = n' + 1 := ⟨n - 1, by omega⟩
    unfold fX10_together_76
    rw [if_pos (show (6 : Int32) ≤ nI k from nI_le (a := 6) (by omega) (by omega))]; rfl
  | succ m ih =>
    intro k n x h1 h2
    obtain ⟨n, rfl⟩ : ∃ n', n = n' + 1 := ⟨n - 1, by omega⟩
    unfold fX10_together_76 ps_tm fX10_together_138 fX10_together_145 fX10_together_146
    have key : ∀ y z : Bool, ((if y then (1 : Int32) else 0) = (if z then 1 else 0)) ↔ y = z := by decide
    have k1 : ∀ y : Bool, ((if y then (1 : Int32) else 0) = 1) ↔ y = true := by decide
    have k0 : ∀ y : Bool, ((if y then (1 : Int32) else 0) = 0) ↔ y = false := by decide
    have kq : ((if q then (0 : Int32) else 1) = 0) ↔ q = true := by cases q <;> decide
    have s1 : (i + k) % 6 < 6 := Nat.mod_lt _ (by omega)
    have s2 : (j + k) % 6 < 6 := Nat.mod_lt _ (by omega)
    have r : ∀ a, a < 6 → fx_rem (nI (a + 1) - 1 + nI k) 6 + 1 = nI ((a + k) % 6 + 1) := fun a ha => by
      rw [nI_pred, nI_add]
      unfold fx_rem
      rw [show (6 : Int32) = nI 6 from rfl, pk_rem (by omega) (by omega) (by omega), nI_1]
    rw [if_neg (show ¬ (6 : Int32) ≤ nI k from nI_ge (b := 6) (by omega) (by omega)), r i hi, r j hj, cm_front s1, pb_2, cm_front s2, pb_2]
    simp only [pl_let, nI_1, key, k1, k0, kq]
    have z0 : nI x + 0 = nI x := by rw [show (0 : Int32) = nI 0 from rfl, nI_add]; rfl
    rw [z0, ih (k + 1) n x (by omega) (by omega), ih (k + 1) n (x + 1) (by omega) (by omega)]
    cases q <;> cases e1 : ps_fr ((i + k) % 6) <;> cases e2 : ps_fr ((j + k) % 6) <;> simp [Nat.add_assoc]
section PSN
variable {t v w : Bool} {A : ps_A} {I : Nat → Nat → Int32} {L : Nat → Nat → Int64}
def sp_together (A : ps_A) (a b c d : Int32) : Int32 :=
  if ps_pl A a b && (ps_pl A a c && (decide (¬ b = c) && (decide (¬ d < 0) && decide (d ≤ 1)))) then
    (if ps_spot A.C a.toNatClampNeg b = 0 ∨ ps_spot A.C a.toNatClampNeg c = 0 then -2 else nI (ps_tm (ps_spot A.C a.toNatClampNeg b - 1) (ps_spot A.C a.toNatClampNeg c - 1) (decide (d = 0)) 6 0)) else -1
theorem cx_together (h0 : ps_wf A) (hX : ps_RX t A I) (a b c d : Int32) : fX9_together 0 a b c d (I, L, px_R t v w) = some (sp_together A a b c d, (I, L, px_R t v w)) := by
  unfold fX9_together sp_together
  rw [cx_player h0 hX, pb_2]
  cases e : ps_pl A a b with
  | false => rfl
  | true =>
    rw [if_neg (by decide), cx_player h0 hX, pb_2]
    cases e2 : ps_pl A a c with
    | false => rfl
    | true =>
      rw [if_neg (by decide)]
      by_cases c1 : b = c
      · rw [if_pos c1]; simp [c1]
      rw [if_neg c1]
      by_cases c2 : d < 0
      · rw [if_pos c2]; simp [c2]
      rw [if_neg c2]
      by_cases c3 : d ≤ 1
      · rw [if_pos c3]
        obtain ⟨ho, s, hs, rfl, p, hp, hp2, rfl⟩ := ps_pl_of h0 e
        rw [show (I, L, px_R t v w).2.2 0 3 = 22 from rfl, cx_team hs, pb_2, cx_spotOf (hX.C ho) hs, pb_2, show (I, L, px_R t v w).2.2 0 3 = 22 from rfl, cx_team hs, pb_2, cx_spotOf (hX.C ho) hs, pb_2, nI_clamp (by omega)]
        rw [decide_eq_true c1, decide_eq_true c2, decide_eq_true c3, if_pos (show (true && (true && (true && (true && true)))) = true from rfl)]
        by_cases z1 : ps_spot A.C s (nI p) = 0
        · rw [if_pos (by rw [z1]; rfl), if_pos (Or.inl z1)]
        · have b1 := ps_spot_le A.C s (nI p)
          have b2 := ps_spot_le A.C s c
          rw [if_neg (nI_ne0 (by omega) (by omega))]
          by_cases z2 : ps_spot A.C s c = 0
          · rw [if_pos (by rw [z2]; rfl), if_pos (Or.inr z2)]
          · rw [if_neg (nI_ne0 (by omega) (by omega)), if_neg (show ¬ (ps_spot A.C s (nI p) = 0 ∨ ps_spot A.C s c = 0) from fun q => q.elim z1 z2)]
            obtain ⟨i, hi⟩ : ∃ i, ps_spot A.C s (nI p) = i + 1 := ⟨_, (Nat.sub_add_cancel (by omega)).symm⟩
            obtain ⟨j, hj⟩ : ∃ j, ps_spot A.C s c = j + 1 := ⟨_, (Nat.sub_add_cancel (by omega)).symm⟩
            rw [hi, hj]
            unfold fX9_together_87
            rw [show i + 1 - 1 = i from rfl, show j + 1 - 1 = j from rfl, ← ps_t_eq i (by omega) j (by omega)]
            have k := fun q => cx_t95 (i := i) (j := j) (by omega) (by omega) q (I, L, px_R t v w) 6 0 fx_N 0 rfl (by decide)
            by_cases z3 : d = 0
            · rw [if_pos z3, decide_eq_true z3]
              exact (k true).trans (by rw [Nat.zero_add])
            · rw [if_neg z3, decide_eq_false z3]
              exact (k false).trans (by rw [Nat.zero_add])
      · rw [if_neg c3]; simp [c3]
theorem cm_together (h0 : ps_wf A) (hM : ps_MX A I) (a b c d : Int32) : fX10_together 290 a b c d (I, L, px_R t v w) = some (sp_together A a b c d, (hp_u I 290 0 0, L, px_R t v w)) := by
  unfold fX10_together sp_together
  rw [pl_let]
  show fx_b2 (fX10_isPlayer 290 a b (hp_u I 290 0 0, L, px_R t v w)) _ = _
  have hM := hM.flag (z := 0)
  generalize hp_u I 290 0 0 = J at hM ⊢
  rw [cm_player h0 hM, pb_2]
  cases e : ps_pl A a b with
  | false => rfl
  | true =>
    rw [if_neg (by decide), cm_player h0 hM, pb_2]
    cases e2 : ps_pl A a c with
    | false => rfl
    | true =>
      rw [if_neg (by decide)]
      by_cases c1 : b = c
      · rw [if_pos c1]; simp [c1]
      rw [if_neg c1]
      by_cases c2 : d < 0
      · rw [if_pos c2]; simp [c2]
      rw [if_neg c2]
      by_cases c3 : d ≤ 1
      · rw [if_pos c3]
        obtain ⟨ho, s, hs, rfl, p, hp, hp2, rfl⟩ := ps_pl_of h0 e
        rw [cm_linedAt h0 ho hM hs, pb_2, cm_linedAt h0 ho hM hs, pb_2, nI_clamp (by omega)]
        rw [decide_eq_true c1, decide_eq_true c2, decide_eq_true c3, if_pos (show (true && (true && (true && (true && true)))) = true from rfl)]
        by_cases z1 : ps_spot A.C s (nI p) = 0
        · rw [if_pos (by rw [z1]; rfl), if_pos (Or.inl z1)]
        · have b1 := ps_spot_le A.C s (nI p)
          have b2 := ps_spot_le A.C s c
          rw [if_neg (nI_ne0 (by omega) (by omega))]
          by_cases z2 : ps_spot A.C s c = 0
          · rw [if_pos (by rw [z2]; rfl), if_pos (Or.inr z2)]
          · rw [if_neg (nI_ne0 (by omega) (by omega)), if_neg (show ¬ (ps_spot A.C s (nI p) = 0 ∨ ps_spot A.C s c = 0) from fun q => q.elim z1 z2)]
            obtain ⟨i, hi⟩ : ∃ i, ps_spot A.C s (nI p) = i + 1 := ⟨_, (Nat.sub_add_cancel (by omega)).symm⟩
            obtain ⟨j, hj⟩ : ∃ j, ps_spot A.C s c = j + 1 := ⟨_, (Nat.sub_add_cancel (by omega)).symm⟩
            rw [hi, hj, show i + 1 - 1 = i from rfl, show j + 1 - 1 = j from rfl]
            have k := fun q => cm_t76 (i := i) (j := j) (by omega) (by omega) q (J, L, px_R t v w) 6 0 fx_N 0 rfl (by decide)
            obtain ⟨y, hy, rfl⟩ := nI_of2 (n := 1) (M := 1) rfl c2 c3
            rcases (show y = 0 ∨ y = 1 by omega) with rfl | rfl
            · rw [decide_eq_true (show nI 0 = 0 from rfl)]
              exact (k true).trans (by rw [Nat.zero_add])
            · rw [decide_eq_false (show ¬ nI 1 = 0 by decide)]
              exact (k false).trans (by rw [Nat.zero_add])
      · rw [if_neg c3]; simp [c3]
end PSN
