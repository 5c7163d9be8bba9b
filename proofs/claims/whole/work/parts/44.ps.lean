/-! ===== ranked ===== -/
def ps_sum (W : ps_W) (s p : Nat) : Nat := W.sk s p 0 + W.sk s p 1 + W.sk s p 2
def ps_bt (W : ps_W) (s p : Nat) : Nat → Nat → Nat
  | 0, _ => 0
  | m + 1, i => (if ps_sum W s p < ps_sum W s i ∨ (ps_sum W s i = ps_sum W s p ∧ i < p) then 1 else 0) + ps_bt W s p m (i + 1)
theorem ps_bt_le (W : ps_W) (s p : Nat) : ∀ m i, ps_bt W s p m i ≤ m
  | 0, i => Nat.le_refl _
  | m + 1, i => by
    unfold ps_bt
    have := ps_bt_le W s p m (i + 1)
    split <;> omega
def ps_rk (W : ps_W) (s z : Nat) (k : Int32) : Nat → Nat → Int32
  | 0, _ => -2
  | m + 1, i => if nI (ps_bt W s i z 0) = k then nI i else ps_rk W s z k m (i + 1)
def sp_ranked (A : ps_A) (a b : Int32) : Int32 := if ps_sd A a && decide (0 ≤ b) then ps_rk A.W a.toNatClampNeg (A.W.size a.toNatClampNeg) b (A.W.size a.toNatClampNeg) 0 else -1
theorem ps_sum_le {W : ps_W} (w1 : ps_wfW W) {s p : Nat} (hs : s < 2) (hp : p < W.size s) : ps_sum W s p ≤ 297 := by
  have h1 := w1.sk s hs p hp 0 (by omega)
  have h2 := w1.sk s hs p hp 1 (by omega)
  have h3 := w1.sk s hs p hp 2 (by omega)
  unfold ps_sum; omega
section PSO
variable {t v w : Bool} {A : ps_A} {I : Nat → Nat → Int32} {L : Nat → Nat → Int64}
theorem cx_skill (w1 : ps_wfW A.W) (hW : ps_RW I (ps_T t) A.W) {s p : Nat} (hs : s < 2) (hp : p < A.W.size s) : fX7_skill (ps_T t + 6 * s + 1) (nI p) (I, L, px_R t v w) = some (nI (ps_sum A.W s p), (I, L, px_R t v w)) := by
  have hz := w1.size s hs
  unfold fX7_skill ps_sum
  rw [pg_pos (pi_in (by omega) (by omega)), pg_pos (pi_in (by omega) (by omega)), pg_pos (pi_in (by omega) (by omega)), pi_ix (by omega)]
  show some (I (px_R t v w (ps_T t + 6 * s + 1) 1) p + I (px_R t v w (ps_T t + 6 * s + 1) 2) p + I (px_R t v w (ps_T t + 6 * s + 1) 3) p, _) = _
  rw [pr_q hs (by omega), pr_q hs (by omega), pr_q hs (by omega), show I (ps_T t + 6 * s + (1 + 2)) p = nI (A.W.sk s p 0) from hW.sk s hs 0 (by omega) p hp, show I (ps_T t + 6 * s + (2 + 2)) p = nI (A.W.sk s p 1) from hW.sk s hs 1 (by omega) p hp, show I (ps_T t + 6 * s + (3 + 2)) p = nI (A.W.sk s p 2) from hW.sk s hs 2 (by omega) p hp, nI_add, nI_add]
theorem cx_better (w1 : ps_wfW A.W) (hW : ps_RW I (ps_T t) A.W) {s p : Nat} (hs : s < 2) (hp : p < A.W.size s) : fX7_betterThan (ps_T t + 6 * s + 1) (nI p) (I, L, px_R t v w) = some (nI (ps_bt A.W s p (A.W.size s) 0), (I, L, px_R t v w)) := by
  have hz := w1.size s hs
  have key : ∀ m i n x, i + m = A.W.size s → m < n → fX7_betterThan_4 n (ps_T t + 6 * s + 1) (nI p) (nI x) (nI i) (I, L, px_R t v w) = some (nI (x + ps_bt A.W s p m i), (I, L, px_R t v w)) := by
    intro m
    induction m with
    | zero =>
      intro i n x h1 h2
      obtain ⟨n, rfl⟩ : ∃ n', n = n' + 1 := ⟨n - 1, by omega⟩
      unfold fX7_betterThan_4
      show (if I (ps_T t + 6 * s + 1) 5 ≤ nI i then _ else _) = _
      rw [hW.size s hs, if_pos (nI_le (by omega) (by omega))]; rfl
    | succ m ih =>
      intro i n x h1 h2
      obtain ⟨n, rfl⟩ : ∃ n', n = n' + 1 := ⟨n - 1, by omega⟩
      unfold fX7_betterThan_4 ps_bt fX7_betterThan_40 fX7_betterThan_43
      show (if I (ps_T t + 6 * s + 1) 5 ≤ nI i then _ else _) = _
      rw [hW.size s hs, if_neg (nI_ge (by omega) (by omega)), cx_skill w1 hW hs (by omega), pb_2, cx_skill w1 hW hs hp, pb_2]
      simp only [pl_let, nI_1]
      rw [ih (i + 1) n x (by omega) (by omega), ih (i + 1) n (x + 1) (by omega) (by omega)]
      have b1 := ps_sum_le w1 hs hp
      have b2 := ps_sum_le w1 hs (p := i) (by omega)
      have e := pk_sub_toInt (a := ps_sum A.W s i) (b := ps_sum A.W s p) (by omega) (by omega)
      have lt0 : (0 < nI (ps_sum A.W s i) - nI (ps_sum A.W s p)) ↔ ps_sum A.W s p < ps_sum A.W s i := by
        rw [Int32.lt_iff_toInt_lt, e, show (0 : Int32).toInt = 0 from rfl]; omega
      have eq0 : (nI (ps_sum A.W s i) - nI (ps_sum A.W s p) = 0) ↔ ps_sum A.W s i = ps_sum A.W s p := by
        rw [← Int32.toInt_inj, e, show (0 : Int32).toInt = 0 from rfl]; omega
      have le0 : (nI p ≤ nI i) ↔ p ≤ i := nI_leI (by omega) (by omega)
      simp only [lt0, eq0, le0]
      by_cases c1 : ps_sum A.W s p < ps_sum A.W s i
      · rw [if_pos c1, if_pos (Or.inl c1), Nat.add_assoc]
      · rw [if_neg c1]
        by_cases c2 : ps_sum A.W s i = ps_sum A.W s p
        · rw [if_pos c2]
          by_cases c3 : p ≤ i
          · rw [if_pos c3, if_neg (by omega), Nat.zero_add]
          · rw [if_neg c3, if_pos (by omega), Nat.add_assoc]
        · rw [if_neg c2, if_neg (by omega), Nat.zero_add]
  have := key (A.W.size s) 0 fx_N 0 (by omega) (by unfold fx_N; omega)
  rw [Nat.zero_add] at this
  exact this
theorem cx_ranked (h0 : ps_wf A) (hX : ps_RX t A I) (a b : Int32) : fX9_ranked 0 a b (I, L, px_R t v w) = some (sp_ranked A a b, (I, L, px_R t v w)) := by
  unfold fX9_ranked sp_ranked
  rw [cx_side hX, pb_2]
  cases e : ps_sd A a with
  | false => rfl
  | true =>
    obtain ⟨ho, s, hs, rfl⟩ := ps_sd_of e
    have w1 := h0.W ho
    have hz := w1.size s hs
    have hW := hX.W ho
    rw [if_neg (by decide)]
    by_cases c : 0 ≤ b
    · rw [if_pos c, decide_eq_true c, if_pos (show (true && true) = true from rfl), nI_clamp (by omega), show (I, L, px_R t v w).2.2 0 11 = ps_T t from rfl, cx_squad hs, pb_2]
      have key : ∀ m i n, i + m = A.W.size s → m < n → fX9_ranked_26 n b (ps_T t + 6 * s + 1) (nI i) (I, L, px_R t v w) = some (ps_rk A.W s (A.W.size s) b m i, (I, L, px_R t v w)) := by
        intro m
        induction m with
        | zero =>
          intro i n h1 h2
          obtain ⟨n, rfl⟩ : ∃ n', n = n' + 1 := ⟨n - 1, by omega⟩
          unfold fX9_ranked_26
          show (if I (ps_T t + 6 * s + 1) 5 ≤ nI i then _ else _) = _
          rw [hW.size s hs, if_pos (nI_le (by omega) (by omega))]; rfl
        | succ m ih =>
          intro i n h1 h2
          obtain ⟨n, rfl⟩ : ∃ n', n = n' + 1 := ⟨n - 1, by omega⟩
          unfold fX9_ranked_26 ps_rk
          show (if I (ps_T t + 6 * s + 1) 5 ≤ nI i then _ else _) = _
          rw [hW.size s hs, if_neg (nI_ge (by omega) (by omega)), cx_better w1 hW hs (by omega), pb_2]
          by_cases d : nI (ps_bt A.W s i (A.W.size s) 0) = b
          · rw [if_pos d, if_pos d]
          · rw [if_neg d, if_neg d, pl_let, nI_1]
            exact ih (i + 1) n (by omega) (by omega)
      exact key (A.W.size s) 0 fx_N (by omega) (by unfold fx_N; omega)
    · rw [if_neg c, decide_eq_false c]; rfl
theorem cm_sum (w1 : ps_wfW A.W) (hW : ps_MW I A.W) {s p : Nat} (hs : s < 2) (hp : p < A.W.size s) : fX10_sumOf 290 (nI s) (nI p) (I, L, px_R t v w) = some (nI (ps_sum A.W s p), (I, L, px_R t v w)) := by
  have hz := w1.size s hs
  unfold fX10_sumOf ps_sum
  rw [show (0 : Int32) = nI 0 from rfl, show (1 : Int32) = nI 1 from rfl, show (2 : Int32) = nI 2 from rfl, cm_skill hW hs (by omega) hp (by omega), pb_2, cm_skill hW hs (by omega) hp (by omega), pb_2, cm_skill hW hs (by omega) hp (by omega), pb_2, nI_add, nI_add]
theorem cm_ranked (h0 : ps_wf A) (hM : ps_MX A I) (a b : Int32) : fX10_ranked 290 a b (I, L, px_R t v w) = some (sp_ranked A a b, (hp_u I 290 0 0, L, px_R t v w)) := by
  unfold fX10_ranked sp_ranked
  rw [pl_let]
  show fx_b2 (fX10_isSide 290 a (hp_u I 290 0 0, L, px_R t v w)) _ = _
  have hM := hM.flag (z := 0)
  generalize hp_u I 290 0 0 = J at hM ⊢
  rw [cm_side hM, pb_2]
  cases e : ps_sd A a with
  | false => rfl
  | true =>
    obtain ⟨ho, s, hs, rfl⟩ := ps_sd_of e
    have w1 := h0.W ho
    have hz := w1.size s hs
    have hW := hM.W ho
    rw [if_neg (by decide)]
    by_cases c : 0 ≤ b
    · rw [if_pos c, decide_eq_true c, if_pos (show (true && true) = true from rfl), nI_clamp (by omega)]
      have inner : ∀ (k21 : Nat → Int32 → Int32 → Int32 → hp_T → Option (Int32 × hp_T)) (p : Nat), p < A.W.size s → ∀ m i n x, i + m = A.W.size s → m < n → fX10_ranked_39 k21 n 290 (nI s) b (nI p) (nI x) (nI i) (J, L, px_R t v w) = if nI (x + ps_bt A.W s p m i) = b then some (nI p, (J, L, px_R t v w)) else k21 290 (nI s) b (nI (p + 1)) (J, L, px_R t v w) := by
        intro k21 p hp m
        induction m with
        | zero =>
          intro i n x h1 h2
          obtain ⟨n, rfl⟩ : ∃ n', n = n' + 1 := ⟨n - 1, by omega⟩
          unfold fX10_ranked_39
          rw [show (5 : Int32) = nI 5 from rfl, nI_add, pg_pos (pi_in (by omega) (by omega)), pi_ix (by omega)]
          show (if J 292 (5 + s) ≤ nI i then _ else _) = _
          rw [hW.size s hs, if_pos (nI_le (by omega) (by omega)), pl_let, nI_1]; rfl
        | succ m ih =>
          intro i n x h1 h2
          obtain ⟨n, rfl⟩ : ∃ n', n = n' + 1 := ⟨n - 1, by omega⟩
          unfold fX10_ranked_39 ps_bt fX10_ranked_92 fX10_ranked_96 fX10_ranked_97
          rw [show (5 : Int32) = nI 5 from rfl, nI_add, pg_pos (pi_in (by omega) (by omega)), pi_ix (by omega)]
          show (if J 292 (5 + s) ≤ nI i then _ else _) = _
          rw [hW.size s hs, if_neg (nI_ge (by omega) (by omega)), cm_sum w1 hW hs (by omega), pb_2, cm_sum w1 hW hs hp, pb_2, cm_sum w1 hW hs (by omega), pb_2, cm_sum w1 hW hs hp, pb_2]
          have z0 : nI x + 0 = nI x := by rw [show (0 : Int32) = nI 0 from rfl, nI_add]; rfl
          simp only [pl_let, nI_1, z0]
          rw [ih (i + 1) n x (by omega) (by omega), ih (i + 1) n (x + 1) (by omega) (by omega)]
          have b1 := ps_sum_le w1 hs hp
          have b2 := ps_sum_le w1 hs (p := i) (by omega)
          have lt0 : (nI (ps_sum A.W s p) < nI (ps_sum A.W s i)) ↔ ps_sum A.W s p < ps_sum A.W s i := nI_ltI (by omega) (by omega)
          have eq0 : (nI (ps_sum A.W s i) = nI (ps_sum A.W s p)) ↔ ps_sum A.W s i = ps_sum A.W s p := nI_eq (by omega) (by omega)
          have le0 : (nI p ≤ nI i) ↔ p ≤ i := nI_leI (by omega) (by omega)
          simp only [lt0, eq0, le0]
          by_cases c1 : ps_sum A.W s p < ps_sum A.W s i
          · rw [if_pos c1, if_pos (show ps_sum A.W s p < ps_sum A.W s i ∨ (ps_sum A.W s i = ps_sum A.W s p ∧ i < p) from Or.inl c1), Nat.add_assoc]
          · rw [if_neg c1]
            by_cases c2 : ps_sum A.W s i = ps_sum A.W s p
            · rw [if_pos c2]
              by_cases c3 : p ≤ i
              · rw [if_pos c3, if_neg (show ¬ (ps_sum A.W s p < ps_sum A.W s i ∨ (ps_sum A.W s i = ps_sum A.W s p ∧ i < p)) by omega), Nat.zero_add]
              · rw [if_neg c3, if_pos (show ps_sum A.W s p < ps_sum A.W s i ∨ (ps_sum A.W s i = ps_sum A.W s p ∧ i < p) by omega), Nat.add_assoc]
            · rw [if_neg c2, if_neg (show ¬ (ps_sum A.W s p < ps_sum A.W s i ∨ (ps_sum A.W s i = ps_sum A.W s p ∧ i < p)) by omega), Nat.zero_add]
      have key : ∀ m i n, i + m = A.W.size s → m < n → fX10_ranked_21 n 290 (nI s) b (nI i) (J, L, px_R t v w) = some (ps_rk A.W s (A.W.size s) b m i, (J, L, px_R t v w)) := by
        intro m
        induction m with
        | zero =>
          intro i n h1 h2
          obtain ⟨n, rfl⟩ : ∃ n', n = n' + 1 := ⟨n - 1, by omega⟩
          unfold fX10_ranked_21
          rw [show (5 : Int32) = nI 5 from rfl, nI_add, pg_pos (pi_in (by omega) (by omega)), pi_ix (by omega)]
          show (if J 292 (5 + s) ≤ nI i then _ else _) = _
          rw [hW.size s hs, if_pos (nI_le (by omega) (by omega))]; rfl
        | succ m ih =>
          intro i n h1 h2
          obtain ⟨n, rfl⟩ : ∃ n', n = n' + 1 := ⟨n - 1, by omega⟩
          unfold fX10_ranked_21 ps_rk
          rw [show (5 : Int32) = nI 5 from rfl, nI_add, pg_pos (pi_in (by omega) (by omega)), pi_ix (by omega)]
          show (if J 292 (5 + s) ≤ nI i then _ else _) = _
          rw [hW.size s hs, if_neg (nI_ge (by omega) (by omega)), show (0 : Int32) = nI 0 from rfl, inner _ i (by omega) (A.W.size s) 0 fx_N 0 (by omega) (by unfold fx_N; omega), Nat.zero_add]
          by_cases d : nI (ps_bt A.W s i (A.W.size s) 0) = b
          · rw [if_pos d, if_pos d]
          · rw [if_neg d, if_neg d]
            exact ih (i + 1) n (by omega) (by omega)
      exact key (A.W.size s) 0 fx_N (by omega) (by unfold fx_N; omega)
    · rw [if_neg c, decide_eq_false c]; rfl
end PSO
