/-! ===== how many may go and come; wrong ===== -/
def ps_row (A : ps_A) (s g : Nat) : Nat → Nat → Nat
  | 0, _ => 0
  | m + 1, i => (if ps_judge A s g i = 0 then 1 else 0) + ps_row A s g m (i + 1)
def ps_rows (A : ps_A) (s z : Nat) : Nat → Nat → Nat
  | 0, _ => 0
  | m + 1, i => ps_row A s i z 0 + ps_rows A s z m (i + 1)
theorem ps_row_le (A : ps_A) (s g : Nat) : ∀ m i, ps_row A s g m i ≤ m
  | 0, i => Nat.le_refl _
  | m + 1, i => by
    unfold ps_row
    have := ps_row_le A s g m (i + 1)
    split <;> omega
theorem ps_may_eq {A : ps_A} (h0 : ps_wf A) (ho : A.on = true) {s g c : Nat} (hs : s < 2) (hg : g < A.W.size s) (hc : c < A.W.size s) : sp_maySub A (nI s) (nI g) (nI c) = ps_judge A s g c := by
  have hz := (h0.W ho).size s hs
  have hp : ∀ p, p < A.W.size s → ps_pl A (nI s) (nI p) = true := by
    intro p hp
    unfold ps_pl ps_sd
    rw [ho, nI_clamp (by omega)]
    have h1 : (decide (nI s = 0) || decide (nI s = 1)) = true := by rcases (show s = 0 ∨ s = 1 by omega) with rfl | rfl <;> decide
    rw [h1, decide_eq_true (nI_pos' (by omega)), decide_eq_true (nI_lt hp (by omega))]
    rfl
  unfold sp_maySub
  rw [hp g hg, hp c hc, nI_clamp (by omega), nI_clamp (by omega), nI_clamp (by omega)]
  rfl
section PSK
variable {t v w : Bool} {A : ps_A} {I : Nat → Nat → Int32} {L : Nat → Nat → Int64}
def sp_subsNow (A : ps_A) (a : Int32) : Int32 := if ps_sd A a then nI (ps_rows A a.toNatClampNeg (A.W.size a.toNatClampNeg) (A.W.size a.toNatClampNeg) 0) else -1
theorem cx_subsNow (h0 : ps_wf A) (hX : ps_RX t A I) (a : Int32) : fX9_subsNow 0 a (I, L, px_R t v w) = some (sp_subsNow A a, (I, L, px_R t v w)) := by
  unfold fX9_subsNow sp_subsNow
  rw [cx_side hX, pb_2]
  cases e : ps_sd A a with
  | false => rfl
  | true =>
    obtain ⟨ho, s, hs, rfl⟩ := ps_sd_of e
    have hz := (h0.W ho).size s hs
    rw [if_neg (by decide), show (I, L, px_R t v w).2.2 0 11 = ps_T t from rfl, cx_squad hs, pb_2, pl_let, nI_clamp (by omega), if_pos rfl]
    show fX9_subsNow_27 fx_N 0 (nI s) (I (ps_T t + 6 * s + 1) 5) (nI 0) (nI 0) (I, L, px_R t v w) = _
    rw [(hX.W ho).size s hs]
    have inner : ∀ (k27 : Nat → Int32 → Int32 → Int32 → Int32 → hp_T → Option (Int32 × hp_T)) (g : Nat), g < A.W.size s → ∀ m i n x, i + m = A.W.size s → m < n → fX9_subsNow_36 k27 n 0 (nI s) (nI (A.W.size s)) (nI x) (nI g) (nI i) (I, L, px_R t v w) = k27 0 (nI s) (nI (A.W.size s)) (nI (x + ps_row A s g m i)) (nI (g + 1)) (I, L, px_R t v w) := by
      intro k27 g hg m
      induction m with
      | zero =>
        intro i n x h1 h2
        obtain ⟨n, rfl⟩ : ∃ n', n = n' + 1 := ⟨n - 1, by omega⟩
        unfold fX9_subsNow_36
        rw [if_pos (nI_le (by omega) (by omega)), pl_let, nI_1]; rfl
      | succ m ih =>
        intro i n x h1 h2
        obtain ⟨n, rfl⟩ : ∃ n', n = n' + 1 := ⟨n - 1, by omega⟩
        unfold fX9_subsNow_36 ps_row fX9_subsNow_57
        rw [if_neg (nI_ge (by omega) (by omega)), cx_judge h0 hX, pb_2, ps_may_eq h0 ho hs hg (by omega)]
        simp only [pl_let, nI_1]
        by_cases c : ps_judge A s g i = 0
        · rw [if_pos c, if_pos c, ih (i + 1) n (x + 1) (by omega) (by omega), Nat.add_assoc]
        · rw [if_neg c, if_neg c, ih (i + 1) n x (by omega) (by omega), Nat.zero_add]
    have outer : ∀ m i n x, i + m = A.W.size s → m < n → fX9_subsNow_27 n 0 (nI s) (nI (A.W.size s)) (nI x) (nI i) (I, L, px_R t v w) = some (nI (x + ps_rows A s (A.W.size s) m i), (I, L, px_R t v w)) := by
      intro m
      induction m with
      | zero =>
        intro i n x h1 h2
        obtain ⟨n, rfl⟩ : ∃ n', n = n' + 1 := ⟨n - 1, by omega⟩
        unfold fX9_subsNow_27
        rw [if_pos (nI_le (by omega) (by omega))]; rfl
      | succ m ih =>
        intro i n x h1 h2
        obtain ⟨n, rfl⟩ : ∃ n', n = n' + 1 := ⟨n - 1, by omega⟩
        unfold fX9_subsNow_27 ps_rows
        rw [if_neg (nI_ge (by omega) (by omega))]
        rw [show (0 : Int32) = nI 0 from rfl, inner _ i (by omega) (A.W.size s) 0 fx_N x (by omega) (by unfold fx_N; omega), ih (i + 1) n _ (by omega) (by omega), Nat.add_assoc]
    rw [outer (A.W.size s) 0 fx_N 0 (by omega) (by unfold fx_N; omega), Nat.zero_add]
theorem cm_subsNow (h0 : ps_wf A) (hM : ps_MX A I) (a : Int32) : fX10_subsNow 290 a (I, L, px_R t v w) = some (sp_subsNow A a, (hp_u I 290 0 0, L, px_R t v w)) := by
  unfold fX10_subsNow sp_subsNow
  rw [pl_let]
  show fx_b2 (fX10_isSide 290 a (hp_u I 290 0 0, L, px_R t v w)) _ = _
  have hM := hM.flag (z := 0)
  generalize hp_u I 290 0 0 = J at hM ⊢
  rw [cm_side hM, pb_2]
  cases e : ps_sd A a with
  | false => rfl
  | true =>
    obtain ⟨ho, s, hs, rfl⟩ := ps_sd_of e
    have hz := (h0.W ho).size s hs
    have hW := hM.W ho
    rw [if_neg (by decide), nI_clamp (by omega), if_pos rfl]
    have inner : ∀ (k19 : Nat → Int32 → Int32 → Int32 → hp_T → Option (Int32 × hp_T)) (g : Nat), g < A.W.size s → ∀ m i n x, i + m = A.W.size s → m < n → fX10_subsNow_34 k19 n 290 (nI s) (nI x) (nI g) (nI i) (J, L, px_R t v w) = k19 290 (nI s) (nI (x + ps_row A s g m i)) (nI (g + 1)) (J, L, px_R t v w) := by
      intro k19 g hg m
      induction m with
      | zero =>
        intro i n x h1 h2
        obtain ⟨n, rfl⟩ : ∃ n', n = n' + 1 := ⟨n - 1, by omega⟩
        unfold fX10_subsNow_34
        rw [show (5 : Int32) = nI 5 from rfl, nI_add, pg_pos (pi_in (by omega) (by omega)), pi_ix (by omega)]
        show (if J 292 (5 + s) ≤ nI i then _ else _) = _
        rw [hW.size s hs, if_pos (nI_le (by omega) (by omega)), pl_let, nI_1]; rfl
      | succ m ih =>
        intro i n x h1 h2
        obtain ⟨n, rfl⟩ : ∃ n', n = n' + 1 := ⟨n - 1, by omega⟩
        unfold fX10_subsNow_34 ps_row fX10_subsNow_64
        rw [show (5 : Int32) = nI 5 from rfl, nI_add, pg_pos (pi_in (by omega) (by omega)), pi_ix (by omega)]
        show (if J 292 (5 + s) ≤ nI i then _ else _) = _
        rw [hW.size s hs, if_neg (nI_ge (by omega) (by omega)), cm_judge h0 hM, pb_2, ps_may_eq h0 ho hs hg (by omega)]
        simp only [pl_let, nI_1]
        by_cases c : ps_judge A s g i = 0
        · rw [if_pos c, if_pos c, ih (i + 1) n (x + 1) (by omega) (by omega), Nat.add_assoc]
        · rw [if_neg c, if_neg c, show (0 : Int32) = nI 0 from rfl, nI_add, ih (i + 1) n (x + 0) (by omega) (by omega), Nat.zero_add]; rfl
    have outer : ∀ m i n x, i + m = A.W.size s → m < n → fX10_subsNow_19 n 290 (nI s) (nI x) (nI i) (J, L, px_R t v w) = some (nI (x + ps_rows A s (A.W.size s) m i), (J, L, px_R t v w)) := by
      intro m
      induction m with
      | zero =>
        intro i n x h1 h2
        obtain ⟨n, rfl⟩ : ∃ n', n = n' + 1 := ⟨n - 1, by omega⟩
        unfold fX10_subsNow_19
        rw [show (5 : Int32) = nI 5 from rfl, nI_add, pg_pos (pi_in (by omega) (by omega)), pi_ix (by omega)]
        show (if J 292 (5 + s) ≤ nI i then _ else _) = _
        rw [hW.size s hs, if_pos (nI_le (by omega) (by omega))]; rfl
      | succ m ih =>
        intro i n x h1 h2
        obtain ⟨n, rfl⟩ : ∃ n', n = n' + 1 := ⟨n - 1, by omega⟩
        unfold fX10_subsNow_19 ps_rows
        rw [show (5 : Int32) = nI 5 from rfl, nI_add, pg_pos (pi_in (by omega) (by omega)), pi_ix (by omega)]
        show (if J 292 (5 + s) ≤ nI i then _ else _) = _
        rw [hW.size s hs, if_neg (nI_ge (by omega) (by omega))]
        rw [show (0 : Int32) = nI 0 from rfl, inner _ i (by omega) (A.W.size s) 0 fx_N x (by omega) (by unfold fx_N; omega), ih (i + 1) n _ (by omega) (by omega), Nat.add_assoc]
    show fX10_subsNow_19 fx_N 290 (nI s) (nI 0) (nI 0) (J, L, px_R t v w) = _
    rw [outer (A.W.size s) 0 fx_N 0 (by omega) (by unfold fx_N; omega), Nat.zero_add]
end PSK
