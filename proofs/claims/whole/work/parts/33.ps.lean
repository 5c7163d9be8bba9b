/-! ===== over, players, seekers ===== -/
def ps_over (A : ps_A) : Bool := decide (A.C.sc 0 = A.W.pts) || decide (A.C.sc 1 = A.W.pts)
def ps_pl (A : ps_A) (a b : Int32) : Bool := ps_sd A a && (decide (0 ≤ b) && decide (b < nI (A.W.size a.toNatClampNeg)))
theorem ps_pl_of {A : ps_A} (h0 : ps_wf A) {a b : Int32} (h : ps_pl A a b = true) : A.on = true ∧ ∃ s, s < 2 ∧ a = nI s ∧ ∃ p, p < A.W.size s ∧ p < 12 ∧ b = nI p := by
  simp only [ps_pl, Bool.and_eq_true, decide_eq_true_eq] at h
  obtain ⟨h1, h2, h3⟩ := h
  obtain ⟨ho, s, hs, rfl⟩ := ps_sd_of h1
  refine ⟨ho, s, hs, rfl, ?_⟩
  rw [nI_clamp (by omega)] at h3
  have hz := (h0.W ho).size s hs
  obtain ⟨p, hp, rfl⟩ := nI_of (x := b) (Int32.not_lt.mpr h2)
  rw [nI_ltI hp (by omega)] at h3
  exact ⟨p, h3, by omega, rfl⟩
/-- the place of p among m cells from i on, counted from one; 0 for none -/
def ps_at (f : Nat → Int32) (p : Int32) : Nat → Nat → Nat
  | 0, _ => 0
  | m + 1, i => if f i = p then i + 1 else ps_at f p m (i + 1)
theorem ps_at_le (f : Nat → Int32) (p : Int32) : ∀ m i, ps_at f p m i ≤ i + m
  | 0, i => Nat.zero_le _
  | m + 1, i => by
    unfold ps_at
    split
    · omega
    · have := ps_at_le f p m (i + 1); omega
theorem ps_at_some {f : Nat → Int32} {p : Int32} : ∀ {m i : Nat}, ps_at f p m i ≠ 0 → ∃ k, i ≤ k ∧ k < i + m ∧ ps_at f p m i = k + 1 ∧ f k = p
  | 0, i, h => absurd rfl h
  | m + 1, i, h => by
    unfold ps_at at h ⊢
    by_cases c : f i = p
    · rw [if_pos c]; exact ⟨i, Nat.le_refl _, by omega, rfl, c⟩
    · rw [if_neg c] at h ⊢
      obtain ⟨k, h1, h2, h3, h4⟩ := ps_at_some h
      exact ⟨k, by omega, by omega, h3, h4⟩
theorem ps_at_none {f : Nat → Int32} {p : Int32} : ∀ {m i : Nat}, ps_at f p m i = 0 → ∀ k, i ≤ k → k < i + m → f k ≠ p
  | 0, i, _ => fun k h1 h2 => by omega
  | m + 1, i, h => by
    unfold ps_at at h
    by_cases c : f i = p
    · rw [if_pos c] at h; omega
    · rw [if_neg c] at h
      intro k h1 h2
      by_cases e : k = i
      · subst e; exact c
      · exact ps_at_none h k (by omega) (by omega)
theorem ps_at_cong {f g : Nat → Int32} {p : Int32} : ∀ {m i : Nat}, (∀ k, i ≤ k → k < i + m → f k = g k) → ps_at f p m i = ps_at g p m i
  | 0, i, _ => rfl
  | m + 1, i, h => by
    unfold ps_at
    rw [h i (Nat.le_refl _) (by omega), ps_at_cong (m := m) (i := i + 1) (fun k h1 h2 => h k (by omega) (by omega))]
/-- the first of m cells from i on that hold p -/
def ps_nf (f : Nat → Int32) (p : Int32) : Nat → Nat → Option Nat
  | 0, _ => none
  | m + 1, i => if f i = p then some i else ps_nf f p m (i + 1)
theorem ps_nf_some {f : Nat → Int32} {p : Int32} : ∀ {m i k : Nat}, ps_nf f p m i = some k → i ≤ k ∧ k < i + m ∧ f k = p
  | 0, i, k, h => by cases h
  | m + 1, i, k, h => by
    unfold ps_nf at h
    by_cases c : f i = p
    · rw [if_pos c] at h; cases h; exact ⟨Nat.le_refl _, by omega, c⟩
    · rw [if_neg c] at h
      obtain ⟨h1, h2, h3⟩ := ps_nf_some h
      exact ⟨by omega, by omega, h3⟩
theorem nI_ne_m1 {n : Nat} (h : n < 2 ^ 31) : nI n ≠ -1 := fun c => by
  have e := congrArg Int32.toInt c
  rw [nI_toInt h, show ((-1 : Int32).toInt) = -1 from rfl] at e
  omega
theorem nI_ne_m2 {n : Nat} (h : n < 2 ^ 31) : nI n ≠ -2 := fun c => by
  have e := congrArg Int32.toInt c
  rw [nI_toInt h, show ((-2 : Int32).toInt) = -2 from rfl] at e
  omega
section PSD
variable {t v w : Bool} {A : ps_A} {I : Nat → Nat → Int32} {L : Nat → Nat → Int64}
theorem cx_over (w0 : ps_wfC A.W A.C) (w1 : ps_wfW A.W) (hC : ps_RC I 22 A.C) (hW : ps_RW I (ps_T t) A.W) : fX9_isOver 0 (I, L, px_R t v w) = some (if ps_over A then 1 else 0, (I, L, px_R t v w)) := by
  unfold fX9_isOver ps_over
  have e0 : I 23 8 = nI (A.C.sc 0) := hC.sc 0 (by decide)
  have e1 : I 28 8 = nI (A.C.sc 1) := hC.sc 1 (by decide)
  have h0 := w0.sc 0 (by decide)
  have h1 := w0.sc 1 (by decide)
  have h2 := w1.p25
  show (if I (ps_T t) 2 ≤ I 23 8 then _ else (if I 28 8 < I (ps_T t) 2 then _ else _)) = _
  rw [hW.pts, e0, e1]
  by_cases c0 : A.C.sc 0 = A.W.pts
  · rw [if_pos (nI_le (by omega) (by omega))]; simp [c0]
  · rw [if_neg (nI_ge (by omega) (by omega))]
    by_cases c1 : A.C.sc 1 = A.W.pts
    · rw [if_neg (nI_nlt (by omega) (by omega))]; simp [c1]
    · rw [if_pos (nI_lt (by omega) (by omega))]; simp [c0, c1]
theorem cm_over (w0 : ps_wfC A.W A.C) (w1 : ps_wfW A.W) (hC : ps_MR A A.C (I 298)) (hW : ps_MW I A.W) : fX10_isOver 290 (I, L, px_R t v w) = some (if ps_over A then 1 else 0, (I, L, px_R t v w)) := by
  unfold fX10_isOver ps_over
  have e0 : I 298 0 = nI (A.C.sc 0) := hC.sc 0 (by decide)
  have e1 : I 298 1 = nI (A.C.sc 1) := hC.sc 1 (by decide)
  have h0 := w0.sc 0 (by decide)
  have h1 := w0.sc 1 (by decide)
  have h2 := w1.p25
  show (if I 298 0 = I 292 0 then _ else (if I 298 1 = I 292 0 then _ else _)) = _
  rw [hW.pts, e0, e1]
  by_cases c0 : A.C.sc 0 = A.W.pts
  · rw [if_pos (by rw [c0])]; simp [c0]
  · rw [if_neg (fun q => c0 ((nI_eq (by omega) (by omega)).mp q))]
    by_cases c1 : A.C.sc 1 = A.W.pts
    · rw [if_pos (by rw [c1])]; simp [c1]
    · rw [if_neg (fun q => c1 ((nI_eq (by omega) (by omega)).mp q))]; simp [c0, c1]
theorem cx_player (h0 : ps_wf A) (hX : ps_RX t A I) (a b : Int32) : fX9_isPlayer 0 a b (I, L, px_R t v w) = some (if ps_pl A a b then 1 else 0, (I, L, px_R t v w)) := by
  unfold fX9_isPlayer ps_pl
  rw [cx_side hX, pb_2]
  cases e : ps_sd A a with
  | false => rfl
  | true =>
    rw [if_neg (by decide)]
    obtain ⟨ho, s, hs, rfl⟩ := ps_sd_of e
    by_cases c : b < 0
    · rw [if_pos c]; simp [Int32.not_le.mpr c]
    · rw [if_neg c, show (I, L, px_R t v w).2.2 0 11 = ps_T t from rfl, cx_squad hs, pb_2, nI_clamp (by omega)]
      show (if I (ps_T t + 6 * s + 1) 5 ≤ b then _ else _) = _
      rw [(hX.W ho).size s hs]
      by_cases d : nI (A.W.size s) ≤ b
      · rw [if_pos d]; simp [Int32.not_lt.mpr d]
      · rw [if_neg d]; simp [Int32.not_le.mp d, Int32.not_lt.mp c]
theorem cm_player (h0 : ps_wf A) (hM : ps_MX A I) (a b : Int32) : fX10_isPlayer 290 a b (I, L, px_R t v w) = some (if ps_pl A a b then 1 else 0, (I, L, px_R t v w)) := by
  unfold fX10_isPlayer ps_pl
  rw [cm_side hM, pb_2]
  cases e : ps_sd A a with
  | false => rfl
  | true =>
    rw [if_neg (by decide)]
    obtain ⟨ho, s, hs, rfl⟩ := ps_sd_of e
    by_cases c : b < 0
    · rw [if_pos c]; simp [Int32.not_le.mpr c]
    · rw [if_neg c, show (5 : Int32) = nI 5 from rfl, nI_add, pg_pos (pi_in (by omega) (by omega)), pi_ix (by omega), nI_clamp (by omega)]
      show (if I 292 (5 + s) ≤ b then _ else _) = _
      rw [(hM.W ho).size s hs]
      by_cases d : nI (A.W.size s) ≤ b
      · rw [if_pos d]; simp [Int32.not_lt.mpr d]
      · rw [if_neg d]; simp [Int32.not_le.mp d, Int32.not_lt.mp c]
/-- the place in the line-up -/
def ps_spot (C : ps_C) (s : Nat) (p : Int32) : Nat := ps_at (fun k => nI (C.six s k)) p 6 0
theorem cx_spotOf (hC : ps_RC I 22 A.C) {s : Nat} (hs : s < 2) (p : Int32) : fX6_spotOf (22 + 5 * s + 1) p (I, L, px_R t v w) = some (nI (ps_spot A.C s p), (I, L, px_R t v w)) := by
  have key : ∀ m i n, i + m = 6 → m < n → fX6_spotOf_2 n (22 + 5 * s + 1) p (nI i) (I, L, px_R t v w) = some (nI (ps_at (fun k => nI (A.C.six s k)) p m i), (I, L, px_R t v w)) := by
    intro m
    induction m with
    | zero =>
      intro i n h1 h2
      obtain ⟨n, rfl⟩ : ∃ n', n = n' + 1 := ⟨n - 1, by omega⟩
      unfold fX6_spotOf_2
      rw [if_pos (show (6 : Int32) ≤ nI i from nI_le (a := 6) (by omega) (by omega))]; rfl
    | succ m ih =>
      intro i n h1 h2
      obtain ⟨n, rfl⟩ : ∃ n', n = n' + 1 := ⟨n - 1, by omega⟩
      unfold fX6_spotOf_2 ps_at
      rw [if_neg (show ¬ (6 : Int32) ≤ nI i from nI_ge (b := 6) (by omega) (by omega)), pg_pos (pi_in (by omega) (by omega)), pi_ix (by omega)]
      show (if I (px_R t v w (22 + 5 * s + 1) 0) i = p then _ else _) = _
      rw [pr_s hs (by omega), hC.six s hs i (by omega)]
      by_cases c : nI (A.C.six s i) = p
      · rw [if_pos c, if_pos c, nI_1]
      · rw [if_neg c, if_neg c, pl_let, nI_1]
        exact ih (i + 1) n (by omega) (by omega)
  exact key 6 0 fx_N rfl (by decide)
theorem cm_spotOf (hC : ps_MR A A.C (I 298)) {s : Nat} (hs : s < 2) (p : Int32) : fX10_spotOf 290 (nI s) p (I, L, px_R t v w) = some (nI (ps_at (ps_on A.W A.C s) p 6 0), (I, L, px_R t v w)) := by
  have key : ∀ m i n, i + m = 6 → m < n → fX10_spotOf_2 n 290 (nI s) p (nI (i + 1)) (I, L, px_R t v w) = some (nI (ps_at (ps_on A.W A.C s) p m i), (I, L, px_R t v w)) := by
    intro m
    induction m with
    | zero =>
      intro i n h1 h2
      obtain ⟨n, rfl⟩ : ∃ n', n = n' + 1 := ⟨n - 1, by omega⟩
      unfold fX10_spotOf_2
      rw [if_pos (show (6 : Int32) < nI (i + 1) from nI_lt (a := 6) (by omega) (by omega))]; rfl
    | succ m ih =>
      intro i n h1 h2
      obtain ⟨n, rfl⟩ : ∃ n', n = n' + 1 := ⟨n - 1, by omega⟩
      unfold fX10_spotOf_2 ps_at
      rw [if_neg (show ¬ (6 : Int32) < nI (i + 1) from nI_nlt (a := 6) (by omega) (by omega)), cm_court hC hs (by omega), pb_2]
      by_cases c : ps_on A.W A.C s i = p
      · rw [if_pos c, if_pos c]
      · rw [if_neg c, if_neg c, pl_let, nI_1]
        exact ih (i + 1) n (by omega) (by omega)
  exact key 6 0 fx_N rfl (by decide)
theorem ps_on_free (w0 : ps_wfC A.W A.C) (w1 : ps_wfW A.W) {s k : Nat} (hs : s < 2) (hk : k < 6) : ps_on A.W A.C s k = ps_e1 (A.W.free s) ↔ A.C.fs s = k + 1 := by
  unfold ps_on
  by_cases c : A.C.fs s = k + 1
  · rw [if_pos c]; simp [c]
  · rw [if_neg c]
    refine ⟨fun q => absurd q ?_, fun q => absurd q c⟩
    have h1 := w0.six s hs k hk
    have h2 := w1.size s hs
    have h3 := w0.sixf s hs k hk
    cases e : A.W.free s with
    | none => exact nI_ne_m1 (by omega)
    | some p =>
      intro q
      have h4 := w1.free s hs p e
      rw [show ps_e1 (some p) = nI p from rfl, nI_eq (by omega) (by omega)] at q
      rw [e, q] at h3
      exact h3 rfl
theorem cm_lined (h0 : ps_wf A) (ho : A.on = true) (hM : ps_MX A I) {s k : Nat} (hs : s < 2) (hk : k < 6) : fX10_lined 290 (nI s) (nI (k + 1)) (I, L, px_R t v w) = some (nI (A.C.six s k), (I, L, px_R t v w)) := by
  unfold fX10_lined
  have w0 := h0.C ho
  have w1 := h0.W ho
  rw [cm_court (hM.C ho) hs hk, pb_2, show (7 : Int32) = nI 7 from rfl, nI_add, pg_pos (pi_in (by omega) (by omega)), pi_ix (by omega)]
  show (if ps_on A.W A.C s k = I 292 (7 + s) then _ else _) = _
  rw [(hM.W ho).free s hs]
  by_cases c : A.C.fs s = k + 1
  · rw [if_pos ((ps_on_free w0 w1 hs hk).mpr c), pg_pos (pi_in (by omega) (by omega))]
    show some (I 298 (7 + s), _) = _
    rw [(hM.C ho).fr s hs]
    unfold ps_for
    rw [if_neg (by omega), c]
    rfl
  · rw [if_neg (fun q => c ((ps_on_free w0 w1 hs hk).mp q))]
    unfold ps_on
    rw [if_neg c]
theorem cm_linedAt (h0 : ps_wf A) (ho : A.on = true) (hM : ps_MX A I) {s : Nat} (hs : s < 2) (p : Int32) : fX10_linedAt 290 (nI s) p (I, L, px_R t v w) = some (nI (ps_spot A.C s p), (I, L, px_R t v w)) := by
  have key : ∀ m i n, i + m = 6 → m < n → fX10_linedAt_2 n 290 (nI s) p (nI (i + 1)) (I, L, px_R t v w) = some (nI (ps_at (fun k => nI (A.C.six s k)) p m i), (I, L, px_R t v w)) := by
    intro m
    induction m with
    | zero =>
      intro i n h1 h2
      obtain ⟨n, rfl⟩ : ∃ n', n = n' + 1 := ⟨n - 1, by omega⟩
      unfold fX10_linedAt_2
      rw [if_pos (show (6 : Int32) < nI (i + 1) from nI_lt (a := 6) (by omega) (by omega))]; rfl
    | succ m ih =>
      intro i n h1 h2
      obtain ⟨n, rfl⟩ : ∃ n', n = n' + 1 := ⟨n - 1, by omega⟩
      unfold fX10_linedAt_2 ps_at
      rw [if_neg (show ¬ (6 : Int32) < nI (i + 1) from nI_nlt (a := 6) (by omega) (by omega)), cm_lined h0 ho hM hs (by omega), pb_2]
      by_cases c : nI (A.C.six s i) = p
      · rw [if_pos c, if_pos c]
      · rw [if_neg c, if_neg c, pl_let, nI_1]
        exact ih (i + 1) n (by omega) (by omega)
  exact key 6 0 fx_N rfl (by decide)
end PSD
