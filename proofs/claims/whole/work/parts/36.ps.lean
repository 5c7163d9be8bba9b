/-! ===== named, till; starters, roles, mates ===== -/
theorem px_rem6 {i k : Nat} (hi : i < 6) (hk : k < 6) : fx_rem (nI (i + 1) - nI (k + 1) + 6) 6 = nI ((i + 6 - k) % 6) := by
  have e : nI (i + 1) - nI (k + 1) + 6 = nI (i + 6 - k) := by
    rw [show (6 : Int32) = nI 6 from rfl]
    have h1 : nI (i + 6 - k) + nI (k + 1) = nI (i + 1) + nI 6 := by rw [nI_add, nI_add]; congr 1; omega
    have h2 : nI (i + 1) - nI (k + 1) + nI 6 = nI (i + 1) + nI 6 - nI (k + 1) := by
      rw [Int32.sub_eq_add_neg, Int32.sub_eq_add_neg, Int32.add_assoc, Int32.add_assoc, Int32.add_comm (-nI (k + 1))]
    rw [h2, ← h1, Int32.add_sub_cancel]
  rw [e]
  unfold fx_rem
  exact pk_rem (d := 6) (by omega) (by omega) (by omega)
section PSG
variable {t v w : Bool} {A : ps_A} {I : Nat → Nat → Int32} {L : Nat → Nat → Int64}
theorem cx_find (w1 : ps_wfW A.W) (hW : ps_RW I (ps_T t) A.W) {s : Nat} (hs : s < 2) (p : Int32) : fX7_find (ps_T t + 6 * s + 1) p (I, L, px_R t v w) = some (ps_e1 (ps_nf (A.W.nm s) p (A.W.size s) 0), (I, L, px_R t v w)) := by
  have hz := w1.size s hs
  have key : ∀ m i n, i + m = A.W.size s → m < n → fX7_find_2 n (ps_T t + 6 * s + 1) p (nI i) (I, L, px_R t v w) = some (ps_e1 (ps_nf (A.W.nm s) p m i), (I, L, px_R t v w)) := by
    intro m
    induction m with
    | zero =>
      intro i n h1 h2
      obtain ⟨n, rfl⟩ : ∃ n', n = n' + 1 := ⟨n - 1, by omega⟩
      unfold fX7_find_2
      show (if I (ps_T t + 6 * s + 1) 5 ≤ nI i then _ else _) = _
      rw [hW.size s hs, if_pos (nI_le (by omega) (by omega))]; rfl
    | succ m ih =>
      intro i n h1 h2
      obtain ⟨n, rfl⟩ : ∃ n', n = n' + 1 := ⟨n - 1, by omega⟩
      unfold fX7_find_2 ps_nf
      show (if I (ps_T t + 6 * s + 1) 5 ≤ nI i then _ else _) = _
      rw [hW.size s hs, if_neg (nI_ge (by omega) (by omega)), pg_pos (pi_in (by omega) (by omega)), pi_ix (by omega)]
      show (if I (px_R t v w (ps_T t + 6 * s + 1) 0) i = p then _ else _) = _
      rw [pr_q hs (by omega), hW.nm s hs i (by omega)]
      by_cases c : A.W.nm s i = p
      · rw [if_pos c, if_pos c]; rfl
      · rw [if_neg c, if_neg c, pl_let, nI_1]
        exact ih (i + 1) n (by omega) (by omega)
  exact key (A.W.size s) 0 fx_N (by omega) (by unfold fx_N; omega)
def sp_named (A : ps_A) (a b : Int32) : Int32 := if ps_sd A a then ps_e2 (ps_nf (A.W.nm a.toNatClampNeg) b (A.W.size a.toNatClampNeg) 0) else -1
theorem cx_named (h0 : ps_wf A) (hX : ps_RX t A I) (a b : Int32) : fX9_named 0 a b (I, L, px_R t v w) = some (sp_named A a b, (I, L, px_R t v w)) := by
  unfold fX9_named sp_named
  rw [cx_side hX, pb_2]
  cases e : ps_sd A a with
  | false => rfl
  | true =>
    obtain ⟨ho, s, hs, rfl⟩ := ps_sd_of e
    have hz := (h0.W ho).size s hs
    rw [if_neg (by decide), show (I, L, px_R t v w).2.2 0 11 = ps_T t from rfl, cx_squad hs, pb_2, cx_find (h0.W ho) (hX.W ho) hs, pb_2, nI_clamp (by omega)]
    cases d : ps_nf (A.W.nm s) b (A.W.size s) 0 with
    | none => rfl
    | some p =>
      have := (ps_nf_some d).2.1
      rw [if_neg (show ¬ ps_e1 (some p) = -1 from nI_ne_m1 (by omega))]; rfl
theorem pm_two12 {s p : Nat} {h : hp_T} : fX10_two (nI s) (nI p) 12 h = some (nI (12 * s + p), h) := by
  unfold fX10_two
  rw [show (12 : Int32) = nI 12 from rfl, pk_mul, nI_add]
theorem cm_named (h0 : ps_wf A) (hM : ps_MX A I) (a b : Int32) : fX10_named 290 a b (I, L, px_R t v w) = some (sp_named A a b, (hp_u I 290 0 0, L, px_R t v w)) := by
  unfold fX10_named sp_named
  rw [pl_let]
  show fx_b2 (fX10_isSide 290 a (hp_u I 290 0 0, L, px_R t v w)) _ = _
  have hM := hM.flag (z := 0)
  rw [cm_side hM, pb_2]
  cases e : ps_sd A a with
  | false => rfl
  | true =>
    obtain ⟨ho, s, hs, rfl⟩ := ps_sd_of e
    have hz := (h0.W ho).size s hs
    have hW := hM.W ho
    rw [if_neg (by decide), nI_clamp (by omega), if_pos rfl]
    generalize hp_u I 290 0 0 = J at hW ⊢
    have key : ∀ m i n, i + m = A.W.size s → m < n → fX10_named_17 n 290 (nI s) b (nI i) (J, L, px_R t v w) = some (ps_e2 (ps_nf (A.W.nm s) b m i), (J, L, px_R t v w)) := by
      intro m
      induction m with
      | zero =>
        intro i n h1 h2
        obtain ⟨n, rfl⟩ : ∃ n', n = n' + 1 := ⟨n - 1, by omega⟩
        unfold fX10_named_17
        rw [show (5 : Int32) = nI 5 from rfl, nI_add, pg_pos (pi_in (by omega) (by omega)), pi_ix (by omega)]
        show (if J 292 (5 + s) ≤ nI i then _ else _) = _
        rw [hW.size s hs, if_pos (nI_le (by omega) (by omega))]; rfl
      | succ m ih =>
        intro i n h1 h2
        obtain ⟨n, rfl⟩ : ∃ n', n = n' + 1 := ⟨n - 1, by omega⟩
        unfold fX10_named_17 ps_nf
        rw [show (5 : Int32) = nI 5 from rfl, nI_add, pg_pos (pi_in (by omega) (by omega)), pi_ix (by omega)]
        show (if J 292 (5 + s) ≤ nI i then _ else _) = _
        rw [hW.size s hs, if_neg (nI_ge (by omega) (by omega)), pm_two12, pb_2, pg_pos (pi_in (by omega) (by omega)), pi_ix (by omega)]
        show (if J 295 (12 * s + i) = b then _ else _) = _
        rw [hW.nm s hs i (by omega)]
        by_cases c : A.W.nm s i = b
        · rw [if_pos c, if_pos c]; rfl
        · rw [if_neg c, if_neg c, pl_let, nI_1]
          exact ih (i + 1) n (by omega) (by omega)
    exact key (A.W.size s) 0 fx_N (by omega) (by unfold fx_N; omega)
def sp_till (A : ps_A) (a b c : Int32) : Int32 := if ps_pl A a b && ps_sp c then (if ps_spot A.C a.toNatClampNeg b = 0 then -2 else nI ((ps_spot A.C a.toNatClampNeg b - 1 + 6 - (c.toNatClampNeg - 1)) % 6)) else -1
theorem cx_till (h0 : ps_wf A) (hX : ps_RX t A I) (a b c : Int32) : fX9_till 0 a b c (I, L, px_R t v w) = some (sp_till A a b c, (I, L, px_R t v w)) := by
  unfold fX9_till sp_till
  rw [cx_player h0 hX, pb_2]
  cases e : ps_pl A a b with
  | false => rfl
  | true =>
    rw [if_neg (by decide), cx_spot, pb_2]
    cases e2 : ps_sp c with
    | false => rfl
    | true =>
      obtain ⟨ho, s, hs, rfl, p, hp, hp2, rfl⟩ := ps_pl_of h0 e
      obtain ⟨k, hk, rfl⟩ := ps_sp_of e2
      rw [if_neg (by decide), show (I, L, px_R t v w).2.2 0 3 = 22 from rfl, cx_team hs, pb_2, cx_spotOf (hX.C ho) hs, pb_2, nI_clamp (by omega), nI_clamp (by omega)]
      by_cases z : ps_spot A.C s (nI p) = 0
      · rw [z]; rfl
      · obtain ⟨i, -, hi, hi2, -⟩ := ps_at_some z
        have hi3 : ps_spot A.C s (nI p) = i + 1 := hi2
        rw [hi3, if_neg (nI_ne0 (by omega) (by omega)), px_rem6 (by omega) hk, if_pos (show (true && true) = true from rfl), if_neg (by omega)]
        rfl
theorem cm_till (h0 : ps_wf A) (hM : ps_MX A I) (a b c : Int32) : fX10_till 290 a b c (I, L, px_R t v w) = some (sp_till A a b c, (hp_u I 290 0 0, L, px_R t v w)) := by
  unfold fX10_till sp_till
  rw [pl_let]
  show fx_b2 (fX10_isPlayer 290 a b (hp_u I 290 0 0, L, px_R t v w)) _ = _
  have hM := hM.flag (z := 0)
  rw [cm_player h0 hM, pb_2]
  cases e : ps_pl A a b with
  | false => rfl
  | true =>
    rw [if_neg (by decide), cm_spot, pb_2]
    cases e2 : ps_sp c with
    | false => rfl
    | true =>
      obtain ⟨ho, s, hs, rfl, p, hp, hp2, rfl⟩ := ps_pl_of h0 e
      obtain ⟨k, hk, rfl⟩ := ps_sp_of e2
      rw [if_neg (by decide), cm_linedAt h0 ho hM hs, pb_2, nI_clamp (by omega), nI_clamp (by omega)]
      by_cases z : ps_spot A.C s (nI p) = 0
      · rw [z]; rfl
      · obtain ⟨i, -, hi, hi2, -⟩ := ps_at_some z
        have hi3 : ps_spot A.C s (nI p) = i + 1 := hi2
        rw [hi3, if_neg (nI_ne0 (by omega) (by omega)), px_rem6 (by omega) hk, if_pos (show (true && true) = true from rfl), if_neg (by omega)]
        rfl
def ps_start (W : ps_W) (s : Nat) (p : Int32) : Bool := decide (ps_at (fun k => nI (W.start s k)) p 6 0 ≠ 0)
theorem cx_starter (hW : ps_RW I (ps_T t) A.W) {s : Nat} (hs : s < 2) (p : Int32) : fX7_isStarter (ps_T t + 6 * s + 1) p (I, L, px_R t v w) = some (if ps_start A.W s p then 1 else 0, (I, L, px_R t v w)) := by
  have key : ∀ m i n, i + m = 6 → m < n → fX7_isStarter_2 n (ps_T t + 6 * s + 1) p (nI i) (I, L, px_R t v w) = some (if decide (ps_at (fun k => nI (A.W.start s k)) p m i ≠ 0) = true then 1 else 0, (I, L, px_R t v w)) := by
    intro m
    induction m with
    | zero =>
      intro i n h1 h2
      obtain ⟨n, rfl⟩ : ∃ n', n = n' + 1 := ⟨n - 1, by omega⟩
      unfold fX7_isStarter_2
      show (if I (ps_T t + 6 * s + 1) 6 ≤ nI i then _ else _) = _
      rw [hW.plc s hs, if_pos (nI_le (by omega) (by omega))]; rfl
    | succ m ih =>
      intro i n h1 h2
      obtain ⟨n, rfl⟩ : ∃ n', n = n' + 1 := ⟨n - 1, by omega⟩
      unfold fX7_isStarter_2 ps_at
      show (if I (ps_T t + 6 * s + 1) 6 ≤ nI i then _ else _) = _
      rw [hW.plc s hs, if_neg (nI_ge (by omega) (by omega)), pg_pos (pi_in (by omega) (by omega)), pi_ix (by omega)]
      show (if I (px_R t v w (ps_T t + 6 * s + 1) 4) i = p then _ else _) = _
      rw [pr_q hs (by omega), hW.st s hs i (by omega)]
      by_cases c : nI (A.W.start s i) = p
      · rw [if_pos c, if_pos c]; simp
      · rw [if_neg c, if_neg c, pl_let, nI_1]
        exact ih (i + 1) n (by omega) (by omega)
  exact key 6 0 fx_N rfl (by decide)
theorem cm_starter (hW : ps_MW I A.W) {s : Nat} (hs : s < 2) (p : Int32) : fX10_isStarter 290 (nI s) p (I, L, px_R t v w) = some (if ps_start A.W s p then 1 else 0, (I, L, px_R t v w)) := by
  have key : ∀ m i n, i + m = 6 → m < n → fX10_isStarter_2 n 290 (nI s) p (nI i) (I, L, px_R t v w) = some (if decide (ps_at (fun k => nI (A.W.start s k)) p m i ≠ 0) = true then 1 else 0, (I, L, px_R t v w)) := by
    intro m
    induction m with
    | zero =>
      intro i n h1 h2
      obtain ⟨n, rfl⟩ : ∃ n', n = n' + 1 := ⟨n - 1, by omega⟩
      unfold fX10_isStarter_2
      rw [if_pos (show (6 : Int32) ≤ nI i from nI_le (a := 6) (by omega) (by omega))]; rfl
    | succ m ih =>
      intro i n h1 h2
      obtain ⟨n, rfl⟩ : ∃ n', n = n' + 1 := ⟨n - 1, by omega⟩
      unfold fX10_isStarter_2 ps_at
      rw [if_neg (show ¬ (6 : Int32) ≤ nI i from nI_ge (b := 6) (by omega) (by omega))]
      unfold fX10_two
      rw [pb_2, show (6 : Int32) = nI 6 from rfl, pk_mul, nI_add, show (9 : Int32) = nI 9 from rfl, nI_add, pg_pos (pi_in (by omega) (by omega)), pi_ix (by omega)]
      show (if I 292 (9 + (6 * s + i)) = p then _ else _) = _
      rw [← Nat.add_assoc, hW.st s hs i (by omega)]
      by_cases c : nI (A.W.start s i) = p
      · rw [if_pos c, if_pos c]; simp
      · rw [if_neg c, if_neg c, pl_let, nI_1]
        exact ih (i + 1) n (by omega) (by omega)
  exact key 6 0 fx_N rfl (by decide)
def ps_role (A : ps_A) (s p : Nat) : Nat := if ps_start A.W s (nI p) then 0 else if A.C.mate s p = none then 2 else 1
theorem ps_e1_none {o : Option Nat} (h : ∀ q, o = some q → q < 2 ^ 31) : ps_e1 o = -1 ↔ o = none := by
  cases o with
  | none => simp [ps_e1]
  | some q => simp [ps_e1, nI_ne_m1 (h q rfl)]
theorem ps_e2_none {o : Option Nat} (h : ∀ q, o = some q → q < 2 ^ 31) : ps_e2 o = -2 ↔ o = none := by
  cases o with
  | none => simp [ps_e2]
  | some q => simp [ps_e2, nI_ne_m2 (h q rfl)]
theorem ps_mate_lt (h0 : ps_wf A) (ho : A.on = true) {s : Nat} (hs : s < 2) (p : Nat) : ∀ q, A.C.mate s p = some q → q < 2 ^ 31 := fun q e => by
  have h1 := ((h0.C ho).mate s hs p q e).2.1
  have h2 := (h0.W ho).size s hs
  omega
theorem cx_role (h0 : ps_wf A) (ho : A.on = true) (hX : ps_RX t A I) {s p : Nat} (hs : s < 2) (hp : p < 12) : fX9_roleOf 0 (nI s) (nI p) (I, L, px_R t v w) = some (nI (ps_role A s p), (I, L, px_R t v w)) := by
  unfold fX9_roleOf ps_role
  rw [show (I, L, px_R t v w).2.2 0 11 = ps_T t from rfl, cx_squad hs, pb_2, cx_starter (hX.W ho) hs, pb_2]
  cases e : ps_start A.W s (nI p) with
  | true => rfl
  | false =>
    rw [if_pos (by rfl), show (I, L, px_R t v w).2.2 0 3 = 22 from rfl, cx_team hs, pb_2, pg_pos (pi_in hp (by omega)), pi_ix (by omega)]
    show (if I (px_R t v w (22 + 5 * s + 1) 1) p = -1 then _ else _) = _
    rw [pr_s hs (by omega), (hX.C ho).mate s hs p hp]
    by_cases c : A.C.mate s p = none
    · rw [if_pos ((ps_e1_none (ps_mate_lt h0 ho hs p)).mpr c)]; simp [c]; rfl
    · rw [if_neg (fun q => c ((ps_e1_none (ps_mate_lt h0 ho hs p)).mp q))]; simp [c]; rfl
theorem cm_mate (hC : ps_MR A A.C (I 298)) {s p : Nat} (hs : s < 2) (hp : p < 12) : fX10_mate 290 (nI s) (nI p) (I, L, px_R t v w) = some (ps_e2 (A.C.mate s p), (I, L, px_R t v w)) := by
  unfold fX10_mate
  rw [pm_two12, pb_2, show (23 : Int32) = nI 23 from rfl, nI_add, pg_pos (pi_in (by omega) (by omega)), pi_ix (by omega)]
  show some (I 298 (23 + (12 * s + p)), _) = _
  rw [← Nat.add_assoc, hC.mate s hs p hp]
theorem cm_gone (hC : ps_MR A A.C (I 298)) {s p : Nat} (hs : s < 2) (hp : p < 12) : fX10_gone 290 (nI s) (nI p) (I, L, px_R t v w) = some (nI (ps_gone A.W A.C s p), (I, L, px_R t v w)) := by
  unfold fX10_gone
  rw [pm_two12, pb_2, show (47 : Int32) = nI 47 from rfl, nI_add, pg_pos (pi_in (by omega) (by omega)), pi_ix (by omega)]
  show some (I 298 (47 + (12 * s + p)), _) = _
  rw [← Nat.add_assoc, hC.gone s hs p hp]
theorem cm_role (h0 : ps_wf A) (ho : A.on = true) (hM : ps_MX A I) {s p : Nat} (hs : s < 2) (hp : p < 12) : fX10_roleOf 290 (nI s) (nI p) (I, L, px_R t v w) = some (nI (ps_role A s p), (I, L, px_R t v w)) := by
  unfold fX10_roleOf ps_role
  rw [cm_starter (hM.W ho) hs, pb_2]
  cases e : ps_start A.W s (nI p) with
  | true => rfl
  | false =>
    rw [if_pos (by rfl), cm_mate (hM.C ho) hs hp, pb_2]
    by_cases c : A.C.mate s p = none
    · rw [if_pos ((ps_e2_none (ps_mate_lt h0 ho hs p)).mpr c)]; simp [c]; rfl
    · rw [if_neg (fun q => c ((ps_e2_none (ps_mate_lt h0 ho hs p)).mp q))]; simp [c]; rfl
end PSG
