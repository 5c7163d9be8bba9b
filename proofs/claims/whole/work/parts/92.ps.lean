/-! ===== tokens (the class's side) ===== -/
def ps_span (P : Nat → Bool) (b : Nat → Nat) (n : Nat) : Nat → Nat → Nat
  | 0, a => a
  | f + 1, a => if a < n ∧ P (b a) = true then ps_span P b n f (a + 1) else a
def ps_spn (P : Nat → Bool) (b : Nat → Nat) (n a : Nat) : Nat := ps_span P b n (n - a) a
theorem ps_span_spec (P : Nat → Bool) (b : Nat → Nat) (n : Nat) : ∀ f a, n - a ≤ f → a ≤ ps_span P b n f a ∧ (a ≤ n → ps_span P b n f a ≤ n) ∧ (∀ i, a ≤ i → i < ps_span P b n f a → i < n ∧ P (b i) = true) ∧ ¬ (ps_span P b n f a < n ∧ P (b (ps_span P b n f a)) = true)
  | 0, a, h => ⟨Nat.le_refl _, fun h => h, fun i h1 h2 => absurd h2 (by show ¬ i < a; omega), fun q => by have : a < n := q.1; omega⟩
  | f + 1, a, h => by
    rw [ps_span]
    by_cases c : a < n ∧ P (b a) = true
    · rw [if_pos c]
      obtain ⟨h1, h2, h3, h4⟩ := ps_span_spec P b n f (a + 1) (by omega)
      refine ⟨by omega, fun _ => h2 (by omega), fun i q1 q2 => ?_, h4⟩
      by_cases e : i = a
      · rw [e]; exact c
      · exact h3 i (by omega) q2
    · rw [if_neg c]
      exact ⟨Nat.le_refl _, fun h => h, fun i h1 h2 => absurd h2 (by omega), c⟩
theorem ps_spn_spec (P : Nat → Bool) (b : Nat → Nat) (n a : Nat) : a ≤ ps_spn P b n a ∧ (a ≤ n → ps_spn P b n a ≤ n) ∧ (∀ i, a ≤ i → i < ps_spn P b n a → i < n ∧ P (b i) = true) ∧ ¬ (ps_spn P b n a < n ∧ P (b (ps_spn P b n a)) = true) := ps_span_spec P b n (n - a) a (Nat.le_refl _)
def ps_isP (x : Nat) : Bool := decide (x = 10 ∨ x = 32)
def ps_isL (x : Nat) : Bool := decide (97 ≤ x ∧ x ≤ 122)
def ps_isD (x : Nat) : Bool := decide (48 ≤ x ∧ x ≤ 57)
def ps_cd (d : Nat → Nat) : Nat → Nat
  | 0 => 0
  | m + 1 => ps_cd d m * 32 + d m
def ps_nv (b : Nat → Nat) (p : Nat) : Nat → Nat
  | 0 => 0
  | i + 1 => ps_nv b p i * 10 + (b (p + i) - 48)
def ps_kws : List Nat := [513619, 679650899, 552909459, 644179, 168165, 215205, 20579924, 6605428]
def ps_kw (c : Nat) : Option Nat := if c = 513619 then some 0 else if c = 679650899 then some 1 else if c = 552909459 then some 2 else if c = 644179 then some 3 else if c = 168165 then some 4 else if c = 215205 then some 5 else if c = 20579924 then some 6 else if c = 6605428 then some 7 else none
def ps_tq (b : Nat → Nat) (n p : Nat) : Nat := if n ≤ p then p else if ps_isL (b p) then ps_spn ps_isL b n p else if ps_isD (b p) then ps_spn ps_isD b n p else p + 1
def ps_tw (b : Nat → Nat) (n p : Nat) : Nat := ps_cd (fun i => b (p + i) - 96) (min (ps_spn ps_isL b n p - p) 6)
def ps_tn2 (b : Nat → Nat) (n p : Nat) : Nat := ps_nv b p (ps_spn ps_isD b n p - p)
def ps_tcd (b : Nat → Nat) (n p : Nat) : Nat := if n ≤ p then 0 else if ps_isL (b p) then ps_tw b n p else if ps_isD (b p) then min 1000 (ps_tn2 b n p) else 0
/-- 0 the end, 1 a name, 2 a keyword, 3 a number, 4 a semicolon, 5 no sign of the language -/
def ps_tk (b : Nat → Nat) (n p : Nat) : Nat := if n ≤ p then 0 else if ps_isL (b p) then (if ps_spn ps_isL b n p - p ≤ 6 then (if ps_kw (ps_tw b n p) = none then 1 else 2) else 5) else if ps_isD (b p) then 3 else if b p = 59 then 4 else 5
theorem ps_cd_lt {d : Nat → Nat} : ∀ m, (∀ i, i < m → d i < 32) → ps_cd d m < 32 ^ m
  | 0, _ => Nat.zero_lt_one
  | m + 1, h => by
    have h1 := ps_cd_lt m (fun i hi => h i (by omega))
    have h2 := h m (by omega)
    rw [ps_cd, Nat.pow_succ]; omega
theorem ps_tw_lt {b : Nat → Nat} {n p : Nat} (hp : p ≤ n) : ps_tw b n p < 2 ^ 30 := by
  obtain ⟨h1, h2, h3, h4⟩ := ps_spn_spec ps_isL b n p
  unfold ps_tw
  have h5 := ps_cd_lt (d := fun i => b (p + i) - 96) (min (ps_spn ps_isL b n p - p) 6) (fun i hi => by
    have := (h3 (p + i) (by omega) (by omega)).2
    unfold ps_isL at this
    have := of_decide_eq_true this
    show b (p + i) - 96 < 32; omega)
  have h6 : (32 : Nat) ^ (min (ps_spn ps_isL b n p - p) 6) ≤ 32 ^ 6 := Nat.pow_le_pow_right (by decide) (by omega)
  have h7 : (32 : Nat) ^ 6 = 2 ^ 30 := by decide
  omega
section PSF42
variable {t v w : Bool} {I : Nat → Nat → Int32} {L : Nat → Nat → Int64}
theorem cx_letter {x : Nat} (hx : x < 256) (h : hp_T) : fX5_isLetter (nI x) h = some (if ps_isL x then 1 else 0, h) := by
  unfold fX5_isLetter ps_isL
  by_cases c1 : x < 97
  · rw [if_pos (show nI x < 97 from nI_lt (b := 97) c1 (by omega)), decide_eq_false (by omega)]; rfl
  · rw [if_neg (show ¬ nI x < 97 from nI_nlt (b := 97) (by omega) (by omega))]
    by_cases c2 : 122 < x
    · rw [if_pos (show (122 : Int32) < nI x from nI_lt (a := 122) c2 (by omega)), decide_eq_false (by omega)]; rfl
    · rw [if_neg (show ¬ (122 : Int32) < nI x from nI_nlt (a := 122) (by omega) (by omega)), decide_eq_true (by omega)]; rfl
theorem cx_digit {x : Nat} (hx : x < 256) (h : hp_T) : fX5_isDigit (nI x) h = some (if ps_isD x then 1 else 0, h) := by
  unfold fX5_isDigit ps_isD
  by_cases c1 : x < 48
  · rw [if_pos (show nI x < 48 from nI_lt (b := 48) c1 (by omega)), decide_eq_false (by omega)]; rfl
  · rw [if_neg (show ¬ nI x < 48 from nI_nlt (b := 48) (by omega) (by omega))]
    by_cases c2 : 57 < x
    · rw [if_pos (show (57 : Int32) < nI x from nI_lt (a := 57) c2 (by omega)), decide_eq_false (by omega)]; rfl
    · rw [if_neg (show ¬ (57 : Int32) < nI x from nI_nlt (a := 57) (by omega) (by omega)), decide_eq_true (by omega)]; rfl
theorem cx_kw {c : Nat} (hc : c < 2 ^ 30) (h : hp_T) : fX5_isKeyword (nI c) h = some (if ps_kw c = none then 0 else 1, h) := by
  unfold fX5_isKeyword ps_kw
  have e : ∀ k : Nat, k < 2 ^ 31 → (nI c = nI k ↔ c = k) := fun k hk => nI_eq (by omega) hk
  have e1 := e 552909459 (by decide)
  have e2 := e 644179 (by decide)
  have e3 := e 168165 (by decide)
  have e4 := e 513619 (by decide)
  have e5 := e 679650899 (by decide)
  have e6 := e 215205 (by decide)
  have e7 := e 20579924 (by decide)
  have e8 := e 6605428 (by decide)
  rw [show (552909459 : Int32) = nI 552909459 from rfl, show (644179 : Int32) = nI 644179 from rfl, show (168165 : Int32) = nI 168165 from rfl, show (513619 : Int32) = nI 513619 from rfl, show (679650899 : Int32) = nI 679650899 from rfl, show (215205 : Int32) = nI 215205 from rfl, show (20579924 : Int32) = nI 20579924 from rfl, show (6605428 : Int32) = nI 6605428 from rfl]
  simp only [e1, e2, e3, e4, e5, e6, e7, e8]
  by_cases c1 : c = 513619
  · simp [c1]
  by_cases c2 : c = 679650899
  · simp [c2]
  by_cases c3 : c = 552909459
  · simp [c3]
  by_cases c4 : c = 644179
  · simp [c4]
  by_cases c5 : c = 168165
  · simp [c5]
  by_cases c6 : c = 215205
  · simp [c6]
  by_cases c7 : c = 20579924
  · simp [c7]
  by_cases c8 : c = 6605428
  · simp [c8]
  · simp [c1, c2, c3, c4, c5, c6, c7, c8]
/-- what the reader has before it -/
def ps_rd (I : Nat → Nat → Int32) (b : Nat → Nat) (n : Nat) : Prop := n ≤ 900 ∧ I 1 4 = nI n ∧ (∀ k, k < n → I 2 k = nI (b k)) ∧ ∀ k, b k < 256
theorem cx_takeWord {b : Nat → Nat} {n p : Nat} (hr : ps_rd I b n) (hp : p ≤ n) (h5 : I 1 5 = nI p) (h6 : I 1 6 = nI p) (h8 : I 1 8 = 0) :
    ∃ J, (J 1 5 = nI (ps_spn ps_isL b n p) ∧ J 1 7 = nI (if ps_spn ps_isL b n p - p ≤ 6 then (if ps_kw (ps_tw b n p) = none then 1 else 2) else 5) ∧ J 1 8 = nI (ps_tw b n p) ∧ (∀ k, k ≠ 5 → k ≠ 7 → k ≠ 8 → J 1 k = I 1 k) ∧ ∀ a, a ≠ 1 → J a = I a) ∧ fX5_takeWord 1 (I, L, px_R t v w) = some (J, L, px_R t v w) := by
  obtain ⟨hn, r4, rb, r256⟩ := hr
  obtain ⟨s1, s2, s3, s4⟩ := ps_spn_spec ps_isL b n p
  have s2 := s2 hp
  have htw := ps_tw_lt (b := b) hp
  obtain ⟨m, hm⟩ : ∃ m, ps_spn ps_isL b n p = p + m := ⟨ps_spn ps_isL b n p - p, by omega⟩
  unfold fX5_takeWord
  have etw : ps_tw b n p = ps_cd (fun i => b (p + i) - 96) (min m 6) := by unfold ps_tw; rw [hm, show p + m - p = m by omega]
  rw [hm, show p + m - p = m by omega]
  rw [hm] at s2 s3 s4
  obtain ⟨H, ⟨q1, q2, q3, q4⟩, e⟩ := pf_loop (S := Nat → Nat → Int32) (fun f i J => fX5_takeWord_0 f 1 (J, L, px_R t v w)) (fun J => fX5_takeWord_79 1 (J, L, px_R t v w))
    (fun i J => J 1 5 = nI (p + i) ∧ J 1 8 = nI (ps_cd (fun i => b (p + i) - 96) (min i 6)) ∧ (∀ k, k ≠ 5 → k ≠ 8 → J 1 k = I 1 k) ∧ ∀ a, a ≠ 1 → J a = I a) m (by
      rintro f J ⟨q1, q2, q3, q4⟩
      show fX5_takeWord_0 (f + 1) _ _ = _
      rw [fX5_takeWord_0, show (J, L, px_R t v w).1 1 4 = nI n from (q3 4 (by decide) (by decide)).trans r4, show (J, L, px_R t v w).1 1 5 = nI (p + m) from q1]
      by_cases c : n ≤ p + m
      · rw [if_pos (nI_le c (by omega))]
      · have hb : ps_isL (b (p + m)) = false := by
          cases e : ps_isL (b (p + m)) with
          | false => rfl
          | true => exact absurd ⟨by omega, e⟩ s4
        rw [if_neg (nI_ge (by omega) (by omega)), pg_pos (pi_in (by omega) (by omega)), pi_ix (by omega), show (J, L, px_R t v w).1 ((J, L, px_R t v w).2.2 1 0) (p + m) = nI (b (p + m)) by
          show J 2 (p + m) = _
          rw [q4 2 (by omega)]; exact rb _ (by omega), cx_letter (r256 _), pb_2, hb, if_pos (by decide)]) (by
      rintro f i J hi ⟨q1, q2, q3, q4⟩
      show ∃ s', _ ∧ fX5_takeWord_0 (f + 1) _ _ = fX5_takeWord_0 f _ _
      obtain ⟨u1, u2⟩ := s3 (p + i) (by omega) (by omega)
      have u3 := of_decide_eq_true (show decide (97 ≤ b (p + i) ∧ b (p + i) ≤ 122) = true from u2)
      rw [fX5_takeWord_0, show (J, L, px_R t v w).1 1 4 = nI n from (q3 4 (by decide) (by decide)).trans r4, show (J, L, px_R t v w).1 1 5 = nI (p + i) from q1, if_neg (nI_ge u1 (by omega)), pg_pos (pi_in (by omega) (by omega)), pi_ix (by omega), show (J, L, px_R t v w).1 ((J, L, px_R t v w).2.2 1 0) (p + i) = nI (b (p + i)) by
          show J 2 (p + i) = _
          rw [q4 2 (by omega)]; exact rb _ (by omega), cx_letter (r256 _), pb_2, u2, if_neg (by decide), show (J, L, px_R t v w).1 1 6 = nI p from (q3 6 (by decide) (by decide)).trans h6, show (J, L, px_R t v w).1 1 5 = nI (p + i) from q1, pk_sub (by omega), show p + i - p = i by omega, pi_ix (n := p + i) (by omega), show (J, L, px_R t v w).1 ((J, L, px_R t v w).2.2 1 0) (p + i) = nI (b (p + i)) by
          show J 2 (p + i) = _
          rw [q4 2 (by omega)]; exact rb _ (by omega)]
      unfold fX5_takeWord_66
      by_cases c : 6 ≤ i
      · rw [if_pos (show (6 : Int32) ≤ nI i from nI_le (a := 6) c (by omega)), pl_let]
        refine ⟨hp_u J 1 5 (nI (p + (i + 1))), ⟨pu_eq, ?_, fun k k1 k2 => by rw [pu_place k1]; exact q3 k k1 k2, fun a ha => by rw [pu_cell ha]; exact q4 a ha⟩, ?_⟩
        · rw [pu_place (by decide), q2]; congr 2; omega
        · show fX5_takeWord_0 f 1 (hp_u J 1 5 (J 1 5 + 1), L, px_R t v w) = _
          rw [q1, nI_1]; rfl
      · rw [if_neg (show ¬ (6 : Int32) ≤ nI i from nI_ge (b := 6) (by omega) (by omega)), pg_pos (pi_in (by omega) (by omega)), pl_let, pl_let, show (J, L, px_R t v w).1 1 8 = nI (ps_cd (fun i => b (p + i) - 96) i) by show J 1 8 = _; rw [q2]; congr 2; omega]
        have e8 : nI (ps_cd (fun i => b (p + i) - 96) i) * 32 + nI (b (p + i)) - 97 + 1 = nI (ps_cd (fun i => b (p + i) - 96) (i + 1)) := by
          rw [show (32 : Int32) = nI 32 from rfl, pk_mul, nI_add, show (97 : Int32) = nI 97 from rfl, pk_sub (by omega), nI_1, ps_cd]
          congr 1; show _ = _ + (b (p + i) - 96); omega
        rw [e8]
        refine ⟨hp_u (hp_u J 1 8 (nI (ps_cd (fun i => b (p + i) - 96) (i + 1)))) 1 5 (nI (p + (i + 1))), ⟨pu_eq, ?_, fun k k1 k2 => by rw [pu_place k1, pu_place k2]; exact q3 k k1 k2, fun a ha => by rw [pu_cell ha, pu_cell ha]; exact q4 a ha⟩, ?_⟩
        · rw [pu_place (by decide), pu_eq]; congr 2; omega
        · show fX5_takeWord_0 f 1 (hp_u (hp_u J 1 8 (nI (ps_cd (fun i => b (p + i) - 96) (i + 1)))) 1 5 (hp_u J 1 8 (nI (ps_cd (fun i => b (p + i) - 96) (i + 1))) 1 5 + 1), L, px_R t v w) = _
          rw [pu_place (by decide), q1, nI_1]; rfl) m 0 fx_N I (by omega) (by unfold fx_N; omega) ⟨h5, h8, fun _ _ _ => rfl, fun _ _ => rfl⟩
  suffices fin : ∃ J, (J 1 5 = nI (p + m) ∧ J 1 7 = nI (if m ≤ 6 then (if ps_kw (ps_tw b n p) = none then 1 else 2) else 5) ∧ J 1 8 = nI (ps_tw b n p) ∧ (∀ k, k ≠ 5 → k ≠ 7 → k ≠ 8 → J 1 k = I 1 k) ∧ ∀ a, a ≠ 1 → J a = I a) ∧ fX5_takeWord_79 1 (H, L, px_R t v w) = some (J, L, px_R t v w) by
    obtain ⟨J, z1, z2⟩ := fin
    exact ⟨J, z1, e.trans z2⟩
  unfold fX5_takeWord_79
  rw [show (H, L, px_R t v w).1 1 5 = nI (p + m) from q1, show (H, L, px_R t v w).1 1 6 = nI p from (q3 6 (by decide) (by decide)).trans h6, pk_sub (by omega), show p + m - p = m by omega, show (H, L, px_R t v w).1 1 8 = nI (ps_tw b n p) by show H 1 8 = _; rw [q2, etw]]
  have q2' : H 1 8 = nI (ps_tw b n p) := by rw [q2, etw]
  have out : ∀ x : Int32, (hp_u H 1 7 x 1 5 = nI (p + m) ∧ hp_u H 1 7 x 1 7 = x ∧ hp_u H 1 7 x 1 8 = nI (ps_tw b n p) ∧ (∀ k, k ≠ 5 → k ≠ 7 → k ≠ 8 → hp_u H 1 7 x 1 k = I 1 k) ∧ ∀ a, a ≠ 1 → hp_u H 1 7 x a = I a) := fun x => ⟨by rw [pu_place (by decide)]; exact q1, pu_eq, by rw [pu_place (by decide)]; exact q2', fun k k1 k2 k3 => by rw [pu_place k2]; exact q3 k k1 k3, fun a ha => by rw [pu_cell ha]; exact q4 a ha⟩
  by_cases c : m ≤ 6
  · rw [if_pos (show nI m ≤ 6 from nI_le (b := 6) c (by omega)), if_pos c, cx_kw htw, pb_2]
    by_cases k : ps_kw (ps_tw b n p) = none
    · rw [if_pos k, if_pos k, if_pos rfl]
      exact ⟨hp_u H 1 7 1, out 1, rfl⟩
    · rw [if_neg k, if_neg k, if_neg (by decide)]
      exact ⟨hp_u H 1 7 2, out 2, rfl⟩
  · rw [if_neg (show ¬ nI m ≤ 6 from nI_ge (a := 6) (by omega) (by omega)), if_neg c]
    exact ⟨hp_u H 1 7 5, out 5, rfl⟩
theorem cx_takeNumber {b : Nat → Nat} {n p : Nat} (hr : ps_rd I b n) (hp : p ≤ n) (h5 : I 1 5 = nI p) (h8 : I 1 8 = 0) :
    ∃ J, (J 1 5 = nI (ps_spn ps_isD b n p) ∧ J 1 7 = nI 3 ∧ J 1 8 = nI (min 1000 (ps_tn2 b n p)) ∧ (∀ k, k ≠ 5 → k ≠ 7 → k ≠ 8 → J 1 k = I 1 k) ∧ ∀ a, a ≠ 1 → J a = I a) ∧ fX5_takeNumber 1 (I, L, px_R t v w) = some (J, L, px_R t v w) := by
  obtain ⟨hn, r4, rb, r256⟩ := hr
  obtain ⟨s1, s2, s3, s4⟩ := ps_spn_spec ps_isD b n p
  have s2 := s2 hp
  obtain ⟨m, hm⟩ : ∃ m, ps_spn ps_isD b n p = p + m := ⟨ps_spn ps_isD b n p - p, by omega⟩
  unfold fX5_takeNumber ps_tn2
  rw [hm, show p + m - p = m by omega, pl_let]
  rw [hm] at s2 s3 s4
  obtain ⟨H, ⟨q1, q2, q3, q4, q5⟩, e⟩ := pf_loop (S := Nat → Nat → Int32) (fun f i J => fX5_takeNumber_5 f 1 (J, L, px_R t v w)) (fun J => some (J, L, px_R t v w))
    (fun i J => J 1 5 = nI (p + i) ∧ J 1 8 = nI (min 1000 (ps_nv b p i)) ∧ J 1 7 = nI 3 ∧ (∀ k, k ≠ 5 → k ≠ 7 → k ≠ 8 → J 1 k = I 1 k) ∧ ∀ a, a ≠ 1 → J a = I a) m (by
      rintro f J ⟨q1, q2, q3, q4, q5⟩
      show fX5_takeNumber_5 (f + 1) _ _ = _
      rw [fX5_takeNumber_5, show (J, L, px_R t v w).1 1 4 = nI n from (q4 4 (by decide) (by decide) (by decide)).trans r4, show (J, L, px_R t v w).1 1 5 = nI (p + m) from q1]
      by_cases c : n ≤ p + m
      · rw [if_pos (nI_le c (by omega))]
      · have hb : ps_isD (b (p + m)) = false := by
          cases e : ps_isD (b (p + m)) with
          | false => rfl
          | true => exact absurd ⟨by omega, e⟩ s4
        rw [if_neg (nI_ge (by omega) (by omega)), pg_pos (pi_in (by omega) (by omega)), pi_ix (by omega), show (J, L, px_R t v w).1 ((J, L, px_R t v w).2.2 1 0) (p + m) = nI (b (p + m)) by
          show J 2 (p + m) = _
          rw [q5 2 (by omega)]; exact rb _ (by omega), cx_digit (r256 _), pb_2, hb, if_pos (by decide)]) (by
      rintro f i J hi ⟨q1, q2, q3, q4, q5⟩
      show ∃ s', _ ∧ fX5_takeNumber_5 (f + 1) _ _ = fX5_takeNumber_5 f _ _
      obtain ⟨u1, u2⟩ := s3 (p + i) (by omega) (by omega)
      have u3 := of_decide_eq_true (show decide (48 ≤ b (p + i) ∧ b (p + i) ≤ 57) = true from u2)
      rw [fX5_takeNumber_5, show (J, L, px_R t v w).1 1 4 = nI n from (q4 4 (by decide) (by decide) (by decide)).trans r4, show (J, L, px_R t v w).1 1 5 = nI (p + i) from q1, if_neg (nI_ge u1 (by omega)), pg_pos (pi_in (by omega) (by omega)), pi_ix (by omega), show (J, L, px_R t v w).1 ((J, L, px_R t v w).2.2 1 0) (p + i) = nI (b (p + i)) by
          show J 2 (p + i) = _
          rw [q5 2 (by omega)]; exact rb _ (by omega), cx_digit (r256 _), pb_2, u2, if_neg (by decide), show (J, L, px_R t v w).1 1 5 = nI (p + i) from q1, pg_pos (pi_in (by omega) (by omega)), pl_let, pl_let, pi_ix (n := p + i) (by omega), show (J, L, px_R t v w).1 ((J, L, px_R t v w).2.2 1 0) (p + i) = nI (b (p + i)) by
          show J 2 (p + i) = _
          rw [q5 2 (by omega)]; exact rb _ (by omega), show (J, L, px_R t v w).1 1 8 = nI (min 1000 (ps_nv b p i)) from q2]
      have e8 : fx_min 1000 (nI (min 1000 (ps_nv b p i)) * 10 + nI (b (p + i)) - 48) = nI (min 1000 (ps_nv b p (i + 1))) := by
        rw [show (10 : Int32) = nI 10 from rfl, pk_mul, nI_add, show (48 : Int32) = nI 48 from rfl, pk_sub (by omega), ps_nv]
        unfold fx_min
        by_cases c : min 1000 (ps_nv b p i) * 10 + b (p + i) - 48 < 1000
        · rw [if_pos (show nI _ < (1000 : Int32) from nI_lt (b := 1000) c (by omega))]; congr 1; omega
        · rw [if_neg (show ¬ nI _ < (1000 : Int32) from nI_nlt (b := 1000) (by omega) (by omega))]
          show nI 1000 = _
          congr 1; omega
      rw [e8]
      refine ⟨hp_u (hp_u J 1 8 (nI (min 1000 (ps_nv b p (i + 1))))) 1 5 (nI (p + (i + 1))), ⟨pu_eq, by rw [pu_place (by decide), pu_eq], by rw [pu_place (by decide), pu_place (by decide)]; exact q3, fun k k1 k2 k3 => by rw [pu_place k1, pu_place k3]; exact q4 k k1 k2 k3, fun a ha => by rw [pu_cell ha, pu_cell ha]; exact q5 a ha⟩, ?_⟩
      show fX5_takeNumber_5 f 1 (hp_u (hp_u J 1 8 (nI (min 1000 (ps_nv b p (i + 1))))) 1 5 (hp_u J 1 8 (nI (min 1000 (ps_nv b p (i + 1)))) 1 5 + 1), L, px_R t v w) = _
      rw [pu_place (by decide), q1, nI_1]; rfl) m 0 fx_N (hp_u I 1 7 3) (by omega) (by unfold fx_N; omega) ⟨by rw [pu_place (by decide)]; exact h5, by rw [pu_place (by decide)]; exact h8, pu_eq, fun k k1 k2 k3 => by rw [pu_place k2], fun a ha => by rw [pu_cell ha]⟩
  exact ⟨H, ⟨q1, q3, q2, q4, q5⟩, e⟩
end PSF42
