/-! ===== the next token (the reference's side) ===== -/
theorem nI_or {c d : Nat} (hd : d < 32) (hc : c < 2 ^ 25) : fx_shl (nI c) 5 ||| nI d = nI (c * 32 + d) := by
  have e1 : fx_shl (nI c) 5 = nI (c * 2 ^ 5) := by
    unfold fx_shl
    exact pk_shlN _ 5 (by decide) (by omega)
  rw [e1]
  have e2 : c * 32 + d = c * 2 ^ 5 ||| d := by
    have := Nat.two_pow_add_eq_or_of_lt (i := 5) (b := d) (by omega) c
    rw [show c * 2 ^ 5 = 2 ^ 5 * c by omega, ← this, show 2 ^ 5 * c = c * 32 by omega]
  rw [e2]
  apply Int32.toBitVec_inj.mp
  show BitVec.ofNat 32 (c * 2 ^ 5) ||| BitVec.ofNat 32 d = BitVec.ofNat 32 (c * 2 ^ 5 ||| d)
  exact (BitVec.ofNat_or ..).symm
def ps_mrd (I : Nat → Nat → Int32) (b : Nat → Nat) (n : Nat) : Prop := n ≤ 900 ∧ I 290 8 = nI n ∧ (∀ k, k < n → I 291 k = nI (b k)) ∧ ∀ k, b k < 256
def ps_hr (b : Nat → Nat) (n a : Nat) : Int32 := if a < n then nI (b a) else -1
/-- 0 a word, 1 a number, 2 a semicolon, 3 the end, 4 none of these -/
def ps_ms (b : Nat → Nat) (n p : Nat) : Nat := if n ≤ p then 3 else if ps_isL (b p) then (if ps_spn ps_isL b n p - p ≤ 6 then 0 else 4) else if ps_isD (b p) then 1 else if b p = 59 then 2 else 4
section PSF45
variable {t v w : Bool} {I : Nat → Nat → Int32} {L : Nat → Nat → Int64}
theorem cm_here {b : Nat → Nat} {n a : Nat} (hr : ps_mrd I b n) (ha : a ≤ n) (h9 : I 290 9 = nI a) : fX10_here 290 (I, L, px_R t v w) = some (ps_hr b n a, (I, L, px_R t v w)) := by
  obtain ⟨hn, r8, rb, r256⟩ := hr
  unfold fX10_here ps_hr
  rw [show (I, L, px_R t v w).1 290 8 = nI n from r8, show (I, L, px_R t v w).1 290 9 = nI a from h9]
  by_cases c : a < n
  · rw [if_neg (nI_ge c (by omega)), if_pos c, pg_pos (pi_in (by omega) (by omega)), pi_ix (by omega)]
    show some (I 291 a, _) = _
    rw [rb a c]
  · rw [if_pos (nI_le (by omega) (by omega)), if_neg c]
theorem cm_small {b : Nat → Nat} {n a : Nat} (h256 : ∀ k, b k < 256) (h : hp_T) : fX10_isSmall (ps_hr b n a) h = some (if a < n ∧ ps_isL (b a) = true then 1 else 0, h) := by
  unfold ps_hr
  by_cases c : a < n
  · rw [if_pos c]
    rw [show fX10_isSmall (nI (b a)) h = fX5_isLetter (nI (b a)) h from rfl, cx_letter (h256 a)]
    cases e : ps_isL (b a) with
    | true => rw [if_pos rfl, if_pos ⟨c, rfl⟩]
    | false => rw [if_neg (by decide), if_neg (fun q => by cases q.2)]
  · rw [if_neg c, if_neg (fun q => c q.1)]; rfl
theorem cm_dig {b : Nat → Nat} {n a : Nat} (h256 : ∀ k, b k < 256) (h : hp_T) : fX10_isDigit (ps_hr b n a) h = some (if a < n ∧ ps_isD (b a) = true then 1 else 0, h) := by
  unfold ps_hr
  by_cases c : a < n
  · rw [if_pos c]
    rw [show fX10_isDigit (nI (b a)) h = fX5_isDigit (nI (b a)) h from rfl, cx_digit (h256 a)]
    cases e : ps_isD (b a) with
    | true => rw [if_pos rfl, if_pos ⟨c, rfl⟩]
    | false => rw [if_neg (by decide), if_neg (fun q => by cases q.2)]
  · rw [if_neg c, if_neg (fun q => c q.1)]; rfl
theorem cm_word {b : Nat → Nat} {n p : Nat} (hr : ps_mrd I b n) (hp : p ≤ n) (h9 : I 290 9 = nI p) (h10 : I 290 10 = nI p) (h13 : I 290 13 = 0) :
    ∃ J, (J 290 9 = nI (ps_spn ps_isL b n p) ∧ J 290 11 = nI (if ps_spn ps_isL b n p - p ≤ 6 then 0 else 4) ∧ J 290 13 = nI (ps_tw b n p) ∧ (ps_spn ps_isL b n p - p ≤ 6 → J 290 12 = ps_kwI (ps_kw (ps_tw b n p))) ∧ (∀ k, k ≠ 9 → k ≠ 11 → k ≠ 12 → k ≠ 13 → J 290 k = I 290 k) ∧ ∀ a, a ≠ 290 → J a = I a) ∧ fX10_token_69 fx_N 290 (I, L, px_R t v w) = some (J, L, px_R t v w) := by
  have hr0 := hr
  obtain ⟨hn, r8, rb, r256⟩ := hr
  obtain ⟨s1, s2, s3, s4⟩ := ps_spn_spec ps_isL b n p
  have s2 := s2 hp
  obtain ⟨m, hm⟩ : ∃ m, ps_spn ps_isL b n p = p + m := ⟨ps_spn ps_isL b n p - p, by omega⟩
  have etw : ps_tw b n p = ps_cd (fun i => b (p + i) - 96) (min m 6) := by unfold ps_tw; rw [hm, show p + m - p = m by omega]
  rw [hm, show p + m - p = m by omega]
  rw [hm] at s2 s3 s4
  have mrd : ∀ J : Nat → Nat → Int32, (∀ k, k ≠ 9 → k ≠ 13 → J 290 k = I 290 k) → (∀ a, a ≠ 290 → J a = I a) → ps_mrd J b n := fun J q3 q4 => ⟨hn, (q3 8 (by decide) (by decide)).trans r8, fun k hk => by rw [q4 291 (by omega)]; exact rb k hk, r256⟩
  obtain ⟨H, ⟨q1, q2, q3, q4⟩, e⟩ := pf_loop (S := Nat → Nat → Int32) (fun f i J => fX10_token_69 f 290 (J, L, px_R t v w)) (fun J => if (6 : Int32) < nI m then fX10_token_146 290 290 4 (J, L, px_R t v w) else fX10_token_146 290 290 0 (J, L, px_R t v w))
    (fun i J => J 290 9 = nI (p + i) ∧ J 290 13 = nI (ps_cd (fun i => b (p + i) - 96) (min i 6)) ∧ (∀ k, k ≠ 9 → k ≠ 13 → J 290 k = I 290 k) ∧ ∀ a, a ≠ 290 → J a = I a) m (by
      rintro f J ⟨q1, q2, q3, q4⟩
      show fX10_token_69 (f + 1) _ _ = _
      rw [fX10_token_69, cm_here (mrd J q3 q4) (by omega) q1, pb_2, cm_small r256, pb_2, if_neg s4, if_pos rfl, show (J, L, px_R t v w).1 290 9 = nI (p + m) from q1, show (J, L, px_R t v w).1 290 10 = nI p from (q3 10 (by decide) (by decide)).trans h10, pk_sub (by omega), show p + m - p = m by omega]) (by
      rintro f i J hi ⟨q1, q2, q3, q4⟩
      show ∃ s', _ ∧ fX10_token_69 (f + 1) _ _ = fX10_token_69 f _ _
      obtain ⟨u1, u2⟩ := s3 (p + i) (by omega) (by omega)
      have u3 := of_decide_eq_true (show decide (97 ≤ b (p + i) ∧ b (p + i) ≤ 122) = true from u2)
      rw [fX10_token_69, cm_here (mrd J q3 q4) (by omega) q1, pb_2, cm_small r256, pb_2, if_pos (show p + i < n ∧ ps_isL (b (p + i)) = true from ⟨u1, u2⟩), if_neg (show ¬ (1 : Int32) = 0 by decide), show (J, L, px_R t v w).1 290 9 = nI (p + i) from q1, show (J, L, px_R t v w).1 290 10 = nI p from (q3 10 (by decide) (by decide)).trans h10, pk_sub (by omega), show p + i - p = i by omega, cm_here (mrd J q3 q4) (by omega) q1, pb_2]
      unfold fX10_token_113
      by_cases c : 6 ≤ i
      · rw [if_pos (show (6 : Int32) ≤ nI i from nI_le (a := 6) c (by omega)), pl_let]
        refine ⟨hp_u J 290 9 (nI (p + (i + 1))), ⟨pu_eq, by rw [pu_place (by decide), q2]; congr 2; omega, fun k k1 k2 => by rw [pu_place k1]; exact q3 k k1 k2, fun a ha => by rw [pu_cell ha]; exact q4 a ha⟩, ?_⟩
        show fX10_token_69 f 290 (hp_u J 290 9 (J 290 9 + 1), L, px_R t v w) = _
        rw [q1, nI_1]; rfl
      · have hcd := ps_cd_lt (d := fun i => b (p + i) - 96) i (fun k hk => by
          have := (s3 (p + k) (by omega) (by omega)).2
          have := of_decide_eq_true (show decide (97 ≤ b (p + k) ∧ b (p + k) ≤ 122) = true from this)
          show b (p + k) - 96 < 32; omega)
        have hp5 : (32 : Nat) ^ i ≤ 32 ^ 5 := Nat.pow_le_pow_right (by decide) (by omega)
        have h25 : (32 : Nat) ^ 5 = 2 ^ 25 := by decide
        have e13 : fx_shl (nI (ps_cd (fun i => b (p + i) - 96) i)) 5 ||| ((ps_hr b n (p + i) - 97) + 1) = nI (ps_cd (fun i => b (p + i) - 96) (i + 1)) := by
          unfold ps_hr
          rw [if_pos u1, show (97 : Int32) = nI 97 from rfl, pk_sub (by omega), nI_1, nI_or (by omega) (by omega), ps_cd]
          congr 2; show _ = b (p + i) - 96; omega
        rw [if_neg (show ¬ (6 : Int32) ≤ nI i from nI_ge (b := 6) (by omega) (by omega)), pl_let, pl_let, show (J, L, px_R t v w).1 290 13 = nI (ps_cd (fun i => b (p + i) - 96) i) by show J 290 13 = _; rw [q2]; congr 2; omega, e13]
        refine ⟨hp_u (hp_u J 290 13 (nI (ps_cd (fun i => b (p + i) - 96) (i + 1)))) 290 9 (nI (p + (i + 1))), ⟨pu_eq, by rw [pu_place (by decide), pu_eq]; congr 2; omega, fun k k1 k2 => by rw [pu_place k1, pu_place k2]; exact q3 k k1 k2, fun a ha => by rw [pu_cell ha, pu_cell ha]; exact q4 a ha⟩, ?_⟩
        show fX10_token_69 f 290 (hp_u (hp_u J 290 13 (nI (ps_cd (fun i => b (p + i) - 96) (i + 1)))) 290 9 (hp_u J 290 13 (nI (ps_cd (fun i => b (p + i) - 96) (i + 1))) 290 9 + 1), L, px_R t v w) = _
        rw [pu_place (by decide), q1, nI_1]; rfl) m 0 fx_N I (by omega) (by unfold fx_N; omega) ⟨h9, h13, fun _ _ _ => rfl, fun _ _ => rfl⟩
  have D : ∀ j, Decidable (ps_wm b p m j) := fun j => Classical.propDecidable _
  have tail : ∀ s : Nat, ∃ J, (J 290 9 = nI (p + m) ∧ J 290 11 = nI s ∧ J 290 13 = nI (ps_tw b n p) ∧ (m ≤ 6 → J 290 12 = ps_kwI (ps_kw (ps_tw b n p))) ∧ (∀ k, k ≠ 9 → k ≠ 11 → k ≠ 12 → k ≠ 13 → J 290 k = I 290 k) ∧ ∀ a, a ≠ 290 → J a = I a) ∧ fX10_token_146 290 290 (nI s) (H, L, px_R t v w) = some (J, L, px_R t v w) := by
    intro s
    unfold fX10_token_146
    rw [pl_let]
    show ∃ J, _ ∧ fx_b2 (fX10_wordHere 290 (hp_u H 290 11 (nI s), L, px_R t v w)) _ = _
    rw [cm_wordHere (b := b) (p := p) (m := m) (by omega) (by rw [pu_place (by decide)]; exact (q3 10 (by decide) (by decide)).trans h10) (by rw [pu_place (by decide)]; exact q1) (fun k hk => by rw [pu_cell (by omega), q4 291 (by omega)]; exact rb k (by omega)) r256 D, pb_2, pl_let]
    refine ⟨hp_u (hp_u H 290 11 (nI s)) 290 12 (ps_frst (ps_wm b p m) D 8 0), ⟨by rw [pu_place (by decide), pu_place (by decide)]; exact q1, by rw [pu_place (by decide), pu_eq], by rw [pu_place (by decide), pu_place (by decide), q2, etw], fun hm6 => ?_, fun k k1 k2 k3 k4 => by rw [pu_place k3, pu_place k2]; exact q3 k k1 k4, fun a ha => by rw [pu_cell ha, pu_cell ha]; exact q4 a ha⟩, rfl⟩
    rw [pu_eq, ps_frst_kw (fun i hi => by
      have := (s3 (p + i) (by omega) (by omega)).2
      exact of_decide_eq_true (show decide (97 ≤ b (p + i) ∧ b (p + i) ≤ 122) = true from this)), etw, show min m 6 = m by omega]
  by_cases c : m ≤ 6
  · rw [if_pos c]
    rw [if_neg (show ¬ (6 : Int32) < nI m from nI_nlt (a := 6) (by omega) (by omega))] at e
    obtain ⟨J, z1, z2⟩ := tail 0
    exact ⟨J, z1, e.trans z2⟩
  · rw [if_neg c]
    rw [if_pos (show (6 : Int32) < nI m from nI_lt (a := 6) (by omega) (by omega))] at e
    obtain ⟨J, z1, z2⟩ := tail 4
    exact ⟨J, z1, e.trans z2⟩
def ps_mv (V x : Nat) : Prop := x ≤ 99999 ∧ (V ≤ 9999 → x = V) ∧ (9999 < V → 9999 < x)
theorem cm_num {b : Nat → Nat} {n p : Nat} (hr : ps_mrd I b n) (hp : p ≤ n) (h9 : I 290 9 = nI p) (h12 : I 290 12 = 0) :
    ∃ J, (J 290 9 = nI (ps_spn ps_isD b n p) ∧ (∃ x, ps_mv (ps_tn2 b n p) x ∧ J 290 12 = nI x) ∧ (∀ k, k ≠ 9 → k ≠ 12 → J 290 k = I 290 k) ∧ ∀ a, a ≠ 290 → J a = I a) ∧ fX10_token_177 fx_N 290 (I, L, px_R t v w) = some (J, L, px_R t v w) := by
  obtain ⟨hn, r8, rb, r256⟩ := hr
  obtain ⟨s1, s2, s3, s4⟩ := ps_spn_spec ps_isD b n p
  have s2 := s2 hp
  obtain ⟨m, hm⟩ : ∃ m, ps_spn ps_isD b n p = p + m := ⟨ps_spn ps_isD b n p - p, by omega⟩
  unfold ps_tn2
  rw [hm, show p + m - p = m by omega]
  rw [hm] at s2 s3 s4
  have mrd : ∀ J : Nat → Nat → Int32, (∀ k, k ≠ 9 → k ≠ 12 → J 290 k = I 290 k) → (∀ a, a ≠ 290 → J a = I a) → ps_mrd J b n := fun J q3 q4 => ⟨hn, (q3 8 (by decide) (by decide)).trans r8, fun k hk => by rw [q4 291 (by omega)]; exact rb k hk, r256⟩
  refine pf_loop (S := Nat → Nat → Int32) (fun f i J => fX10_token_177 f 290 (J, L, px_R t v w)) (fun J => some (J, L, px_R t v w))
    (fun i J => J 290 9 = nI (p + i) ∧ (∃ x, ps_mv (ps_nv b p i) x ∧ J 290 12 = nI x) ∧ (∀ k, k ≠ 9 → k ≠ 12 → J 290 k = I 290 k) ∧ ∀ a, a ≠ 290 → J a = I a) m ?_ ?_ m 0 fx_N I (by omega) (by unfold fx_N; omega) ⟨h9, ⟨0, ⟨by omega, fun _ => rfl, fun q => absurd q (by show ¬ 9999 < 0; omega)⟩, h12⟩, fun _ _ _ => rfl, fun _ _ => rfl⟩
  · rintro f J ⟨q1, q2, q3, q4⟩
    show fX10_token_177 (f + 1) _ _ = _
    rw [fX10_token_177, cm_here (mrd J q3 q4) (by omega) q1, pb_2, cm_dig r256, pb_2, if_neg s4, if_pos rfl]
  · rintro f i J hi ⟨q1, ⟨x, ⟨x1, x2, x3⟩, q2⟩, q3, q4⟩
    show ∃ s', _ ∧ fX10_token_177 (f + 1) _ _ = fX10_token_177 f _ _
    obtain ⟨u1, u2⟩ := s3 (p + i) (by omega) (by omega)
    have u3 := of_decide_eq_true (show decide (48 ≤ b (p + i) ∧ b (p + i) ≤ 57) = true from u2)
    rw [fX10_token_177, cm_here (mrd J q3 q4) (by omega) q1, pb_2, cm_dig r256, pb_2, if_pos (show p + i < n ∧ ps_isD (b (p + i)) = true from ⟨u1, u2⟩), if_neg (show ¬ (1 : Int32) = 0 by decide), show (J, L, px_R t v w).1 290 12 = nI x from q2, cm_here (mrd J q3 q4) (by omega) q1, pb_2]
    unfold fX10_token_220
    have out : ∀ y : Nat, ps_mv (ps_nv b p (i + 1)) y → ∃ s', (s' 290 9 = nI (p + (i + 1)) ∧ (∃ x, ps_mv (ps_nv b p (i + 1)) x ∧ s' 290 12 = nI x) ∧ (∀ k, k ≠ 9 → k ≠ 12 → s' 290 k = I 290 k) ∧ ∀ a, a ≠ 290 → s' a = I a) ∧ (fx_let (hp_sI (J, L, px_R t v w) 290 12 (nI y)) fun h220 => fx_let (hp_sI h220 290 9 (h220.1 290 9 + 1)) fun h230 => fX10_token_177 f 290 h230) = fX10_token_177 f 290 (s', L, px_R t v w) := fun y hy => by
      rw [pl_let, pl_let]
      refine ⟨hp_u (hp_u J 290 12 (nI y)) 290 9 (nI (p + (i + 1))), ⟨pu_eq, ⟨y, hy, by rw [pu_place (by decide), pu_eq]⟩, fun k k1 k2 => by rw [pu_place k1, pu_place k2]; exact q3 k k1 k2, fun a ha => by rw [pu_cell ha, pu_cell ha]; exact q4 a ha⟩, ?_⟩
      show fX10_token_177 f 290 (hp_u (hp_u J 290 12 (nI y)) 290 9 (hp_u J 290 12 (nI y) 290 9 + 1), L, px_R t v w) = _
      rw [pu_place (by decide), q1, nI_1]; rfl
    by_cases c : x ≤ 9999
    · have hV : x = ps_nv b p i := by
        by_cases z : ps_nv b p i ≤ 9999
        · exact x2 z
        · have := x3 (by omega); omega
      have e12 : (10 : Int32) * nI x + ps_hr b n (p + i) - 48 = nI (10 * x + b (p + i) - 48) := by
        unfold ps_hr
        rw [if_pos u1, show (10 : Int32) = nI 10 from rfl, pk_mul, nI_add, show (48 : Int32) = nI 48 from rfl, pk_sub (by omega)]
      rw [if_pos (show nI x ≤ 9999 from nI_le (b := 9999) c (by omega)), e12]
      refine out _ ?_
      rw [ps_nv, ← hV]
      exact ⟨by omega, fun _ => by omega, fun _ => by omega⟩
    · rw [if_neg (show ¬ nI x ≤ 9999 from nI_ge (a := 9999) (by omega) (by omega))]
      refine out x ?_
      have hV : 9999 < ps_nv b p i := by
        by_cases z : ps_nv b p i ≤ 9999
        · have := x2 z; omega
        · omega
      rw [ps_nv]
      exact ⟨x1, fun z => by omega, fun _ => by omega⟩
end PSF45
