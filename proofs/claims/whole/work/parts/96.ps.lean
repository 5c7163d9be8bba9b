/-! ===== the next token (the reference's side), whole ===== -/
def ps_MT (J : Nat → Nat → Int32) (b : Nat → Nat) (n p : Nat) : Prop := J 290 9 = nI (ps_tq b n p) ∧ J 290 10 = nI p ∧ J 290 11 = nI (ps_ms b n p) ∧ (ps_ms b n p = 0 → J 290 12 = ps_kwI (ps_kw (ps_tw b n p)) ∧ J 290 13 = nI (ps_tw b n p)) ∧ (ps_ms b n p = 1 → ∃ x, ps_mv (ps_tn2 b n p) x ∧ J 290 12 = nI x)
section PSF46
variable {t v w : Bool} {I : Nat → Nat → Int32} {L : Nat → Nat → Int64}
theorem cm_token {b : Nat → Nat} {n a : Nat} (hr : ps_mrd I b n) (ha : a ≤ n) (h9 : I 290 9 = nI a) :
    ∃ J, (ps_MT J b n (ps_tp b n a) ∧ (∀ k, k < 9 ∨ 13 < k → J 290 k = I 290 k) ∧ ∀ a, a ≠ 290 → J a = I a) ∧ fX10_token 290 (I, L, px_R t v w) = some (J, L, px_R t v w) := by
  obtain ⟨hn, r8, rb, r256⟩ := hr
  obtain ⟨s1, s2, s3, s4⟩ := ps_spn_spec ps_isP b n a
  have s2 := s2 ha
  unfold ps_tp
  obtain ⟨m, hm⟩ : ∃ m, ps_spn ps_isP b n a = a + m := ⟨ps_spn ps_isP b n a - a, by omega⟩
  unfold fX10_token
  rw [hm]
  rw [hm] at s2 s3 s4
  have mrd : ∀ J : Nat → Nat → Int32, (∀ k, k < 9 ∨ 13 < k → J 290 k = I 290 k) → (∀ a, a ≠ 290 → J a = I a) → ps_mrd J b n := fun J q3 q4 => ⟨hn, (q3 8 (by omega)).trans r8, fun k hk => by rw [q4 291 (by omega)]; exact rb k hk, r256⟩
  have hne : ∀ x : Nat, x < 256 → ∀ i, (ps_hr b n i = nI x ↔ i < n ∧ b i = x) := fun x hx i => by
    unfold ps_hr
    by_cases c : i < n
    · have := r256 i
      rw [if_pos c, nI_eq (by omega) (by omega)]; exact ⟨fun q => ⟨c, q⟩, fun q => q.2⟩
    · rw [if_neg c]; exact ⟨fun q => absurd q.symm (nI_ne_m1 (by omega)), fun q => absurd q.1 c⟩
  have n10 : ∀ i, (ps_hr b n i = 10 ↔ i < n ∧ b i = 10) := hne 10 (by omega)
  have n32 : ∀ i, (ps_hr b n i = 32 ↔ i < n ∧ b i = 32) := hne 32 (by omega)
  obtain ⟨z, hz⟩ : ∃ z : Nat, z = 0 := ⟨0, rfl⟩
  have tail : ∀ H : Nat → Nat → Int32, H 290 9 = nI (a + m) → (∀ k, k ≠ 9 → H 290 k = I 290 k) → (∀ a, a ≠ 290 → H a = I a) → ∀ f, ∃ J, (ps_MT J b n (a + m) ∧ (∀ k, k < 9 ∨ 13 < k → J 290 k = I 290 k) ∧ ∀ a, a ≠ 290 → J a = I a) ∧ fX10_token_0 (f + 1) 290 (H, L, px_R t v w) = some (J, L, px_R t v w) := by
    intro H q1 q2 q3 f
    have nsp : ¬ (a + m < n ∧ (b (a + m) = 10 ∨ b (a + m) = 32)) := fun q => s4 ⟨q.1, decide_eq_true q.2⟩
    rw [fX10_token_0, cm_here (mrd H (fun k hk => q2 k (by omega)) q3) s2 q1, pb_2, if_neg (fun q => nsp ⟨((n10 _).mp q).1, Or.inl ((n10 _).mp q).2⟩), cm_here (mrd H (fun k hk => q2 k (by omega)) q3) s2 q1, pb_2, if_neg (fun q => nsp ⟨((n32 _).mp q).1, Or.inr ((n32 _).mp q).2⟩), pl_let]
    generalize a + m = p at s2 q1 ⊢
    have g9 : hp_u H 290 10 (H 290 9) 290 9 = nI p := by rw [pu_place (by decide)]; exact q1
    have g10 : hp_u H 290 10 (H 290 9) 290 10 = nI p := by rw [pu_eq]; exact q1
    have gk : ∀ k, k ≠ 9 → k ≠ 10 → hp_u H 290 10 (H 290 9) 290 k = I 290 k := fun k k1 k2 => by rw [pu_place k2]; exact q2 k k1
    have ga : ∀ a, a ≠ 290 → hp_u H 290 10 (H 290 9) a = I a := fun a ha => by rw [pu_cell ha]; exact q3 a ha
    show ∃ J, _ ∧ fx_b2 (fX10_here 290 (hp_u H 290 10 (H 290 9), L, px_R t v w)) _ = _
    generalize hp_u H 290 10 (H 290 9) = G at g9 g10 gk ga ⊢
    have hrG : ps_mrd G b n := mrd G (fun k hk => gk k (by omega) (by omega)) ga
    rw [cm_here hrG s2 g9, pb_2, cm_small r256, pb_2, cm_dig r256, pb_2]
    unfold ps_MT ps_tq ps_ms
    by_cases c : p < n
    · have h256 := r256 p
      have eh : ps_hr b n p = nI (b p) := if_pos c
      have hc : ¬ n ≤ p := by omega
      rw [eh, if_neg (show ¬ nI (b p) = -1 from nI_ne_m1 (by omega)), if_neg hc, if_neg hc]
      cases eL : ps_isL (b p) with
      | true =>
        rw [if_neg (show ¬ ((if p < n ∧ true = true then (1 : Int32) else 0) = 0) by rw [if_pos ⟨c, rfl⟩]; decide), pl_let, if_pos rfl, if_pos rfl]
        show ∃ J, _ ∧ fX10_token_69 fx_N 290 (hp_u G 290 13 0, L, px_R t v w) = _
        obtain ⟨J, ⟨z1, z2, z3, z4, z5, z6⟩, z7⟩ := cm_word (I := hp_u G 290 13 0) (L := L) (t := t) (v := v) (w := w) (b := b) (n := n) (p := p) ⟨hn, by rw [pu_place (by decide)]; exact hrG.2.1, fun k hk => by rw [pu_cell (by omega)]; exact hrG.2.2.1 k hk, r256⟩ s2 (by rw [pu_place (by decide)]; exact g9) (by rw [pu_place (by decide)]; exact g10) pu_eq
        refine ⟨J, ⟨⟨z1, by rw [z5 10 (by decide) (by decide) (by decide) (by decide), pu_place (by decide)]; exact g10, z2, fun q => ?_, fun q => ?_⟩, fun k hk => by rw [z5 k (by omega) (by omega) (by omega) (by omega), pu_place (by omega)]; exact gk k (by omega) (by omega), fun a ha => by rw [z6 a ha, pu_cell ha]; exact ga a ha⟩, z7⟩
        · by_cases y : ps_spn ps_isL b n p - p ≤ 6
          · exact ⟨z4 y, z3⟩
          · rw [if_neg y] at q; exact absurd q (by decide)
        · split at q <;> exact absurd q (by decide)
      | false =>
        rw [if_pos (show (if p < n ∧ false = true then (1 : Int32) else 0) = 0 by rw [if_neg (fun q => by cases q.2)]), if_neg (show ¬ (false = true) by decide), if_neg (show ¬ (false = true) by decide)]
        cases eD : ps_isD (b p) with
        | true =>
          rw [if_neg (show ¬ ((if p < n ∧ true = true then (1 : Int32) else 0) = 0) by rw [if_pos ⟨c, rfl⟩]; decide), pl_let, pl_let, if_pos rfl, if_pos rfl]
          show ∃ J, _ ∧ fX10_token_177 fx_N 290 (hp_u (hp_u G 290 11 1) 290 12 0, L, px_R t v w) = _
          obtain ⟨J, ⟨z1, z2, z3, z4⟩, z5⟩ := cm_num (I := hp_u (hp_u G 290 11 1) 290 12 0) (L := L) (t := t) (v := v) (w := w) (b := b) (n := n) (p := p) ⟨hn, by rw [pu_place (by decide), pu_place (by decide)]; exact hrG.2.1, fun k hk => by rw [pu_cell (by omega), pu_cell (by omega)]; exact hrG.2.2.1 k hk, r256⟩ s2 (by rw [pu_place (by decide), pu_place (by decide)]; exact g9) pu_eq
          exact ⟨J, ⟨⟨z1, by rw [z3 10 (by decide) (by decide), pu_place (by decide), pu_place (by decide)]; exact g10, by rw [z3 11 (by decide) (by decide), pu_place (by decide), pu_eq]; rfl, fun q => absurd q (by decide), fun _ => z2⟩, fun k hk => by rw [z3 k (by omega) (by omega), pu_place (by omega), pu_place (by omega)]; exact gk k (by omega) (by omega), fun a ha => by rw [z4 a ha, pu_cell ha, pu_cell ha]; exact ga a ha⟩, z5⟩
        | false =>
          rw [if_pos (show (if p < n ∧ false = true then (1 : Int32) else 0) = 0 by rw [if_neg (fun q => by cases q.2)]), if_neg (show ¬ (false = true) by decide), if_neg (show ¬ (false = true) by decide)]
          unfold fX10_token_248
          have out : ∀ x : Nat, x ≠ 0 → x ≠ 1 → ∃ J, ((J 290 9 = nI (p + 1) ∧ J 290 10 = nI p ∧ J 290 11 = nI x ∧ (x = 0 → J 290 12 = ps_kwI (ps_kw (ps_tw b n p)) ∧ J 290 13 = nI (ps_tw b n p)) ∧ (x = 1 → ∃ x, ps_mv (ps_tn2 b n p) x ∧ J 290 12 = nI x)) ∧ (∀ k, k < 9 ∨ 13 < k → J 290 k = I 290 k) ∧ ∀ a, a ≠ 290 → J a = I a) ∧ (fx_let (hp_sI (G, L, px_R t v w) 290 11 (nI x)) fun h248 => fx_let (hp_sI h248 290 9 (h248.1 290 9 + 1)) fun h258 => some h258) = some (J, L, px_R t v w) := fun x x0 x1 => by
            rw [pl_let, pl_let]
            refine ⟨hp_u (hp_u G 290 11 (nI x)) 290 9 (nI (p + 1)), ⟨⟨pu_eq, by rw [pu_place (by decide), pu_place (by decide)]; exact g10, by rw [pu_place (by decide), pu_eq], fun q => absurd q x0, fun q => absurd q x1⟩, fun k hk => by rw [pu_place (by omega), pu_place (by omega)]; exact gk k (by omega) (by omega), fun a ha => by rw [pu_cell ha, pu_cell ha]; exact ga a ha⟩, ?_⟩
            show some (hp_u (hp_u G 290 11 (nI x)) 290 9 (hp_u G 290 11 (nI x) 290 9 + 1), L, px_R t v w) = _
            rw [pu_place (by decide), g9, nI_1]
          by_cases e9 : b p = 59
          · rw [if_pos (show nI (b p) = 59 by rw [e9]; rfl), if_pos e9]
            exact out 2 (by decide) (by decide)
          · rw [if_neg (show ¬ nI (b p) = 59 from fun q => e9 ((nI_eq (b := 59) (by omega) (by omega)).mp q)), if_neg e9]
            exact out 4 (by decide) (by decide)
    · have eh : ps_hr b n p = -1 := if_neg c
      have hc : n ≤ p := by omega
      rw [eh, if_pos rfl, pl_let, if_pos hc, if_pos hc]
      exact ⟨hp_u G 290 11 3, ⟨⟨by rw [pu_place (by decide)]; exact g9, by rw [pu_place (by decide)]; exact g10, pu_eq, fun q => absurd q (by decide), fun q => absurd q (by decide)⟩, fun k hk => by rw [pu_place (by omega)]; exact gk k (by omega) (by omega), fun a ha => by rw [pu_cell ha]; exact ga a ha⟩, rfl⟩
  obtain ⟨⟨H, f9⟩, ⟨q1, q2, q3⟩, e⟩ := pf_loop (S := (Nat → Nat → Int32) × Nat) (fun f i J => fX10_token_0 f 290 (J.1, L, px_R t v w)) (fun J => fX10_token_0 (J.2 + 1) 290 (J.1, L, px_R t v w))
    (fun i J => J.1 290 9 = nI (a + i) ∧ (∀ k, k ≠ 9 → J.1 290 k = I 290 k) ∧ ∀ a, a ≠ 290 → J.1 a = I a) m (by
      rintro f ⟨H, f9⟩ ⟨q1, q2, q3⟩
      dsimp only at q1 q2 q3 ⊢
      have nsp : ¬ (a + m < n ∧ (b (a + m) = 10 ∨ b (a + m) = 32)) := fun q => s4 ⟨q.1, decide_eq_true q.2⟩
      rw [fX10_token_0, fX10_token_0, cm_here (mrd H (fun k hk => q2 k (by omega)) q3) s2 q1, pb_2, pb_2, if_neg (fun q => nsp ⟨((n10 _).mp q).1, Or.inl ((n10 _).mp q).2⟩), if_neg (fun q => nsp ⟨((n10 _).mp q).1, Or.inl ((n10 _).mp q).2⟩), cm_here (mrd H (fun k hk => q2 k (by omega)) q3) s2 q1, pb_2, pb_2, if_neg (fun q => nsp ⟨((n32 _).mp q).1, Or.inr ((n32 _).mp q).2⟩), if_neg (fun q => nsp ⟨((n32 _).mp q).1, Or.inr ((n32 _).mp q).2⟩)]) (by
      rintro f i ⟨J, f9⟩ hi ⟨q1, q2, q3⟩
      dsimp only at q1 q2 q3
      show ∃ s' : (Nat → Nat → Int32) × Nat, _ ∧ fX10_token_0 (f + 1) _ _ = fX10_token_0 f _ _
      obtain ⟨u1, u2⟩ := s3 (a + i) (by omega) (by omega)
      have u3 := of_decide_eq_true (show decide (b (a + i) = 10 ∨ b (a + i) = 32) = true from u2)
      rw [fX10_token_0, cm_here (mrd J (fun k hk => q2 k (by omega)) q3) (by omega) q1, pb_2, cm_here (mrd J (fun k hk => q2 k (by omega)) q3) (by omega) q1, pb_2]
      unfold fX10_token_18
      rw [pl_let, show hp_sI (J, L, px_R t v w) 290 9 ((J, L, px_R t v w).1 290 9 + 1) = (hp_u J 290 9 (nI (a + (i + 1))), L, px_R t v w) by
        show (hp_u J 290 9 (J 290 9 + 1), L, px_R t v w) = _
        rw [q1, nI_1]; rfl]
      refine ⟨(hp_u J 290 9 (nI (a + (i + 1))), 0), ⟨by show hp_u J 290 9 _ 290 9 = _; exact pu_eq, fun k k1 => by show hp_u J _ _ _ _ k = _; rw [pu_place k1]; exact q2 k k1, fun a ha => by show hp_u J _ _ _ a = _; rw [pu_cell ha]; exact q3 a ha⟩, ?_⟩
      rcases u3 with u3 | u3
      · rw [if_pos ((n10 _).mpr ⟨u1, u3⟩)]
      · rw [if_neg (fun q => by have := ((n10 _).mp q).2; omega), if_pos ((n32 _).mpr ⟨u1, u3⟩)]) m 0 fx_N (I, 0) (by omega) (by unfold fx_N; omega) ⟨h9, fun _ _ => rfl, fun _ _ => rfl⟩
  dsimp only at q1 q2 q3 e
  obtain ⟨J, z1, z2⟩ := tail H q1 q2 q3 f9
  exact ⟨J, z1, e.trans z2⟩
end PSF46
