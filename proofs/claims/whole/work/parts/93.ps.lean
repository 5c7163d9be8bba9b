/-! ===== the next token (the class's side) ===== -/
section PSF43
variable {t v w : Bool} {I : Nat → Nat → Int32} {L : Nat → Nat → Int64}
def ps_tp (b : Nat → Nat) (n a : Nat) : Nat := ps_spn ps_isP b n a
theorem cx_advance {b : Nat → Nat} {n a : Nat} (hr : ps_rd I b n) (ha : a ≤ n) (h5 : I 1 5 = nI a) :
    ∃ J, (J 1 5 = nI (ps_tq b n (ps_tp b n a)) ∧ J 1 6 = nI (ps_tp b n a) ∧ J 1 7 = nI (ps_tk b n (ps_tp b n a)) ∧ J 1 8 = nI (ps_tcd b n (ps_tp b n a)) ∧ (∀ k, k ≠ 5 → k ≠ 6 → k ≠ 7 → k ≠ 8 → J 1 k = I 1 k) ∧ ∀ a, a ≠ 1 → J a = I a) ∧ fX5_advance 1 (I, L, px_R t v w) = some (J, L, px_R t v w) := by
  obtain ⟨hn, r4, rb, r256⟩ := hr
  obtain ⟨s1, s2, s3, s4⟩ := ps_spn_spec ps_isP b n a
  have s2 := s2 ha
  unfold ps_tp
  obtain ⟨m, hm⟩ : ∃ m, ps_spn ps_isP b n a = a + m := ⟨ps_spn ps_isP b n a - a, by omega⟩
  unfold fX5_advance
  rw [hm]
  rw [hm] at s2 s3 s4
  obtain ⟨H, ⟨q1, q2, q3⟩, e⟩ := pf_loop (S := Nat → Nat → Int32) (fun f i J => fX5_advance_0 f 1 (J, L, px_R t v w)) (fun J => fX5_advance_52 1 (J, L, px_R t v w))
    (fun i J => J 1 5 = nI (a + i) ∧ (∀ k, k ≠ 5 → J 1 k = I 1 k) ∧ ∀ a, a ≠ 1 → J a = I a) m (by
      rintro f J ⟨q1, q2, q3⟩
      show fX5_advance_0 (f + 1) _ _ = _
      rw [fX5_advance_0, show (J, L, px_R t v w).1 1 4 = nI n from (q2 4 (by decide)).trans r4, show (J, L, px_R t v w).1 1 5 = nI (a + m) from q1]
      by_cases c : n ≤ a + m
      · rw [if_pos (nI_le c (by omega))]
      · have hb : ps_isP (b (a + m)) = false := by
          cases e : ps_isP (b (a + m)) with
          | false => rfl
          | true => exact absurd ⟨by omega, e⟩ s4
        have hb := of_decide_eq_false (show decide (b (a + m) = 10 ∨ b (a + m) = 32) = false from hb)
        have h256 := r256 (a + m)
        rw [if_neg (nI_ge (by omega) (by omega)), pg_pos (pi_in (by omega) (by omega)), pg_pos (pi_in (by omega) (by omega)), pi_ix (by omega), show (J, L, px_R t v w).1 ((J, L, px_R t v w).2.2 1 0) (a + m) = nI (b (a + m)) by
          show J 2 (a + m) = _
          rw [q3 2 (by omega)]; exact rb _ (by omega), if_neg (show ¬ nI (b (a + m)) = 10 from fun q => hb (Or.inl ((nI_eq (b := 10) (by omega) (by omega)).mp q))), if_neg (show ¬ nI (b (a + m)) = 32 from fun q => hb (Or.inr ((nI_eq (b := 32) (by omega) (by omega)).mp q)))]) (by
      rintro f i J hi ⟨q1, q2, q3⟩
      show ∃ s', _ ∧ fX5_advance_0 (f + 1) _ _ = fX5_advance_0 f _ _
      obtain ⟨u1, u2⟩ := s3 (a + i) (by omega) (by omega)
      have u3 := of_decide_eq_true (show decide (b (a + i) = 10 ∨ b (a + i) = 32) = true from u2)
      rw [fX5_advance_0, show (J, L, px_R t v w).1 1 4 = nI n from (q2 4 (by decide)).trans r4, show (J, L, px_R t v w).1 1 5 = nI (a + i) from q1, if_neg (nI_ge u1 (by omega)), pg_pos (pi_in (by omega) (by omega)), pg_pos (pi_in (by omega) (by omega)), pi_ix (by omega), show (J, L, px_R t v w).1 ((J, L, px_R t v w).2.2 1 0) (a + i) = nI (b (a + i)) by
          show J 2 (a + i) = _
          rw [q3 2 (by omega)]; exact rb _ (by omega)]
      unfold fX5_advance_39
      rw [pl_let, show hp_sI (J, L, px_R t v w) 1 5 ((J, L, px_R t v w).1 1 5 + 1) = (hp_u J 1 5 (nI (a + (i + 1))), L, px_R t v w) by
        show (hp_u J 1 5 (J 1 5 + 1), L, px_R t v w) = _
        rw [q1, nI_1]; rfl]
      refine ⟨hp_u J 1 5 (nI (a + (i + 1))), ⟨pu_eq, fun k k1 => by rw [pu_place k1]; exact q2 k k1, fun a ha => by rw [pu_cell ha]; exact q3 a ha⟩, ?_⟩
      rcases u3 with u3 | u3
      · rw [u3, if_pos (show nI 10 = 10 from rfl)]
      · rw [u3, if_neg (by decide), if_pos (show nI 32 = 32 from rfl)]) m 0 fx_N I (by omega) (by unfold fx_N; omega) ⟨h5, fun _ _ => rfl, fun _ _ => rfl⟩
  suffices fin : ∃ J, (J 1 5 = nI (ps_tq b n (a + m)) ∧ J 1 6 = nI (a + m) ∧ J 1 7 = nI (ps_tk b n (a + m)) ∧ J 1 8 = nI (ps_tcd b n (a + m)) ∧ (∀ k, k ≠ 5 → k ≠ 6 → k ≠ 7 → k ≠ 8 → J 1 k = I 1 k) ∧ ∀ a, a ≠ 1 → J a = I a) ∧ fX5_advance_52 1 (H, L, px_R t v w) = some (J, L, px_R t v w) by
    obtain ⟨J, z1, z2⟩ := fin
    exact ⟨J, z1, e.trans z2⟩
  generalize a + m = p at s2 q1 ⊢
  unfold fX5_advance_52
  rw [pl_let, pl_let]
  have g5 : hp_u (hp_u H 1 6 (H 1 5)) 1 8 0 1 5 = nI p := by rw [pu_place (by decide), pu_place (by decide)]; exact q1
  have g6 : hp_u (hp_u H 1 6 (H 1 5)) 1 8 0 1 6 = nI p := by rw [pu_place (by decide), pu_eq]; exact q1
  have g8 : hp_u (hp_u H 1 6 (H 1 5)) 1 8 0 1 8 = 0 := pu_eq
  have gk : ∀ k, k ≠ 5 → k ≠ 6 → k ≠ 8 → hp_u (hp_u H 1 6 (H 1 5)) 1 8 0 1 k = I 1 k := fun k k1 k2 k3 => by rw [pu_place k3, pu_place k2]; exact q2 k k1
  have ga : ∀ a, a ≠ 1 → hp_u (hp_u H 1 6 (H 1 5)) 1 8 0 a = I a := fun a ha => by rw [pu_cell ha, pu_cell ha]; exact q3 a ha
  show ∃ J, _ ∧ (if hp_u (hp_u H 1 6 (H 1 5)) 1 8 0 1 5 < hp_u (hp_u H 1 6 (H 1 5)) 1 8 0 1 4 then fx_g (fx_in (hp_u (hp_u H 1 6 (H 1 5)) 1 8 0 1 5) 900) (fx_b2 (fX5_isLetter (hp_u (hp_u H 1 6 (H 1 5)) 1 8 0 2 (fx_ix (hp_u (hp_u H 1 6 (H 1 5)) 1 8 0 1 5))) (hp_u (hp_u H 1 6 (H 1 5)) 1 8 0, L, px_R t v w)) _) else fx_let (hp_u (hp_u (hp_u H 1 6 (H 1 5)) 1 8 0) 1 7 0, L, px_R t v w) _) = _
  generalize hp_u (hp_u H 1 6 (H 1 5)) 1 8 0 = G at g5 g6 g8 gk ga ⊢
  have hrG : ps_rd G b n := ⟨hn, (gk 4 (by decide) (by decide) (by decide)).trans r4, fun k hk => by rw [ga 2 (by omega)]; exact rb k hk, r256⟩
  rw [g5, hrG.2.1]
  by_cases c : p < n
  · have h256 := r256 p
    have eb : G 2 p = nI (b p) := hrG.2.2.1 p c
    rw [if_pos (nI_lt c (by omega)), pg_pos (pi_in (by omega) (by omega)), pi_ix (by omega), eb, cx_letter (r256 _), pb_2]
    unfold ps_tq ps_tk ps_tcd
    rw [if_neg (show ¬ n ≤ p by omega), if_neg (show ¬ n ≤ p by omega), if_neg (show ¬ n ≤ p by omega)]
    cases eL : ps_isL (b p) with
    | true =>
      rw [if_neg (show ¬ ((if true = true then (1 : Int32) else 0) = 0) by decide), if_pos rfl, if_pos rfl, if_pos rfl]
      obtain ⟨J, ⟨z1, z2, z3, z4, z5⟩, z6⟩ := cx_takeWord (I := G) (L := L) (t := t) (v := v) (w := w) hrG s2 g5 g6 g8
      rw [z6, pb_1]
      exact ⟨J, ⟨z1, by rw [z4 6 (by decide) (by decide) (by decide)]; exact g6, z2, z3, fun k k1 k2 k3 k4 => by rw [z4 k k1 k3 k4]; exact gk k k1 k2 k4, fun a ha => by rw [z5 a ha]; exact ga a ha⟩, rfl⟩
    | false =>
      rw [if_pos (show (if false = true then (1 : Int32) else 0) = 0 by decide), if_neg (show ¬ (false = true) by decide), if_neg (show ¬ (false = true) by decide), if_neg (show ¬ (false = true) by decide)]
      rw [show (G, L, px_R t v w).1 1 5 = nI p from g5, pg_pos (pi_in (by omega) (by omega)), pi_ix (by omega), show (G, L, px_R t v w).1 ((G, L, px_R t v w).2.2 1 0) p = nI (b p) from eb, cx_digit (r256 _), pb_2]
      cases eD : ps_isD (b p) with
      | true =>
        rw [if_neg (show ¬ ((if true = true then (1 : Int32) else 0) = 0) by decide), if_pos rfl, if_pos rfl, if_pos rfl]
        obtain ⟨J, ⟨z1, z2, z3, z4, z5⟩, z6⟩ := cx_takeNumber (I := G) (L := L) (t := t) (v := v) (w := w) hrG s2 g5 g8
        rw [z6, pb_1]
        exact ⟨J, ⟨z1, by rw [z4 6 (by decide) (by decide) (by decide)]; exact g6, z2, z3, fun k k1 k2 k3 k4 => by rw [z4 k k1 k3 k4]; exact gk k k1 k2 k4, fun a ha => by rw [z5 a ha]; exact ga a ha⟩, rfl⟩
      | false =>
        rw [if_pos (show (if false = true then (1 : Int32) else 0) = 0 by decide), if_neg (show ¬ (false = true) by decide), if_neg (show ¬ (false = true) by decide), if_neg (show ¬ (false = true) by decide)]
        rw [show (G, L, px_R t v w).1 1 5 = nI p from g5, pg_pos (pi_in (by omega) (by omega)), pi_ix (by omega), show (G, L, px_R t v w).1 ((G, L, px_R t v w).2.2 1 0) p = nI (b p) from eb]
        unfold fX5_advance_148
        have out : ∀ x : Nat, ∃ J, (J 1 5 = nI (p + 1) ∧ J 1 6 = nI p ∧ J 1 7 = nI x ∧ J 1 8 = nI 0 ∧ (∀ k, k ≠ 5 → k ≠ 6 → k ≠ 7 → k ≠ 8 → J 1 k = I 1 k) ∧ ∀ a, a ≠ 1 → J a = I a) ∧ (fx_let (hp_sI (G, L, px_R t v w) 1 7 (nI x)) fun h148 => fx_let (hp_sI h148 1 5 (h148.1 1 5 + 1)) fun h158 => some h158) = some (J, L, px_R t v w) := fun x => by
          rw [pl_let, pl_let]
          refine ⟨hp_u (hp_u G 1 7 (nI x)) 1 5 (nI (p + 1)), ⟨pu_eq, by rw [pu_place (by decide), pu_place (by decide)]; exact g6, by rw [pu_place (by decide), pu_eq], by rw [pu_place (by decide), pu_place (by decide)]; exact g8, fun k k1 k2 k3 k4 => by rw [pu_place k1, pu_place k3]; exact gk k k1 k2 k4, fun a ha => by rw [pu_cell ha, pu_cell ha]; exact ga a ha⟩, ?_⟩
          show some (hp_u (hp_u G 1 7 (nI x)) 1 5 (hp_u G 1 7 (nI x) 1 5 + 1), L, px_R t v w) = _
          rw [pu_place (by decide), g5, nI_1]
        by_cases e9 : b p = 59
        · rw [if_pos (show nI (b p) = 59 by rw [e9]; rfl), if_pos e9]
          exact out 4
        · rw [if_neg (show ¬ nI (b p) = 59 from fun q => e9 ((nI_eq (b := 59) (by omega) (by omega)).mp q)), if_neg e9]
          exact out 5
  · rw [if_neg (nI_nlt (by omega) (by omega)), pl_let]
    unfold ps_tq ps_tk ps_tcd
    rw [if_pos (show n ≤ p by omega), if_pos (show n ≤ p by omega), if_pos (show n ≤ p by omega)]
    exact ⟨hp_u G 1 7 0, ⟨by rw [pu_place (by decide)]; exact g5, by rw [pu_place (by decide)]; exact g6, pu_eq, by rw [pu_place (by decide)]; exact g8, fun k k1 k2 k3 k4 => by rw [pu_place k3]; exact gk k k1 k2 k4, fun a ha => by rw [pu_cell ha]; exact ga a ha⟩, rfl⟩
theorem ps_tp_le {b : Nat → Nat} {n a : Nat} (ha : a ≤ n) : a ≤ ps_tp b n a ∧ ps_tp b n a ≤ n := by
  obtain ⟨s1, s2, s3, s4⟩ := ps_spn_spec ps_isP b n a
  exact ⟨s1, s2 ha⟩
theorem ps_tq_le {b : Nat → Nat} {n p : Nat} (hp : p ≤ n) : p ≤ ps_tq b n p ∧ ps_tq b n p ≤ n ∧ (p < n → p < ps_tq b n p) := by
  obtain ⟨s1, s2, s3, s4⟩ := ps_spn_spec ps_isL b n p
  obtain ⟨u1, u2, u3, u4⟩ := ps_spn_spec ps_isD b n p
  unfold ps_tq
  by_cases c : n ≤ p
  · rw [if_pos c]; exact ⟨Nat.le_refl _, hp, fun q => absurd q (by omega)⟩
  · rw [if_neg c]
    cases eL : ps_isL (b p) with
    | true =>
      rw [if_pos rfl]
      refine ⟨s1, s2 hp, fun _ => ?_⟩
      by_cases z : ps_spn ps_isL b n p = p
      · rw [z] at s4; exact absurd ⟨by omega, eL⟩ s4
      · omega
    | false =>
      rw [if_neg (by decide)]
      cases eD : ps_isD (b p) with
      | true =>
        rw [if_pos rfl]
        refine ⟨u1, u2 hp, fun _ => ?_⟩
        by_cases z : ps_spn ps_isD b n p = p
        · rw [z] at u4; exact absurd ⟨by omega, eD⟩ u4
        · omega
      | false =>
        rw [if_neg (by decide)]
        exact ⟨by omega, by omega, fun _ => by omega⟩
end PSF43
