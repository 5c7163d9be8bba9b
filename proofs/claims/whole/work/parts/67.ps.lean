/-! ===== the rows of values ===== -/
theorem px_swv (t v w : Bool) : hp_u (hp_u (px_R t v w) 3 5 (ps_vc v)) 3 4 (ps_va v) = px_R t (!v) w := by
  funext a k
  by_cases h4 : a = 3 ∧ k = 4
  · obtain ⟨rfl, rfl⟩ := h4; rw [pu_eq]; cases v <;> rfl
  · rw [pu_ne h4]
    by_cases h5 : a = 3 ∧ k = 5
    · obtain ⟨rfl, rfl⟩ := h5; rw [pu_eq]; cases v <;> rfl
    · rw [pu_ne h5]; unfold px_R; simp only [if_neg h4, if_neg h5]
def ps_dn (n m : Nat) : Int32 := nI (n - m) - 1
theorem ps_dn_eq {n m : Nat} (h : m < n) : ps_dn n m = nI (n - m - 1) := by
  unfold ps_dn
  obtain ⟨k, hk⟩ : ∃ k, n - m = k + 1 := ⟨n - m - 1, by omega⟩
  rw [hk, nI_pred]; rfl
theorem ps_dn_s {n m : Nat} (h : m < n) : ps_dn n m + -1 = ps_dn n (m + 1) := by
  rw [ps_dn_eq h, ← Int32.sub_eq_add_neg]; rfl
theorem ps_dn_lt {n b : Nat} (hb : b ≤ n) (hn : n < 2 ^ 29) : ps_dn n (n - b) < nI b := by
  unfold ps_dn
  rw [Int32.lt_iff_toInt_lt, show (1 : Int32) = nI 1 from rfl, pk_sub_toInt (by omega) (by omega), nI_toInt (by omega)]
  omega
theorem ps_dn_nlt {n m b : Nat} (hm : m < n - b) (hn : n < 2 ^ 29) : ¬ ps_dn n m < nI b := by
  rw [ps_dn_eq (by omega)]
  exact nI_nlt (by omega) (by omega)
section PSF17
variable {t v w : Bool} {A : ps_A} {I : Nat → Nat → Int32} {L : Nat → Nat → Int64}
theorem cx_fill312 {c : Nat} {z : Int32} (R : Nat → Nat → Nat) : ∃ J, ((∀ k, k < 312 → J c k = z) ∧ ∀ a, a ≠ c → J a = I a) ∧ fJ7_fill_53178_312 c z (I, L, R) = some (J, L, R) := by
  unfold fJ7_fill_53178_312
  refine pf_loop (S := Nat → Nat → Int32) (fun n i J => fJ7_fill_53178_312_5 n c z (nI i) 312 (J, L, R)) (fun J => some (J, L, R)) (fun i J => (∀ k, k < i → J c k = z) ∧ ∀ a, a ≠ c → J a = I a) 312 ?_ ?_ 312 0 fx_N I (by omega) (by unfold fx_N; omega) ⟨fun k hk => absurd hk (by omega), fun _ _ => rfl⟩
  · intro n J _
    show fJ7_fill_53178_312_5 (n + 1) _ _ (nI 312) _ _ = _
    rw [fJ7_fill_53178_312_5, if_pos (by decide)]
  · rintro n i J hi ⟨p1, p2⟩
    show ∃ s', _ ∧ fJ7_fill_53178_312_5 (n + 1) _ _ (nI i) _ _ = fJ7_fill_53178_312_5 n _ _ (nI (i + 1)) _ _
    rw [fJ7_fill_53178_312_5, if_neg (show ¬ (312 : Int32) ≤ nI i from nI_ge (b := 312) hi (by omega)), pg_pos (pi_in hi (by omega)), pl_let, pl_let, nI_1, pi_ix (by omega)]
    refine ⟨hp_u J c i z, ⟨fun k hk => ?_, fun a ha => ?_⟩, rfl⟩
    · by_cases q : k = i
      · subst q; exact pu_eq
      · rw [pu_place q]; exact p1 k (by omega)
    · rw [pu_cell ha]; exact p2 a ha
theorem cx_fv83 {C : Nat → Nat → Nat → Nat} (hC : ps_Cok C) {r s sv b p x : Nat} (hr : r < 6) (hs : s < 6) (hsv : sv < 2) (hb : b ≤ p) (hp : p ≤ 25) (k17 : Nat → Int32 → Int32 → Int32 → Int32 → hp_T → Option hp_T) (a a4 : Int32)
    (hcy : ∀ k, k < 12 → I 12 k = nI (ps_cc C r s sv k)) (h0 : ∀ k, k < 12 → I (ps_vc v) (12 * p + k) = nI (ps_Vk C r s sv (x + 1) 0 k))
    (ha : ∀ j, b ≤ j → j < p → ∀ k, k < 12 → I (ps_va v) (12 * j + k) = nI (ps_Vk C r s sv x (p - j) k)) :
    ∃ J, ((∀ j, p - (p - b) ≤ j → j ≤ p → ∀ k, k < 12 → J (ps_vc v) (12 * j + k) = nI (ps_Vk C r s sv (x + 1) (p - j) k)) ∧ ∀ a, a ≠ ps_vc v → J a = I a) ∧
      fX4_fillValues_83 k17 fx_N 3 a (nI b) (nI sv) a4 (ps_dn p 0) (I, L, px_R t v w) = k17 3 a (nI b) (nI sv) (a4 + -1) (J, L, px_R t v w) := by
  have hv := ps_vc_ne v
  refine pf_loop (S := Nat → Nat → Int32) (fun n i J => fX4_fillValues_83 k17 n 3 a (nI b) (nI sv) a4 (ps_dn p i) (J, L, px_R t v w)) (fun J => k17 3 a (nI b) (nI sv) (a4 + -1) (J, L, px_R t v w))
    (fun i J => (∀ j, p - i ≤ j → j ≤ p → ∀ k, k < 12 → J (ps_vc v) (12 * j + k) = nI (ps_Vk C r s sv (x + 1) (p - j) k)) ∧ ∀ a, a ≠ ps_vc v → J a = I a) (p - b) ?_ ?_ (p - b) 0 fx_N I (by omega) (by unfold fx_N; omega)
    ⟨fun j h1 h2 k hk => by obtain rfl : j = p := by omega
                            rw [Nat.sub_self]; exact h0 k hk, fun _ _ => rfl⟩
  · intro n J _
    show fX4_fillValues_83 k17 (n + 1) _ _ _ _ _ _ _ = _
    rw [fX4_fillValues_83, if_pos (ps_dn_lt hb (by omega)), pl_let]
  · rintro n i J hi ⟨p1, p2⟩
    obtain ⟨H, ⟨q1, q2, q3⟩, q4⟩ := cx_fillCell (I := J) (L := L) (t := t) (v := v) (w := w) hC (j := p - i - 1) (x := x) (y := i) hr hs hsv (by omega) (fun k hk => by rw [p2 12 (by omega)]; exact hcy k hk)
      (fun k hk => by rw [p1 (p - i - 1 + 1) (by omega) (by omega) k hk, show p - (p - i - 1 + 1) = i by omega]) (fun k hk => by rw [p2 _ (by omega), ha (p - i - 1) (by omega) (by omega) k hk, show p - (p - i - 1) = i + 1 by omega])
    refine ⟨H, ⟨fun j h1 h2 k hk => ?_, fun a ha => (q3 a ha).trans (p2 a ha)⟩, ?_⟩
    · by_cases c : j = p - i - 1
      · subst c
        rw [q1 k hk, show p - (p - i - 1) = i + 1 by omega]
      · rw [q2 _ (by omega)]; exact p1 j (by omega) h2 k hk
    · show fX4_fillValues_83 k17 (n + 1) _ _ _ _ _ _ _ = fX4_fillValues_83 k17 n _ _ _ _ _ _ _
      rw [fX4_fillValues_83, if_neg (ps_dn_nlt hi (by omega)), ps_dn_s (by omega), ps_dn_eq (show i < p by omega), show (12 : Int32) = nI 12 from rfl, pk_mul, Nat.mul_comm, q4, pb_1, pl_let]
theorem cx_fv46 {p : Nat} (hp : p ≤ 25) (k17 : Nat → Int32 → Int32 → Int32 → Int32 → hp_T → Option hp_T) (a b c d : Int32) (h8 : I 3 8 = nI p) :
    ∃ J, ((∀ k, k < 12 → J (ps_vc v) (12 * p + k) = 0) ∧ ∀ a, a ≠ ps_vc v → J a = I a) ∧ fX4_fillValues_46 k17 fx_N 3 a b c d 0 (I, L, px_R t v w) = fX4_fillValues_83 k17 fx_N 3 a b c d (ps_dn p 0) (J, L, px_R t v w) := by
  have hv := ps_vc_ne v
  refine pf_loop (S := Nat → Nat → Int32) (fun n i J => fX4_fillValues_46 k17 n 3 a b c d (nI i) (J, L, px_R t v w)) (fun J => fX4_fillValues_83 k17 fx_N 3 a b c d (ps_dn p 0) (J, L, px_R t v w))
    (fun i J => (∀ k, k < i → J (ps_vc v) (12 * p + k) = 0) ∧ ∀ a, a ≠ ps_vc v → J a = I a) 12 ?_ ?_ 12 0 fx_N I (by omega) (by unfold fx_N; omega) ⟨fun k hk => absurd hk (by omega), fun _ _ => rfl⟩
  · rintro n J ⟨p1, p2⟩
    show fX4_fillValues_46 k17 (n + 1) _ _ _ _ _ (nI 12) _ = _
    rw [fX4_fillValues_46, if_pos (by decide), pl_let, show (J, L, px_R t v w).1 3 8 = nI p by show J 3 8 = nI p; rw [p2 3 (by omega)]; exact h8]
    rfl
  · rintro n i J hi ⟨p1, p2⟩
    show ∃ s', _ ∧ fX4_fillValues_46 k17 (n + 1) _ _ _ _ _ (nI i) _ = fX4_fillValues_46 k17 n _ _ _ _ _ (nI (i + 1)) _
    rw [fX4_fillValues_46, if_neg (show ¬ (12 : Int32) ≤ nI i from nI_ge (b := 12) hi (by omega)), show (J, L, px_R t v w).1 3 8 = nI p by show J 3 8 = nI p; rw [p2 3 (by omega)]; exact h8]
    rw [show (12 : Int32) = nI 12 from rfl, pk_mul, nI_add, pg_pos (pi_in (by omega) (by omega)), pl_let, pl_let, nI_1, pi_ix (by omega)]
    refine ⟨hp_u J (ps_vc v) (p * 12 + i) 0, ⟨fun k hk => ?_, fun a ha => ?_⟩, ?_⟩
    · by_cases q : k = i
      · subst q; rw [show 12 * p + k = p * 12 + k by omega]; exact pu_eq
      · rw [pu_place (by omega)]; exact p1 k (by omega)
    · rw [pu_cell ha]; exact p2 a ha
    · show fX4_fillValues_46 k17 n _ _ _ _ _ _ (hp_u J (px_R t v w 3 4) (p * 12 + i) 0, L, px_R t v w) = _
      rw [pr_3_4]
theorem cx_fillValues {C : Nat → Nat → Nat → Nat} (hC : ps_Cok C) {r s sv a b p : Nat} (hr : r < 6) (hs : s < 6) (hsv : sv < 2) (ha : a ≤ p) (hb : b ≤ p) (hp : p ≤ 25) (hcy : ∀ k, k < 12 → I 12 k = nI (ps_cc C r s sv k)) (h8 : I 3 8 = nI p) :
    ∃ z : Bool × (Nat → Nat → Int32), ((∀ j, b ≤ j → j ≤ p → ∀ k, k < 12 → z.2 (ps_vc z.1) (12 * j + k) = nI (ps_Vk C r s sv (p - a) (p - j) k)) ∧ ∀ a, a ≠ 14 → a ≠ 15 → z.2 a = I a) ∧
      fX4_fillValues 3 (nI a) (nI b) (nI sv) (I, L, px_R t v w) = some (z.2, L, px_R t z.1 w) := by
  have hv := ps_vc_ne v
  unfold fX4_fillValues
  show ∃ z : Bool × (Nat → Nat → Int32), _ ∧ fx_b1 (fJ7_fill_53178_312 (px_R t v w 3 4) _ _) _ = _
  rw [pr_3_4]
  obtain ⟨J, ⟨j1, j2⟩, j3⟩ := cx_fill312 (I := I) (L := L) (c := ps_vc v) (z := 1000000) (px_R t v w)
  rw [j3, pb_1, pl_let, show (J, L, px_R t v w).1 3 8 = nI p by show J 3 8 = nI p; rw [j2 3 (by omega)]; exact h8]
  refine pf_loop (S := Bool × (Nat → Nat → Int32)) (fun n i z => fX4_fillValues_17 n 3 (nI a) (nI b) (nI sv) (ps_dn p i) (z.2, L, px_R t z.1 w)) (fun z => some (z.2, L, px_R t z.1 w))
    (fun i z => (∀ j, b ≤ j → j ≤ p → ∀ k, k < 12 → z.2 (ps_vc z.1) (12 * j + k) = nI (ps_Vk C r s sv i (p - j) k)) ∧ ∀ a, a ≠ 14 → a ≠ 15 → z.2 a = I a) (p - a) ?_ ?_ (p - a) 0 fx_N (v, J) (by omega) (by unfold fx_N; omega)
    ⟨fun j h1 h2 k hk => j1 _ (by omega), fun a h1 h2 => j2 a (by omega)⟩
  · intro n z _
    show fX4_fillValues_17 (n + 1) _ _ _ _ _ _ = _
    rw [fX4_fillValues_17, if_pos (ps_dn_lt ha (by omega))]
  · rintro n i ⟨v', J'⟩ hi ⟨p1, p2⟩
    dsimp only at p1 p2
    have hv' := ps_vc_ne v'
    have hvn := ps_vc_ne (!v')
    have hsw : ps_va (!v') = ps_vc v' := by cases v' <;> rfl
    show ∃ z : Bool × (Nat → Nat → Int32), _ ∧ fX4_fillValues_17 (n + 1) _ _ _ _ _ _ = fX4_fillValues_17 n _ _ _ _ _ _
    rw [fX4_fillValues_17, if_neg (ps_dn_nlt hi (by omega)), pl_let, pl_let]
    show ∃ z : Bool × (Nat → Nat → Int32), _ ∧ fX4_fillValues_46 _ fx_N _ _ _ _ _ _ (J', L, hp_u (hp_u (px_R t v' w) 3 5 (px_R t v' w 3 4)) 3 4 (px_R t v' w 3 5)) = _
    rw [pr_3_4, pr_3_5, px_swv]
    obtain ⟨H, ⟨q1, q2⟩, q3⟩ := cx_fv46 (I := J') (L := L) (t := t) (v := !v') (w := w) hp (fX4_fillValues_17 n) (nI a) (nI b) (nI sv) (ps_dn p i) (by rw [p2 3 (by omega) (by omega)]; exact h8)
    rw [q3]
    obtain ⟨H2, ⟨u1, u2⟩, u3⟩ := cx_fv83 (I := H) (L := L) (t := t) (v := !v') (w := w) hC (x := i) hr hs hsv hb hp (fX4_fillValues_17 n) (nI a) (ps_dn p i) (fun k hk => by rw [q2 12 (by omega), p2 12 (by omega) (by omega)]; exact hcy k hk) (fun k hk => q1 k hk)
      (fun j h1 h2 k hk => by rw [hsw, q2 _ (by omega)]; exact p1 j h1 (by omega) k hk)
    rw [u3, ps_dn_s (by omega)]
    refine ⟨(!v', H2), ⟨fun j h1 h2 k hk => u1 j (by omega) h2 k hk, fun a h1 h2 => ?_⟩, rfl⟩
    show H2 a = I a
    rw [u2 a (by omega), q2 a (by omega)]; exact p2 a h1 h2
theorem cx_valueOf {W : ps_W} (w1 : ps_wfW W) {q : Nat → Nat → Nat} (hq : ∀ s, s < 2 → ps_six W s (q s)) (hF : ps_F I W q) {a b r s sv : Nat} (hr : r < 6) (hs : s < 6) (hsv : sv < 2) (ha : a ≤ W.pts) (hb : b ≤ W.pts) (hab : a < W.pts ∨ b < W.pts) :
    ∃ z : Bool × (Nat → Nat → Int32), (∀ a, (a < 12 ∨ 15 < a) → z.2 a = I a) ∧ fX4_valueOf 3 (nI a) (nI b) (nI r) (nI s) (nI sv) (I, L, px_R t v w) = some (nI (ps_V (ps_ch W q) (W.pts - a) (W.pts - b) r s sv), (z.2, L, px_R t z.1 w)) := by
  have hC : ps_Cok (ps_ch W q) := fun r s sv => by have := ps_ch_le W q r s sv; omega
  have h25 := w1.p25
  unfold fX4_valueOf
  show ∃ z : Bool × (Nat → Nat → Int32), _ ∧ (if nI a < I 3 8 then (if nI b < I 3 8 then _ else _) else _) = _
  rw [hF.pts]
  by_cases c1 : a < W.pts
  · rw [if_pos (nI_lt c1 (by omega))]
    by_cases c2 : b < W.pts
    · rw [if_pos (nI_lt c2 (by omega))]
      obtain ⟨J, ⟨j1, j2⟩, j3⟩ := cx_fillCycle (I := I) (L := L) (t := t) (v := v) (w := w) (C := ps_ch W q) hr hs hsv (fun J e r s sv h1 h2 h3 => cx_chanceOf w1 hq (hF.cong (fun a h1 h2 => e a (by omega))) h1 h2 h3)
      rw [j3, pb_1]
      obtain ⟨z, ⟨k1, k2⟩, k3⟩ := cx_fillValues (I := J) (L := L) (t := t) (v := v) (w := w) hC hr hs hsv ha hb h25 j1 (by rw [j2 3 (by omega)]; exact hF.pts)
      rw [k3, pb_1, show (12 : Int32) = nI 12 from rfl, pk_mul, pg_pos (pi_in (by omega) (by omega)), pi_ix (by omega)]
      refine ⟨z, fun a ha => by rw [k2 a (by omega) (by omega), j2 a (by omega)], ?_⟩
      show some (z.2 (px_R t z.1 w 3 4) (b * 12), _) = _
      rw [pr_3_4, show b * 12 = 12 * b + 0 by omega, k1 b (Nat.le_refl _) hb 0 (by omega)]
      unfold ps_Vk
      rw [show ps_cR r sv 0 = r by unfold ps_cR; omega, show ps_cS s sv 0 = s by unfold ps_cS; omega, show ps_cv sv 0 = sv by unfold ps_cv; omega]
    · rw [if_neg (nI_nlt (by omega) (by omega))]
      refine ⟨(v, I), fun _ _ => rfl, ?_⟩
      obtain ⟨x, hx⟩ : ∃ x, W.pts - a = x + 1 := ⟨W.pts - a - 1, by omega⟩
      rw [hx, show W.pts - b = 0 by omega]; rfl
  · rw [if_neg (nI_nlt (by omega) (by omega))]
    refine ⟨(v, I), fun _ _ => rfl, ?_⟩
    rw [show W.pts - a = 0 by omega]; rfl
end PSF17
