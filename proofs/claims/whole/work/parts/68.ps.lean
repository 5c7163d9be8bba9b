/-! ===== the reference's values ===== -/
section PSF18
variable {t v w : Bool} {A : ps_A} {I : Nat → Nat → Int32} {L : Nat → Nat → Int64}
theorem cm_at {a b r s sv : Nat} {h : hp_T} : fX10_at (nI a) (nI b) (nI r) (nI s) (nI sv) h = some (nI (72 * (26 * a + b) + 12 * r + 2 * s + sv), h) := by
  unfold fX10_at
  rw [show (72 : Int32) = nI 72 from rfl, show (26 : Int32) = nI 26 from rfl, show (12 : Int32) = nI 12 from rfl, show (2 : Int32) = nI 2 from rfl]
  simp only [pk_mul, nI_add]
def ps_at5 (a b r s sv : Nat) : Nat := 72 * (26 * a + b) + 12 * r + 2 * s + sv
theorem ps_lmix {c x y : Nat} (hc : c ≤ 1000) (hx : x ≤ 1000000) (hy : y ≤ 1000000) : Int64.toInt32 (((nI c).toInt64 * (nI x).toInt64 + ((1000 : Int64) - (nI c).toInt64) * (nI y).toInt64) / (1000 : Int64)) = nI ((c * x + (1000 - c) * y) / 1000) := by
  have := ps_mix hc hx hy
  rw [nI_l (by omega), nI_l (by omega), nI_l (by omega), show (1000 : Int64) = lN 1000 from rfl, lN_sub hc, lN_mul, lN_mul, lN_add, pk_lDiv (by omega) (by omega) (by omega), lN_i]
theorem cm_valueBy {C : Nat → Nat → Nat → Nat} (hC : ps_Cok C) {a b r s sv x y : Nat} (hr : r < 6) (hs : s < 6) (hsv : sv < 2) (ha : a < 25) (hb : b < 25) (hc : I 303 (12 * r + 2 * s + sv) = nI (C r s sv))
    (h1 : ∀ r s sv, r < 6 → s < 6 → sv < 2 → I 302 (72 * (26 * (a + 1) + b) + 12 * r + 2 * s + sv) = nI (ps_V C x (y + 1) r s sv)) (h2 : ∀ r s sv, r < 6 → s < 6 → sv < 2 → I 302 (72 * (26 * a + (b + 1)) + 12 * r + 2 * s + sv) = nI (ps_V C (x + 1) y r s sv)) :
    fX10_valueBy 290 (nI a) (nI b) (nI r) (nI s) (nI sv) (I, L, px_R t v w) = some (nI (ps_V C (x + 1) (y + 1) r s sv), (I, L, px_R t v w)) := by
  have V1 := ps_V_le hC (x + 1) y
  have V2 := ps_V_le hC x (y + 1)
  have m1 : (r + 1) % 6 < 6 := Nat.mod_lt _ (by omega)
  have m2 : (s + 1) % 6 < 6 := Nat.mod_lt _ (by omega)
  unfold fX10_valueBy fX10_valueBy_62 fX10_valueBy_116
  rw [show (12 : Int32) = nI 12 from rfl, show (2 : Int32) = nI 2 from rfl, show (0 : Int32) = nI 0 from rfl, nI_1, nI_1, nI_1, nI_1, nI_rem6 (by omega), nI_rem6 (by omega), show (1 : Int32) = nI 1 from rfl]
  simp only [pk_mul, nI_add]
  rw [pg_pos (pi_in (by omega) (by omega)), pl_let, pi_ix (n := 12 * r + 2 * s + sv) (by omega), show I (px_R t v w 290 26) (12 * r + 2 * s + sv) = nI (C r s sv) from hc]
  rw [show ps_V C (x + 1) (y + 1) = ps_Vy C (ps_V C x) (y + 1) from rfl, ps_Vy, show ps_Vy C (ps_V C x) y = ps_V C (x + 1) y from rfl]
  rcases (show sv = 0 ∨ sv = 1 by omega) with rfl | rfl
  · rw [if_pos rfl, if_pos rfl, cm_at, pb_2, pg_pos (pi_in (by omega) (by omega)), if_pos rfl, cm_at, pb_2, pg_pos (pi_in (by omega) (by omega)), pi_ix (by omega), pi_ix (by omega)]
    show some (Int64.toInt32 (((nI (C r s 0)).toInt64 * (I 302 _).toInt64 + ((1000 : Int64) - (nI (C r s 0)).toInt64) * (I 302 _).toInt64) / (1000 : Int64)), _) = _
    rw [h1 r s 0 hr hs (by omega), h2 r ((s + 1) % 6) 1 hr m2 (by omega), ps_lmix (hC _ _ _) (V2 _ _ _) (V1 _ _ _)]
  · rw [if_neg (by decide), if_neg (by decide), cm_at, pb_2, pg_pos (pi_in (by omega) (by omega)), if_neg (by decide), cm_at, pb_2, pg_pos (pi_in (by omega) (by omega)), pi_ix (by omega), pi_ix (by omega)]
    show some (Int64.toInt32 (((nI (C r s 1)).toInt64 * (I 302 _).toInt64 + ((1000 : Int64) - (nI (C r s 1)).toInt64) * (I 302 _).toInt64) / (1000 : Int64)), _) = _
    rw [h2 r s 1 hr hs (by omega), h1 ((r + 1) % 6) s 0 m1 hs (by omega), ps_lmix (hC _ _ _) (V1 _ _ _) (V2 _ _ _)]
def ps_Vm (C : Nat → Nat → Nat → Nat) (p a b k : Nat) : Nat := ps_V C (p - a) (p - b) (k / 12) (k / 2 % 6) (k % 2)
theorem cm_lv59 {C : Nat → Nat → Nat → Nat} (hC : ps_Cok C) {p a b : Nat} (hp : p ≤ 25) (ha : a ≤ p) (hb : b ≤ p) (hc : ∀ k, k < 72 → I 303 k = nI (C (k / 12) (k / 2 % 6) (k % 2)))
    (h1 : a < p → ∀ k, k < 72 → I 302 (72 * (26 * (a + 1) + b) + k) = nI (ps_Vm C p (a + 1) b k)) (h2 : b < p → ∀ k, k < 72 → I 302 (72 * (26 * a + (b + 1)) + k) = nI (ps_Vm C p a (b + 1) k)) (k46 : Nat → Int32 → Int32 → hp_T → Option hp_T) (k52 : Nat → Int32 → Int32 → Int32 → hp_T → Option hp_T) :
    ∃ J, ((∀ k, k < 72 → J 302 (72 * (26 * a + b) + k) = nI (ps_Vm C p a b k)) ∧ (∀ i, (72 * (26 * a + b) + 72 ≤ i) → J 302 i = I 302 i) ∧ ∀ c, c ≠ 302 → J c = I c) ∧ fX10_laysValues_59 k46 k52 fx_N 290 (nI p) (nI a) (nI b) 0 (I, L, px_R t v w) = k52 290 (nI p) (nI a) (nI b + -1) (J, L, px_R t v w) := by
  refine pf_loop (S := Nat → Nat → Int32) (fun n i J => fX10_laysValues_59 k46 k52 n 290 (nI p) (nI a) (nI b) (nI i) (J, L, px_R t v w)) (fun J => k52 290 (nI p) (nI a) (nI b + -1) (J, L, px_R t v w))
    (fun i J => (∀ k, k < i → J 302 (72 * (26 * a + b) + k) = nI (ps_Vm C p a b k)) ∧ (∀ i, (72 * (26 * a + b) + 72 ≤ i) → J 302 i = I 302 i) ∧ ∀ c, c ≠ 302 → J c = I c) 72 ?_ ?_ 72 0 fx_N I (by omega) (by unfold fx_N; omega) ⟨fun k hk => absurd hk (by omega), fun _ _ => rfl, fun _ _ => rfl⟩
  · intro n J _
    show fX10_laysValues_59 k46 k52 (n + 1) _ _ _ _ (nI 72) _ = _
    rw [fX10_laysValues_59, if_pos (by decide), pl_let]
  · rintro n i J hi ⟨p1, p2, p3⟩
    refine ⟨hp_u J 302 (72 * (26 * a + b) + i) (nI (ps_Vm C p a b i)), ⟨fun k hk => ?_, fun k hk => ?_, fun c hc => ?_⟩, ?_⟩
    · by_cases q : k = i
      · subst q; exact pu_eq
      · rw [pu_place (by omega)]; exact p1 k (by omega)
    · rw [pu_place (by omega)]; exact p2 k hk
    · rw [pu_cell hc]; exact p3 c hc
    · show fX10_laysValues_59 k46 k52 (n + 1) _ _ _ _ (nI i) _ = fX10_laysValues_59 k46 k52 n _ _ _ _ (nI (i + 1)) _
      rw [fX10_laysValues_59, if_neg (show ¬ (72 : Int32) ≤ nI i from nI_ge (b := 72) hi (by omega))]
      unfold fX10_laysValues_124
      rw [show (72 : Int32) = nI 72 from rfl, show (26 : Int32) = nI 26 from rfl, show (12 : Int32) = nI 12 from rfl, show (2 : Int32) = nI 2 from rfl, pk_mul, nI_add, pk_mul, nI_add, pg_pos (pi_in (by omega) (by omega)), pg_pos (pi_in (by omega) (by omega)), pi_ix (by omega), pk_div (by omega) (by omega) (by omega), pk_div (by omega) (by omega) (by omega), nI_rem6 (by omega), show fx_rem (nI i) (nI 2) = nI (i % 2) from pk_rem (by omega) (by omega) (by omega)]
      simp only [pl_let, nI_1]
      by_cases c1 : a = p
      · rw [if_pos (by rw [c1])]
        have : ps_Vm C p a b i = 1000000 := by unfold ps_Vm; rw [c1, Nat.sub_self]; rfl
        rw [this]; rfl
      · rw [if_neg (fun q => c1 ((nI_eq (by omega) (by omega)).mp q))]
        obtain ⟨x, hx⟩ : ∃ x, p - a = x + 1 := ⟨p - a - 1, by omega⟩
        by_cases c2 : b = p
        · rw [if_pos (by rw [c2])]
          have : ps_Vm C p a b i = 0 := by unfold ps_Vm; rw [c2, Nat.sub_self, hx]; rfl
          rw [this]; rfl
        · rw [if_neg (fun q => c2 ((nI_eq (by omega) (by omega)).mp q))]
          obtain ⟨y, hy⟩ : ∃ y, p - b = y + 1 := ⟨p - b - 1, by omega⟩
          have g1 : ∀ r s sv, r < 6 → s < 6 → sv < 2 → ((12 * r + 2 * s + sv) / 12 = r ∧ (12 * r + 2 * s + sv) / 2 % 6 = s ∧ (12 * r + 2 * s + sv) % 2 = sv) := fun r s sv h1 h2 h3 => by omega
          rw [cm_valueBy (I := J) hC (x := x) (y := y) (by omega) (Nat.mod_lt _ (by omega)) (Nat.mod_lt _ (by omega)) (by omega) (by omega)
            (by rw [p3 303 (by omega), show 12 * (i / 12) + 2 * (i / 2 % 6) + i % 2 = i by omega]; exact hc i hi)
            (fun r s sv hr hs hsv => by
              obtain ⟨u1, u2, u3⟩ := g1 r s sv hr hs hsv
              have := h1 (by omega) (12 * r + 2 * s + sv) (by omega)
              unfold ps_Vm at this
              rw [u1, u2, u3, show p - (a + 1) = x by omega, hy] at this
              rw [p2 _ (by omega), ← this]; congr 1; omega)
            (fun r s sv hr hs hsv => by
              obtain ⟨u1, u2, u3⟩ := g1 r s sv hr hs hsv
              have := h2 (by omega) (12 * r + 2 * s + sv) (by omega)
              unfold ps_Vm at this
              rw [u1, u2, u3, show p - (b + 1) = y by omega, hx] at this
              rw [p2 _ (by omega), ← this]; congr 1; omega), pb_2, pg_pos (pi_in (by omega) (by omega))]
          unfold ps_Vm
          rw [hx, hy]; rfl
theorem cm_lv52 {C : Nat → Nat → Nat → Nat} (hC : ps_Cok C) {p a : Nat} (hp : p ≤ 25) (ha : a ≤ p) (hc : ∀ k, k < 72 → I 303 k = nI (C (k / 12) (k / 2 % 6) (k % 2)))
    (h1 : a < p → ∀ b, b ≤ p → ∀ k, k < 72 → I 302 (72 * (26 * (a + 1) + b) + k) = nI (ps_Vm C p (a + 1) b k)) (k46 : Nat → Int32 → Int32 → hp_T → Option hp_T) :
    ∃ J, ((∀ b, b ≤ p → ∀ k, k < 72 → J 302 (72 * (26 * a + b) + k) = nI (ps_Vm C p a b k)) ∧ (∀ i, (72 * (26 * (a + 1)) ≤ i) → J 302 i = I 302 i) ∧ ∀ c, c ≠ 302 → J c = I c) ∧ fX10_laysValues_52 k46 fx_N 290 (nI p) (nI a) (nI p) (I, L, px_R t v w) = k46 290 (nI p) (nI a + -1) (J, L, px_R t v w) := by
  have key := pf_loop (S := Nat → Nat → Int32) (fun n i J => fX10_laysValues_52 k46 n 290 (nI p) (nI a) (ps_dn (p + 1) i) (J, L, px_R t v w)) (fun J => k46 290 (nI p) (nI a + -1) (J, L, px_R t v w))
    (fun i J => (∀ b, p + 1 - i ≤ b → b ≤ p → ∀ k, k < 72 → J 302 (72 * (26 * a + b) + k) = nI (ps_Vm C p a b k)) ∧ (∀ i, (72 * (26 * (a + 1)) ≤ i) → J 302 i = I 302 i) ∧ ∀ c, c ≠ 302 → J c = I c) (p + 1) ?_ ?_ (p + 1) 0 fx_N I (by omega) (by unfold fx_N; omega) ⟨fun b h1 h2 => absurd h1 (by omega), fun _ _ => rfl, fun _ _ => rfl⟩
  · obtain ⟨J, ⟨j1, j2, j3⟩, j4⟩ := key
    refine ⟨J, ⟨fun b hb k hk => j1 b (by omega) hb k hk, j2, j3⟩, ?_⟩
    rw [← j4]
    show _ = fX10_laysValues_52 k46 fx_N 290 (nI p) (nI a) (ps_dn (p + 1) 0) (I, L, px_R t v w)
    rw [ps_dn_eq (by omega)]; rfl
  · intro n J _
    show fX10_laysValues_52 k46 (n + 1) _ _ _ _ _ = _
    rw [fX10_laysValues_52, if_pos (show ps_dn (p + 1) (p + 1) < (0 : Int32) from ps_dn_lt (b := 0) (by omega) (by omega)), pl_let]
  · rintro n i J hi ⟨p1, p2, p3⟩
    show ∃ s', _ ∧ fX10_laysValues_52 k46 (n + 1) _ _ _ _ _ = fX10_laysValues_52 k46 n _ _ _ _ _
    rw [fX10_laysValues_52, if_neg (show ¬ ps_dn (p + 1) i < (0 : Int32) from ps_dn_nlt (by omega) (by omega))]
    have ed := ps_dn_eq (n := p + 1) (m := i) hi
    obtain ⟨H, ⟨q1, q2, q3⟩, q4⟩ := cm_lv59 (I := J) (L := L) (t := t) (v := v) (w := w) hC (p := p) (a := a) (b := p + 1 - i - 1) hp ha (by omega) (fun k hk => by rw [p3 303 (by omega)]; exact hc k hk)
      (fun h k hk => by rw [p2 _ (by omega)]; exact h1 h _ (by omega) k hk) (fun h k hk => p1 (p + 1 - i - 1 + 1) (by omega) (by omega) k hk) k46 (fX10_laysValues_52 k46 n)
    refine ⟨H, ⟨fun b h1 h2 k hk => ?_, fun i hi => ?_, fun c hc => (q3 c hc).trans (p3 c hc)⟩, ?_⟩
    · by_cases c : b = p + 1 - i - 1
      · subst c; exact q1 k hk
      · rw [q2 _ (by omega)]; exact p1 b (by omega) h2 k hk
    · rw [q2 _ (by omega)]; exact p2 _ hi
    · rw [ed, q4, ← ed, ps_dn_s hi]
theorem cm_lv46 {C : Nat → Nat → Nat → Nat} (hC : ps_Cok C) {p : Nat} (hp : p ≤ 25) (hc : ∀ k, k < 72 → I 303 k = nI (C (k / 12) (k / 2 % 6) (k % 2))) :
    ∃ J, ((∀ a, a ≤ p → ∀ b, b ≤ p → ∀ k, k < 72 → J 302 (72 * (26 * a + b) + k) = nI (ps_Vm C p a b k)) ∧ ∀ c, c ≠ 302 → J c = I c) ∧ fX10_laysValues_46 fx_N 290 (nI p) (nI p) (I, L, px_R t v w) = some (J, L, px_R t v w) := by
  have key := pf_loop (S := Nat → Nat → Int32) (fun n i J => fX10_laysValues_46 n 290 (nI p) (ps_dn (p + 1) i) (J, L, px_R t v w)) (fun J => some (J, L, px_R t v w))
    (fun i J => (∀ a, p + 1 - i ≤ a → a ≤ p → ∀ b, b ≤ p → ∀ k, k < 72 → J 302 (72 * (26 * a + b) + k) = nI (ps_Vm C p a b k)) ∧ ∀ c, c ≠ 302 → J c = I c) (p + 1) ?_ ?_ (p + 1) 0 fx_N I (by omega) (by unfold fx_N; omega) ⟨fun b h1 h2 => absurd h1 (by omega), fun _ _ => rfl⟩
  · obtain ⟨J, ⟨j1, j2⟩, j4⟩ := key
    refine ⟨J, ⟨fun a ha b hb k hk => j1 a (by omega) ha b hb k hk, j2⟩, ?_⟩
    rw [← j4]
    show _ = fX10_laysValues_46 fx_N 290 (nI p) (ps_dn (p + 1) 0) (I, L, px_R t v w)
    rw [ps_dn_eq (by omega)]; rfl
  · intro n J _
    show fX10_laysValues_46 (n + 1) _ _ _ _ = _
    rw [fX10_laysValues_46, if_pos (show ps_dn (p + 1) (p + 1) < (0 : Int32) from ps_dn_lt (b := 0) (by omega) (by omega))]
  · rintro n i J hi ⟨p1, p3⟩
    show ∃ s', _ ∧ fX10_laysValues_46 (n + 1) _ _ _ _ = fX10_laysValues_46 n _ _ _ _
    rw [fX10_laysValues_46, if_neg (show ¬ ps_dn (p + 1) i < (0 : Int32) from ps_dn_nlt (by omega) (by omega))]
    have ed := ps_dn_eq (n := p + 1) (m := i) hi
    obtain ⟨H, ⟨q1, q2, q3⟩, q4⟩ := cm_lv52 (I := J) (L := L) (t := t) (v := v) (w := w) hC (p := p) (a := p + 1 - i - 1) hp (by omega) (fun k hk => by rw [p3 303 (by omega)]; exact hc k hk)
      (fun h b hb k hk => p1 (p + 1 - i - 1 + 1) (by omega) (by omega) b hb k hk) (fX10_laysValues_46 n)
    refine ⟨H, ⟨fun a h1 h2 b hb k hk => ?_, fun c hc => (q3 c hc).trans (p3 c hc)⟩, ?_⟩
    · by_cases c : a = p + 1 - i - 1
      · subst c; exact q1 b hb k hk
      · rw [q2 _ (by omega)]; exact p1 a (by omega) h2 b hb k hk
    · rw [ed, q4, ← ed, ps_dn_s hi]
theorem cm_laysValues (w1 : ps_wfW A.W) (hW : ps_MW I A.W) {q : Nat → Nat → Nat} (hq : ∀ s, s < 2 → ps_six A.W s (q s)) (hS : ps_S I q) :
    ∃ J, (∀ a b r s sv, a ≤ A.W.pts → b ≤ A.W.pts → r < 6 → s < 6 → sv < 2 → J 302 (72 * (26 * a + b) + 12 * r + 2 * s + sv) = nI (ps_V (ps_ch A.W q) (A.W.pts - a) (A.W.pts - b) r s sv)) ∧ (∀ c, c ≠ 302 → c ≠ 303 → J c = I c) ∧ fX10_laysValues 290 (I, L, px_R t v w) = some (J, L, px_R t v w) := by
  have hC : ps_Cok (ps_ch A.W q) := fun r s sv => by have := ps_ch_le A.W q r s sv; omega
  unfold fX10_laysValues
  obtain ⟨J, ⟨j1, j2⟩, j3⟩ := pf_loop (S := Nat → Nat → Int32) (fun n i J => fX10_laysValues_2 n 290 (nI i) (J, L, px_R t v w)) (fun J => fX10_laysValues_46 fx_N 290 (nI A.W.pts) (nI A.W.pts) (J, L, px_R t v w))
    (fun i J => (∀ k, k < i → J 303 k = nI (ps_ch A.W q (k / 12) (k / 2 % 6) (k % 2))) ∧ ∀ c, c ≠ 303 → J c = I c) 72 (by
      rintro n J ⟨p1, p2⟩
      show fX10_laysValues_2 (n + 1) _ (nI 72) _ = _
      rw [fX10_laysValues_2, if_pos (by decide), pl_let]
      show fX10_laysValues_46 fx_N 290 (J 292 0) (J 292 0) _ = _
      rw [p2 292 (by omega), hW.pts]) (by
      rintro n i J hi ⟨p1, p2⟩
      show ∃ s', _ ∧ fX10_laysValues_2 (n + 1) _ (nI i) _ = fX10_laysValues_2 n _ (nI (i + 1)) _
      have hW2 : ps_MW J A.W := by
        unfold ps_MW at hW ⊢
        rw [p2 292 (by omega), p2 295 (by omega)]; exact hW
      have hS2 : ps_S J q := fun s hs k hk => by rw [p2 301 (by omega)]; exact hS s hs k hk
      rw [fX10_laysValues_2, if_neg (show ¬ (72 : Int32) ≤ nI i from nI_ge (b := 72) hi (by omega)), show (12 : Int32) = nI 12 from rfl, show (2 : Int32) = nI 2 from rfl, pk_div (by omega) (by omega) (by omega), pk_div (by omega) (by omega) (by omega), nI_rem6 (by omega), show fx_rem (nI i) (nI 2) = nI (i % 2) from pk_rem (by omega) (by omega) (by omega),
        cm_chanceOf w1 hW2 hq hS2 (by omega) (Nat.mod_lt _ (by omega)) (Nat.mod_lt _ (by omega)), pb_2, pg_pos (pi_in hi (by omega)), pl_let, pl_let, nI_1, pi_ix (by omega)]
      refine ⟨hp_u J 303 i (nI (ps_ch A.W q (i / 12) (i / 2 % 6) (i % 2))), ⟨fun k hk => ?_, fun c hc => ?_⟩, rfl⟩
      · by_cases c : k = i
        · subst c; exact pu_eq
        · rw [pu_place c]; exact p1 k (by omega)
      · rw [pu_cell hc]; exact p2 c hc) 72 0 fx_N I (by omega) (by unfold fx_N; omega) ⟨fun k hk => absurd hk (by omega), fun _ _ => rfl⟩
  obtain ⟨H, ⟨k1, k2⟩, k3⟩ := cm_lv46 (I := J) (L := L) (t := t) (v := v) (w := w) hC w1.p25 j1
  refine ⟨H, fun a b r s sv ha hb hr hs hsv => ?_, fun c h1 h2 => (k2 c h1).trans (j2 c h2), j3.trans k3⟩
  have := k1 a ha b hb (12 * r + 2 * s + sv) (by omega)
  unfold ps_Vm at this
  rw [show (12 * r + 2 * s + sv) / 12 = r by omega, show (12 * r + 2 * s + sv) / 2 % 6 = s by omega, show (12 * r + 2 * s + sv) % 2 = sv by omega] at this
  rw [← this]; congr 1; omega
end PSF18
