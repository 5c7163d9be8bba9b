/-! ===== the reference's ways, row by row; all of them ===== -/
theorem ps_TB.cong {sv p : Nat} {L : Nat → Nat → Int64} {T T2 : Nat → Nat → Nat → Int64} (h : ps_TB sv p L T) (e : ∀ a b, a ≤ p → b ≤ p → ∀ k, k < 12 → T a b k = T2 a b k) : ps_TB sv p L T2 :=
  ⟨fun a b h1 h2 k hk => by rw [h.1 a b h1 h2 k hk, e a b h1 h2 k hk], h.2⟩
theorem ps_Tw_ro {c : Nat → Nat} {sv p a0 b0 a b a' b' k : Nat} (h0 : ¬ (a' < a0 ∨ b' < b0)) (h1 : a' < a ∨ (a' = a ∧ b' ≤ b)) : ps_Tw c sv p a0 b0 a b a' b' k = ps_ro c sv (p - a0) (p - b0) (a' - a0) (b' - b0) k := by
  unfold ps_Tw; rw [if_neg h0, if_pos h1]
theorem ps_Tw_pp {c : Nat → Nat} {sv p a0 b0 a b a' b' k : Nat} (h0 : ¬ (a' < a0 ∨ b' < b0)) (h1 : ¬ (a' < a ∨ (a' = a ∧ b' ≤ b))) (h2 : a' = a ∨ (a' = a + 1 ∧ b' < b)) : ps_Tw c sv p a0 b0 a b a' b' k = ps_Pp c sv (p - a0) (p - b0) (a' - a0) (b' - b0) k := by
  unfold ps_Tw; rw [if_neg h0, if_neg h1, if_pos h2]
theorem ps_Tw_z {c : Nat → Nat} {sv p a0 b0 a b a' b' k : Nat} (h0 : ¬ (a' < a0 ∨ b' < b0)) (h1 : ¬ (a' < a ∨ (a' = a ∧ b' ≤ b))) (h2 : ¬ (a' = a ∨ (a' = a + 1 ∧ b' < b))) : ps_Tw c sv p a0 b0 a b a' b' k = 0 := by
  unfold ps_Tw; rw [if_neg h0, if_neg h1, if_neg h2]
theorem ps_Tw_step {c : Nat → Nat} {sv p a0 b0 a b : Nat} (ha0 : a0 ≤ a) (hb0 : b0 ≤ b) (ha : a < p) (hb : b < p) (a' b' k : Nat) :
    ps_Tw c sv p a0 b0 a b a' b' k + (if a' = a + 1 ∧ b' = b then (if ps_cv sv k = 0 then ps_F2 c (ps_Tw c sv p a0 b0 a b a b) k else 0) else if a' = a ∧ b' = b + 1 then (if ps_cv sv k = 1 then ps_F2 c (ps_Tw c sv p a0 b0 a b a b) k else 0) else 0) = ps_Tw c sv p a0 b0 a (b + 1) a' b' k := by
  have z0 : ∀ x : Int64, x + 0 = x := fun x => by grind
  have z1 : ∀ x : Int64, 0 + x = x := fun x => by grind
  have src : ps_Tw c sv p a0 b0 a b a b = ps_ro c sv (p - a0) (p - b0) (a - a0) (b - b0) := by
    funext k
    unfold ps_Tw
    rw [if_neg (by omega), if_pos (by omega)]
  rw [src]
  by_cases c1 : a' = a + 1 ∧ b' = b
  · obtain ⟨rfl, rfl⟩ := c1
    rw [if_pos ⟨rfl, rfl⟩]
    rw [ps_Tw_z (by omega) (by omega) (by omega), z1, ps_Tw_pp (by omega) (by omega) (by omega), show a + 1 - a0 = (a - a0) + 1 by omega]
    show _ = if b' - b0 < p - b0 ∧ ps_cv sv k = 0 then ps_F2 c (ps_ro c sv (p - a0) (p - b0) (a - a0) (b' - b0)) k else 0
    by_cases e : ps_cv sv k = 0
    · rw [if_pos e, if_pos ⟨by omega, e⟩]
    · rw [if_neg e, if_neg (fun y => e y.2)]
  · rw [if_neg c1]
    by_cases c2 : a' = a ∧ b' = b + 1
    · obtain ⟨rfl, rfl⟩ := c2
      rw [if_pos ⟨rfl, rfl⟩]
      rw [ps_Tw_pp (by omega) (by omega) (by omega), ps_Tw_ro (by omega) (by omega), show b + 1 - b0 = (b - b0) + 1 by omega, ps_ro_s]
      congr 1
      by_cases e : ps_cv sv k = 1
      · rw [if_pos e, if_pos ⟨by omega, e⟩]
      · rw [if_neg e, if_neg (fun y => e y.2)]
    · rw [if_neg c2, z0]
      unfold ps_Tw
      by_cases d0 : a' < a0 ∨ b' < b0
      · rw [if_pos d0, if_pos d0]
      · rw [if_neg d0, if_neg d0]
        by_cases d1 : a' < a ∨ (a' = a ∧ b' ≤ b)
        · rw [if_pos d1, if_pos (by omega)]
        · rw [if_neg d1, if_neg (show ¬ (a' < a ∨ (a' = a ∧ b' ≤ b + 1)) by omega)]
          by_cases d2 : a' = a ∨ (a' = a + 1 ∧ b' < b)
          · rw [if_pos d2, if_pos (by omega)]
          · rw [if_neg d2, if_neg (show ¬ (a' = a ∨ (a' = a + 1 ∧ b' < b + 1)) by omega)]
theorem ps_Tw_row {c : Nat → Nat} {sv p a0 b0 a : Nat} (ha0 : a0 ≤ a) (hb0 : b0 ≤ p) (ha : a < p) (a' b' : Nat) (h1 : a' ≤ p) (h2 : b' ≤ p) (k : Nat) : ps_Tw c sv p a0 b0 a p a' b' k = ps_Tw c sv p a0 b0 (a + 1) b0 a' b' k := by
  unfold ps_Tw
  by_cases d0 : a' < a0 ∨ b' < b0
  · rw [if_pos d0, if_pos d0]
  · rw [if_neg d0, if_neg d0]
    by_cases d1 : a' ≤ a
    · rw [if_pos (show a' < a ∨ (a' = a ∧ b' ≤ p) by omega), if_pos (show a' < a + 1 ∨ (a' = a + 1 ∧ b' ≤ b0) by omega)]
    · rw [if_neg (show ¬ (a' < a ∨ (a' = a ∧ b' ≤ p)) by omega)]
      by_cases d2 : a' = a + 1
      · have last : ¬ b' < p → ps_Pp c sv (p - a0) (p - b0) (a' - a0) (b' - b0) k = 0 := fun hh => by
          rw [show a' - a0 = (a - a0) + 1 by omega]
          show (if b' - b0 < p - b0 ∧ ps_cv sv k = 0 then ps_F2 c (ps_ro c sv (p - a0) (p - b0) (a - a0) (b' - b0)) k else 0) = 0
          rw [if_neg (by omega)]
        by_cases d3 : b' ≤ b0
        · rw [if_pos (show a' < a + 1 ∨ (a' = a + 1 ∧ b' ≤ b0) by omega), show b' - b0 = 0 by omega, ps_ro_0]
          rw [show b' - b0 = 0 by omega] at last
          by_cases d4 : b' < p
          · rw [if_pos (show a' = a ∨ (a' = a + 1 ∧ b' < p) by omega)]
          · rw [if_neg (show ¬ (a' = a ∨ (a' = a + 1 ∧ b' < p)) by omega), last d4]
        · rw [if_neg (show ¬ (a' < a + 1 ∨ (a' = a + 1 ∧ b' ≤ b0)) by omega), if_pos (show a' = a + 1 ∨ (a' = a + 1 + 1 ∧ b' < b0) by omega)]
          by_cases d4 : b' < p
          · rw [if_pos (show a' = a ∨ (a' = a + 1 ∧ b' < p) by omega)]
          · rw [if_neg (show ¬ (a' = a ∨ (a' = a + 1 ∧ b' < p)) by omega), last d4]
      · rw [if_neg (show ¬ (a' = a ∨ (a' = a + 1 ∧ b' < p)) by omega), if_neg (show ¬ (a' < a + 1 ∨ (a' = a + 1 ∧ b' ≤ b0)) by omega), if_neg (show ¬ (a' = a + 1 ∨ (a' = a + 1 + 1 ∧ b' < b0)) by omega)]
theorem ps_sm_0 : ps_sm (fun _ => 0) 12 = 0 := by decide
theorem ps_Tw_end {c : Nat → Nat} {sv p a0 b0 a b : Nat} (ha0 : a0 ≤ p) (hb0 : b0 ≤ p) (ha : a ≤ p) (hb : b ≤ p) : ps_sm (ps_Tw c sv p a0 b0 p b0 a b) 12 = ps_rch c sv p a0 b0 a b := by
  unfold ps_rch
  have z0 : ∀ x : Int64, x + 0 = x := fun x => by grind
  by_cases d0 : a0 ≤ a ∧ b0 ≤ b
  · rw [if_pos d0]
    refine ps_sm_cong 12 (fun k _ => ?_)
    unfold ps_Tw
    rw [if_neg (by omega)]
    by_cases d1 : a < p ∨ (a = p ∧ b ≤ b0)
    · rw [if_pos d1]
    · rw [if_neg d1, if_pos (by omega)]
      obtain ⟨y, hy⟩ : ∃ y, b - b0 = y + 1 := ⟨b - b0 - 1, by omega⟩
      rw [hy, ps_ro_s, if_neg (by omega), z0]
  · rw [if_neg d0]
    rw [← ps_sm_0]
    refine ps_sm_cong 12 (fun k _ => ?_)
    unfold ps_Tw
    rw [if_pos (by omega)]
section PSF32
variable {t v w : Bool} {A : ps_A} {I : Nat → Nat → Int32} {L : Nat → Nat → Int64}
theorem cm_row {c : Nat → Nat} {C : Nat → Nat → Nat → Nat} (hC : ps_Cok C) {sv p a0 b0 a : Nat} (hsv : sv < 2) (hp : p ≤ 25) (ha0 : a0 ≤ a) (ha : a < p) (hb0 : b0 ≤ p) (hcc : ∀ k, k < 12 → c k = C (ps_cR 0 sv k) (ps_cS 0 sv k) (ps_cv sv k)) (hch : ∀ m, m < 72 → I 303 m = nI (C (m / 12) (m / 2 % 6) (m % 2))) (hpt : I 292 0 = nI p) (hT : ps_TB sv p L (ps_Tw c sv p a0 b0 a b0)) (k100 : Nat → Int32 → hp_T → Option hp_T) :
    ∃ H, ps_TB sv p H (ps_Tw c sv p a0 b0 (a + 1) b0) ∧ fX10_laysWays_117 k100 fx_N 290 (nI a) (nI b0) (I, L, px_R t v w) = k100 290 (nI (a + 1)) (I, H, px_R t v w) := by
  obtain ⟨H, hH, e⟩ := pf_loop (S := Nat → Nat → Int64) (fun n l H => fX10_laysWays_117 k100 n 290 (nI a) (nI (b0 + l)) (I, H, px_R t v w)) (fun H => k100 290 (nI (a + 1)) (I, H, px_R t v w)) (fun l H => ps_TB sv p H (ps_Tw c sv p a0 b0 a (b0 + l))) (p - b0) (by
      intro n H _
      show fX10_laysWays_117 k100 (n + 1) _ _ _ _ = _
      rw [fX10_laysWays_117, show (I, H, px_R t v w).1 ((I, H, px_R t v w).2.2 290 3) (fx_ix 0) = nI p from hpt, if_pos (nI_le (by omega) (by omega)), pl_let, nI_1]) (by
      rintro n l H hl hH
      show ∃ s', _ ∧ fX10_laysWays_117 k100 (n + 1) _ _ (nI (b0 + l)) _ = fX10_laysWays_117 k100 n _ _ (nI (b0 + (l + 1))) _
      rw [fX10_laysWays_117, show (I, H, px_R t v w).1 ((I, H, px_R t v w).2.2 290 3) (fx_ix 0) = nI p from hpt, if_neg (nI_ge (by omega) (by omega))]
      obtain ⟨H2, h1, h2⟩ := cm_cell (I := I) (L := H) (t := t) (v := v) (w := w) hC hsv hp ha (show b0 + l < p by omega) hcc hch hH k100 (fX10_laysWays_117 k100 n)
      exact ⟨H2, h1.cong (fun a' b' _ _ k _ => ps_Tw_step ha0 (by omega) ha (by omega) a' b' k), h2⟩) (p - b0) 0 fx_N L (by omega) (by unfold fx_N; omega) hT
  rw [show b0 + (p - b0) = p by omega] at hH
  exact ⟨H, hH.cong (fun a' b' h1 h2 k _ => ps_Tw_row ha0 hb0 ha a' b' h1 h2 k), e⟩
theorem cm_laysWays (h0 : ps_wf A) (ho : A.on = true) (hM : ps_MX A I) : ∃ (J : Nat → Nat → Int32) (H : Nat → Nat → Int64), ps_fm I J ∧ ps_TB A.C.sv A.W.pts H (ps_Tw (ps_cc (ps_ch A.W A.C.six) 0 0 A.C.sv) A.C.sv A.W.pts (A.C.sc 0) (A.C.sc 1) A.W.pts (A.C.sc 1)) ∧ fX10_laysWays 290 (I, L, px_R t v w) = some (J, H, px_R t v w) := by
  have w1 := h0.W ho
  have w0 := h0.C ho
  have h25 := w1.p25
  have hsv := w0.sv
  have s0 := w0.sc 0 (by omega)
  have s1 := w0.sc 1 (by omega)
  have hC : ps_Cok (ps_ch A.W A.C.six) := fun r s sv => by have := ps_ch_le A.W A.C.six r s sv; omega
  have six : ∀ s, s < 2 → ps_six A.W s (A.C.six s) := fun s hs => w0.six s hs
  unfold fX10_laysWays
  obtain ⟨J0, j1, j2, j3⟩ := cm_takesLines (L := L) (t := t) (v := v) (w := w) h0 ho hM
  rw [j3, pb_1]
  have fm0 : ps_fm I J0 := fun a ha => j2 a (by omega)
  obtain ⟨J, ⟨k1, k2⟩, k3⟩ := pf_loop (S := Nat → Nat → Int32) (fun n i J => fX10_laysWays_6 n 290 (nI i) (J, L, px_R t v w)) (fun J => fX10_laysWays_43 fx_N 290 0 (J, L, px_R t v w))
    (fun i J => (∀ k, k < i → J 303 k = nI (ps_ch A.W A.C.six (k / 12) (k / 2 % 6) (k % 2))) ∧ ∀ c, c ≠ 303 → J c = J0 c) 72 (by
      rintro n J ⟨p1, p2⟩
      show fX10_laysWays_6 (n + 1) _ (nI 72) _ = _
      rw [fX10_laysWays_6, if_pos (by decide)]) (by
      rintro n i J hi ⟨p1, p2⟩
      show ∃ s', _ ∧ fX10_laysWays_6 (n + 1) _ (nI i) _ = fX10_laysWays_6 n _ (nI (i + 1)) _
      have fmJ : ps_fm I J := fun a ha => (p2 a (by omega)).trans (fm0 a ha)
      have hS2 : ps_S J A.C.six := fun s hs k hk => by rw [p2 301 (by omega)]; exact j1 s hs k hk
      rw [fX10_laysWays_6, if_neg (show ¬ (72 : Int32) ≤ nI i from nI_ge (b := 72) hi (by omega)), show (12 : Int32) = nI 12 from rfl, show (2 : Int32) = nI 2 from rfl, pk_div (by omega) (by omega) (by omega), pk_div (by omega) (by omega) (by omega), nI_rem6 (by omega), show fx_rem (nI i) (nI 2) = nI (i % 2) from pk_rem (by omega) (by omega) (by omega),
        cm_chanceOf w1 ((hM.fm fmJ).W ho) six hS2 (by omega) (Nat.mod_lt _ (by omega)) (Nat.mod_lt _ (by omega)), pb_2, pg_pos (pi_in hi (by omega)), pl_let, pl_let, nI_1, pi_ix (by omega)]
      refine ⟨hp_u J 303 i (nI (ps_ch A.W A.C.six (i / 12) (i / 2 % 6) (i % 2))), ⟨fun k hk => ?_, fun c hc => ?_⟩, rfl⟩
      · by_cases c : k = i
        · subst c; exact pu_eq
        · rw [pu_place c]; exact p1 k (by omega)
      · rw [pu_cell hc]; exact p2 c hc) 72 0 fx_N J0 (by omega) (by unfold fx_N; omega) ⟨fun k hk => absurd hk (by omega), fun _ _ => rfl⟩
  have fm : ps_fm I J := fun a ha => (k2 a (by omega)).trans (fm0 a ha)
  have hMJ := hM.fm fm
  have k3' : fX10_laysWays_6 fx_N 290 0 (J0, L, px_R t v w) = fX10_laysWays_43 fx_N 290 0 (J, L, px_R t v w) := k3
  rw [k3']
  have hpt : J 292 0 = nI A.W.pts := (hMJ.W ho).pts
  have hs0 : J 298 0 = nI (A.C.sc 0) := (hMJ.C ho).sc 0 (by omega)
  have hs1 : J 298 1 = nI (A.C.sc 1) := (hMJ.C ho).sc 1 (by omega)
  have hs2 : J 298 2 = nI A.C.sv := (hMJ.C ho).sv
  obtain ⟨H1, l1, l2⟩ := pf_loop (S := Nat → Nat → Int64) (fun n i H => fX10_laysWays_43 n 290 (nI i) (J, H, px_R t v w)) (fun H => fX10_laysWays_100 fx_N 290 (nI (A.C.sc 0)) (J, hp_u H 304 (72 * (26 * A.C.sc 0 + A.C.sc 1) + 12 * 0 + 2 * 0 + A.C.sv) 1000000000000, px_R t v w))
    (fun i H => ∀ k, k < i → H 304 k = 0) 48672 (by
      intro n H _
      show fX10_laysWays_43 (n + 1) _ (nI 48672) _ = _
      rw [fX10_laysWays_43, if_pos (by decide), show (0 : Int32) = nI 0 from rfl, show (J, H, px_R t v w).1 ((J, H, px_R t v w).2.2 290 20) (fx_ix (nI 0)) = nI (A.C.sc 0) from hs0, show (J, H, px_R t v w).1 ((J, H, px_R t v w).2.2 290 20) (fx_ix 1) = nI (A.C.sc 1) from hs1, show (J, H, px_R t v w).1 ((J, H, px_R t v w).2.2 290 20) (fx_ix 2) = nI A.C.sv from hs2, cm_at, pb_2, pg_pos (pi_in (by omega) (by omega)), pl_let, pl_let, pi_ix (n := 72 * (26 * A.C.sc 0 + A.C.sc 1) + 12 * 0 + 2 * 0 + A.C.sv) (by omega)]
      show fX10_laysWays_100 fx_N 290 (J 298 0) (J, hp_u H 304 _ 1000000000000, px_R t v w) = _
      rw [hs0]) (by
      rintro n i H hi q1
      show ∃ s', _ ∧ fX10_laysWays_43 (n + 1) _ (nI i) _ = fX10_laysWays_43 n _ (nI (i + 1)) _
      rw [fX10_laysWays_43, if_neg (show ¬ (48672 : Int32) ≤ nI i from nI_ge (b := 48672) hi (by omega)), pg_pos (pi_in hi (by omega)), pl_let, pl_let, nI_1, pi_ix (by omega)]
      refine ⟨hp_u H 304 i 0, fun k hk => ?_, rfl⟩
      by_cases c : k = i
      · subst c; exact pu_eq
      · rw [pu_place c]; exact q1 k (by omega)) 48672 0 fx_N L (by omega) (by unfold fx_N; omega) (fun k hk => absurd hk (by omega))
  have l2' : fX10_laysWays_43 fx_N 290 0 (J, L, px_R t v w) = _ := l2
  rw [l2']
  have ix0 : ps_ix A.C.sv 0 = A.C.sv := by rcases (show A.C.sv = 0 ∨ A.C.sv = 1 by omega) with e | e <;> rw [e] <;> rfl
  have T0 : ps_TB A.C.sv A.W.pts (hp_u H1 304 (72 * (26 * A.C.sc 0 + A.C.sc 1) + 12 * 0 + 2 * 0 + A.C.sv) 1000000000000) (ps_Tw (ps_cc (ps_ch A.W A.C.six) 0 0 A.C.sv) A.C.sv A.W.pts (A.C.sc 0) (A.C.sc 1) (A.C.sc 0) (A.C.sc 1)) := by
    refine ⟨fun a b ha hb k hk => ?_, fun a b ha hb m hm en => ?_⟩
    · have hik := ps_ix_lt A.C.sv hsv k hk
      have hinj := ps_ix_inj A.C.sv hsv k hk 0 (by omega)
      unfold ps_Tw
      by_cases d0 : a < A.C.sc 0 ∨ b < A.C.sc 1
      · rw [if_pos d0, pu_place (by unfold ps_U; omega)]; exact l1 _ (by unfold ps_U; omega)
      · rw [if_neg d0]
        have bot : ∀ y, (y = 0 → b = A.C.sc 1) → (b = A.C.sc 1 → y = 0) → a = A.C.sc 0 → hp_u H1 304 (72 * (26 * A.C.sc 0 + A.C.sc 1) + 12 * 0 + 2 * 0 + A.C.sv) 1000000000000 304 (ps_U a b + ps_ix A.C.sv k) = ps_P0 y k := fun y y1 y2 y3 => by
          unfold ps_P0
          by_cases c : y = 0 ∧ k = 0
          · rw [if_pos c, c.2, ix0, y3, y1 c.1, show ps_U (A.C.sc 0) (A.C.sc 1) + A.C.sv = 72 * (26 * A.C.sc 0 + A.C.sc 1) + 12 * 0 + 2 * 0 + A.C.sv by unfold ps_U; omega, pu_eq]
          · rw [if_neg c, pu_place (by unfold ps_U; omega)]; exact l1 _ (by unfold ps_U; omega)
        by_cases d1 : a < A.C.sc 0 ∨ (a = A.C.sc 0 ∧ b ≤ A.C.sc 1)
        · rw [if_pos d1, show a - A.C.sc 0 = 0 by omega, show b - A.C.sc 1 = 0 by omega, ps_ro_0]
          exact bot 0 (by omega) (by omega) (by omega)
        · rw [if_neg d1]
          by_cases d2 : a = A.C.sc 0 ∨ (a = A.C.sc 0 + 1 ∧ b < A.C.sc 1)
          · rw [if_pos d2, show a - A.C.sc 0 = 0 by omega]
            exact bot (b - A.C.sc 1) (by omega) (by omega) (by omega)
          · rw [if_neg d2, pu_place (by unfold ps_U; omega)]; exact l1 _ (by unfold ps_U; omega)
    · have : ¬ (a = A.C.sc 0 ∧ b = A.C.sc 1 ∧ m = A.C.sv) := fun q => by
        have := (ps_kk_ix A.C.sv hsv m hm 0 (by omega)).mpr (by rw [ix0, q.2.2])
        rw [en] at this; cases this
      rw [pu_place (by unfold ps_U; omega)]; exact l1 _ (by unfold ps_U; omega)
  generalize hp_u H1 304 (72 * (26 * A.C.sc 0 + A.C.sc 1) + 12 * 0 + 2 * 0 + A.C.sv) 1000000000000 = H2 at T0
  obtain ⟨H, hH, e⟩ := pf_loop (S := Nat → Nat → Int64) (fun n x H => fX10_laysWays_100 n 290 (nI (A.C.sc 0 + x)) (J, H, px_R t v w)) (fun H => some (J, H, px_R t v w)) (fun x H => ps_TB A.C.sv A.W.pts H (ps_Tw (ps_cc (ps_ch A.W A.C.six) 0 0 A.C.sv) A.C.sv A.W.pts (A.C.sc 0) (A.C.sc 1) (A.C.sc 0 + x) (A.C.sc 1))) (A.W.pts - A.C.sc 0) (by
      intro n H _
      show fX10_laysWays_100 (n + 1) _ _ _ = _
      rw [fX10_laysWays_100, show (J, H, px_R t v w).1 ((J, H, px_R t v w).2.2 290 3) (fx_ix 0) = nI A.W.pts from hpt, if_pos (nI_le (by omega) (by omega))]) (by
      rintro n x H hx hH
      show ∃ s', _ ∧ fX10_laysWays_100 (n + 1) _ (nI (A.C.sc 0 + x)) _ = fX10_laysWays_100 n _ (nI (A.C.sc 0 + (x + 1))) _
      rw [fX10_laysWays_100, show (J, H, px_R t v w).1 ((J, H, px_R t v w).2.2 290 3) (fx_ix 0) = nI A.W.pts from hpt, if_neg (nI_ge (by omega) (by omega)), pl_let, show (J, H, px_R t v w).1 ((J, H, px_R t v w).2.2 290 20) (fx_ix 1) = nI (A.C.sc 1) from hs1]
      obtain ⟨H3, h1, h2⟩ := cm_row (I := J) (L := H) (t := t) (v := v) (w := w) hC hsv h25 (show A.C.sc 0 ≤ A.C.sc 0 + x by omega) (by omega) s1 (fun k _ => rfl) k1 hpt hH (fX10_laysWays_100 n)
      exact ⟨H3, h1, h2⟩) (A.W.pts - A.C.sc 0) 0 fx_N H2 (by omega) (by unfold fx_N; omega) T0
  rw [show A.C.sc 0 + (A.W.pts - A.C.sc 0) = A.W.pts by omega] at hH
  exact ⟨J, H, fm, hH, e⟩
theorem cm_allAt {sv p a b : Nat} {T : Nat → Nat → Nat → Int64} (hsv : sv < 2) (hp : p ≤ 25) (hT : ps_TB sv p L T) (ha : a ≤ p) (hb : b ≤ p) : fX10_allAt 290 (nI a) (nI b) (I, L, px_R t v w) = some (ps_sm (T a b) 12, (I, L, px_R t v w)) := by
  unfold fX10_allAt
  obtain ⟨x, hx, e⟩ := pf_loop (S := Int64) (fun n m x => fX10_allAt_5 n 290 (nI a) (nI b) x (nI m) (I, L, px_R t v w)) (fun x => some (x, (I, L, px_R t v w))) (fun m x => x = ps_sm (ps_ex sv (T a b)) m) 72 (by
      intro n x _
      show fX10_allAt_5 (n + 1) _ _ _ _ (nI 72) _ = _
      rw [fX10_allAt_5, if_pos (by decide)]) (by
      rintro n m x hm rfl
      refine ⟨_, rfl, ?_⟩
      show fX10_allAt_5 (n + 1) _ _ _ _ (nI m) _ = fX10_allAt_5 n _ _ _ _ (nI (m + 1)) _
      rw [fX10_allAt_5, if_neg (show ¬ (72 : Int32) ≤ nI m from nI_ge (b := 72) hm (by omega)), show (72 : Int32) = nI 72 from rfl, show (26 : Int32) = nI 26 from rfl, pk_mul, nI_add, pk_mul, nI_add, pg_pos (pi_in (by omega) (by omega)), pl_let, pl_let, nI_1, pi_ix (by omega)]
      have ev : L 304 (72 * (26 * a + b) + m) = ps_ex sv (T a b) m := by
        unfold ps_ex
        rcases ps_kk_lt sv hsv m hm with ek | ⟨k, hk, ek⟩
        · rw [ek]; exact hT.2 a b ha hb m hm ek
        · rw [ek]
          have := hT.1 a b ha hb k hk
          rw [(ps_kk_ix sv hsv m hm k hk).mp ek] at this
          exact this
      show fX10_allAt_5 n _ _ _ (ps_sm (ps_ex sv (T a b)) m + L 304 (72 * (26 * a + b) + m)) _ _ = _
      rw [ev]; rfl) 72 0 fx_N 0 (by omega) (by unfold fx_N; omega) rfl
  rw [hx, ps_sm_ex hsv] at e
  exact e
end PSF32
