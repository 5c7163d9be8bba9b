/-! ===== feed ===== -/
theorem pb_shr (x : BitVec 32) (c : Nat) (hc : c ≤ 24) : (x.sshiftRight c) &&& 255#32 = (x >>> c) &&& 255#32 := by
  apply BitVec.eq_of_getLsbD_eq
  intro i hi
  have h8 : ∀ i, i < 32 → 8 ≤ i → (255#32).getLsbD i = false := by decide
  simp only [BitVec.getLsbD_and, BitVec.getLsbD_sshiftRight, BitVec.getLsbD_ushiftRight]
  by_cases h : i < 8
  · have h1 : (decide (32 ≤ i)) = false := decide_eq_false (by omega)
    have h2 : c + i < 32 := by omega
    simp [h1, h2]
  · rw [h8 i hi (by omega)]; simp
theorem fx_shE {x : Int32} {j : Nat} (hj : j < 4) : fx_shr x (nI (24 - 8 * j)) &&& 255 = fx_ushr x (nI (24 - 8 * j)) &&& 255 := by
  rcases (show j = 0 ∨ j = 1 ∨ j = 2 ∨ j = 3 by omega) with rfl | rfl | rfl | rfl
  · exact congrArg Int32.ofBitVec (pb_shr x.toBitVec 24 (by decide))
  · exact congrArg Int32.ofBitVec (pb_shr x.toBitVec 16 (by decide))
  · exact congrArg Int32.ofBitVec (pb_shr x.toBitVec 8 (by decide))
  · exact congrArg Int32.ofBitVec (pb_shr x.toBitVec 0 (by decide))
def ps_by (x : Int32) (j : Nat) : Nat := (fx_ushr x (nI (24 - 8 * j))).toBitVec.toNat % 256
theorem fx_usb (x : Int32) (j : Nat) : fx_ushr x (nI (24 - 8 * j)) &&& 255 = nI (ps_by x j) := pk_and _ 8 (by decide)
def ps_pick (a b c d e : Int32) (k : Nat) : Int32 := if k < 4 then a else if k < 8 then b else if k < 12 then c else if k < 16 then d else e
def ps_feed (A : ps_A) (a b c d e : Int32) : ps_A := ps_A.mk (A.tz + 20) (fun k => if k < A.tz then A.tb k else ps_by (ps_pick a b c d e (k - A.tz)) ((k - A.tz) % 4)) A.fk A.fp A.on A.W A.C A.u A.P A.had A.svd A.svr
section PSF41
variable {t v w : Bool} {A : ps_A} {I : Nat → Nat → Int32} {L : Nat → Nat → Int64}
theorem cx_take {z : Nat} (x : Int32) (hz : z ≤ 896) (h1 : I 1 1 = nI z) : ∃ J, ((∀ k, k < 4 → J 2 (z + k) = nI (ps_by x k)) ∧ (∀ k, k < z → J 2 k = I 2 k) ∧ J 1 1 = nI (z + 4) ∧ (∀ k, k ≠ 1 → J 1 k = I 1 k) ∧ ∀ a, a ≠ 1 → a ≠ 2 → J a = I a) ∧ fX5_take 1 x (I, L, px_R t v w) = some (J, L, px_R t v w) := by
  unfold fX5_take
  refine pf_loop (S := Nat → Nat → Int32) (fun n i J => fX5_take_3 n 1 x (nI (8 * (4 - i)) - 8) (J, L, px_R t v w)) (fun J => some (J, L, px_R t v w))
    (fun i J => (∀ k, k < i → J 2 (z + k) = nI (ps_by x k)) ∧ (∀ k, k < z → J 2 k = I 2 k) ∧ J 1 1 = nI (z + i) ∧ (∀ k, k ≠ 1 → J 1 k = I 1 k) ∧ ∀ a, a ≠ 1 → a ≠ 2 → J a = I a) 4 ?_ ?_ 4 0 fx_N I (by omega) (by unfold fx_N; omega) ⟨fun k hk => absurd hk (by omega), fun _ _ => rfl, h1, fun _ _ => rfl, fun _ _ _ => rfl⟩
  · intro n J _
    show fX5_take_3 (n + 1) _ _ _ _ = _
    rw [fX5_take_3, if_pos (by decide)]
  · rintro n i J hi ⟨p1, p2, p3, p4, p5⟩
    show ∃ s', _ ∧ fX5_take_3 (n + 1) _ _ (nI (8 * (4 - i)) - 8) _ = fX5_take_3 n _ _ (nI (8 * (4 - (i + 1))) - 8) _
    have e1 : nI (8 * (4 - i)) - 8 = nI (24 - 8 * i) := by rw [show (8 : Int32) = nI 8 from rfl, pk_sub (by omega)]; congr 1; omega
    rw [fX5_take_3, e1, if_neg (nI_pos (by omega)), show (J, L, px_R t v w).1 1 1 = nI (z + i) from p3, if_neg (show ¬ (900 : Int32) ≤ nI (z + i) from nI_ge (b := 900) (by omega) (by omega)), pg_pos (pi_in (by omega) (by omega)), pl_let, pl_let, pl_let, pi_ix (by omega), fx_usb]
    refine ⟨hp_u (hp_u J 2 (z + i) (nI (ps_by x i))) 1 1 (nI (z + i + 1)), ⟨fun k hk => ?_, fun k hk => ?_, pu_eq, fun k hk => ?_, fun a q1 q2 => ?_⟩, ?_⟩
    · rw [pu_cell (by omega)]
      by_cases c : k = i
      · rw [c, pu_eq]
      · rw [pu_place (by omega)]; exact p1 k (by omega)
    · rw [pu_cell (by omega), pu_place (by omega)]; exact p2 k hk
    · rw [pu_place hk, pu_cell (by omega)]; exact p4 k hk
    · rw [pu_cell q1, pu_cell q2]; exact p5 a q1 q2
    · show fX5_take_3 n 1 x (nI (24 - 8 * i) + -8) (hp_u (hp_u J 2 (z + i) (nI (ps_by x i))) 1 1 (hp_u J 2 (z + i) (nI (ps_by x i)) 1 1 + 1), L, px_R t v w) = _
      rw [pu_cell (by omega), p3, nI_1, show nI (24 - 8 * i) + -8 = nI (24 - 8 * i) - 8 from (Int32.sub_eq_add_neg ..).symm, show 24 - 8 * i = 8 * (4 - (i + 1)) by omega]
theorem ps_RX.feed {J : Nat → Nat → Int32} {a b c d e : Int32} (h : ps_RX t A I) (q : ∀ a, a ≠ 1 → a ≠ 2 → J a = I a) (q1 : ∀ k, k ≠ 1 → J 1 k = I 1 k) (q2 : J 1 1 = nI (A.tz + 20)) (q3 : ∀ k, k < A.tz → J 2 k = I 2 k) (q4 : ∀ k, k < 20 → J 2 (A.tz + k) = nI (ps_by (ps_pick a b c d e k) (k % 4))) : ps_RX t (ps_feed A a b c d e) J := by
  have hT := ps_T_le t
  refine ⟨q2, fun k hk => ?_, ?_, ?_, ?_, fun z => (h.W z).near (fun a z1 z2 => q a (by omega) (by omega)), fun z => (h.C z).near (fun a z1 z2 => q a (by omega) (by omega)), fun z k hk => ?_, fun z k hk => ?_, fun z k hk => ?_, ?_, fun z => ?_⟩
  · show _ = nI (if k < A.tz then A.tb k else ps_by (ps_pick a b c d e (k - A.tz)) ((k - A.tz) % 4))
    have hk : k < A.tz + 20 := hk
    by_cases c1 : k < A.tz
    · rw [if_pos c1, q3 k c1]; exact h.tb k c1
    · rw [if_neg c1, ← q4 (k - A.tz) (by omega), show A.tz + (k - A.tz) = k by omega]
  · rw [q1 _ (by decide)]; exact h.fk
  · rw [q1 _ (by decide)]; exact h.fp
  · rw [q _ (by omega) (by omega)]; exact h.on
  · rw [q _ (by omega) (by omega)]; exact h.had z k hk
  · rw [q _ (by omega) (by omega)]; exact h.svd z k hk
  · rw [q _ (by omega) (by omega)]; exact h.svr z k hk
  · rw [q _ (by omega) (by omega)]; exact h.u
  · obtain ⟨np, h1, h2, h3⟩ := h.P z
    exact ⟨np, h1, by rw [q _ (by omega) (by omega)]; exact h2, fun i hi => (h3 i hi).near (fun a z1 z2 => q a (by omega) (by omega))⟩
theorem cx_feed (hX : ps_RX t A I) (hz : A.tz ≤ 880) (a b c d e : Int32) : ∃ J, (∀ k, k ≠ 1 → k ≠ 2 → J k = I k) ∧ ps_RX t (ps_feed A a b c d e) J ∧ fX9_feed 0 a b c d e (I, L, px_R t v w) = some (nI (A.tz + 20), (J, L, px_R t v w)) := by
  unfold fX9_feed
  show ∃ J, _ ∧ _ ∧ (if I 1 1 + 20 ≤ 900 then fx_b1 (fX5_take 1 a _) _ else _) = _
  rw [hX.tz, show (20 : Int32) = nI 20 from rfl, nI_add, if_pos (show nI (A.tz + 20) ≤ 900 from nI_le (b := 900) (by omega) (by omega))]
  obtain ⟨J1, ⟨a1, a2, a3, a4, a5⟩, a6⟩ := cx_take (I := I) (L := L) (t := t) (v := v) (w := w) a (z := A.tz) (by omega) hX.tz
  obtain ⟨J2, ⟨b1, b2, b3, b4, b5⟩, b6⟩ := cx_take (I := J1) (L := L) (t := t) (v := v) (w := w) b (z := A.tz + 4) (by omega) a3
  obtain ⟨J3, ⟨c1, c2, c3, c4, c5⟩, c6⟩ := cx_take (I := J2) (L := L) (t := t) (v := v) (w := w) c (z := A.tz + 4 + 4) (by omega) b3
  obtain ⟨J4, ⟨d1, d2, d3, d4, d5⟩, d6⟩ := cx_take (I := J3) (L := L) (t := t) (v := v) (w := w) d (z := A.tz + 4 + 4 + 4) (by omega) c3
  obtain ⟨J5, ⟨e1, e2, e3, e4, e5⟩, e6⟩ := cx_take (I := J4) (L := L) (t := t) (v := v) (w := w) e (z := A.tz + 4 + 4 + 4 + 4) (by omega) d3
  rw [a6, pb_1]
  show ∃ J, _ ∧ _ ∧ fx_b1 (fX5_take 1 b _) _ = _
  rw [b6, pb_1]
  show ∃ J, _ ∧ _ ∧ fx_b1 (fX5_take 1 c _) _ = _
  rw [c6, pb_1]
  show ∃ J, _ ∧ _ ∧ fx_b1 (fX5_take 1 d _) _ = _
  rw [d6, pb_1]
  show ∃ J, _ ∧ _ ∧ fx_b1 (fX5_take 1 e _) _ = _
  rw [e6, pb_1]
  refine ⟨J5, fun k q1 q2 => by rw [e5 k q1 q2, d5 k q1 q2, c5 k q1 q2, b5 k q1 q2, a5 k q1 q2], hX.feed (fun k q1 q2 => by rw [e5 k q1 q2, d5 k q1 q2, c5 k q1 q2, b5 k q1 q2, a5 k q1 q2]) (fun k q => by rw [e4 k q, d4 k q, c4 k q, b4 k q, a4 k q]) e3 (fun k hk => by rw [e2 k (by omega), d2 k (by omega), c2 k (by omega), b2 k (by omega), a2 k hk]) (fun k hk => ?_), by
    show some (J5 1 1, _) = _
    rw [e3]⟩
  unfold ps_pick
  by_cases q0 : k < 4
  · rw [if_pos q0, e2 _ (by omega), d2 _ (by omega), c2 _ (by omega), b2 _ (by omega), a1 k q0, show k % 4 = k by omega]
  rw [if_neg q0]
  by_cases q1 : k < 8
  · have := b1 (k - 4) (by omega)
    rw [show A.tz + 4 + (k - 4) = A.tz + k by omega] at this
    rw [if_pos q1, e2 _ (by omega), d2 _ (by omega), c2 _ (by omega), this, show k % 4 = k - 4 by omega]
  rw [if_neg q1]
  by_cases q2 : k < 12
  · have := c1 (k - 8) (by omega)
    rw [show A.tz + 4 + 4 + (k - 8) = A.tz + k by omega] at this
    rw [if_pos q2, e2 _ (by omega), d2 _ (by omega), this, show k % 4 = k - 8 by omega]
  rw [if_neg q2]
  by_cases q3 : k < 16
  · have := d1 (k - 12) (by omega)
    rw [show A.tz + 4 + 4 + 4 + (k - 12) = A.tz + k by omega] at this
    rw [if_pos q3, e2 _ (by omega), this, show k % 4 = k - 12 by omega]
  · have := e1 (k - 16) (by omega)
    rw [show A.tz + 4 + 4 + 4 + 4 + (k - 16) = A.tz + k by omega] at this
    rw [if_neg q3, this, show k % 4 = k - 16 by omega]
theorem cx_feed0 (h0 : ps_wf A) (hX : ps_RX t A I) (hz : ¬ A.tz ≤ 880) (a b c d e : Int32) : fX9_feed 0 a b c d e (I, L, px_R t v w) = some (-1, (I, L, px_R t v w)) := by
  have := h0.tz
  unfold fX9_feed
  show (if I 1 1 + 20 ≤ 900 then _ else _) = _
  rw [hX.tz, show (20 : Int32) = nI 20 from rfl, nI_add, if_neg (show ¬ nI (A.tz + 20) ≤ 900 from nI_ge (a := 900) (by omega) (by omega))]
theorem cm_feed0 (h0 : ps_wf A) (hM : ps_MX A I) (hz : ¬ A.tz ≤ 880) (a b c d e : Int32) : fX10_feed 290 a b c d e (I, L, px_R t v w) = some (-1, (hp_u I 290 0 0, L, px_R t v w)) := by
  have := h0.tz
  unfold fX10_feed
  rw [pl_let]
  have hM := hM.flag (z := 0)
  show (if hp_u I 290 0 0 290 2 ≤ 880 then _ else _) = _
  rw [hM.tz, if_neg (show ¬ nI A.tz ≤ 880 from nI_ge (a := 880) (by omega) (by omega))]; rfl
theorem cm_feed (hM : ps_MX A I) (hz : A.tz ≤ 880) (a b c d e : Int32) : ∃ J, (∀ k, k < 290 → J k = I k) ∧ ps_MX (ps_feed A a b c d e) J ∧ fX10_feed 290 a b c d e (I, L, px_R t v w) = some (nI (A.tz + 20), (J, L, px_R t v w)) := by
  unfold fX10_feed
  rw [pl_let]
  have hM := hM.flag (z := 0)
  have hI : ∀ a, a < 290 → hp_u I 290 0 0 a = I a := fun a ha => pu_cell (by omega)
  show ∃ J, _ ∧ _ ∧ (if hp_u I 290 0 0 290 2 ≤ 880 then fX10_feed_20 fx_N 290 a b c d e 0 (hp_u I 290 0 0, L, px_R t v w) else _) = _
  generalize hp_u I 290 0 0 = K at hM hI ⊢
  rw [hM.tz, if_pos (show nI A.tz ≤ 880 from nI_le (b := 880) (by omega) (by omega))]
  obtain ⟨H, ⟨p1, p2, p3⟩, e9⟩ := pf_loop (S := Nat → Nat → Int32) (fun n i J => fX10_feed_20 n 290 a b c d e (nI i) (J, L, px_R t v w)) (fun J => some (nI (A.tz + 20), (hp_u J 290 2 (nI (A.tz + 20)), L, px_R t v w)))
    (fun i J => (∀ k, k < i → J 291 (A.tz + k) = nI (ps_by (ps_pick a b c d e k) (k % 4))) ∧ (∀ k, k < A.tz → J 291 k = K 291 k) ∧ ∀ a, a ≠ 291 → J a = K a) 20 (by
      rintro n J ⟨p1, p2, p3⟩
      show fX10_feed_20 (n + 1) _ _ _ _ _ _ (nI 20) _ = _
      rw [fX10_feed_20, if_pos (by decide), pl_let]
      show some (hp_u J 290 2 (J 290 2 + 20) 290 2, (hp_u J 290 2 (J 290 2 + 20), L, px_R t v w)) = _
      rw [pu_eq, p3 290 (by omega), hM.tz, show (20 : Int32) = nI 20 from rfl, nI_add]) (by
      rintro n i J hi ⟨p1, p2, p3⟩
      show ∃ s', _ ∧ fX10_feed_20 (n + 1) _ _ _ _ _ _ (nI i) _ = fX10_feed_20 n _ _ _ _ _ _ (nI (i + 1)) _
      have ep : ∀ h, (if (4 : Int32) ≤ nI i then (if (8 : Int32) ≤ nI i then (if (12 : Int32) ≤ nI i then (if (16 : Int32) ≤ nI i then fX10_feed_73 (fX10_feed_20 n) 290 a b c d e (nI i) e h else fX10_feed_73 (fX10_feed_20 n) 290 a b c d e (nI i) d h) else fX10_feed_73 (fX10_feed_20 n) 290 a b c d e (nI i) c h) else fX10_feed_73 (fX10_feed_20 n) 290 a b c d e (nI i) b h) else fX10_feed_73 (fX10_feed_20 n) 290 a b c d e (nI i) a h) = fX10_feed_73 (fX10_feed_20 n) 290 a b c d e (nI i) (ps_pick a b c d e i) h := by
        intro h
        unfold ps_pick
        by_cases q0 : i < 4
        · rw [if_neg (show ¬ (4 : Int32) ≤ nI i from nI_ge (b := 4) q0 (by omega)), if_pos q0]
        rw [if_pos (show (4 : Int32) ≤ nI i from nI_le (a := 4) (by omega) (by omega)), if_neg q0]
        by_cases q1 : i < 8
        · rw [if_neg (show ¬ (8 : Int32) ≤ nI i from nI_ge (b := 8) q1 (by omega)), if_pos q1]
        rw [if_pos (show (8 : Int32) ≤ nI i from nI_le (a := 8) (by omega) (by omega)), if_neg q1]
        by_cases q2 : i < 12
        · rw [if_neg (show ¬ (12 : Int32) ≤ nI i from nI_ge (b := 12) q2 (by omega)), if_pos q2]
        rw [if_pos (show (12 : Int32) ≤ nI i from nI_le (a := 12) (by omega) (by omega)), if_neg q2]
        by_cases q3 : i < 16
        · rw [if_neg (show ¬ (16 : Int32) ≤ nI i from nI_ge (b := 16) q3 (by omega)), if_pos q3]
        · rw [if_pos (show (16 : Int32) ≤ nI i from nI_le (a := 16) (by omega) (by omega)), if_neg q3]
      rw [fX10_feed_20, if_neg (show ¬ (20 : Int32) ≤ nI i from nI_ge (b := 20) hi (by omega)), ep]
      unfold fX10_feed_73
      have hm : i % 4 < 4 := Nat.mod_lt _ (by omega)
      rw [show (J, L, px_R t v w).1 290 2 = nI A.tz by show J 290 2 = _; rw [p3 290 (by omega)]; exact hM.tz, nI_add, pg_pos (pi_in (by omega) (by omega)), pl_let, pl_let, nI_1, pi_ix (by omega), show fx_rem (nI i) 4 = nI (i % 4) from pk_rem (d := 4) (by omega) (by omega) (by omega), show (8 : Int32) * nI (i % 4) = nI (8 * (i % 4)) from pk_mul 8 _, show (24 : Int32) - nI (8 * (i % 4)) = nI (24 - 8 * (i % 4)) from pk_sub (a := 24) (by omega), fx_shE hm, fx_usb]
      refine ⟨hp_u J 291 (A.tz + i) (nI (ps_by (ps_pick a b c d e i) (i % 4))), ⟨fun k hk => ?_, fun k hk => ?_, fun a q => ?_⟩, rfl⟩
      · by_cases c : k = i
        · rw [c, pu_eq]
        · rw [pu_place (by omega)]; exact p1 k (by omega)
      · rw [pu_place (by omega)]; exact p2 k hk
      · rw [pu_cell q]; exact p3 a q) 20 0 fx_N K (by omega) (by unfold fx_N; omega) ⟨fun k hk => absurd hk (by omega), fun _ _ => rfl, fun _ _ => rfl⟩
  have q : ∀ a, a ≠ 290 → a ≠ 291 → hp_u H 290 2 (nI (A.tz + 20)) a = K a := fun a q1 q2 => by rw [pu_cell q1, p3 a q2]
  have q0 : ∀ k, k ≠ 2 → hp_u H 290 2 (nI (A.tz + 20)) 290 k = K 290 k := fun k q1 => by rw [pu_place q1, p3 290 (by omega)]
  refine ⟨hp_u H 290 2 (nI (A.tz + 20)), fun k hk => by rw [q k (by omega) (by omega), hI k hk], ⟨pu_eq, fun k hk => ?_, ?_, ?_, ?_, ?_, fun z => ?_, fun z => ?_, fun z => ?_, fun z => ?_, fun z => ?_, fun z => ?_⟩, e9⟩
  · show _ = nI (if k < A.tz then A.tb k else ps_by (ps_pick a b c d e (k - A.tz)) ((k - A.tz) % 4))
    have hk : k < A.tz + 20 := hk
    rw [pu_cell (by omega)]
    by_cases c1 : k < A.tz
    · rw [if_pos c1, p2 k c1]; exact hM.tb k c1
    · rw [if_neg c1, ← p1 (k - A.tz) (by omega), show A.tz + (k - A.tz) = k by omega]
  · rw [q0 _ (by decide)]; exact hM.fk
  · rw [q0 _ (by decide)]; exact hM.fp
  · rw [q0 _ (by decide)]; exact hM.on
  · rw [q0 _ (by decide)]; exact hM.u
  · have h9 := hM.W z
    unfold ps_MW at h9 ⊢
    rw [q 292 (by omega) (by omega), q 295 (by omega) (by omega)]; exact h9
  · rw [q _ (by omega) (by omega)]; exact ps_MR.of (A := A) (B := ps_feed A a b c d e) rfl rfl rfl rfl (hM.C z)
  · intro i hi; rw [q _ (by omega) (by omega)]; exact ps_MR.of (A := A) (B := ps_feed A a b c d e) rfl rfl rfl rfl (hM.P z i hi)
  · rw [q _ (by omega) (by omega)]; exact hM.had z
  · rw [q _ (by omega) (by omega)]; exact hM.svd z
  · rw [q _ (by omega) (by omega)]; exact hM.svr z
theorem ps_wf_feed (h0 : ps_wf A) (hz : A.tz ≤ 880) (a b c d e : Int32) : ps_wf (ps_feed A a b c d e) := by
  refine ⟨by show A.tz + 20 ≤ 900; omega, fun k => ?_, h0.fk, h0.u, h0.off, h0.W, h0.C, h0.P, h0.mono, h0.had, h0.svd, h0.svr⟩
  show (if k < A.tz then A.tb k else ps_by (ps_pick a b c d e (k - A.tz)) ((k - A.tz) % 4)) < 256
  split
  · exact h0.tb k
  · exact Nat.mod_lt _ (by omega)
end PSF41
