/-! ===== table, safe, saddle, reply of the class ===== -/
def ps_sg (A : ps_A) (s k : Nat) : Int32 := ps_wr A s k 5
def ps_sx (A : ps_A) (s : Nat) : Nat := ps_bx (ps_sg A s) (decide (s = 0)) 5
def sp_table (A : ps_A) (a b : Int32) : Int32 := if A.on && (ps_tu a && ps_tu b) then ps_tb A a.toNatClampNeg b.toNatClampNeg else -1
def sp_safe (A : ps_A) (a b : Int32) : Int32 := if ps_sd A a && ps_01 b then (if b = 0 then nI (ps_sx A a.toNatClampNeg) else ps_sg A a.toNatClampNeg (ps_sx A a.toNatClampNeg)) else -1
def sp_saddle (A : ps_A) : Int32 := if A.on = false then -1 else if ps_sg A 0 (ps_sx A 0) = ps_sg A 1 (ps_sx A 1) then 1 else 0
def sp_reply (A : ps_A) (a b : Int32) : Int32 := if ps_sd A a && ps_tu b then nI (ps_bx (fun k => ps_to A a.toNatClampNeg k b.toNatClampNeg) (decide (a.toNatClampNeg = 0)) 5) else -1
/-- what a question about the starts leaves -/
def ps_GT (A : ps_A) (I J : Nat → Nat → Int32) : Prop := ps_G I J ∧ (A.on = true → J 0 14 = 0 ∨ ps_kt A J) ∧ ∀ a, 286 ≤ a → J a = I a
section PSF24
variable {t v w : Bool} {A : ps_A} {I : Nat → Nat → Int32} {L : Nat → Nat → Int64}
theorem ps_GT.refl (hK : A.on = true → I 0 14 = 0 ∨ ps_kt A I) : ps_GT A I I := ⟨ps_G.refl I, hK, fun _ _ => rfl⟩
theorem ps_GT.mk' {J : Nat → Nat → Int32} (hk : ps_kt A J) (h1 : ∀ a, (a < 3 ∨ 17 < a) → a ≠ 0 → a ≠ 34 → a ≠ 35 → a ≠ 36 → a ≠ 37 → J a = I a) (h2 : ∀ k, k ≠ 14 → J 0 k = I 0 k) : ps_GT A I J :=
  ⟨⟨fun a q1 q2 q3 q4 => by unfold ps_sc at q3; exact h1 a (by omega) (by omega) (by omega) (by omega) (by omega) (by omega), h2, fun a ha => h1 a (by omega) (by omega) (by omega) (by omega) (by omega) (by omega)⟩, fun _ => Or.inr hk, fun a ha => h1 a (by omega) (by omega) (by omega) (by omega) (by omega) (by omega)⟩
theorem cx_table (h0 : ps_wf A) (hX : ps_RX t A I) (hK : A.on = true → I 0 14 = 0 ∨ ps_kt A I) (a b : Int32) : ∃ z : Bool × (Nat → Nat → Int32), ps_GT A I z.2 ∧ fX9_table 0 a b (I, L, px_R t v w) = some (sp_table A a b, (z.2, L, px_R t z.1 w)) := by
  unfold fX9_table sp_table
  show ∃ z : Bool × (Nat → Nat → Int32), _ ∧ (if I 0 13 = 0 then _ else _) = _
  rw [hX.on]
  cases ho : A.on with
  | false => exact ⟨(v, I), ps_GT.refl hK, by simp⟩
  | true =>
    rw [if_neg (by decide), cx_turns, pb_2]
    cases e1 : ps_tu a with
    | false => exact ⟨(v, I), ps_GT.refl hK, rfl⟩
    | true =>
      rw [if_neg (by decide), cx_turns, pb_2]
      cases e2 : ps_tu b with
      | false => exact ⟨(v, I), ps_GT.refl hK, rfl⟩
      | true =>
        obtain ⟨r, hr, rfl⟩ := ps_tu_of e1
        obtain ⟨s, hs, rfl⟩ := ps_tu_of e2
        obtain ⟨z, ⟨z1, z2, z3⟩, z4⟩ := cx_knowTable (L := L) (v := v) (w := w) h0 ho hX (hK ho)
        refine ⟨z, ps_GT.mk' z1 (fun a q1 q2 q3 _ _ _ => z2 a (by omega) q2 q3) z3, ?_⟩
        rw [if_neg (by decide), z4, pb_1, show (6 : Int32) = nI 6 from rfl, pk_mul, nI_add, pg_pos (pi_in (by omega) (by omega)), pi_ix (by omega)]
        show some (z.2 34 (r * 6 + s), _) = _
        rw [show r * 6 + s = 6 * r + s by omega, z1 r s hr hs, nI_clamp (n := r) (by omega), nI_clamp (n := s) (by omega)]; rfl
theorem ps_BC.w3 {c : Nat} {f s z : Int32} (h : ps_BC I c (some (f, s, z))) : I c 3 = z := h.2.2.2
theorem ps_sg_eq (A : ps_A) (s k : Nat) : ps_wr A s k 5 = ps_sg A s k := rfl
theorem cx_pickSafe (h0 : ps_wf A) (ho : A.on = true) (hX : ps_RX t A I) (hK : I 0 14 = 0 ∨ ps_kt A I) {s : Nat} (hs : s < 2) :
    ∃ z : Bool × (Nat → Nat → Int32), (ps_BC z.2 37 (some (nI (ps_sx A s), ps_sg A s (ps_sx A s), ps_sg A s (ps_sx A s))) ∧ ps_kt A z.2 ∧ (∀ a, (a < 3 ∨ 17 < a) → a ≠ 0 → a ≠ 34 → a ≠ 37 → z.2 a = I a) ∧ ∀ k, k ≠ 14 → z.2 0 k = I 0 k) ∧ fX9_pickSafe 0 (nI s) (I, L, px_R t v w) = some (z.2, L, px_R t z.1 w) := by
  unfold fX9_pickSafe
  obtain ⟨z, ⟨z1, z2, z3⟩, z4⟩ := cx_knowTable (L := L) (v := v) (w := w) h0 ho hX hK
  rw [z4, pb_1]
  show ∃ z : Bool × (Nat → Nat → Int32), _ ∧ fx_b1 (fX0_clear 37 _) _ = _
  obtain ⟨I1, i1, i2, i3⟩ := cx_clear (c := 37) (I := z.2) (L := L) (px_R t z.1 w)
  rw [i3, pb_1]
  obtain ⟨J, ⟨j1, j2⟩, j3⟩ := pf_loop (S := Nat → Nat → Int32) (fun n i J => fX9_pickSafe_13 n 0 (nI s) (nI i) (J, L, px_R t z.1 w)) (fun J => some (J, L, px_R t z.1 w))
    (fun i J => ps_BC J 37 (ps_pb (ps_sg A s) (decide (s = 0)) i) ∧ ∀ a, a ≠ 37 → J a = z.2 a) 6 (by
      intro n J _
      show fX9_pickSafe_13 (n + 1) _ _ (nI 6) _ = _
      rw [fX9_pickSafe_13, if_pos (by decide)]) (by
      rintro n i J hi ⟨p1, p2⟩
      show ∃ s', _ ∧ fX9_pickSafe_13 (n + 1) _ _ (nI i) _ = fX9_pickSafe_13 n _ _ (nI (i + 1)) _
      obtain ⟨H, k1, k2, k3⟩ := cx_offer p1 (L := L) (nI i) (ps_sg A s i) (ps_sg A s i) (decide (s = 0)) (px_R t z.1 w)
      refine ⟨H, ⟨k1, fun c hc => (k2 c hc).trans (p2 c hc)⟩, ?_⟩
      have hkJ : ps_kt A J := fun r s hr hs => by rw [p2 34 (by omega)]; exact z1 r s hr hs
      rw [fX9_pickSafe_13, if_neg (show ¬ (6 : Int32) ≤ nI i from nI_ge (b := 6) hi (by omega)), cx_worstOf hkJ hs hi, pb_2, ps_sg_eq]
      unfold fX9_pickSafe_42
      rcases (show s = 0 ∨ s = 1 by omega) with rfl | rfl
      · rw [if_pos (show nI 0 = 0 from rfl), show (J, L, px_R t z.1 w).2.2 0 8 = 37 from rfl]
        rw [if_pos (show decide (0 = 0) = true from rfl)] at k3
        rw [k3, pb_1, pl_let, nI_1]
      · rw [if_neg (show ¬ nI 1 = 0 by decide), show (J, L, px_R t z.1 w).2.2 0 8 = 37 from rfl]
        rw [if_neg (show ¬ decide (1 = 0) = true by decide)] at k3
        rw [k3, pb_1, pl_let, nI_1]) 6 0 fx_N I1 (by omega) (by unfold fx_N; omega) ⟨i1, i2⟩
  rw [ps_pb_bx] at j1
  refine ⟨(z.1, J), ⟨j1, fun r s hr hs => ?_, fun a q1 q2 q3 q4 => ?_, fun k hk => ?_⟩, j3⟩
  · show J 34 _ = _
    rw [j2 34 (by omega)]; exact z1 r s hr hs
  · show J a = _
    rw [j2 a q4]; exact z2 a (by omega) q2 q3
  · show J 0 k = _
    rw [j2 0 (by omega)]; exact z3 k hk
theorem cx_safe (h0 : ps_wf A) (hX : ps_RX t A I) (hK : A.on = true → I 0 14 = 0 ∨ ps_kt A I) (a b : Int32) : ∃ z : Bool × (Nat → Nat → Int32), ps_GT A I z.2 ∧ fX9_safe 0 a b (I, L, px_R t v w) = some (sp_safe A a b, (z.2, L, px_R t z.1 w)) := by
  unfold fX9_safe sp_safe
  rw [cx_side hX, pb_2]
  cases e : ps_sd A a with
  | false => exact ⟨(v, I), ps_GT.refl hK, rfl⟩
  | true =>
    rw [if_neg (by decide), ps_01_if]
    cases e1 : ps_01 b with
    | false => exact ⟨(v, I), ps_GT.refl hK, rfl⟩
    | true =>
      obtain ⟨ho, s, hs, rfl⟩ := ps_sd_of e
      obtain ⟨z, ⟨z1, z2, z3, z4⟩, z5⟩ := cx_pickSafe (L := L) (v := v) (w := w) h0 ho hX (hK ho) hs
      refine ⟨z, ps_GT.mk' z2 (fun a q1 q2 q3 _ _ q4 => z3 a q1 q2 q3 q4) z4, ?_⟩
      rw [if_pos rfl, z5, pb_1]
      show fx_b2 (fX0_part 37 b (z.2, L, px_R t z.1 w)) _ = _
      rw [cx_part z1, pb_2, nI_clamp (n := s) (by omega)]
      rcases ps_01_of e1 with rfl | rfl <;> rfl
theorem cx_saddle (h0 : ps_wf A) (hX : ps_RX t A I) (hK : A.on = true → I 0 14 = 0 ∨ ps_kt A I) : ∃ z : Bool × (Nat → Nat → Int32), ps_GT A I z.2 ∧ fX9_saddle 0 (I, L, px_R t v w) = some (sp_saddle A, (z.2, L, px_R t z.1 w)) := by
  unfold fX9_saddle sp_saddle
  show ∃ z : Bool × (Nat → Nat → Int32), _ ∧ (if I 0 13 = 0 then _ else _) = _
  rw [hX.on]
  cases ho : A.on with
  | false => exact ⟨(v, I), ps_GT.refl hK, by simp⟩
  | true =>
    obtain ⟨z, ⟨z1, z2, z3, z4⟩, z5⟩ := cx_pickSafe (L := L) (v := v) (w := w) h0 ho hX (hK ho) (s := 0) (by omega)
    have g1 : ps_GT A I z.2 := ps_GT.mk' z2 (fun a q1 q2 q3 _ _ q4 => z3 a q1 q2 q3 q4) z4
    obtain ⟨y, ⟨y1, y2, y3, y4⟩, y5⟩ := cx_pickSafe (I := z.2) (t := t) (L := L) (v := z.1) (w := w) h0 ho (hX.G g1.1) (Or.inr z2) (s := 1) (by omega)
    have g2 : ps_GT A z.2 y.2 := ps_GT.mk' y2 (fun a q1 q2 q3 _ _ q4 => y3 a q1 q2 q3 q4) y4
    refine ⟨y, ⟨g1.1.trans g2.1, g2.2.1, fun a ha => (g2.2.2 a ha).trans (g1.2.2 a ha)⟩, ?_⟩
    have z5' : fX9_pickSafe 0 0 (I, L, px_R t v w) = some (z.2, L, px_R t z.1 w) := z5
    have y5' : fX9_pickSafe 0 1 (z.2, L, px_R t z.1 w) = some (y.2, L, px_R t y.1 w) := y5
    rw [if_neg (by decide), z5', pb_1, pl_let, y5', pb_1]
    show (if z.2 37 3 = y.2 37 3 then _ else _) = _
    rw [ps_BC.w3 z1, ps_BC.w3 y1, if_neg (show ¬ (true = false) by decide)]
    generalize ps_sg A 0 (ps_sx A 0) = x0
    generalize ps_sg A 1 (ps_sx A 1) = x1
    by_cases c : x0 = x1
    · rw [if_pos c, if_pos c]
    · rw [if_neg c, if_neg c]
theorem cx_reply (h0 : ps_wf A) (hX : ps_RX t A I) (hK : A.on = true → I 0 14 = 0 ∨ ps_kt A I) (a b : Int32) : ∃ z : Bool × (Nat → Nat → Int32), ps_GT A I z.2 ∧ fX9_reply 0 a b (I, L, px_R t v w) = some (sp_reply A a b, (z.2, L, px_R t z.1 w)) := by
  unfold fX9_reply sp_reply
  rw [cx_side hX, pb_2]
  cases e : ps_sd A a with
  | false => exact ⟨(v, I), ps_GT.refl hK, rfl⟩
  | true =>
    rw [if_neg (by decide), cx_turns, pb_2]
    cases e1 : ps_tu b with
    | false => exact ⟨(v, I), ps_GT.refl hK, rfl⟩
    | true =>
      obtain ⟨ho, s, hs, rfl⟩ := ps_sd_of e
      obtain ⟨o, hoo, rfl⟩ := ps_tu_of e1
      rw [if_neg (by decide), nI_clamp (n := s) (by omega), nI_clamp (n := o) (by omega)]
      unfold fX9_pickReply
      obtain ⟨z, ⟨z1, z2, z3⟩, z4⟩ := cx_knowTable (L := L) (v := v) (w := w) h0 ho hX (hK ho)
      rw [z4, pb_1]
      show ∃ z : Bool × (Nat → Nat → Int32), _ ∧ fx_b1 (fx_b1 (fX0_clear 37 _) _) _ = _
      obtain ⟨I1, i1, i2, i3⟩ := cx_clear (c := 37) (I := z.2) (L := L) (px_R t z.1 w)
      rw [i3, pb_1]
      obtain ⟨J, ⟨j1, j2⟩, j3⟩ := pf_loop (S := Nat → Nat → Int32) (fun n i J => fX9_pickReply_13 n 0 (nI s) (nI o) (nI i) (J, L, px_R t z.1 w)) (fun J => some (J, L, px_R t z.1 w))
        (fun i J => ps_BC J 37 (ps_pb (fun k => ps_to A s k o) (decide (s = 0)) i) ∧ ∀ a, a ≠ 37 → J a = z.2 a) 6 (by
          intro n J _
          show fX9_pickReply_13 (n + 1) _ _ _ (nI 6) _ = _
          rw [fX9_pickReply_13, if_pos (by decide)]) (by
          rintro n i J hi ⟨p1, p2⟩
          show ∃ s', _ ∧ fX9_pickReply_13 (n + 1) _ _ _ (nI i) _ = fX9_pickReply_13 n _ _ _ (nI (i + 1)) _
          obtain ⟨H, k1, k2, k3⟩ := cx_offer p1 (L := L) (nI i) (ps_to A s i o) (ps_to A s i o) (decide (s = 0)) (px_R t z.1 w)
          refine ⟨H, ⟨k1, fun c hc => (k2 c hc).trans (p2 c hc)⟩, ?_⟩
          have hkJ : ps_kt A J := fun r s hr hs => by rw [p2 34 (by omega)]; exact z1 r s hr hs
          rw [fX9_pickReply_13, if_neg (show ¬ (6 : Int32) ≤ nI i from nI_ge (b := 6) hi (by omega)), cx_tableOf hkJ hs hi hoo, pb_2]
          unfold fX9_pickReply_46
          rcases (show s = 0 ∨ s = 1 by omega) with rfl | rfl
          · rw [if_pos (show nI 0 = 0 from rfl)]
            show fx_b1 (fX0_offer 37 (nI i) (ps_to A 0 i o) (ps_to A 0 i o) (if decide (0 = 0) = true then 1 else 0) (J, L, px_R t z.1 w)) _ = _
            rw [k3, pb_1, pl_let, nI_1]
          · rw [if_neg (show ¬ nI 1 = 0 by decide)]
            show fx_b1 (fX0_offer 37 (nI i) (ps_to A 1 i o) (ps_to A 1 i o) (if decide (1 = 0) = true then 1 else 0) (J, L, px_R t z.1 w)) _ = _
            rw [k3, pb_1, pl_let, nI_1]) 6 0 fx_N I1 (by omega) (by unfold fx_N; omega) ⟨i1, i2⟩
      rw [ps_pb_bx] at j1
      refine ⟨(z.1, J), ps_GT.mk' (fun r s hr hs => ?_) (fun a q1 q2 q3 _ _ q4 => ?_) (fun k hk => ?_), ?_⟩
      · show J 34 _ = _
        rw [j2 34 (by omega)]; exact z1 r s hr hs
      · show J a = _
        rw [j2 a q4]; exact z2 a (by omega) q2 q3
      · show J 0 k = _
        rw [j2 0 (by omega)]; exact z3 k hk
      · have j3' : fX9_pickReply_13 fx_N 0 (nI s) (nI o) 0 (I1, L, px_R t z.1 w) = some (J, L, px_R t z.1 w) := j3
        rw [j3', pb_1]
        show some (J 37 1, _) = _
        rw [j1.2.1]; rfl
end PSF24
