/-! ===== a point (the class's side), whole ===== -/
section PSF38
variable {t v w : Bool} {A : ps_A} {I : Nat → Nat → Int32} {L : Nat → Nat → Int64}
theorem ps_RX.pt {J1 J : Nat → Nat → Int32} {s : Nat} (h : ps_RX t (ps_push A) J1) (e : ∀ a, (a < 19 ∨ 32 < a) → J a = J1 a) (hC : A.on = true → ps_RC J 22 (A.C.setpt s)) (hl : A.on = true → ∀ k, k < A.C.pl + 1 → J 19 k = nI ((ps_point A s).had k) ∧ J 20 k = nI ((ps_point A s).svd k) ∧ J 21 k = nI ((ps_point A s).svr k)) : ps_RX t (ps_point A s) J := by
  have hT := ps_T_le t
  refine ⟨?_, ?_, ?_, ?_, ?_, fun q => ?_, hC, fun q k hk => (hl q k hk).1, fun q k hk => (hl q k hk).2.1, fun q k hk => (hl q k hk).2.2, ?_, fun q => ?_⟩
  · rw [e _ (by omega)]; exact h.tz
  · intro k hk; rw [e _ (by omega)]; exact h.tb k hk
  · rw [e _ (by omega)]; exact h.fk
  · rw [e _ (by omega)]; exact h.fp
  · rw [e _ (by omega)]; exact h.on
  · exact (h.W q).near (fun a z1 z2 => e a (by omega))
  · rw [e _ (by omega)]; exact h.u
  · obtain ⟨np, h1, h2, h3⟩ := h.P q
    exact ⟨np, h1, by rw [e _ (by omega)]; exact h2, fun i hi => (h3 i hi).near (fun a z1 z2 => e a (by omega))⟩
theorem cx_note {k a b c : Nat} (hk : k < 49) : fX3_note 18 (nI k) (nI a) (nI b) (nI c) (I, L, px_R t v w) = some (hp_u (hp_u (hp_u I 19 k (nI a)) 20 k (nI b)) 21 k (nI c), L, px_R t v w) := by
  unfold fX3_note
  rw [if_neg (nI_pos (by omega)), if_neg (show ¬ (49 : Int32) ≤ nI k from nI_ge (b := 49) hk (by omega)), pg_pos (pi_in hk (by omega)), pl_let, pg_pos (pi_in hk (by omega)), pl_let, pg_pos (pi_in hk (by omega)), pl_let, pi_ix (by omega)]
  rfl
theorem cx_point (h0 : ps_wf A) (ho : A.on = true) (hX : ps_RX t A I) {s : Nat} (hs : s < 2) (hov : ps_over A = false) :
    ∃ J, fX9_point 0 (nI s) (I, L, px_R t v w) = some (nI s, (J, L, px_R t v w)) ∧ ps_RX t (ps_point A s) J ∧ (∀ a, (a < 19 ∨ 32 < a) → (a < 66 ∨ 286 ≤ a) → a ≠ 0 → a ≠ 286 → a ≠ 288 → J a = I a) ∧ (∀ k, k ≠ 15 → k ≠ 16 → J 0 k = I 0 k) ∧ J 286 0 = 0 ∧ J 288 0 = 0 := by
  have w0 := h0.C ho
  have w1 := h0.W ho
  have h25 := w1.p25
  obtain ⟨l0, l1⟩ := ps_over_lt h0 ho hov
  have hpl := w0.pl
  have hsv := w0.sv
  have hsd : ps_sd A (nI s) = true := by
    unfold ps_sd
    rw [ho]
    rcases (show s = 0 ∨ s = 1 by omega) with rfl | rfl <;> rfl
  obtain ⟨J1, r1, r2, r3, r4, r5, r6⟩ := cx_remember (L := L) (v := v) (w := w) h0 ho hX
  have on2 : (ps_push A).on = true := ho
  have hC : ps_RC J1 22 (ps_push A).C := r2.C on2
  have who := cx_who (I := J1) (L := L) (t := t) (v := v) (w := w) (A := ps_push A) hC (r2.W on2) w0 hsv (k := 0) (by omega)
  unfold fX9_point
  rw [cx_side hX, pb_2, hsd, if_neg (by decide), cx_over w0 w1 (hX.C ho) (hX.W ho), pb_2, hov, if_pos (by decide), r1, pb_1, show (J1, L, px_R t v w).1 ((J1, L, px_R t v w).2.2 0 3) 2 = nI A.C.sv from hC.sv, show (1 : Int32) = nI (0 + 1) from rfl]
  have who' : fX9_whoIsOn 0 (nI A.C.sv) (nI (0 + 1)) (J1, L, px_R t v w) = some (nI (ps_onN A.W A.C A.C.sv 0), (J1, L, px_R t v w)) := by
    have := ps_onN_eq (W := A.W) (C := A.C) w0 hsv (k := 0)
    rw [← this]; exact who
  rw [who', pb_2, show (J1, L, px_R t v w).1 ((J1, L, px_R t v w).2.2 0 3) 3 = nI A.C.pl from hC.pl]
  show ∃ J, fx_b1 (fX3_note 18 _ _ _ _ _) _ = _ ∧ _
  rw [cx_note (by omega), pb_1]
  show ∃ J, fx_b1 (fX1_award 22 _ _) _ = _ ∧ _
  have n1 : ∀ a, a ≠ 19 → a ≠ 20 → a ≠ 21 → hp_u (hp_u (hp_u J1 19 A.C.pl (nI s)) 20 A.C.pl (nI A.C.sv)) 21 A.C.pl (nI (ps_onN A.W A.C A.C.sv 0)) a = J1 a := fun a q1 q2 q3 => by rw [pu_cell q3, pu_cell q2, pu_cell q1]
  have n2 : ∀ k, k < A.C.pl + 1 → hp_u (hp_u (hp_u J1 19 A.C.pl (nI s)) 20 A.C.pl (nI A.C.sv)) 21 A.C.pl (nI (ps_onN A.W A.C A.C.sv 0)) 19 k = nI ((ps_point A s).had k) ∧ hp_u (hp_u (hp_u J1 19 A.C.pl (nI s)) 20 A.C.pl (nI A.C.sv)) 21 A.C.pl (nI (ps_onN A.W A.C A.C.sv 0)) 20 k = nI ((ps_point A s).svd k) ∧ hp_u (hp_u (hp_u J1 19 A.C.pl (nI s)) 20 A.C.pl (nI A.C.sv)) 21 A.C.pl (nI (ps_onN A.W A.C A.C.sv 0)) 21 k = nI ((ps_point A s).svr k) := fun k hk => by
    show _ = nI (if k = A.C.pl then s else A.had k) ∧ _ = nI (if k = A.C.pl then A.C.sv else A.svd k) ∧ _ = nI (if k = A.C.pl then ps_onN A.W A.C A.C.sv 0 else A.svr k)
    by_cases c : k = A.C.pl
    · rw [if_pos c, if_pos c, if_pos c, c]
      exact ⟨by rw [pu_cell (by omega), pu_cell (by omega), pu_eq], by rw [pu_cell (by omega), pu_eq], pu_eq⟩
    · rw [if_neg c, if_neg c, if_neg c, pu_place c, pu_place c, pu_place c, pu_place c, pu_place c, pu_place c, pu_place c, pu_place c, pu_place c]
      have hk2 : k < A.C.pl := by omega
      exact ⟨r2.had on2 k hk2, r2.svd on2 k hk2, r2.svr on2 k hk2⟩
  generalize hp_u (hp_u (hp_u J1 19 A.C.pl (nI s)) 20 A.C.pl (nI A.C.sv)) 21 A.C.pl (nI (ps_onN A.W A.C A.C.sv 0)) = G at n1 n2 ⊢
  have hCG : ps_RC G 22 (ps_push A).C := hC.near (fun a q1 q2 => n1 a (by omega) (by omega) (by omega))
  unfold fX1_award
  rw [pl_let, pl_let, pl_let]
  show ∃ J, fx_b1 (fx_b2 (fX1_team 22 (nI s) (hp_u (hp_u (hp_u G 23 5 0) 28 5 0) 22 3 (hp_u (hp_u G 23 5 0) 28 5 0 22 3 + 1), L, px_R t v w)) _) _ = _ ∧ _
  rw [cx_team hs, pb_2, pl_let, pu_cell (x := 22) (by omega), pu_cell (x := 22) (by omega), hCG.pl, nI_1]
  show ∃ J, fx_b1 (if hp_u (hp_u (hp_u (hp_u G 23 5 0) 28 5 0) 22 3 (nI ((ps_push A).C.pl + 1))) (22 + 5 * s + 1) 8 (hp_u (hp_u (hp_u G 23 5 0) 28 5 0) 22 3 (nI ((ps_push A).C.pl + 1)) (22 + 5 * s + 1) 8 + 1) 22 2 = nI s then some (hp_u (hp_u (hp_u (hp_u G 23 5 0) 28 5 0) 22 3 (nI ((ps_push A).C.pl + 1))) (22 + 5 * s + 1) 8 (hp_u (hp_u (hp_u G 23 5 0) 28 5 0) 22 3 (nI ((ps_push A).C.pl + 1)) (22 + 5 * s + 1) 8 + 1), L, px_R t v w) else fx_let (hp_u (hp_u (hp_u (hp_u (hp_u G 23 5 0) 28 5 0) 22 3 (nI ((ps_push A).C.pl + 1))) (22 + 5 * s + 1) 8 (hp_u (hp_u (hp_u G 23 5 0) 28 5 0) 22 3 (nI ((ps_push A).C.pl + 1)) (22 + 5 * s + 1) 8 + 1)) 22 2 (nI s), L, px_R t v w) fun h50 => fx_b2 (fX1_team 22 (nI s) h50) fun r55 h55 => fx_b1 (fX6_turnOnce r55 h55) fun h58 => some h58) _ = _ ∧ _
  have e8 : hp_u (hp_u (hp_u G 23 5 0) 28 5 0) 22 3 (nI ((ps_push A).C.pl + 1)) (22 + 5 * s + 1) 8 + 1 = nI (A.C.sc s + 1) := by
    rw [pu_place (by omega), pu_place (by omega), pu_place (by omega), hCG.sc s hs, nI_1]; rfl
  rw [e8]
  have m1 : ∀ a, a ≠ 22 → a ≠ 23 → a ≠ 28 → hp_u (hp_u (hp_u (hp_u G 23 5 0) 28 5 0) 22 3 (nI ((ps_push A).C.pl + 1))) (22 + 5 * s + 1) 8 (nI (A.C.sc s + 1)) a = G a := fun a q1 q2 q3 => by
    rw [pu_cell (by omega), pu_cell q1, pu_cell q3, pu_cell q2]
  have m2 : ∀ s', s' < 2 → ∀ k, k ≠ 5 → k ≠ 8 → hp_u (hp_u (hp_u (hp_u G 23 5 0) 28 5 0) 22 3 (nI ((ps_push A).C.pl + 1))) (22 + 5 * s + 1) 8 (nI (A.C.sc s + 1)) (22 + 5 * s' + 1) k = G (22 + 5 * s' + 1) k := fun s' hs' k q1 q2 => by
    rw [pu_place q2, pu_cell (by omega), pu_place q1, pu_place q1]
  have m3 : ∀ s', s' < 2 → hp_u (hp_u (hp_u (hp_u G 23 5 0) 28 5 0) 22 3 (nI ((ps_push A).C.pl + 1))) (22 + 5 * s + 1) 8 (nI (A.C.sc s + 1)) (22 + 5 * s' + 1) 5 = 0 := fun s' hs' => by
    rw [pu_place (by omega), pu_cell (by omega)]
    rcases (show s' = 0 ∨ s' = 1 by omega) with rfl | rfl
    · rw [pu_cell (by omega)]; exact pu_eq
    · exact pu_eq
  have m4 : ∀ s', s' < 2 → hp_u (hp_u (hp_u (hp_u G 23 5 0) 28 5 0) 22 3 (nI ((ps_push A).C.pl + 1))) (22 + 5 * s + 1) 8 (nI (A.C.sc s + 1)) (22 + 5 * s' + 1) 8 = nI (if s' = s then A.C.sc s' + 1 else A.C.sc s') := fun s' hs' => by
    by_cases c : s' = s
    · rw [if_pos c, c]; exact pu_eq
    · rw [if_neg c, pu_cell (by omega), pu_cell (by omega), pu_place (by omega), pu_place (by omega)]; exact hCG.sc s' hs'
  have m5 : hp_u (hp_u (hp_u (hp_u G 23 5 0) 28 5 0) 22 3 (nI ((ps_push A).C.pl + 1))) (22 + 5 * s + 1) 8 (nI (A.C.sc s + 1)) 22 3 = nI (A.C.pl + 1) := by rw [pu_cell (by omega), pu_eq]; rfl
  have m6 : hp_u (hp_u (hp_u (hp_u G 23 5 0) 28 5 0) 22 3 (nI ((ps_push A).C.pl + 1))) (22 + 5 * s + 1) 8 (nI (A.C.sc s + 1)) 22 2 = nI A.C.sv := by rw [pu_cell (by omega), pu_place (by omega), pu_cell (by omega), pu_cell (by omega)]; exact hCG.sv
  generalize hp_u (hp_u (hp_u (hp_u G 23 5 0) 28 5 0) 22 3 (nI ((ps_push A).C.pl + 1))) (22 + 5 * s + 1) 8 (nI (A.C.sc s + 1)) = M at m1 m2 m3 m4 m5 m6 ⊢
  rw [m6]
  have fin : ∀ J : Nat → Nat → Int32, (∀ a, (a < 22 ∨ 32 < a) → J a = G a) → ps_RC J 22 (A.C.setpt s) → ∃ J', some (J 22 2, (J, L, px_R t v w)) = some (nI s, (J', L, px_R t v w)) ∧ ps_RX t (ps_point A s) J' ∧ (∀ a, (a < 19 ∨ 32 < a) → (a < 66 ∨ 286 ≤ a) → a ≠ 0 → a ≠ 286 → a ≠ 288 → J' a = I a) ∧ (∀ k, k ≠ 15 → k ≠ 16 → J' 0 k = I 0 k) ∧ J' 286 0 = 0 ∧ J' 288 0 = 0 := by
    intro J q1 q2
    refine ⟨J, by rw [q2.sv]; rfl, r2.pt (fun a ha => by rw [q1 a (by omega), n1 a (by omega) (by omega) (by omega)]) (fun _ => q2) (fun _ k hk => by rw [q1 19 (by omega), q1 20 (by omega), q1 21 (by omega)]; exact n2 k hk), fun a z1 z2 z3 z4 z5 => by rw [q1 a (by omega), n1 a (by omega) (by omega) (by omega), r3 a z2 z3 z4 z5], fun k z1 z2 => by rw [q1 0 (by omega), n1 0 (by omega) (by omega) (by omega), r4 k z1 z2], ?_, ?_⟩
    · rw [q1 286 (by omega), n1 286 (by omega) (by omega) (by omega)]; exact r5
    · rw [q1 288 (by omega), n1 288 (by omega) (by omega) (by omega)]; exact r6
  by_cases c : A.C.sv = s
  · rw [if_pos (by rw [c]), pb_1]
    refine fin M (fun a ha => m1 a (by omega) (by omega) (by omega)) ⟨fun s' hs' k hk => ?_, fun s' hs' k hk => ?_, fun s' hs' k hk => ?_, fun s' hs' k hk => ?_, fun s' hs' => ?_, fun s' hs' => ?_, fun s' hs' => ?_, fun s' hs' => ?_, fun s' hs' => m4 s' hs', by rw [m6, c]; rfl, m5⟩
    · show _ = nI (if s' = s ∧ A.C.sv ≠ s then _ else A.C.six s' k)
      rw [if_neg (fun q => q.2 c), m1 _ (by omega) (by omega) (by omega)]; exact hCG.six s' hs' k hk
    · rw [m1 _ (by omega) (by omega) (by omega)]; exact hCG.mate s' hs' k hk
    · rw [m1 _ (by omega) (by omega) (by omega)]; exact hCG.x s' hs' k hk
    · rw [m1 _ (by omega) (by omega) (by omega)]; exact hCG.y s' hs' k hk
    · show _ = nI (if s' = s ∧ A.C.sv ≠ s then _ else A.C.fs s')
      rw [if_neg (fun q => q.2 c), m2 s' hs' 4 (by decide) (by decide)]; exact hCG.fs s' hs'
    · show _ = nI (if (s' = s ∧ A.C.sv ≠ s) ∧ A.C.fs s' = 5 then 1 else 0)
      rw [if_neg (fun q => q.1.2 c), m3 s' hs']; rfl
    · rw [m2 s' hs' 6 (by decide) (by decide)]; exact hCG.lf s' hs'
    · show _ = nI (if s' = s ∧ A.C.sv ≠ s then _ else A.C.tn s')
      rw [if_neg (fun q => q.2 c), m2 s' hs' 7 (by decide) (by decide)]; exact hCG.tn s' hs'
  · rw [if_neg (fun q => c ((nI_eq (by omega) (by omega)).mp q)), pl_let, cx_team hs, pb_2]
    have hfs : A.C.fs s = 0 ∨ A.C.fs s = 1 ∨ A.C.fs s = 5 ∨ A.C.fs s = 6 := by
      rcases w0.fs s hs with q | ⟨q | q | q, -⟩
      · exact Or.inl q
      · exact Or.inr (Or.inl q)
      · exact Or.inr (Or.inr (Or.inl q))
      · exact Or.inr (Or.inr (Or.inr q))
    obtain ⟨J, ⟨u1, u2, u3, u4, u5, u6⟩, u7⟩ := cx_turnOnce (I := hp_u M 22 2 (nI s)) (L := L) (t := t) (v := v) (w := w) hs hfs (by rw [pu_cell (by omega), m2 s hs 4 (by decide) (by decide)]; exact hCG.fs s hs) (w0.tn s hs) (by rw [pu_cell (by omega), m2 s hs 7 (by decide) (by decide)]; exact hCG.tn s hs)
    rw [u7, pb_1, pb_1]
    have o1 : ∀ a, a ≠ 22 → a ≠ 22 + 5 * s + 1 → a ≠ 22 + 5 * s + 2 → J a = M a := fun a q1 q2 q3 => by rw [u6 a q2 q3, pu_cell q1]
    refine fin J (fun a ha => by rw [o1 a (by omega) (by omega) (by omega)]; exact m1 a (by omega) (by omega) (by omega)) ⟨fun s' hs' k hk => ?_, fun s' hs' k hk => ?_, fun s' hs' k hk => ?_, fun s' hs' k hk => ?_, fun s' hs' => ?_, fun s' hs' => ?_, fun s' hs' => ?_, fun s' hs' => ?_, fun s' hs' => ?_, ?_, ?_⟩
    · show _ = nI (if s' = s ∧ A.C.sv ≠ s then A.C.six s' ((k + 1) % 6) else A.C.six s' k)
      by_cases d : s' = s
      · rw [if_pos ⟨d, c⟩, d, u1 k hk, pu_cell (by omega), m1 _ (by omega) (by omega) (by omega)]; exact hCG.six s hs _ (Nat.mod_lt _ (by omega))
      · rw [if_neg (fun q => d q.1), o1 _ (by omega) (by omega) (by omega), m1 _ (by omega) (by omega) (by omega)]; exact hCG.six s' hs' k hk
    · rw [o1 _ (by omega) (by omega) (by omega), m1 _ (by omega) (by omega) (by omega)]; exact hCG.mate s' hs' k hk
    · rw [o1 _ (by omega) (by omega) (by omega), m1 _ (by omega) (by omega) (by omega)]; exact hCG.x s' hs' k hk
    · rw [o1 _ (by omega) (by omega) (by omega), m1 _ (by omega) (by omega) (by omega)]; exact hCG.y s' hs' k hk
    · show _ = nI (if s' = s ∧ A.C.sv ≠ s then ps_f2 (A.C.fs s') else A.C.fs s')
      by_cases d : s' = s
      · rw [if_pos ⟨d, c⟩, d, u3]
      · rw [if_neg (fun q => d q.1), o1 _ (by omega) (by omega) (by omega), m2 s' hs' 4 (by decide) (by decide)]; exact hCG.fs s' hs'
    · show _ = nI (if (s' = s ∧ A.C.sv ≠ s) ∧ A.C.fs s' = 5 then 1 else 0)
      by_cases d : s' = s
      · subst d
        rw [u4, pu_cell (by omega), m3 s' hs]
        by_cases f5 : A.C.fs s' = 5
        · rw [if_pos f5, if_pos ⟨⟨rfl, c⟩, f5⟩]; rfl
        · rw [if_neg f5, if_neg (fun q => f5 q.2)]; rfl
      · rw [if_neg (fun q => d q.1.1), o1 _ (by omega) (by omega) (by omega), m3 s' hs']; rfl
    · by_cases d : s' = s
      · rw [d, u5 6 (by decide) (by decide) (by decide), pu_cell (by omega), m2 s hs 6 (by decide) (by decide)]; exact hCG.lf s hs
      · rw [o1 _ (by omega) (by omega) (by omega), m2 s' hs' 6 (by decide) (by decide)]; exact hCG.lf s' hs'
    · show _ = nI (if s' = s ∧ A.C.sv ≠ s then (A.C.tn s' + 1) % 6 else A.C.tn s')
      by_cases d : s' = s
      · rw [if_pos ⟨d, c⟩, d, u2]
      · rw [if_neg (fun q => d q.1), o1 _ (by omega) (by omega) (by omega), m2 s' hs' 7 (by decide) (by decide)]; exact hCG.tn s' hs'
    · show _ = nI (if s' = s then A.C.sc s' + 1 else A.C.sc s')
      by_cases d : s' = s
      · rw [d, u5 8 (by decide) (by decide) (by decide), pu_cell (by omega), m4 s hs]
      · rw [o1 _ (by omega) (by omega) (by omega), m4 s' hs']
    · rw [u6 22 (by omega) (by omega), pu_eq]; rfl
    · rw [u6 22 (by omega) (by omega), pu_place (by omega)]; exact m5
end PSF38
