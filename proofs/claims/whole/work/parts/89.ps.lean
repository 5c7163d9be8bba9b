/-! ===== a point keeps all well formed ===== -/
theorem ps_in_pt {C : ps_C} {s s' p : Nat} : ps_in (C.setpt s) s' p = ps_in C s' p := by
  refine ps_in_bool ?_
  rw [ps_in_of]
  have e : ∀ k, (C.setpt s).six s' k = if s' = s ∧ C.sv ≠ s then C.six s' ((k + 1) % 6) else C.six s' k := fun _ => rfl
  constructor
  · rintro ⟨k, hk, q⟩
    by_cases c : s' = s ∧ C.sv ≠ s
    · refine ⟨(k + 5) % 6, Nat.mod_lt _ (by omega), ?_⟩
      rw [e, if_pos c, show ((k + 5) % 6 + 1) % 6 = k by omega]; exact q
    · exact ⟨k, hk, by rw [e, if_neg c]; exact q⟩
  · rintro ⟨k, hk, q⟩
    rw [e] at q
    by_cases c : s' = s ∧ C.sv ≠ s
    · rw [if_pos c] at q; exact ⟨(k + 1) % 6, Nat.mod_lt _ (by omega), q⟩
    · rw [if_neg c] at q; exact ⟨k, hk, q⟩
theorem ps_wf_point {A : ps_A} (h0 : ps_wf A) (ho : A.on = true) {s : Nat} (hs : s < 2) (hov : ps_over A = false) : ps_wf (ps_point A s) := by
  have w0 := h0.C ho
  have w1 := h0.W ho
  obtain ⟨l0, l1⟩ := ps_over_lt h0 ho hov
  have hp := ps_wf_push h0 ho
  have on2 : (ps_push A).on = true := ho
  refine ⟨hp.tz, hp.tb, hp.fk, hp.u, hp.off, fun _ => w1, fun _ => ?_, fun _ i hi => ?_, fun _ => hp.mono on2, fun _ k hk => ?_, fun _ k hk => ?_, fun _ k hk => ?_⟩
  · have six' : ∀ s' k, (A.C.setpt s).six s' k = if s' = s ∧ A.C.sv ≠ s then A.C.six s' ((k + 1) % 6) else A.C.six s' k := fun _ _ => rfl
    refine ⟨fun s' hs' k hk => ?_, fun s' hs' k hk => ?_, fun s' hs' i j hi hj q => ?_, fun s' hs' => ?_, fun s' hs' => ?_, w0.lf, fun s' hs' => ?_, fun s' hs' => ?_, ?_, hs, ?_, w0.x, w0.y, w0.mate, fun s' hs' p q e1 e2 => ?_, w0.role2, fun s' hs' p hp e1 => ?_⟩
    · show (A.C.setpt s).six s' k < A.W.size s'
      rw [six']
      split
      · exact w0.six s' hs' _ (Nat.mod_lt _ (by omega))
      · exact w0.six s' hs' k hk
    · show A.W.free s' ≠ some ((A.C.setpt s).six s' k)
      rw [six']
      split
      · exact w0.sixf s' hs' _ (Nat.mod_lt _ (by omega))
      · exact w0.sixf s' hs' k hk
    · have q : (A.C.setpt s).six s' i = (A.C.setpt s).six s' j := q
      rw [six', six'] at q
      by_cases c : s' = s ∧ A.C.sv ≠ s
      · rw [if_pos c, if_pos c] at q
        have := w0.inj s' hs' _ _ (Nat.mod_lt _ (by omega)) (Nat.mod_lt _ (by omega)) q
        omega
      · rw [if_neg c, if_neg c] at q
        exact w0.inj s' hs' i j hi hj q
    · show (if s' = s ∧ A.C.sv ≠ s then ps_f2 (A.C.fs s') else A.C.fs s') = 0 ∨ (((if s' = s ∧ A.C.sv ≠ s then ps_f2 (A.C.fs s') else A.C.fs s') = 1 ∨ (if s' = s ∧ A.C.sv ≠ s then ps_f2 (A.C.fs s') else A.C.fs s') = 5 ∨ (if s' = s ∧ A.C.sv ≠ s then ps_f2 (A.C.fs s') else A.C.fs s') = 6) ∧ A.W.free s' ≠ none)
      by_cases c : s' = s ∧ A.C.sv ≠ s
      · rw [if_pos c]
        rcases w0.fs s' hs' with q | ⟨q | q | q, z⟩
        · rw [q]; exact Or.inl rfl
        · rw [q]; exact Or.inr ⟨Or.inr (Or.inr rfl), z⟩
        · rw [q]; exact Or.inl rfl
        · rw [q]; exact Or.inr ⟨Or.inr (Or.inl rfl), z⟩
      · rw [if_neg c]; exact w0.fs s' hs'
    · show (if (s' = s ∧ A.C.sv ≠ s) ∧ A.C.fs s' = 5 then 1 else 0) ≤ 1
      split <;> omega
    · show (if s' = s ∧ A.C.sv ≠ s then (A.C.tn s' + 1) % 6 else A.C.tn s') < 6
      split
      · exact Nat.mod_lt _ (by omega)
      · exact w0.tn s' hs'
    · show (if s' = s then A.C.sc s' + 1 else A.C.sc s') ≤ A.W.pts
      have := w0.sc s' hs'
      rcases (show s' = 0 ∨ s' = 1 by omega) with rfl | rfl <;> split <;> omega
    · show (if 0 = s then A.C.sc 0 + 1 else A.C.sc 0) < A.W.pts ∨ (if 1 = s then A.C.sc 1 + 1 else A.C.sc 1) < A.W.pts
      rcases (show s = 0 ∨ s = 1 by omega) with rfl | rfl
      · exact Or.inr (by rw [if_neg (by decide)]; exact l1)
      · exact Or.inl (by rw [if_neg (by decide)]; exact l0)
    · show A.C.pl + 1 = (if 0 = s then A.C.sc 0 + 1 else A.C.sc 0) + (if 1 = s then A.C.sc 1 + 1 else A.C.sc 1)
      have := w0.pl
      rcases (show s = 0 ∨ s = 1 by omega) with rfl | rfl
      · rw [if_pos rfl, if_neg (by decide)]; omega
      · rw [if_neg (by decide), if_pos rfl]; omega
    · show ps_st A.W s' q = false ∧ ps_in (A.C.setpt s) s' p = !ps_in (A.C.setpt s) s' q
      rw [ps_in_pt, ps_in_pt]; exact w0.role s' hs' p q e1 e2
    · show ps_st A.W s' p = ps_in (A.C.setpt s) s' p
      rw [ps_in_pt]; exact w0.nomate s' hs' p hp e1
  · obtain ⟨q1, q2⟩ := hp.P on2 i hi
    exact ⟨q1, Nat.le_succ_of_le q2⟩
  · show (if k = A.C.pl then s else A.had k) < 2
    split
    · exact hs
    · exact h0.had ho k (by have : k < A.C.pl + 1 := hk; omega)
  · show (if k = A.C.pl then A.C.sv else A.svd k) < 2
    split
    · exact w0.sv
    · exact h0.svd ho k (by have : k < A.C.pl + 1 := hk; omega)
  · show (if k = A.C.pl then ps_onN A.W A.C A.C.sv 0 else A.svr k) < 12
    split
    · have h1 := ps_onN_six w1 w0 w0.sv 0 (by omega)
      have h2 := w1.size _ w0.sv
      omega
    · exact h0.svr ho k (by have : k < A.C.pl + 1 := hk; omega)
/-! ===== a point (the reference's side) ===== -/
theorem ps_cnt_pt (A : ps_A) (s s' p : Nat) : ∀ n, n ≤ A.C.pl → ps_cnt (ps_point A s) s' p n = ps_cnt A s' p n
  | 0, _ => rfl
  | n + 1, h => by
    rw [ps_cnt, ps_cnt, ps_cnt_pt A s s' p n (by omega)]
    show _ + (if (if n = A.C.pl then s else A.had n) = s' ∧ (if n = A.C.pl then A.C.sv else A.svd n) = s' ∧ (if n = A.C.pl then ps_onN A.W A.C A.C.sv 0 else A.svr n) = p then 1 else 0) = _
    rw [if_neg (show ¬ n = A.C.pl by omega), if_neg (show ¬ n = A.C.pl by omega), if_neg (show ¬ n = A.C.pl by omega)]
theorem ps_cnt_pl (A : ps_A) (s s' p : Nat) : ps_cnt (ps_point A s) s' p (A.C.pl + 1) = ps_cnt A s' p A.C.pl + (if s = s' ∧ A.C.sv = s' ∧ ps_onN A.W A.C A.C.sv 0 = p then 1 else 0) := by
  rw [ps_cnt, ps_cnt_pt A s s' p _ (Nat.le_refl _)]
  show _ + (if (if A.C.pl = A.C.pl then s else A.had A.C.pl) = s' ∧ (if A.C.pl = A.C.pl then A.C.sv else A.svd A.C.pl) = s' ∧ (if A.C.pl = A.C.pl then ps_onN A.W A.C A.C.sv 0 else A.svr A.C.pl) = p then 1 else 0) = _
  rw [if_pos rfl, if_pos rfl, if_pos rfl]
section PSF39
variable {t v w : Bool} {A : ps_A} {I : Nat → Nat → Int32} {L : Nat → Nat → Int64}
theorem ps_MR.pt {C : ps_C} {r : Nat → Int32} {s : Nat} (h : ps_MR (ps_push A) C r) (hp : C.pl ≤ A.C.pl) : ps_MR (ps_point A s) C r := by
  obtain ⟨h1, h2, h3, h4, h5, h6, h7, h8, h9, h10, h11, h12, h13⟩ := h
  refine ⟨h1, h2, h3, h4, h5, h6, h7, h8, h9, h10, h11, fun s' hs' p hp' => ?_, h13⟩
  rw [h12 s' hs' p hp', ps_cnt_pt A s s' p _ hp, ps_cnt_of (A := A) (B := ps_push A) rfl rfl rfl s' p]
theorem ps_MX.pt {J1 J : Nat → Nat → Int32} {s : Nat} (h0 : ps_wf A) (h : ps_MX (ps_push A) J1) (e : ∀ a, 290 ≤ a → a ≠ 298 → a ≠ 300 → J a = J1 a) (hC : A.on = true → ps_MR (ps_point A s) (A.C.setpt s) (J 298)) (hl : A.on = true → ∀ k, k < A.C.pl + 1 → J 300 (3 * k) = nI ((ps_point A s).had k) ∧ J 300 (3 * k + 1) = nI ((ps_point A s).svd k) ∧ J 300 (3 * k + 2) = nI ((ps_point A s).svr k)) : ps_MX (ps_point A s) J := by
  refine ⟨?_, ?_, ?_, ?_, ?_, ?_, fun q => ?_, hC, fun q i hi => ?_, fun q k hk => (hl q k hk).1, fun q k hk => (hl q k hk).2.1, fun q k hk => (hl q k hk).2.2⟩
  · rw [e _ (by omega) (by omega) (by omega)]; exact h.tz
  · intro k hk; rw [e _ (by omega) (by omega) (by omega)]; exact h.tb k hk
  · rw [e _ (by omega) (by omega) (by omega)]; exact h.fk
  · rw [e _ (by omega) (by omega) (by omega)]; exact h.fp
  · rw [e _ (by omega) (by omega) (by omega)]; exact h.on
  · rw [e _ (by omega) (by omega) (by omega)]; exact h.u
  · have h9 := h.W q
    unfold ps_MW at h9 ⊢
    rw [e 292 (by omega) (by omega) (by omega), e 295 (by omega) (by omega) (by omega)]; exact h9
  · have h9 := h.P q i hi
    rw [e 299 (by omega) (by omega) (by omega)]
    exact h9.pt ((ps_wf_push h0 q).P q i hi).2
/-- the row of a side turned once -/
theorem cm_turnOnce (w0 : ps_wfC A.W A.C) (w1 : ps_wfW A.W) {s : Nat} (hs : s < 2) (hW : ps_MW I A.W) (hon : ∀ k, k < 6 → I 298 (11 + 6 * s + k) = ps_on A.W A.C s k) (h3 : I 298 (3 + s) = nI (A.C.tn s)) (h7 : I 298 (7 + s) = ps_for A.C s) :
    ∃ J, ((∀ k, k < 6 → J 298 (11 + 6 * s + k) = (if A.C.fs s = 5 ∧ k = 3 then ps_for A.C s else ps_on A.W A.C s ((k + 1) % 6))) ∧ J 298 (3 + s) = nI ((A.C.tn s + 1) % 6) ∧ J 298 (7 + s) = (if A.C.fs s = 5 then -1 else I 298 (7 + s)) ∧ J 298 (9 + s) = (if A.C.fs s = 5 then 1 else I 298 (9 + s)) ∧ (∀ j, ¬ (11 + 6 * s ≤ j ∧ j < 17 + 6 * s) → j ≠ 3 + s → j ≠ 7 + s → j ≠ 9 + s → J 298 j = I 298 j) ∧ ∀ a, a ≠ 298 → J a = I a) ∧ fX10_turns 290 (nI s) (I, L, px_R t v w) = some (J, L, px_R t v w) := by
  have htn := w0.tn s hs
  have rd : ∀ (H : Nat → Nat → Int32) k, k < 6 → fX10_court 290 (nI s) (nI (k + 1)) (H, L, px_R t v w) = some (H 298 (11 + 6 * s + k), (H, L, px_R t v w)) := fun H k hk => by
    unfold fX10_court
    rw [pm_two, pb_2, show (11 : Int32) = nI 11 from rfl, nI_add, pg_pos (pi_in (by omega) (by omega)), pi_ix (by omega)]
    show some (H 298 (11 + (6 * s + k)), _) = _
    rw [← Nat.add_assoc]
  unfold fX10_turns
  rw [show (1 : Int32) = nI (0 + 1) from rfl, rd I 0 (by omega), pb_2, show nI (0 + 1) = nI 1 from rfl]
  have tail : ∀ H : Nat → Nat → Int32, (∀ k, k < 5 → H 298 (11 + 6 * s + k) = I 298 (11 + 6 * s + (k + 1))) → (∀ j, ¬ (11 + 6 * s ≤ j ∧ j < 17 + 6 * s) → H 298 j = I 298 j) → (∀ a, a ≠ 298 → H a = I a) → ∀ n, ∃ J, ((∀ k, k < 6 → J 298 (11 + 6 * s + k) = (if A.C.fs s = 5 ∧ k = 3 then ps_for A.C s else ps_on A.W A.C s ((k + 1) % 6))) ∧ J 298 (3 + s) = nI ((A.C.tn s + 1) % 6) ∧ J 298 (7 + s) = (if A.C.fs s = 5 then -1 else I 298 (7 + s)) ∧ J 298 (9 + s) = (if A.C.fs s = 5 then 1 else I 298 (9 + s)) ∧ (∀ j, ¬ (11 + 6 * s ≤ j ∧ j < 17 + 6 * s) → j ≠ 3 + s → j ≠ 7 + s → j ≠ 9 + s → J 298 j = I 298 j) ∧ ∀ a, a ≠ 298 → J a = I a) ∧ fX10_turns_9 (n + 1) 290 (nI s) (I 298 (11 + 6 * s + 0)) (nI 6) (H, L, px_R t v w) = some (J, L, px_R t v w) := by
    intro H p1 p2 p3 n
    rw [fX10_turns_9, if_pos (show (6 : Int32) ≤ nI 6 by decide), show (6 : Int32) = nI (5 + 1) from rfl, cm_puts hs (by omega), pb_1, show (3 : Int32) = nI 3 from rfl, nI_add, pg_pos (pi_in (by omega) (by omega)), pg_pos (pi_in (by omega) (by omega)), pl_let, pi_ix (n := 3 + s) (by omega), show (7 : Int32) = nI 7 from rfl, nI_add, pg_pos (pi_in (by omega) (by omega)), pi_ix (n := 7 + s) (by omega)]
    have e3 : fx_rem ((hp_u H 298 (11 + 6 * s + 5) (I 298 (11 + 6 * s + 0)), L, px_R t v w).1 ((hp_u H 298 (11 + 6 * s + 5) (I 298 (11 + 6 * s + 0)), L, px_R t v w).2.2 290 20) (3 + s) + 1) (nI (5 + 1)) = nI ((A.C.tn s + 1) % 6) := by
      show fx_rem (hp_u H 298 (11 + 6 * s + 5) (I 298 (11 + 6 * s + 0)) 298 (3 + s) + 1) 6 = _
      rw [pu_place (by omega), p2 _ (by omega), h3, nI_1, nI_rem6 (by omega)]
    rw [e3]
    show ∃ J, _ ∧ (if hp_u (hp_u H 298 (11 + 6 * s + 5) (I 298 (11 + 6 * s + 0))) 298 (3 + s) (nI ((A.C.tn s + 1) % 6)) 292 (7 + s) = -1 then some (hp_u (hp_u H 298 (11 + 6 * s + 5) (I 298 (11 + 6 * s + 0))) 298 (3 + s) (nI ((A.C.tn s + 1) % 6)), L, px_R t v w) else fx_b2 (fX10_court 290 (nI s) (nI (3 + 1)) (hp_u (hp_u H 298 (11 + 6 * s + 5) (I 298 (11 + 6 * s + 0))) 298 (3 + s) (nI ((A.C.tn s + 1) % 6)), L, px_R t v w)) _) = _
    have g1 : ∀ k, k < 6 → hp_u (hp_u H 298 (11 + 6 * s + 5) (I 298 (11 + 6 * s + 0))) 298 (3 + s) (nI ((A.C.tn s + 1) % 6)) 298 (11 + 6 * s + k) = ps_on A.W A.C s ((k + 1) % 6) := fun k hk => by
      rw [pu_place (by omega)]
      by_cases c : k = 5
      · rw [c, pu_eq, hon 0 (by omega)]
      · rw [pu_place (by omega), p1 k (by omega), hon _ (by omega), Nat.mod_eq_of_lt (by omega)]
    have g2 : hp_u (hp_u H 298 (11 + 6 * s + 5) (I 298 (11 + 6 * s + 0))) 298 (3 + s) (nI ((A.C.tn s + 1) % 6)) 298 (3 + s) = nI ((A.C.tn s + 1) % 6) := pu_eq
    have g3 : ∀ j, ¬ (11 + 6 * s ≤ j ∧ j < 17 + 6 * s) → j ≠ 3 + s → hp_u (hp_u H 298 (11 + 6 * s + 5) (I 298 (11 + 6 * s + 0))) 298 (3 + s) (nI ((A.C.tn s + 1) % 6)) 298 j = I 298 j := fun j q1 q2 => by
      rw [pu_place q2, pu_place (by omega), p2 j q1]
    have g4 : ∀ a, a ≠ 298 → hp_u (hp_u H 298 (11 + 6 * s + 5) (I 298 (11 + 6 * s + 0))) 298 (3 + s) (nI ((A.C.tn s + 1) % 6)) a = I a := fun a q => by rw [pu_cell q, pu_cell q, p3 a q]
    generalize hp_u (hp_u H 298 (11 + 6 * s + 5) (I 298 (11 + 6 * s + 0))) 298 (3 + s) (nI ((A.C.tn s + 1) % 6)) = G at g1 g2 g3 g4 ⊢
    rw [g4 292 (by omega), hW.free s hs]
    have same : A.C.fs s ≠ 5 → ∃ J, ((∀ k, k < 6 → J 298 (11 + 6 * s + k) = (if A.C.fs s = 5 ∧ k = 3 then ps_for A.C s else ps_on A.W A.C s ((k + 1) % 6))) ∧ J 298 (3 + s) = nI ((A.C.tn s + 1) % 6) ∧ J 298 (7 + s) = (if A.C.fs s = 5 then -1 else I 298 (7 + s)) ∧ J 298 (9 + s) = (if A.C.fs s = 5 then 1 else I 298 (9 + s)) ∧ (∀ j, ¬ (11 + 6 * s ≤ j ∧ j < 17 + 6 * s) → j ≠ 3 + s → j ≠ 7 + s → j ≠ 9 + s → J 298 j = I 298 j) ∧ ∀ a, a ≠ 298 → J a = I a) ∧ some (G, L, px_R t v w) = some (J, L, px_R t v w) := fun n5 =>
      ⟨G, ⟨fun k hk => by rw [if_neg (fun q => n5 q.1)]; exact g1 k hk, g2, by rw [if_neg n5]; exact g3 _ (by omega) (by omega), by rw [if_neg n5]; exact g3 _ (by omega) (by omega), fun j q1 q2 _ _ => g3 j q1 q2, g4⟩, rfl⟩
    cases ef : A.W.free s with
    | none =>
      rw [if_pos (show ps_e1 none = -1 from rfl)]
      refine same (fun q => ?_)
      rcases w0.fs s hs with z | ⟨-, z⟩
      · omega
      · exact z ef
    | some p =>
      have hp := w1.free s hs p ef
      have hz := w1.size s hs
      rw [if_neg (show ¬ ps_e1 (some p) = -1 from nI_ne_m1 (by omega)), rd G 3 (by omega), pb_2, g1 3 (by omega), pg_pos (pi_in (by omega) (by omega))]
      rw [show (G, L, px_R t v w).1 ((G, L, px_R t v w).2.2 290 3) (7 + s) = ps_e1 (A.W.free s) by
        show G 292 (7 + s) = _
        rw [g4 292 (by omega), hW.free s hs]]
      have onf := ps_on_free (A := A) w0 w1 hs (k := 4) (by omega)
      by_cases c5 : A.C.fs s = 5
      · rw [if_pos (onf.mpr c5), pg_pos (pi_in (by omega) (by omega)), show (4 : Int32) = nI (3 + 1) from rfl, show (G, L, px_R t v w).1 ((G, L, px_R t v w).2.2 290 20) (7 + s) = ps_for A.C s by
          show G 298 (7 + s) = _
          rw [g3 _ (by omega) (by omega), h7], cm_puts hs (by omega), pb_1, pg_pos (pi_in (by omega) (by omega)), pl_let, show (9 : Int32) = nI 9 from rfl, nI_add, pg_pos (pi_in (by omega) (by omega)), pl_let, pi_ix (n := 9 + s) (by omega)]
        refine ⟨hp_u (hp_u (hp_u G 298 (11 + 6 * s + 3) (ps_for A.C s)) 298 (7 + s) (-1)) 298 (9 + s) 1, ⟨fun k hk => ?_, ?_, ?_, ?_, fun j q1 q2 q3 q4 => ?_, fun a q => ?_⟩, rfl⟩
        · rw [pu_place (by omega), pu_place (by omega)]
          by_cases k3 : k = 3
          · rw [k3, pu_eq, if_pos ⟨c5, rfl⟩]
          · rw [pu_place (by omega), if_neg (fun q => k3 q.2)]; exact g1 k hk
        · rw [pu_place (by omega), pu_place (by omega), pu_place (by omega)]; exact g2
        · rw [pu_place (by omega), pu_eq, if_pos c5]
        · rw [pu_eq, if_pos c5]
        · rw [pu_place q4, pu_place q3, pu_place (by omega)]; exact g3 j q1 q2
        · rw [pu_cell q, pu_cell q, pu_cell q]; exact g4 a q
      · rw [if_neg (fun q => c5 (onf.mp q))]
        exact same c5
  obtain ⟨⟨H, n'⟩, ⟨p1, p2, p3, p4⟩, e⟩ := pf_loop (S := (Nat → Nat → Int32) × Nat) (fun n i z => fX10_turns_9 n 290 (nI s) (I 298 (11 + 6 * s + 0)) (nI (i + 1)) (z.1, L, px_R t v w)) (fun z => fX10_turns_9 (fx_N - 5) 290 (nI s) (I 298 (11 + 6 * s + 0)) (nI 6) (z.1, L, px_R t v w))
    (fun i z => (∀ k, k < i → z.1 298 (11 + 6 * s + k) = I 298 (11 + 6 * s + (k + 1))) ∧ (∀ k, i ≤ k → k < 6 → z.1 298 (11 + 6 * s + k) = I 298 (11 + 6 * s + k)) ∧ (∀ j, ¬ (11 + 6 * s ≤ j ∧ j < 17 + 6 * s) → z.1 298 j = I 298 j) ∧ ∀ a, a ≠ 298 → z.1 a = I a) 5 (by
      rintro n ⟨H, n'⟩ -
      dsimp only
      rw [show fx_N - 5 = fx_N - 6 + 1 from rfl, fX10_turns_9, fX10_turns_9, if_pos (show (6 : Int32) ≤ nI (5 + 1) by decide), if_pos (show (6 : Int32) ≤ nI 6 by decide)]) (by
      rintro n i ⟨H, n'⟩ hi ⟨p1, p2, p3, p4⟩
      dsimp only at p1 p2 p3 p4
      show ∃ s' : (Nat → Nat → Int32) × Nat, _ ∧ fX10_turns_9 (n + 1) _ _ _ (nI (i + 1)) _ = fX10_turns_9 n _ _ _ (nI (i + 1 + 1)) _
      rw [fX10_turns_9, if_neg (show ¬ (6 : Int32) ≤ nI (i + 1) from nI_ge (b := 6) (by omega) (by omega)), nI_1, rd H (i + 1) (by omega), pb_2, cm_puts hs (by omega), pb_1, pl_let]
      refine ⟨(hp_u H 298 (11 + 6 * s + i) (H 298 (11 + 6 * s + (i + 1))), 0), ⟨fun k hk => ?_, fun k hk hk6 => ?_, fun j hj => ?_, fun a ha => ?_⟩, rfl⟩
      · show hp_u H _ _ _ _ _ = _
        by_cases c : k = i
        · rw [c, pu_eq, p2 (i + 1) (by omega) (by omega)]
        · rw [pu_place (by omega)]; exact p1 k (by omega)
      · show hp_u H _ _ _ _ _ = _
        rw [pu_place (by omega)]; exact p2 k (by omega) hk6
      · show hp_u H _ _ _ _ _ = _
        rw [pu_place (by omega)]; exact p3 j hj
      · show hp_u H _ _ _ a = _
        rw [pu_cell ha]; exact p4 a ha) 5 0 fx_N (I, 0) (by omega) (by unfold fx_N; omega) ⟨fun k hk => absurd hk (by omega), fun _ _ _ => rfl, fun _ _ => rfl, fun _ _ => rfl⟩
  dsimp only at p1 p2 p3 p4 e
  obtain ⟨J, j1, j2⟩ := tail H (fun k hk => p1 k hk) p3 p4 (fx_N - 6)
  refine ⟨J, j1, ?_⟩
  rw [← j2]
  exact e
end PSF39
