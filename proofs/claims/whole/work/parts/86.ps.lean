/-! ===== one goes, one comes (the reference's side) ===== -/
section PSF36
variable {t v w : Bool} {A : ps_A} {I : Nat → Nat → Int32} {L : Nat → Nat → Int64}
theorem ps_in_bool {C : ps_C} {s p : Nat} {b : Bool} (h : b = true ↔ ∃ k, k < 6 ∧ C.six s k = p) : ps_in C s p = b := by
  cases b with
  | true => exact ps_in_of.mpr (h.mp rfl)
  | false =>
    cases e : ps_in C s p with
    | false => rfl
    | true => exact absurd (h.mpr (ps_in_of.mp e)) (by decide)
theorem ps_gone_sub (h0 : ps_wf A) (ho : A.on = true) {s g c : Nat} (hs : s < 2) (hg : g < A.W.size s) (hc : c < A.W.size s) (hj : ps_judge A s g c = 0) {st : Nat} (hst : st = if ps_start A.W s (nI g) = true then g else c) :
    (ps_gone A.W (A.C.setsub s g c) s st = ps_gone A.W A.C s st + 1) ∧ ∀ s' p, s' < 2 → p < 12 → ¬ (s' = s ∧ p = st) → ps_gone A.W (A.C.setsub s g c) s' p = ps_gone A.W A.C s' p := by
  have w0 := h0.C ho
  have w1 := h0.W ho
  have hz := w1.size s hs
  obtain ⟨-, -, j1, j2, j3, j4, j5⟩ := ps_judge0 hj
  have hsp := ps_onc_spot j1 j2
  obtain ⟨k, hk, k1, k2, k3⟩ := ps_spot_k h0 ho hs hg hsp
  have hcn : ∀ j, j < 6 → A.C.six s j ≠ c := fun j hj q => by
    have := ps_at_none (f := fun k => nI (A.C.six s k)) (p := nI c) (m := 6) (i := 0) j4 j (by omega) (by omega)
    exact this (by show nI (A.C.six s j) = nI c; rw [q])
  have hgc : g ≠ c := fun q => hcn k hk (by rw [k2, q])
  have six' : ∀ s' j, (A.C.setsub s g c).six s' j = if s' = s ∧ A.C.six s' j = g then c else A.C.six s' j := fun _ _ => rfl
  have mate' : ∀ s' p, (A.C.setsub s g c).mate s' p = if s' = s ∧ p = c then some g else if s' = s ∧ p = g then some c else A.C.mate s' p := fun _ _ => rfl
  have in_g' : ps_in (A.C.setsub s g c) s g = false := ps_in_bool ⟨fun q => (nomatch q), fun ⟨j, hj, q⟩ => by
    rw [six'] at q
    by_cases z : A.C.six s j = g
    · rw [if_pos ⟨rfl, z⟩] at q; exact absurd q.symm hgc
    · rw [if_neg (fun y => z y.2)] at q; exact absurd q z⟩
  have in_c' : ps_in (A.C.setsub s g c) s c = true := ps_in_of.mpr ⟨k, hk, by rw [six', if_pos ⟨rfl, k2⟩]⟩
  have in_c : ps_in A.C s c = false := ps_in_bool ⟨fun q => (nomatch q), fun ⟨j, hj, q⟩ => absurd q (hcn j hj)⟩
  have in_o : ∀ s' p, ¬ (s' = s ∧ (p = g ∨ p = c)) → ps_in (A.C.setsub s g c) s' p = ps_in A.C s' p := fun s' p hp => by
    refine ps_in_bool ?_
    rw [ps_in_of]
    constructor
    · rintro ⟨j, hj, q⟩
      refine ⟨j, hj, ?_⟩
      rw [six', if_neg (fun y => hp ⟨y.1, Or.inl (by rw [← q, y.2])⟩)]; exact q
    · rintro ⟨j, hj, q⟩
      refine ⟨j, hj, ?_⟩
      rw [six'] at q
      by_cases z : s' = s ∧ A.C.six s' j = g
      · rw [if_pos z] at q; exact absurd ⟨z.1, Or.inr q.symm⟩ hp
      · rw [if_neg z] at q; exact q
  have mc' : (A.C.setsub s g c).mate s c = some g := by rw [mate', if_pos ⟨rfl, rfl⟩]
  have mg' : (A.C.setsub s g c).mate s g = some c := by rw [mate', if_neg (fun y => hgc y.2), if_pos ⟨rfl, rfl⟩]
  have mo' : ∀ s' p, ¬ (s' = s ∧ (p = g ∨ p = c)) → (A.C.setsub s g c).mate s' p = A.C.mate s' p := fun s' p hp => by
    rw [mate', if_neg (fun y => hp ⟨y.1, Or.inr y.2⟩), if_neg (fun y => hp ⟨y.1, Or.inl y.2⟩)]
  have stg := ps_st_iff w1 hs (p := g) (by omega)
  have stc := ps_st_iff w1 hs (p := c) (by omega)
  have other : ∀ s' p, ¬ (s' = s ∧ (p = g ∨ p = c)) → ps_gone A.W (A.C.setsub s g c) s' p = ps_gone A.W A.C s' p := fun s' p hp => by
    unfold ps_gone
    rw [mo' s' p hp, in_o s' p hp]
  unfold ps_fit at j5
  by_cases r1 : ps_role A s g = 1
  · rw [if_pos r1] at j5
    have mg := of_decide_eq_true j5
    have sg : ps_start A.W s (nI g) = false := by
      cases e : ps_start A.W s (nI g) with
      | false => rfl
      | true => unfold ps_role at r1; rw [e, if_pos rfl] at r1; exact absurd r1 (by decide)
    rw [sg, if_neg (by decide)] at hst
    rw [hst]
    have sc : ps_st A.W s c = true := w0.role2 s hs g c mg (by rw [← stg, sg])
    have mc : A.C.mate s c = some g := (w0.mate s hs g c mg).2.2.1
    refine ⟨?_, fun s' p hs' hp hne => ?_⟩
    · unfold ps_gone
      rw [mc', mc, in_c', in_c, sc]
      simp
    · by_cases z : s' = s ∧ p = g
      · obtain ⟨rfl, rfl⟩ := z
        unfold ps_gone
        rw [← stg, sg]
        simp
      · exact other s' p (fun y => y.2.elim (fun q => z ⟨y.1, q⟩) (fun q => hne ⟨y.1, q⟩))
  · rw [if_neg r1] at j5
    obtain ⟨r0, mg, rc⟩ := of_decide_eq_true j5
    have sg : ps_start A.W s (nI g) = true := by
      cases e : ps_start A.W s (nI g) with
      | true => rfl
      | false =>
        unfold ps_role at r0
        rw [e, if_neg (by decide)] at r0
        split at r0 <;> exact absurd r0 (by decide)
    have sc : ps_start A.W s (nI c) = false := by
      cases e : ps_start A.W s (nI c) with
      | false => rfl
      | true => unfold ps_role at rc; rw [e, if_pos rfl] at rc; exact absurd rc (by decide)
    rw [sg, if_pos rfl] at hst
    rw [hst]
    refine ⟨?_, fun s' p hs' hp hne => ?_⟩
    · unfold ps_gone
      rw [mg', mg, in_g', ← stg, sg]
      simp
    · by_cases z : s' = s ∧ p = c
      · obtain ⟨rfl, rfl⟩ := z
        unfold ps_gone
        rw [← stc, sc]
        simp
      · exact other s' p (fun y => y.2.elim (fun q => hne ⟨y.1, q⟩) (fun q => z ⟨y.1, q⟩))
theorem cm_sub (h0 : ps_wf A) (ho : A.on = true) (hM : ps_MX A I) {s g c : Nat} (hs : s < 2) (hg : g < A.W.size s) (hc : c < A.W.size s) (hj : ps_judge A s g c = 0) :
    ∃ J, fX10_sub 290 (nI s) (nI g) (nI c) (I, L, px_R t v w) = some (nI (A.C.lf s - 1), (J, L, px_R t v w)) ∧ ps_MX (ps_sub A s g c) J ∧ (∀ a, a < 290 → J a = I a) := by
  have w0 := h0.C ho
  have w1 := h0.W ho
  have hz := w1.size s hs
  have hlf := w0.lf s hs
  obtain ⟨-, jl, j1, j2, j3, j4, -⟩ := ps_judge0 hj
  have hsp := ps_onc_spot j1 j2
  obtain ⟨k, hk, k1, k2, k3⟩ := ps_spot_k h0 ho hs hg hsp
  have eo : ps_onc A.W A.C s g = k + 1 ∧ A.C.fs s ≠ k + 1 := by
    unfold ps_onc at j2 ⊢
    rw [if_neg j1] at j2 ⊢
    by_cases q : ps_spot A.C s (nI g) = A.C.fs s
    · rw [if_pos q] at j2; exact absurd rfl j2
    · rw [if_neg q, k1]; exact ⟨rfl, fun y => q (by rw [k1, y])⟩
  have hcn : ∀ j, j < 6 → A.C.six s j ≠ c := fun j hj q => by
    have := ps_at_none (f := fun k => nI (A.C.six s k)) (p := nI c) (m := 6) (i := 0) j4 j (by omega) (by omega)
    exact this (by show nI (A.C.six s j) = nI c; rw [q])
  have hgc : g ≠ c := fun q => hcn k hk (by rw [k2, q])
  unfold fX10_sub
  rw [pl_let]
  show ∃ J, fx_b2 (fX10_wrongSub 290 (nI s) (nI g) (nI c) (hp_u I 290 0 0, L, px_R t v w)) _ = _ ∧ _
  have hM := hM.flag (z := 0)
  have hI : ∀ a, a < 290 → hp_u I 290 0 0 a = I a := fun a ha => pu_cell (by omega)
  generalize hp_u I 290 0 0 = K at hM hI ⊢
  obtain ⟨J1, r1, r2, r3, r4⟩ := cm_keeps (t := t) (v := v) (w := w) (L := L) h0 ho hM
  have hC : ps_MR (ps_push A) (ps_push A).C (J1 298) := r2.C (show (ps_push A).on = true from ho)
  have hW := r2.W (show (ps_push A).on = true from ho)
  rw [cm_judge h0 hM, pb_2, ps_may_eq h0 ho hs hg hc, hj, if_pos rfl, r1, pb_1]
  obtain ⟨st, hst⟩ : ∃ st, st = if ps_start A.W s (nI g) = true then g else c := ⟨_, rfl⟩
  obtain ⟨ot, hot⟩ : ∃ ot, ot = if ps_start A.W s (nI g) = true then c else g := ⟨_, rfl⟩
  have hst12 : st < 12 := by rw [hst]; split <;> omega
  have hot12 : ot < 12 := by rw [hot]; split <;> omega
  have hso : st ≠ ot := by rw [hst, hot]; split <;> omega
  obtain ⟨gn1, gn2⟩ := ps_gone_sub h0 ho hs hg hc hj hst
  have ech : fX10_changes 290 (nI s) (nI g) (nI c) (J1, L, px_R t v w) = some (hp_u (hp_u (hp_u (hp_u (hp_u J1 298 (11 + 6 * s + k) (nI c)) 298 (5 + s) (nI (A.C.lf s - 1))) 298 (47 + (12 * s + st)) (nI (ps_gone A.W A.C s st + 1))) 298 (23 + (12 * s + st)) (nI ot)) 298 (23 + (12 * s + ot)) (nI st), L, px_R t v w) := by
    unfold fX10_changes
    rw [cm_spotOf hC hs, show ps_at (ps_on (ps_push A).W (ps_push A).C s) (nI g) 6 0 = ps_onc A.W A.C s g from ps_onc_eq w1 w0 hs (by omega), eo.1, pb_2, cm_puts hs hk, pb_1, pl_let, show (5 : Int32) = nI 5 from rfl, nI_add, pg_pos (pi_in (by omega) (by omega)), pg_pos (pi_in (by omega) (by omega)), pl_let, pi_ix (by omega)]
    show fx_b2 (fX10_isStarter 290 (nI s) (nI g) (hp_u (hp_u J1 298 (11 + 6 * s + k) (nI c)) 298 (5 + s) (hp_u J1 298 (11 + 6 * s + k) (nI c) 298 (5 + s) - 1), L, px_R t v w)) _ = _
    rw [pu_place (show ¬ 5 + s = 11 + 6 * s + k by omega), hC.lf s hs, show nI ((ps_push A).C.lf s) - 1 = nI (A.C.lf s - 1) from pk_sub (b := 1) (by show 1 ≤ A.C.lf s; omega)]
    have hW2 : ps_MW (hp_u (hp_u J1 298 (11 + 6 * s + k) (nI c)) 298 (5 + s) (nI (A.C.lf s - 1))) (ps_push A).W := by
      unfold ps_MW at hW ⊢
      rw [pu_cell (by omega), pu_cell (by omega), pu_cell (by omega), pu_cell (by omega)]; exact hW
    rw [cm_starter (A := ps_push A) hW2 hs, pb_2]
    have e38 : (if (if ps_start (ps_push A).W s (nI g) = true then (1 : Int32) else 0) = 0 then fX10_changes_38 290 (nI s) (nI g) (nI c) (nI c) (hp_u (hp_u J1 298 (11 + 6 * s + k) (nI c)) 298 (5 + s) (nI (A.C.lf s - 1)), L, px_R t v w) else fX10_changes_38 290 (nI s) (nI g) (nI c) (nI g) (hp_u (hp_u J1 298 (11 + 6 * s + k) (nI c)) 298 (5 + s) (nI (A.C.lf s - 1)), L, px_R t v w)) = fX10_changes_51 290 (nI s) (nI st) (nI ot) (hp_u (hp_u J1 298 (11 + 6 * s + k) (nI c)) 298 (5 + s) (nI (A.C.lf s - 1)), L, px_R t v w) := by
      rw [hst, hot, show (ps_push A).W = A.W from rfl]
      unfold fX10_changes_38
      cases ps_start A.W s (nI g) with
      | false => rw [if_pos (by decide), if_neg (fun q => hgc ((nI_eq (by omega) (by omega)).mp q).symm)]; rfl
      | true => rw [if_neg (by decide), if_pos rfl]; rfl
    rw [e38]
    unfold fX10_changes_51
    rw [pm_two12, pb_2, pl_let, show (47 : Int32) = nI 47 from rfl, nI_add, pg_pos (pi_in (by omega) (by omega)), pg_pos (pi_in (by omega) (by omega)), pl_let, pi_ix (by omega), pm_two12, pb_2, show (23 : Int32) = nI 23 from rfl, nI_add, pg_pos (pi_in (by omega) (by omega)), pl_let, pi_ix (by omega), pm_two12, pb_2, nI_add, pg_pos (pi_in (by omega) (by omega)), pl_let, pi_ix (by omega)]
    show some (hp_u (hp_u (hp_u (hp_u (hp_u J1 298 (11 + 6 * s + k) (nI c)) 298 (5 + s) (nI (A.C.lf s - 1))) 298 (47 + (12 * s + st)) (hp_u (hp_u J1 298 (11 + 6 * s + k) (nI c)) 298 (5 + s) (nI (A.C.lf s - 1)) 298 (47 + (12 * s + st)) + 1)) 298 (23 + (12 * s + st)) (nI ot)) 298 (23 + (12 * s + ot)) (nI st), L, px_R t v w) = _
    rw [pu_place (show ¬ 47 + (12 * s + st) = 5 + s by omega), pu_place (show ¬ 47 + (12 * s + st) = 11 + 6 * s + k by omega), show 47 + (12 * s + st) = 47 + 12 * s + st by omega, hC.gone s hs st hst12, nI_1]; rfl
  rw [ech, pb_1, show (5 : Int32) = nI 5 from rfl, nI_add, pg_pos (pi_in (by omega) (by omega)), pi_ix (by omega)]
  have rr : ∀ j, j ≠ 11 + 6 * s + k → j ≠ 5 + s → j ≠ 47 + (12 * s + st) → j ≠ 23 + (12 * s + st) → j ≠ 23 + (12 * s + ot) → hp_u (hp_u (hp_u (hp_u (hp_u J1 298 (11 + 6 * s + k) (nI c)) 298 (5 + s) (nI (A.C.lf s - 1))) 298 (47 + (12 * s + st)) (nI (ps_gone A.W A.C s st + 1))) 298 (23 + (12 * s + st)) (nI ot)) 298 (23 + (12 * s + ot)) (nI st) 298 j = J1 298 j := fun j q1 q2 q3 q4 q5 => by rw [pu_place q5, pu_place q4, pu_place q3, pu_place q2, pu_place q1]
  have v1 : hp_u (hp_u (hp_u (hp_u (hp_u J1 298 (11 + 6 * s + k) (nI c)) 298 (5 + s) (nI (A.C.lf s - 1))) 298 (47 + (12 * s + st)) (nI (ps_gone A.W A.C s st + 1))) 298 (23 + (12 * s + st)) (nI ot)) 298 (23 + (12 * s + ot)) (nI st) 298 (11 + 6 * s + k) = nI c := by rw [pu_place (by omega), pu_place (by omega), pu_place (by omega), pu_place (by omega), pu_eq]
  have v2 : hp_u (hp_u (hp_u (hp_u (hp_u J1 298 (11 + 6 * s + k) (nI c)) 298 (5 + s) (nI (A.C.lf s - 1))) 298 (47 + (12 * s + st)) (nI (ps_gone A.W A.C s st + 1))) 298 (23 + (12 * s + st)) (nI ot)) 298 (23 + (12 * s + ot)) (nI st) 298 (5 + s) = nI (A.C.lf s - 1) := by rw [pu_place (by omega), pu_place (by omega), pu_place (by omega), pu_eq]
  have v3 : hp_u (hp_u (hp_u (hp_u (hp_u J1 298 (11 + 6 * s + k) (nI c)) 298 (5 + s) (nI (A.C.lf s - 1))) 298 (47 + (12 * s + st)) (nI (ps_gone A.W A.C s st + 1))) 298 (23 + (12 * s + st)) (nI ot)) 298 (23 + (12 * s + ot)) (nI st) 298 (47 + (12 * s + st)) = nI (ps_gone A.W A.C s st + 1) := by rw [pu_place (by omega), pu_place (by omega), pu_eq]
  have v4 : hp_u (hp_u (hp_u (hp_u (hp_u J1 298 (11 + 6 * s + k) (nI c)) 298 (5 + s) (nI (A.C.lf s - 1))) 298 (47 + (12 * s + st)) (nI (ps_gone A.W A.C s st + 1))) 298 (23 + (12 * s + st)) (nI ot)) 298 (23 + (12 * s + ot)) (nI st) 298 (23 + (12 * s + st)) = nI ot := by rw [pu_place (by omega), pu_eq]
  have v5 : hp_u (hp_u (hp_u (hp_u (hp_u J1 298 (11 + 6 * s + k) (nI c)) 298 (5 + s) (nI (A.C.lf s - 1))) 298 (47 + (12 * s + st)) (nI (ps_gone A.W A.C s st + 1))) 298 (23 + (12 * s + st)) (nI ot)) 298 (23 + (12 * s + ot)) (nI st) 298 (23 + (12 * s + ot)) = nI st := pu_eq
  have cell : ∀ a, a ≠ 298 → hp_u (hp_u (hp_u (hp_u (hp_u J1 298 (11 + 6 * s + k) (nI c)) 298 (5 + s) (nI (A.C.lf s - 1))) 298 (47 + (12 * s + st)) (nI (ps_gone A.W A.C s st + 1))) 298 (23 + (12 * s + st)) (nI ot)) 298 (23 + (12 * s + ot)) (nI st) a = J1 a := fun a ha => by rw [pu_cell ha, pu_cell ha, pu_cell ha, pu_cell ha, pu_cell ha]
  generalize hp_u (hp_u (hp_u (hp_u (hp_u J1 298 (11 + 6 * s + k) (nI c)) 298 (5 + s) (nI (A.C.lf s - 1))) 298 (47 + (12 * s + st)) (nI (ps_gone A.W A.C s st + 1))) 298 (23 + (12 * s + st)) (nI ot)) 298 (23 + (12 * s + ot)) (nI st) = H at rr v1 v2 v3 v4 v5 cell ⊢
  refine ⟨H, by show some (H 298 (5 + s), _) = _; rw [v2], ?_, fun a ha => by rw [cell a (by omega), r3 a (by omega) (by omega), hI a ha]⟩
  refine r2.setC (fun a z1 z2 => cell a z2) (fun _ => ?_) rfl
  have mt : ∀ p, p ≠ g → p ≠ c → p ≠ st ∧ p ≠ ot := fun p q1 q2 => by rw [hst, hot]; split <;> omega
  have mg : H 298 (23 + 12 * s + g) = nI c ∧ H 298 (23 + 12 * s + c) = nI g := by
    have x4 : H 298 (23 + 12 * s + st) = nI ot := by rw [show 23 + 12 * s + st = 23 + (12 * s + st) by omega]; exact v4
    have x5 : H 298 (23 + 12 * s + ot) = nI st := by rw [show 23 + 12 * s + ot = 23 + (12 * s + ot) by omega]; exact v5
    rw [hst, hot] at x4 x5
    cases e : ps_start A.W s (nI g) with
    | true => rw [e] at x4 x5; exact ⟨x4, x5⟩
    | false => rw [e] at x4 x5; exact ⟨x5, x4⟩
  refine ⟨fun s' hs' => ?_, ?_, fun s' hs' => ?_, fun s' hs' => ?_, fun s' hs' => ?_, fun s' hs' => ?_, fun s' hs' k' hk' => ?_, fun s' hs' k' hk' => ?_, fun s' hs' k' hk' => ?_, fun s' hs' k' hk' => ?_, fun s' hs' k' hk' => ?_, fun s' hs' k' hk' => ?_, ?_⟩
  · rw [rr _ (by omega) (by omega) (by omega) (by omega) (by omega)]; exact hC.sc s' hs'
  · rw [rr _ (by omega) (by omega) (by omega) (by omega) (by omega)]; exact hC.sv
  · rw [rr _ (by omega) (by omega) (by omega) (by omega) (by omega)]; exact hC.tn s' hs'
  · show _ = nI (if s' = s then A.C.lf s' - 1 else A.C.lf s')
    by_cases e : s' = s
    · rw [if_pos e, e, v2]
    · rw [if_neg e, rr _ (by omega) (by omega) (by omega) (by omega) (by omega)]; exact hC.lf s' hs'
  · rw [rr _ (by omega) (by omega) (by omega) (by omega) (by omega), hC.fr s' hs']
    show (if A.C.fs s' = 0 then _ else nI (A.C.six s' (A.C.fs s' - 1))) = (if A.C.fs s' = 0 then _ else nI (if s' = s ∧ A.C.six s' (A.C.fs s' - 1) = g then c else A.C.six s' (A.C.fs s' - 1)))
    by_cases z : A.C.fs s' = 0
    · rw [if_pos z, if_pos z]
    · rw [if_neg z, if_neg z, if_neg]
      rintro ⟨rfl, y⟩
      have := (k3 (A.C.fs s' - 1) (by rcases w0.fs s' hs' with q | ⟨q | q | q, -⟩ <;> omega)).mp y
      exact eo.2 (by omega)
  · rw [rr _ (by omega) (by omega) (by omega) (by omega) (by omega)]; exact hC.mv s' hs'
  · show _ = (if A.C.fs s' = k' + 1 then ps_e1 (A.W.free s') else nI (if s' = s ∧ A.C.six s' k' = g then c else A.C.six s' k'))
    by_cases e : s' = s ∧ k' = k
    · obtain ⟨rfl, rfl⟩ := e
      rw [v1, if_neg eo.2, if_pos ⟨rfl, k2⟩]
    · rw [rr _ (by omega) (by omega) (by omega) (by omega) (by omega), hC.on s' hs' k' hk', if_neg (show ¬ (s' = s ∧ A.C.six s' k' = g) from fun y => by
        obtain ⟨rfl, y⟩ := y
        exact e ⟨rfl, (k3 k' hk').mp y⟩)]
      rfl
  · show _ = ps_e2 (if s' = s ∧ k' = c then some g else if s' = s ∧ k' = g then some c else A.C.mate s' k')
    by_cases e : s' = s ∧ k' = c
    · obtain ⟨rfl, rfl⟩ := e
      rw [if_pos ⟨rfl, rfl⟩, mg.2]; rfl
    · rw [if_neg e]
      by_cases e2 : s' = s ∧ k' = g
      · obtain ⟨rfl, rfl⟩ := e2
        rw [if_pos ⟨rfl, rfl⟩, mg.1]; rfl
      · rw [if_neg e2]
        by_cases e3 : s' = s
        · subst e3
          obtain ⟨m1, m2⟩ := mt k' (fun q => e2 ⟨rfl, q⟩) (fun q => e ⟨rfl, q⟩)
          rw [rr _ (by omega) (by omega) (by omega) (by omega) (by omega)]; exact hC.mate s' hs' k' hk'
        · rw [rr _ (by omega) (by omega) (by omega) (by omega) (by omega)]; exact hC.mate s' hs' k' hk'
  · show _ = nI (ps_gone A.W (A.C.setsub s g c) s' k')
    by_cases e : s' = s ∧ k' = st
    · obtain ⟨rfl, rfl⟩ := e
      rw [show 47 + 12 * s' + k' = 47 + (12 * s' + k') by omega, v3, gn1]
    · rw [gn2 s' k' hs' hk' e, rr _ (by omega) (by omega) (by omega) (by omega) (by omega)]; exact hC.gone s' hs' k' hk'
  · rw [rr _ (by omega) (by omega) (by omega) (by omega) (by omega)]; exact hC.x s' hs' k' hk'
  · rw [rr _ (by omega) (by omega) (by omega) (by omega) (by omega)]; exact hC.y s' hs' k' hk'
  · rw [rr _ (by omega) (by omega) (by omega) (by omega) (by omega)]; exact hC.svd s' hs' k' hk'
  · rw [rr _ (by omega) (by omega) (by omega) (by omega) (by omega)]; exact hC.pl
end PSF36
