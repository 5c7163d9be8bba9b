/-! ===== one goes, one comes (the class's side) ===== -/
def ps_C.setsub (C : ps_C) (s g c : Nat) : ps_C := ps_C.mk (fun s' k' => if s' = s ∧ C.six s' k' = g then c else C.six s' k') (fun s' p => if s' = s ∧ p = c then some g else if s' = s ∧ p = g then some c else C.mate s' p) C.x C.y C.fs C.mv (fun s' => if s' = s then C.lf s' - 1 else C.lf s') C.tn C.sc C.sv C.pl
def ps_sub (A : ps_A) (s g c : Nat) : ps_A := (ps_push A).setC (A.C.setsub s g c)
section PSY
variable {t v w : Bool} {A : ps_A} {I J : Nat → Nat → Int32} {L : Nat → Nat → Int64}
theorem ps_judge0 {s g c : Nat} (h : ps_judge A s g c = 0) : ps_over A = false ∧ A.C.lf s ≠ 0 ∧ A.W.free s ≠ some g ∧ ps_onc A.W A.C s g ≠ 0 ∧ A.W.free s ≠ some c ∧ ps_spot A.C s (nI c) = 0 ∧ ps_fit A s g c = true := by
  unfold ps_judge at h
  cases e : ps_over A with
  | true => rw [e, if_pos rfl] at h; exact absurd h (by decide)
  | false =>
    rw [e, if_neg (by decide)] at h
    by_cases c1 : A.C.lf s = 0
    · rw [if_pos c1] at h; exact absurd h (by decide)
    rw [if_neg c1] at h
    by_cases c2 : A.W.free s = some g ∨ ps_onc A.W A.C s g = 0
    · rw [if_pos c2] at h; exact absurd h (by decide)
    rw [if_neg c2] at h
    by_cases c3 : A.W.free s = some c ∨ ps_spot A.C s (nI c) ≠ 0
    · rw [if_pos c3] at h; exact absurd h (by decide)
    rw [if_neg c3] at h
    cases e2 : ps_fit A s g c with
    | false => rw [e2, if_neg (by decide)] at h; exact absurd h (by decide)
    | true =>
      refine ⟨rfl, c1, fun q => c2 (Or.inl q), fun q => c2 (Or.inr q), fun q => c3 (Or.inl q), ?_, rfl⟩
      by_cases z : ps_spot A.C s (nI c) = 0
      · exact z
      · exact absurd (Or.inr z) c3
theorem ps_onc_spot {s g : Nat} (h1 : A.W.free s ≠ some g) (h2 : ps_onc A.W A.C s g ≠ 0) : ps_spot A.C s (nI g) ≠ 0 := by
  intro q
  apply h2
  unfold ps_onc
  rw [if_neg h1, q]
  split <;> rfl
theorem cx_sub (h0 : ps_wf A) (ho : A.on = true) (hX : ps_RX t A I) {s g c : Nat} (hs : s < 2) (hg : g < A.W.size s) (hc : c < A.W.size s) (hj : ps_judge A s g c = 0) :
    ∃ J, fX9_sub 0 (nI s) (nI g) (nI c) (I, L, px_R t v w) = some (nI (A.C.lf s - 1), (J, L, px_R t v w)) ∧ ps_RX t (ps_sub A s g c) J ∧ (∀ a, (a < 22 ∨ 32 < a) → (a < 66 ∨ 286 ≤ a) → a ≠ 0 → a ≠ 286 → a ≠ 288 → J a = I a) ∧ (∀ k, k ≠ 15 → k ≠ 16 → J 0 k = I 0 k) ∧ J 286 0 = 0 ∧ J 288 0 = 0 := by
  have hz := (h0.W ho).size s hs
  have w0 := h0.C ho
  obtain ⟨j1, j2, j3, j4, j5, j6, j7⟩ := ps_judge0 hj
  have hlf := w0.lf s hs
  obtain ⟨J1, r1, r2, r3, r4, r5, r6⟩ := cx_remember (L := L) (v := v) (w := w) h0 ho hX
  have hC : ps_RC J1 22 (ps_push A).C := r2.C (show (ps_push A).on = true from ho)
  obtain ⟨i, -, hi, hi2, hi3⟩ := ps_at_some (ps_onc_spot j3 j4)
  have hi4 : ps_spot A.C s (nI g) = i + 1 := hi2
  have hi5 : A.C.six s i = g := (nI_eq (by have := w0.six s hs i (by omega); omega) (by omega)).mp hi3
  unfold fX9_sub
  rw [cx_judge h0 hX, pb_2, ps_may_eq h0 ho hs hg hc, hj, if_pos rfl, r1, pb_1, show (J1, L, px_R t v w).2.2 0 3 = 22 from rfl, cx_team hs, pb_2]
  unfold fX6_exchange fX6_exchange_19
  rw [cx_spotOf (A := ps_push A) hC hs, pb_2, show ps_spot (ps_push A).C s (nI g) = i + 1 from hi4, if_neg (nI_ne0 (by omega) (by omega)), nI_pred, pg_pos (pi_in (by omega) (by omega)), pi_ix (by omega), pl_let, pg_pos (pi_in (by omega) (by omega)), pi_ix (by omega), pl_let, pg_pos (pi_in (by omega) (by omega)), pi_ix (by omega), pl_let, pl_let, pb_1]
  show ∃ J, some (hp_u (hp_u (hp_u (hp_u J1 (px_R t v w (22 + 5 * s + 1) 0) i (nI c)) (px_R t v w (22 + 5 * s + 1) 1) g (nI c)) (px_R t v w (22 + 5 * s + 1) 1) c (nI g)) (22 + 5 * s + 1) 6 (hp_u (hp_u (hp_u J1 (px_R t v w (22 + 5 * s + 1) 0) i (nI c)) (px_R t v w (22 + 5 * s + 1) 1) g (nI c)) (px_R t v w (22 + 5 * s + 1) 1) c (nI g) (22 + 5 * s + 1) 6 - 1) (22 + 5 * s + 1) 6, (hp_u (hp_u (hp_u (hp_u J1 (px_R t v w (22 + 5 * s + 1) 0) i (nI c)) (px_R t v w (22 + 5 * s + 1) 1) g (nI c)) (px_R t v w (22 + 5 * s + 1) 1) c (nI g)) (22 + 5 * s + 1) 6 (hp_u (hp_u (hp_u J1 (px_R t v w (22 + 5 * s + 1) 0) i (nI c)) (px_R t v w (22 + 5 * s + 1) 1) g (nI c)) (px_R t v w (22 + 5 * s + 1) 1) c (nI g) (22 + 5 * s + 1) 6 - 1), L, px_R t v w)) = _ ∧ _
  rw [pr_s hs (by omega), pr_s hs (by omega)]
  have el : hp_u (hp_u (hp_u J1 (22 + 5 * s + (0 + 2)) i (nI c)) (22 + 5 * s + (1 + 2)) g (nI c)) (22 + 5 * s + (1 + 2)) c (nI g) (22 + 5 * s + 1) 6 - 1 = nI (A.C.lf s - 1) := by
    rw [pu_cell (by omega), pu_cell (by omega), pu_cell (by omega), hC.lf s hs]
    exact pk_sub (b := 1) (by show 1 ≤ A.C.lf s; omega)
  rw [el, pu_eq]
  have q : ∀ a, a ≠ 22 + 5 * s + 1 → a ≠ 22 + 5 * s + 2 → a ≠ 22 + 5 * s + 3 → hp_u (hp_u (hp_u (hp_u J1 (22 + 5 * s + (0 + 2)) i (nI c)) (22 + 5 * s + (1 + 2)) g (nI c)) (22 + 5 * s + (1 + 2)) c (nI g)) (22 + 5 * s + 1) 6 (nI (A.C.lf s - 1)) a = J1 a := fun a z1 z2 z3 => by rw [pu_cell (by omega), pu_cell (by omega), pu_cell (by omega), pu_cell (by omega)]
  have q6 : ∀ k, k ≠ 6 → hp_u (hp_u (hp_u (hp_u J1 (22 + 5 * s + (0 + 2)) i (nI c)) (22 + 5 * s + (1 + 2)) g (nI c)) (22 + 5 * s + (1 + 2)) c (nI g)) (22 + 5 * s + 1) 6 (nI (A.C.lf s - 1)) (22 + 5 * s + 1) k = J1 (22 + 5 * s + 1) k := fun k z => by rw [pu_place z, pu_cell (by omega), pu_cell (by omega), pu_cell (by omega)]
  refine ⟨_, rfl, ?_, fun a z1 z2 z3 z4 z5 => by rw [q a (by omega) (by omega) (by omega), r3 a z2 z3 z4 z5], fun k z1 z2 => by rw [q 0 (by omega) (by omega) (by omega), r4 k z1 z2], by rw [q 286 (by omega) (by omega) (by omega), r5], by rw [q 288 (by omega) (by omega) (by omega), r6]⟩
  refine r2.setC (fun a z => q a (by omega) (by omega) (by omega)) (fun _ => ?_) rfl
  have fld : ∀ s', s' < 2 → ∀ k, k ≠ 6 → hp_u (hp_u (hp_u (hp_u J1 (22 + 5 * s + (0 + 2)) i (nI c)) (22 + 5 * s + (1 + 2)) g (nI c)) (22 + 5 * s + (1 + 2)) c (nI g)) (22 + 5 * s + 1) 6 (nI (A.C.lf s - 1)) (22 + 5 * s' + 1) k = J1 (22 + 5 * s' + 1) k := fun s' hs' k hk => by
    by_cases e : s' = s
    · rw [e]; exact q6 k hk
    · rw [q _ (by omega) (by omega) (by omega)]
  refine ⟨fun s' hs' k' hk' => ?_, fun s' hs' k' hk' => ?_, fun s' hs' k' hk' => ?_, fun s' hs' k' hk' => ?_, fun s' hs' => ?_, fun s' hs' => ?_, fun s' hs' => ?_, fun s' hs' => ?_, fun s' hs' => ?_, ?_, ?_⟩
  · show _ = nI (if s' = s ∧ A.C.six s' k' = g then c else A.C.six s' k')
    by_cases e : s' = s
    · subst e
      rw [pu_cell (by omega), pu_cell (by omega), pu_cell (by omega)]
      by_cases d : k' = i
      · rw [d, if_pos ⟨rfl, hi5⟩]; exact pu_eq
      · rw [if_neg (fun z => d (w0.inj s' hs k' i hk' (by omega) (by rw [z.2, hi5]))), pu_place d]; exact hC.six s' hs' k' hk'
    · rw [if_neg (fun z => e z.1), q _ (by omega) (by omega) (by omega)]; exact hC.six s' hs' k' hk'
  · show _ = ps_e1 (if s' = s ∧ k' = c then some g else if s' = s ∧ k' = g then some c else A.C.mate s' k')
    by_cases e : s' = s
    · subst e
      rw [pu_cell (by omega)]
      by_cases d : k' = c
      · rw [if_pos ⟨rfl, d⟩, d]; exact pu_eq
      · rw [if_neg (fun z => d z.2), pu_place d]
        by_cases d2 : k' = g
        · rw [if_pos ⟨rfl, d2⟩, d2]; exact pu_eq
        · rw [if_neg (fun z => d2 z.2), pu_place d2, pu_cell (by omega)]; exact hC.mate s' hs' k' hk'
    · rw [if_neg (fun z => e z.1), if_neg (fun z => e z.1), q _ (by omega) (by omega) (by omega)]; exact hC.mate s' hs' k' hk'
  · rw [q _ (by omega) (by omega) (by omega)]; exact hC.x s' hs' k' hk'
  · rw [q _ (by omega) (by omega) (by omega)]; exact hC.y s' hs' k' hk'
  · rw [fld s' hs' 4 (by decide)]; exact hC.fs s' hs'
  · rw [fld s' hs' 5 (by decide)]; exact hC.mv s' hs'
  · show _ = nI (if s' = s then A.C.lf s' - 1 else A.C.lf s')
    by_cases e : s' = s
    · rw [if_pos e, e]; exact pu_eq
    · rw [if_neg e, q _ (by omega) (by omega) (by omega)]; exact hC.lf s' hs'
  · rw [fld s' hs' 7 (by decide)]; exact hC.tn s' hs'
  · rw [fld s' hs' 8 (by decide)]; exact hC.sc s' hs'
  · rw [q _ (by omega) (by omega) (by omega)]; exact hC.sv
  · rw [q _ (by omega) (by omega) (by omega)]; exact hC.pl
end PSY
