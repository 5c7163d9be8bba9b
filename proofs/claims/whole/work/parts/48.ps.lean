/-! ===== the reference's undoing; what stays well-formed ===== -/
theorem ps_MR.ext {A : ps_A} {C : ps_C} {r r2 : Nat → Int32} (e : ∀ j, j < 120 → r2 j = r j) (h : ps_MR A C r) : ps_MR A C r2 := by
  unfold ps_MR at h ⊢
  obtain ⟨h1, h2, h3, h4, h5, h6, h7, h8, h9, h10, h11, h12, h13⟩ := h
  refine ⟨?_, ?_, ?_, ?_, ?_, ?_, ?_, ?_, ?_, ?_, ?_, ?_, ?_⟩
  · intro s hs; rw [e _ (by omega)]; exact h1 s hs
  · rw [e _ (by omega)]; exact h2
  · intro s hs; rw [e _ (by omega)]; exact h3 s hs
  · intro s hs; rw [e _ (by omega)]; exact h4 s hs
  · intro s hs; rw [e _ (by omega)]; exact h5 s hs
  · intro s hs; rw [e _ (by omega)]; exact h6 s hs
  · intro s hs k hk; rw [e _ (by omega)]; exact h7 s hs k hk
  · intro s hs k hk; rw [e _ (by omega)]; exact h8 s hs k hk
  · intro s hs k hk; rw [e _ (by omega)]; exact h9 s hs k hk
  · intro s hs k hk; rw [e _ (by omega)]; exact h10 s hs k hk
  · intro s hs k hk; rw [e _ (by omega)]; exact h11 s hs k hk
  · intro s hs k hk; rw [e _ (by omega)]; exact h12 s hs k hk
  · rw [e _ (by omega)]; exact h13
section PSS
variable {t v w : Bool} {A : ps_A} {I : Nat → Nat → Int32} {L : Nat → Nat → Int64}
theorem cm_undo26 {u : Nat} (hu : u < 20) : ∀ m i n (I : Nat → Nat → Int32), i + m = 120 → m < n → I 290 22 = nI u →
    ∃ J, fX10_undo_26 n 290 (nI i) (I, L, px_R t v w) = some (nI u, (J, L, px_R t v w)) ∧ (∀ a, a ≠ 298 → J a = I a) ∧ (∀ k, k < i → J 298 k = I 298 k) ∧ (∀ k, i ≤ k → k < 120 → J 298 k = I 299 (120 * u + k)) := by
  intro m
  induction m with
  | zero =>
    intro i n I h1 h2 h3
    obtain ⟨n, rfl⟩ : ∃ n', n = n' + 1 := ⟨n - 1, by omega⟩
    unfold fX10_undo_26
    rw [if_pos (show (120 : Int32) ≤ nI i from nI_le (a := 120) (by omega) (by omega))]
    refine ⟨I, ?_, fun a _ => rfl, fun k _ => rfl, fun k z1 z2 => by omega⟩
    show some (I 290 22, _) = _
    rw [h3]
  | succ m ih =>
    intro i n I h1 h2 h3
    obtain ⟨n, rfl⟩ : ∃ n', n = n' + 1 := ⟨n - 1, by omega⟩
    unfold fX10_undo_26
    rw [if_neg (show ¬ (120 : Int32) ≤ nI i from nI_ge (b := 120) (by omega) (by omega))]
    show ∃ J, fx_g (fx_in (120 * I 290 22 + nI i) 2400) (fx_g (fx_in (nI i) 120) (fx_let (hp_sI (I, L, px_R t v w) 298 (fx_ix (nI i)) (I 299 (fx_ix (120 * I 290 22 + nI i)))) _)) = _ ∧ _
    rw [h3, show (120 : Int32) = nI 120 from rfl, pk_mul, nI_add, pg_pos (pi_in (by omega) (by omega)), pg_pos (pi_in (by omega) (by omega)), pi_ix (by omega), pi_ix (by omega), pl_let, pl_let, nI_1]
    obtain ⟨J, e, q1, q2, q3⟩ := ih (i + 1) n (hp_u I 298 i (I 299 (120 * u + i))) (by omega) (by omega) (by rw [pu_cell (by decide)]; exact h3)
    refine ⟨J, e, ?_, ?_, ?_⟩
    · intro a z; rw [q1 a z, pu_cell z]
    · intro k hk; rw [q2 k (by omega), pu_place (by omega)]
    · intro k z1 z2
      by_cases z : k = i
      · rw [z, q2 i (by omega), pu_eq]
      · rw [q3 k (by omega) z2, pu_cell (by decide)]
theorem cm_undo (h0 : ps_wf A) (ho : A.on = true) (hM : ps_MX A I) (hu : A.u ≠ 0) :
    ∃ J, fX10_undo 290 (I, L, px_R t v w) = some (nI (A.u - 1), (J, L, px_R t v w)) ∧ ps_MX (ps_pop A) J ∧ (∀ a, a ≠ 290 → a ≠ 298 → J a = I a) := by
  have hu2 := h0.u
  have hM := hM.flag (z := 0)
  unfold fX10_undo
  rw [pl_let]
  show ∃ J, (if hp_u I 290 0 0 290 22 = 0 then _ else fx_let (hp_sI (hp_u I 290 0 0, L, px_R t v w) 290 22 (hp_u I 290 0 0 290 22 - 1)) _) = _ ∧ _
  rw [hM.u, if_neg (nI_ne0 (by omega) (by omega)), pl_let, show nI A.u - 1 = nI (A.u - 1) from pk_sub (b := 1) (by omega)]
  obtain ⟨J, e, q1, q2, q3⟩ := cm_undo26 (t := t) (v := v) (w := w) (L := L) (u := A.u - 1) (by omega) 120 0 fx_N (hp_u (hp_u I 290 0 0) 290 22 (nI (A.u - 1))) (by omega) (by decide) pu_eq
  have p1 : ∀ k, k ≠ 22 → J 290 k = hp_u I 290 0 0 290 k := fun k hk => by rw [q1 290 (by decide), pu_place hk]
  have p2 : ∀ a, a ≠ 290 → a ≠ 298 → J a = hp_u I 290 0 0 a := fun a z1 z2 => by rw [q1 a z2, pu_cell z1]
  have hple := (h0.P ho (A.u - 1) (by omega)).2
  refine ⟨J, e, ⟨?_, ?_, ?_, ?_, ?_, ?_, fun _ => ?_, fun _ => ?_, fun _ i hi => ?_, fun _ k hk => ?_, fun _ k hk => ?_, fun _ k hk => ?_⟩, fun a z1 z2 => by rw [p2 a z1 z2, pu_cell z1]⟩
  · rw [p1 2 (by decide)]; exact hM.tz
  · intro k hk; rw [p2 291 (by decide) (by decide)]; exact hM.tb k hk
  · rw [p1 16 (by decide)]; exact hM.fk
  · rw [p1 17 (by decide)]; exact hM.fp
  · rw [p1 7 (by decide)]; exact hM.on
  · rw [q1 290 (by decide), pu_eq]; rfl
  · have h9 := hM.W ho
    show ps_MW J A.W
    unfold ps_MW at h9 ⊢
    rw [p2 292 (by decide) (by decide), p2 295 (by decide) (by decide)]
    exact h9
  · refine ps_MR.of (A := A) (B := ps_pop A) rfl rfl rfl rfl (ps_MR.ext (fun j hj => ?_) (hM.P ho (A.u - 1) (by omega)))
    rw [q3 j (by omega) hj, pu_cell (by decide)]
  · have hi : i < A.u - 1 := hi
    refine ps_MR.of (A := A) (B := ps_pop A) rfl rfl rfl rfl (ps_MR.ext (fun j hj => ?_) (hM.P ho i (by omega)))
    show J 299 (120 * i + j) = _
    rw [p2 299 (by decide) (by decide)]
  · rw [p2 300 (by decide) (by decide)]; exact hM.had ho k (Nat.lt_of_lt_of_le hk hple)
  · rw [p2 300 (by decide) (by decide)]; exact hM.svd ho k (Nat.lt_of_lt_of_le hk hple)
  · rw [p2 300 (by decide) (by decide)]; exact hM.svr ho k (Nat.lt_of_lt_of_le hk hple)
theorem ps_wf_pop (h0 : ps_wf A) (ho : A.on = true) (hu : A.u ≠ 0) : ps_wf (ps_pop A) := by
  have h1 := h0.P ho (A.u - 1) (by omega)
  have hu2 := h0.u
  refine ⟨h0.tz, h0.tb, h0.fk, ?_, fun q => ?_, fun _ => h0.W ho, fun _ => h1.1, fun _ i hi => ?_, fun _ i j hij hj => ?_, fun _ k hk => ?_, fun _ k hk => ?_, fun _ k hk => ?_⟩
  · show A.u - 1 ≤ 20; omega
  · exact absurd (show A.on = false from q) (by rw [ho]; decide)
  · have hi : i < A.u - 1 := hi
    exact ⟨(h0.P ho i (by omega)).1, h0.mono ho i (A.u - 1) (by omega) (by omega)⟩
  · have hj : j < A.u - 1 := hj
    exact h0.mono ho i j hij (by omega)
  · exact h0.had ho k (Nat.lt_of_lt_of_le hk h1.2)
  · exact h0.svd ho k (Nat.lt_of_lt_of_le hk h1.2)
  · exact h0.svr ho k (Nat.lt_of_lt_of_le hk h1.2)
theorem ps_wf_push (h0 : ps_wf A) (ho : A.on = true) : ps_wf (ps_push A) := by
  have hu2 := h0.u
  have eP : ∀ i, (ps_push A).P i = (if A.u < 20 then (fun i => if i = A.u then A.C else A.P i) else (fun i => if i = 19 then A.C else A.P (i + 1))) i := fun _ => rfl
  have eu : (ps_push A).u = if A.u < 20 then A.u + 1 else 20 := rfl
  have key : ∀ i, i < (ps_push A).u → ((ps_push A).P i = A.C ∧ i + 1 = (ps_push A).u) ∨ ∃ j, j < A.u ∧ (ps_push A).P i = A.P j ∧ (if A.u < 20 then i else i + 1) = j := by
    intro i hi
    rw [eu] at hi ⊢
    rw [eP]
    by_cases c : A.u < 20
    · rw [if_pos c] at hi
      rw [if_pos c, if_pos c]
      by_cases z : i = A.u
      · exact Or.inl ⟨if_pos z, by omega⟩
      · exact Or.inr ⟨i, by omega, if_neg z, if_pos c⟩
    · rw [if_neg c] at hi
      rw [if_neg c, if_neg c]
      by_cases z : i = 19
      · exact Or.inl ⟨if_pos z, by omega⟩
      · exact Or.inr ⟨i + 1, by omega, if_neg z, if_neg c⟩
  refine ⟨h0.tz, h0.tb, h0.fk, ?_, fun q => ?_, fun _ => h0.W ho, fun _ => h0.C ho, fun _ i hi => ?_, fun _ i j hij hj => ?_, fun _ k hk => h0.had ho k hk, fun _ k hk => h0.svd ho k hk, fun _ k hk => h0.svr ho k hk⟩
  · rw [eu]; split <;> omega
  · exact absurd (show A.on = false from q) (by rw [ho]; decide)
  · rcases key i hi with ⟨e, -⟩ | ⟨j, hj, e, -⟩
    · rw [e]; exact ⟨h0.C ho, Nat.le_refl _⟩
    · rw [e]; exact h0.P ho j hj
  · rcases key j hj with ⟨e, -⟩ | ⟨j2, hj2, e, f⟩
    · rw [e]
      rcases key i (by omega) with ⟨e3, -⟩ | ⟨i2, hi2, e3, -⟩
      · rw [e3]; exact Nat.le_refl _
      · rw [e3]; exact (h0.P ho i2 hi2).2
    · rw [e]
      rcases key i (by omega) with ⟨e3, f3⟩ | ⟨i2, hi2, e3, f3⟩
      · exfalso
        rw [eu] at f3 hj
        split at f3 <;> split at f <;> split at hj <;> omega
      · rw [e3]
        refine h0.mono ho i2 j2 ?_ hj2
        split at f3 <;> split at f <;> omega
end PSS
