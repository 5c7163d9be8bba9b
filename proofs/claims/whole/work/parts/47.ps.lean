/-! ===== undone; and the reference's keeping ===== -/
section PSR2
variable {t v w : Bool} {A : ps_A} {I : Nat → Nat → Int32} {L : Nat → Nat → Int64}
theorem cx_undo (h0 : ps_wf A) (ho : A.on = true) (hX : ps_RX t A I) (hu : A.u ≠ 0) :
    ∃ J, fX9_undo 0 (I, L, px_R t v w) = some (nI (A.u - 1), (J, L, px_R t v w)) ∧ ps_RX t (ps_pop A) J ∧ (∀ a, (a < 22 ∨ 32 < a) → a ≠ 0 → a ≠ 286 → a ≠ 288 → J a = I a) ∧ (∀ k, k ≠ 15 → k ≠ 16 → J 0 k = I 0 k) ∧ J 286 0 = 0 ∧ J 288 0 = 0 := by
  obtain ⟨np, hn, en, hP⟩ := hX.P ho
  have hu2 := h0.u
  have hlast := hP (A.u - 1) (by omega)
  rw [show (np + 20 - A.u + (A.u - 1)) % 20 = (np + 19) % 20 by omega] at hlast
  have hlt : (np + 19) % 20 < 20 := Nat.mod_lt _ (by omega)
  unfold fX9_undo
  show ∃ J, (if I 0 15 = 0 then _ else fx_let (hp_sI (I, L, px_R t v w) 0 15 (I 0 15 - 1)) _) = _ ∧ _
  rw [hX.u, if_neg (nI_ne0 (by omega) (by omega))]
  simp only [pl_let, hp_sI, pu_eq, pu_place (show ¬ (16 : Nat) = 15 by decide)]
  have e1 : nI A.u - 1 = nI (A.u - 1) := pk_sub (b := 1) (by omega)
  have e2 : I 0 16 + 20 - 1 = nI (np + 19) := by
    rw [en, show (20 : Int32) = nI 20 from rfl, nI_add]
    exact pk_sub (a := np + 20) (b := 1) (by omega)
  have er : fx_rem (nI (np + 19)) 20 = nI ((np + 19) % 20) := by
    unfold fx_rem
    rw [show (20 : Int32) = nI 20 from rfl, pk_rem (by omega) (by omega) (by omega)]
  rw [e1, e2, er, pg_pos (pi_in hlt (by omega)), pi_ix (by omega)]
  generalize hJ0 : hp_u (hp_u I 0 15 (nI (A.u - 1))) 0 16 (nI ((np + 19) % 20)) = J0
  have j0 : ∀ a, a ≠ 0 → J0 a = I a := fun a ha => by rw [← hJ0, pu_cell ha, pu_cell ha]
  have j1 : J0 0 15 = nI (A.u - 1) := by rw [← hJ0, pu_place (by decide), pu_eq]
  have j2 : J0 0 16 = nI ((np + 19) % 20) := by rw [← hJ0, pu_eq]
  have j3 : ∀ k, k ≠ 15 → k ≠ 16 → J0 0 k = I 0 k := fun k h1 h2 => by rw [← hJ0, pu_place h2, pu_place h1]
  have hl2 : ps_RC J0 (66 + 11 * ((np + 19) % 20)) (A.P (A.u - 1)) := hlast.near (fun a z1 z2 => j0 a (by omega))
  obtain ⟨J1, e3, f1, g1⟩ := cx_copy (I := J0) (L := L) (t := t) (v := v) (w := w) (c := 22) (d := 66 + 11 * ((np + 19) % 20)) (Or.inl rfl) (Or.inr ⟨_, hlt, rfl⟩) (by omega) hl2 ((h0.P ho _ (by omega)).1.mv)
  show ∃ J, fx_b1 (fX1_copyFrom 22 (px_R t v w 33 ((np + 19) % 20)) (J0, L, px_R t v w)) _ = _ ∧ _
  rw [pr_33 t v w _ hlt, e3, pb_1, cx_forget, pb_1]
  have q3 : ∀ k, hp_u (hp_u J1 286 0 0) 288 0 0 0 k = J0 0 k := fun k => by rw [pu_cell (by decide), pu_cell (by decide), f1 0 (by omega)]
  have q4 : ∀ a, a ≠ 286 → a ≠ 288 → hp_u (hp_u J1 286 0 0) 288 0 0 a = J1 a := fun a z1 z2 => by rw [pu_cell z2, pu_cell z1]
  have q5 : ∀ a, (a < 22 ∨ 32 < a) → a ≠ 0 → a ≠ 286 → a ≠ 288 → hp_u (hp_u J1 286 0 0) 288 0 0 a = I a := fun a z z1 z2 z3 => by rw [q4 a z2 z3, f1 a (by omega), j0 a z1]
  refine ⟨hp_u (hp_u J1 286 0 0) 288 0 0, ?_, ?_, q5, fun k h1 h2 => by rw [q3, j3 k h1 h2], by rw [pu_cell (by decide), pu_eq], pu_eq⟩
  · show some (hp_u (hp_u J1 286 0 0) 288 0 0 0 15, _) = _
    rw [q3, j1]
  · have hT := ps_T_le t
    have hple := (h0.P ho (A.u - 1) (by omega)).2
    refine ⟨?_, ?_, ?_, ?_, ?_, fun _ => ?_, fun _ => ?_, fun _ => ?_, fun _ => ?_, fun _ => ?_, ?_, fun _ => ?_⟩
    · rw [q5 1 (by omega) (by omega) (by omega) (by omega)]; exact hX.tz
    · intro k hk; rw [q5 2 (by omega) (by omega) (by omega) (by omega)]; exact hX.tb k hk
    · rw [q5 1 (by omega) (by omega) (by omega) (by omega)]; exact hX.fk
    · rw [q5 1 (by omega) (by omega) (by omega) (by omega)]; exact hX.fp
    · rw [q3, j3 13 (by decide) (by decide)]; exact hX.on
    · exact (hX.W ho).near (fun a z1 z2 => q5 a (by omega) (by omega) (by omega) (by omega))
    · exact g1.near (fun a z1 z2 => q4 a (by omega) (by omega))
    · intro k hk; rw [q5 19 (by omega) (by omega) (by omega) (by omega)]; exact hX.had ho k (Nat.lt_of_lt_of_le hk hple)
    · intro k hk; rw [q5 20 (by omega) (by omega) (by omega) (by omega)]; exact hX.svd ho k (Nat.lt_of_lt_of_le hk hple)
    · intro k hk; rw [q5 21 (by omega) (by omega) (by omega) (by omega)]; exact hX.svr ho k (Nat.lt_of_lt_of_le hk hple)
    · rw [q3, j1]; rfl
    · refine ⟨(np + 19) % 20, hlt, by rw [q3, j2], fun i hi => ?_⟩
      have hi : i < A.u - 1 := hi
      show ps_RC _ (66 + 11 * (((np + 19) % 20 + 20 - (A.u - 1) + i) % 20)) (A.P i)
      rw [show ((np + 19) % 20 + 20 - (A.u - 1) + i) % 20 = (np + 20 - A.u + i) % 20 by omega]
      have hl3 : (np + 20 - A.u + i) % 20 < 20 := Nat.mod_lt _ (by omega)
      exact (hP i (by omega)).near (fun a z1 z2 => q5 a (by omega) (by omega) (by omega) (by omega))
/-- the row is copied to the place behind the last -/
theorem cm_keep52 {u : Nat} (hu : u < 20) : ∀ m i n (I : Nat → Nat → Int32), i + m = 120 → m < n → I 290 22 = nI u →
    ∃ J, fX10_keeps_52 n 290 (nI i) (I, L, px_R t v w) = some (J, L, px_R t v w) ∧ J 290 22 = nI (u + 1) ∧ (∀ k, k ≠ 22 → J 290 k = I 290 k) ∧ (∀ a, a ≠ 290 → a ≠ 299 → J a = I a) ∧ (∀ j, (j < 120 * u + i ∨ 120 * u + 120 ≤ j) → J 299 j = I 299 j) ∧ (∀ k, i ≤ k → k < 120 → J 299 (120 * u + k) = I 298 k) := by
  intro m
  induction m with
  | zero =>
    intro i n I h1 h2 h3
    obtain ⟨n, rfl⟩ : ∃ n', n = n' + 1 := ⟨n - 1, by omega⟩
    unfold fX10_keeps_52
    rw [if_pos (show (120 : Int32) ≤ nI i from nI_le (a := 120) (by omega) (by omega)), pl_let]
    refine ⟨_, rfl, ?_, ?_, ?_, ?_, ?_⟩
    · rw [pu_eq]; show I 290 22 + 1 = _; rw [h3, nI_1]
    · intro k hk; exact pu_place hk
    · intro a z1 z2; exact pu_cell z1
    · intro j hj; rw [pu_cell (by decide)]
    · intro k z1 z2; omega
  | succ m ih =>
    intro i n I h1 h2 h3
    obtain ⟨n, rfl⟩ : ∃ n', n = n' + 1 := ⟨n - 1, by omega⟩
    unfold fX10_keeps_52
    rw [if_neg (show ¬ (120 : Int32) ≤ nI i from nI_ge (b := 120) (by omega) (by omega))]
    show ∃ J, fx_g (fx_in (nI i) 120) (fx_g (fx_in (120 * I 290 22 + nI i) 2400) (fx_let (hp_sI (I, L, px_R t v w) 299 (fx_ix (120 * I 290 22 + nI i)) (I 298 (fx_ix (nI i)))) _)) = _ ∧ _
    rw [h3, show (120 : Int32) = nI 120 from rfl, pk_mul, nI_add, pg_pos (pi_in (by omega) (by omega)), pg_pos (pi_in (by omega) (by omega)), pi_ix (by omega), pi_ix (by omega), pl_let, pl_let, nI_1]
    obtain ⟨J, e, q1, q2, q3, q4, q5⟩ := ih (i + 1) n (hp_u I 299 (120 * u + i) (I 298 i)) (by omega) (by omega) (by rw [pu_cell (by decide)]; exact h3)
    refine ⟨J, e, q1, ?_, ?_, ?_, ?_⟩
    · intro k hk; rw [q2 k hk, pu_cell (by decide)]
    · intro a z1 z2; rw [q3 a z1 z2, pu_cell z2]
    · intro j hj; rw [q4 j (by omega), pu_place (by omega)]
    · intro k z1 z2
      by_cases z : k = i
      · rw [z, q4 (120 * u + i) (by omega), pu_eq]
      · rw [q5 k (by omega) z2, pu_cell (by decide)]
/-- the rows go one place down -/
theorem cm_keep12 : ∀ m i n (I : Nat → Nat → Int32), i + m = 2400 → 120 ≤ i → m < n →
    ∃ J, fX10_keeps_12 n 290 (nI i) (I, L, px_R t v w) = fX10_keeps_50 290 (hp_u J 290 22 (J 290 22 - 1), L, px_R t v w) ∧ (∀ a, a ≠ 299 → J a = I a) ∧ (∀ j, j < i - 120 → J 299 j = I 299 j) ∧ (∀ j, i - 120 ≤ j → j < 2280 → J 299 j = I 299 (j + 120)) := by
  intro m
  induction m with
  | zero =>
    intro i n I h1 h2 h3
    obtain ⟨n, rfl⟩ : ∃ n', n = n' + 1 := ⟨n - 1, by omega⟩
    unfold fX10_keeps_12
    rw [if_pos (show (2400 : Int32) ≤ nI i from nI_le (a := 2400) (by omega) (by omega)), pl_let]
    exact ⟨I, rfl, fun a _ => rfl, fun j _ => rfl, fun j z1 z2 => by omega⟩
  | succ m ih =>
    intro i n I h1 h2 h3
    obtain ⟨n, rfl⟩ : ∃ n', n = n' + 1 := ⟨n - 1, by omega⟩
    unfold fX10_keeps_12
    rw [if_neg (show ¬ (2400 : Int32) ≤ nI i from nI_ge (b := 2400) (by omega) (by omega)), show (120 : Int32) = nI 120 from rfl, pk_sub h2, pg_pos (pi_in (by omega) (by omega)), pg_pos (pi_in (by omega) (by omega)), pi_ix (by omega), pi_ix (by omega), pl_let, pl_let, nI_1]
    obtain ⟨J, e, q1, q2, q3⟩ := ih (i + 1) n (hp_u I 299 (i - 120) (I 299 i)) (by omega) (by omega) (by omega)
    refine ⟨J, e, ?_, ?_, ?_⟩
    · intro a z; rw [q1 a z, pu_cell z]
    · intro j hj; rw [q2 j (by omega), pu_place (by omega)]
    · intro j z1 z2
      by_cases z : j = i - 120
      · rw [z, q2 (i - 120) (by omega), pu_eq, Nat.sub_add_cancel h2]
      · rw [q3 j (by omega) z2, pu_place (by omega)]
theorem ps_cnt_of {B : ps_A} (h1 : B.had = A.had) (h2 : B.svd = A.svd) (h3 : B.svr = A.svr) (s p : Nat) : ∀ n, ps_cnt B s p n = ps_cnt A s p n
  | 0 => rfl
  | n + 1 => by
    unfold ps_cnt
    rw [ps_cnt_of h1 h2 h3 s p n, h1, h2, h3]
theorem ps_MR.of {B : ps_A} {C : ps_C} {r : Nat → Int32} (h0 : B.W = A.W) (h1 : B.had = A.had) (h2 : B.svd = A.svd) (h3 : B.svr = A.svr) (h : ps_MR A C r) : ps_MR B C r := by
  unfold ps_MR at h ⊢
  rw [h0]
  obtain ⟨g1, g2, g3, g4, g5, g6, g7, g8, g9, g10, g11, g12, g13⟩ := h
  exact ⟨g1, g2, g3, g4, g5, g6, g7, g8, g9, g10, g11, fun s hs p hp => by rw [ps_cnt_of h1 h2 h3]; exact g12 s hs p hp, g13⟩
theorem cm_keeps (h0 : ps_wf A) (ho : A.on = true) (hM : ps_MX A I) :
    ∃ J, fX10_keeps 290 (I, L, px_R t v w) = some (J, L, px_R t v w) ∧ ps_MX (ps_push A) J ∧ (∀ a, a ≠ 290 → a ≠ 299 → J a = I a) ∧ (∀ k, k ≠ 22 → J 290 k = I 290 k) := by
  have hu := h0.u
  have asm : ∀ J, J 290 22 = nI (ps_push A).u → (∀ k, k ≠ 22 → J 290 k = I 290 k) → (∀ a, a ≠ 290 → a ≠ 299 → J a = I a) → (∀ i, i < (ps_push A).u → ps_MR A ((ps_push A).P i) (fun j => J 299 (120 * i + j))) → ps_MX (ps_push A) J := by
    intro J q1 q2 q3 q4
    refine ⟨?_, ?_, ?_, ?_, ?_, q1, fun _ => ?_, fun _ => ?_, fun _ i hi => ps_MR.of (A := A) (B := ps_push A) rfl rfl rfl rfl (q4 i hi), fun _ => ?_, fun _ => ?_, fun _ => ?_⟩
    · rw [q2 2 (by decide)]; exact hM.tz
    · intro k hk; rw [q3 291 (by decide) (by decide)]; exact hM.tb k hk
    · rw [q2 16 (by decide)]; exact hM.fk
    · rw [q2 17 (by decide)]; exact hM.fp
    · rw [q2 7 (by decide)]; exact hM.on
    · have h9 := hM.W ho
      show ps_MW J A.W
      unfold ps_MW at h9 ⊢
      rw [q3 292 (by decide) (by decide), q3 295 (by decide) (by decide)]
      exact h9
    · rw [q3 298 (by decide) (by decide)]; exact ps_MR.of (A := A) (B := ps_push A) rfl rfl rfl rfl (hM.C ho)
    · rw [q3 300 (by decide) (by decide)]; exact hM.had ho
    · rw [q3 300 (by decide) (by decide)]; exact hM.svd ho
    · rw [q3 300 (by decide) (by decide)]; exact hM.svr ho
  unfold fX10_keeps
  show ∃ J, (if I 290 22 = 20 then fX10_keeps_12 fx_N 290 (nI 120) (I, L, px_R t v w) else fX10_keeps_50 290 (I, L, px_R t v w)) = _ ∧ _
  rw [hM.u]
  have ext : ∀ {C : ps_C} {r r2 : Nat → Int32}, (∀ j, j < 120 → r2 j = r j) → ps_MR A C r → ps_MR A C r2 := by
    intro C r r2 e h
    unfold ps_MR at h ⊢
    obtain ⟨h1, h2, h3, h4, h5, h6, h7, h8, h9, h10, h11, h12, h13⟩ := h
    refine ⟨?_, ?_, ?_, ?_, ?_, ?_, ?_, ?_, ?_, ?_, ?_, ?_, ?_⟩
    · intro s hs; rw [e _ (by omega)]; exact h1 s hs
    · rw [e _ (by omega)]; exact h2
    · intro s hs; rw [e _ (by omega)]; exact h3 s hs
    · intro s hs; rw [e _ (by omega)]; exact h4 s hs
    · intro s hs; rw [e _ (by omega)]; exact h5 s hs
    · intro s hs; rw [e _ (by omega)]; exact h6 s hs
    · intro s hs k hk; rw [e _ (by omega)]; exact h7 s hs k hk
    · intro s hs k hk; rw [e _ (by omega)]; exact h8 s hs k hk
    · intro s hs k hk; rw [e _ (by omega)]; exact h9 s hs k hk
    · intro s hs k hk; rw [e _ (by omega)]; exact h10 s hs k hk
    · intro s hs k hk; rw [e _ (by omega)]; exact h11 s hs k hk
    · intro s hs k hk; rw [e _ (by omega)]; exact h12 s hs k hk
    · rw [e _ (by omega)]; exact h13
  by_cases c : A.u = 20
  · rw [if_pos (by rw [c]; rfl)]
    obtain ⟨J1, e1, a1, a2, a3⟩ := cm_keep12 (t := t) (v := v) (w := w) (L := L) 2280 120 fx_N I (by omega) (by omega) (by decide)
    obtain ⟨J, e2, b1, b2, b3, b4, b5⟩ := cm_keep52 (t := t) (v := v) (w := w) (L := L) (u := 19) (by omega) 120 0 fx_N (hp_u J1 290 22 (J1 290 22 - 1)) (by omega) (by decide) (by
      rw [pu_eq, a1 290 (by decide), hM.u, c]; rfl)
    refine ⟨J, e1.trans e2, ?_, ?_, ?_⟩
    · refine asm J ?_ ?_ ?_ ?_
      · rw [b1]; show _ = nI (if A.u < 20 then A.u + 1 else 20); rw [if_neg (by omega)]
      · intro k hk; rw [b2 k hk, pu_place hk, a1 290 (by decide)]
      · intro a z1 z2; rw [b3 a z1 z2, pu_cell z1, a1 a z2]
      · intro i hi
        have hi : i < (if A.u < 20 then A.u + 1 else 20) := hi
        rw [if_neg (by omega)] at hi
        show ps_MR A ((if A.u < 20 then (fun i => if i = A.u then A.C else A.P i) else (fun i => if i = 19 then A.C else A.P (i + 1))) i) _
        rw [if_neg (by omega)]
        by_cases z : i = 19
        · subst z
          rw [if_pos rfl]
          refine ext (fun j hj => ?_) (hM.C ho)
          show J 299 (120 * 19 + j) = _
          rw [b5 j (by omega) hj, pu_cell (by decide), a1 298 (by decide)]
        · rw [if_neg z]
          refine ext (fun j hj => ?_) (hM.P ho (i + 1) (by omega))
          show J 299 (120 * i + j) = I 299 (120 * (i + 1) + j)
          rw [b4 _ (by omega), pu_cell (by decide), a3 _ (by omega) (by omega), show 120 * (i + 1) + j = 120 * i + j + 120 by omega]
    · intro a z1 z2; rw [b3 a z1 z2, pu_cell z1, a1 a z2]
    · intro k hk; rw [b2 k hk, pu_place hk, a1 290 (by decide)]
  · rw [if_neg (show ¬ nI A.u = (20 : Int32) from fun q => c ((nI_eq (by omega) (by omega)).mp (show nI A.u = nI 20 from q)))]
    obtain ⟨J, e2, b1, b2, b3, b4, b5⟩ := cm_keep52 (t := t) (v := v) (w := w) (L := L) (u := A.u) (by omega) 120 0 fx_N I (by omega) (by decide) hM.u
    refine ⟨J, e2, ?_, b3, b2⟩
    refine asm J ?_ b2 b3 ?_
    · rw [b1]; show _ = nI (if A.u < 20 then A.u + 1 else 20); rw [if_pos (by omega)]
    · intro i hi
      have hi : i < (if A.u < 20 then A.u + 1 else 20) := hi
      rw [if_pos (by omega)] at hi
      show ps_MR A ((if A.u < 20 then (fun i => if i = A.u then A.C else A.P i) else (fun i => if i = 19 then A.C else A.P (i + 1))) i) _
      rw [if_pos (by omega)]
      by_cases z : i = A.u
      · rw [if_pos z]
        refine ext (fun j hj => ?_) (hM.C ho)
        show J 299 (120 * i + j) = _
        rw [z, b5 j (by omega) hj]
      · rw [if_neg z]
        refine ext (fun j hj => ?_) (hM.P ho i (by omega))
        show J 299 (120 * i + j) = I 299 (120 * i + j)
        rw [b4 _ (by omega)]
end PSR2
