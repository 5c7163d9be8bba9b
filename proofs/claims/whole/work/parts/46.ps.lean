/-! ===== what is remembered, and undone (the class's side) ===== -/
def ps_A.setC (A : ps_A) (C : ps_C) : ps_A := ps_A.mk A.tz A.tb A.fk A.fp A.on A.W C A.u A.P A.had A.svd A.svr
def ps_push (A : ps_A) : ps_A := ps_A.mk A.tz A.tb A.fk A.fp A.on A.W A.C (if A.u < 20 then A.u + 1 else 20) (if A.u < 20 then (fun i => if i = A.u then A.C else A.P i) else (fun i => if i = 19 then A.C else A.P (i + 1))) A.had A.svd A.svr
def ps_pop (A : ps_A) : ps_A := ps_A.mk A.tz A.tb A.fk A.fp A.on A.W (A.P (A.u - 1)) (A.u - 1) A.P A.had A.svd A.svr
theorem pr_33 : ∀ t v w : Bool, ∀ k, k < 20 → px_R t v w 33 k = 66 + 11 * k := by decide +kernel
theorem ps_RC.near {I J : Nat → Nat → Int32} {c : Nat} {C : ps_C} (e : ∀ a, c ≤ a → a ≤ c + 10 → J a = I a) (h : ps_RC I c C) : ps_RC J c C := by
  unfold ps_RC at h ⊢
  obtain ⟨h1, h2, h3, h4, h5, h6, h7, h8, h9, h10, h11⟩ := h
  refine ⟨?_, ?_, ?_, ?_, ?_, ?_, ?_, ?_, ?_, ?_, ?_⟩
  · intro s hs k hk; rw [e _ (by omega) (by omega)]; exact h1 s hs k hk
  · intro s hs k hk; rw [e _ (by omega) (by omega)]; exact h2 s hs k hk
  · intro s hs k hk; rw [e _ (by omega) (by omega)]; exact h3 s hs k hk
  · intro s hs k hk; rw [e _ (by omega) (by omega)]; exact h4 s hs k hk
  · intro s hs; rw [e _ (by omega) (by omega)]; exact h5 s hs
  · intro s hs; rw [e _ (by omega) (by omega)]; exact h6 s hs
  · intro s hs; rw [e _ (by omega) (by omega)]; exact h7 s hs
  · intro s hs; rw [e _ (by omega) (by omega)]; exact h8 s hs
  · intro s hs; rw [e _ (by omega) (by omega)]; exact h9 s hs
  · rw [e _ (by omega) (by omega)]; exact h10
  · rw [e _ (by omega) (by omega)]; exact h11
theorem ps_RW.near {I J : Nat → Nat → Int32} {T : Nat} {W : ps_W} (e : ∀ a, T ≤ a → a ≤ T + 12 → J a = I a) (h : ps_RW I T W) : ps_RW J T W := by
  unfold ps_RW at h ⊢
  obtain ⟨h1, h2, h3, h4, h5, h6, h7, h8, h9, h10, h11⟩ := h
  refine ⟨?_, ?_, ?_, ?_, ?_, ?_, ?_, ?_, ?_, ?_, ?_⟩
  · rw [e _ (by omega) (by omega)]; exact h1
  · rw [e _ (by omega) (by omega)]; exact h2
  · rw [e _ (by omega) (by omega)]; exact h3
  · rw [e _ (by omega) (by omega)]; exact h4
  · rw [e _ (by omega) (by omega)]; exact h5
  · intro s hs; rw [e _ (by omega) (by omega)]; exact h6 s hs
  · intro s hs; rw [e _ (by omega) (by omega)]; exact h7 s hs
  · intro s hs; rw [e _ (by omega) (by omega)]; exact h8 s hs
  · intro s hs p hp; rw [e _ (by omega) (by omega)]; exact h9 s hs p hp
  · intro s hs w hw p hp; rw [e _ (by omega) (by omega)]; exact h10 s hs w hw p hp
  · intro s hs k hk; rw [e _ (by omega) (by omega)]; exact h11 s hs k hk
section PSQ
variable {t v w : Bool} {A : ps_A} {I : Nat → Nat → Int32} {L : Nat → Nat → Int64}
theorem cx_forget : fX9_forgetSubBests 0 (I, L, px_R t v w) = some (hp_u (hp_u I 286 0 0) 288 0 0, L, px_R t v w) := rfl
theorem cx_remember (h0 : ps_wf A) (ho : A.on = true) (hX : ps_RX t A I) :
    ∃ J, fX9_remember 0 (I, L, px_R t v w) = some (J, L, px_R t v w) ∧ ps_RX t (ps_push A) J ∧ (∀ a, (a < 66 ∨ 286 ≤ a) → a ≠ 0 → a ≠ 286 → a ≠ 288 → J a = I a) ∧ (∀ k, k ≠ 15 → k ≠ 16 → J 0 k = I 0 k) ∧ J 286 0 = 0 ∧ J 288 0 = 0 := by
  obtain ⟨np, hn, en, hP⟩ := hX.P ho
  have hu := h0.u
  have w0 := h0.C ho
  obtain ⟨J1, e1, f1, g1⟩ := cx_copy (I := I) (L := L) (t := t) (v := v) (w := w) (c := 66 + 11 * np) (d := 22) (Or.inr ⟨np, hn, rfl⟩) (Or.inl rfl) (by omega) (hX.C ho) w0.mv
  unfold fX9_remember
  show ∃ J, fx_g (fx_in (I 0 16) 20) (fx_b1 (fX1_copyFrom (px_R t v w 33 (fx_ix (I 0 16))) 22 (I, L, px_R t v w)) _) = _ ∧ _
  rw [en, pg_pos (pi_in hn (by omega)), pi_ix (by omega), pr_33 t v w np hn, e1, pb_1]
  simp only [pl_let, hp_sI, cx_forget, pb_1, pu_place (show ¬ (15 : Nat) = 16 by decide)]
  rw [f1 0 (by omega), en, hX.u, show nI np + 1 = nI (np + 1) from nI_1 np]
  have er : fx_rem (nI (np + 1)) 20 = nI ((np + 1) % 20) := by
    unfold fx_rem
    rw [show (20 : Int32) = nI 20 from rfl, pk_rem (by omega) (by omega) (by omega)]
  rw [er, nI_1]
  have fin : ∀ U : Nat, U = (if A.u < 20 then A.u + 1 else 20) → ∀ J, (J 0 15 = nI U) → J 0 16 = nI ((np + 1) % 20) → (∀ k, k ≠ 15 → k ≠ 16 → J 0 k = I 0 k) → (∀ a, a ≠ 0 → a ≠ 286 → a ≠ 288 → J a = J1 a) → ps_RX t (ps_push A) J := by
    intro U hU J q1 q2 q3 q4
    have q5 : ∀ a, (a < 66 ∨ 286 ≤ a) → a ≠ 0 → a ≠ 286 → a ≠ 288 → J a = I a := fun a z z1 z2 z3 => by rw [q4 a z1 z2 z3, f1 a (by omega)]
    have hT := ps_T_le t
    refine ⟨?_, ?_, ?_, ?_, ?_, fun _ => ?_, fun _ => ?_, fun _ => ?_, fun _ => ?_, fun _ => ?_, ?_, fun _ => ?_⟩
    · rw [q5 1 (by omega) (by omega) (by omega) (by omega)]; exact hX.tz
    · intro k hk; rw [q5 2 (by omega) (by omega) (by omega) (by omega)]; exact hX.tb k hk
    · rw [q5 1 (by omega) (by omega) (by omega) (by omega)]; exact hX.fk
    · rw [q5 1 (by omega) (by omega) (by omega) (by omega)]; exact hX.fp
    · rw [q3 13 (by decide) (by decide)]; exact hX.on
    · exact (hX.W ho).near (fun a z1 z2 => q5 a (by omega) (by omega) (by omega) (by omega))
    · exact (hX.C ho).near (fun a z1 z2 => q5 a (by omega) (by omega) (by omega) (by omega))
    · intro k hk; rw [q5 19 (by omega) (by omega) (by omega) (by omega)]; exact hX.had ho k hk
    · intro k hk; rw [q5 20 (by omega) (by omega) (by omega) (by omega)]; exact hX.svd ho k hk
    · intro k hk; rw [q5 21 (by omega) (by omega) (by omega) (by omega)]; exact hX.svr ho k hk
    · rw [q1, hU]; rfl
    · refine ⟨(np + 1) % 20, by omega, q2, fun i hi => ?_⟩
      have hi : i < (if A.u < 20 then A.u + 1 else 20) := hi
      show ps_RC J (66 + 11 * (((np + 1) % 20 + 20 - (if A.u < 20 then A.u + 1 else 20) + i) % 20)) ((if A.u < 20 then (fun i => if i = A.u then A.C else A.P i) else (fun i => if i = 19 then A.C else A.P (i + 1))) i)
      by_cases c : A.u < 20
      · rw [if_pos c] at hi
        rw [if_pos c, if_pos c]
        by_cases z : i = A.u
        · rw [if_pos z, show ((np + 1) % 20 + 20 - (A.u + 1) + i) % 20 = np by omega]
          exact g1.near (fun a z1 z2 => q4 a (by omega) (by omega) (by omega))
        · rw [if_neg z, show ((np + 1) % 20 + 20 - (A.u + 1) + i) % 20 = (np + 20 - A.u + i) % 20 by omega]
          have hne : (np + 20 - A.u + i) % 20 ≠ np := by omega
          have hlt : (np + 20 - A.u + i) % 20 < 20 := Nat.mod_lt _ (by omega)
          exact (hP i (by omega)).near (fun a z1 z2 => by rw [q4 a (by omega) (by omega) (by omega), f1 a (by omega)])
      · rw [if_neg c] at hi
        rw [if_neg c, if_neg c]
        by_cases z : i = 19
        · rw [if_pos z, show ((np + 1) % 20 + 20 - 20 + i) % 20 = np by omega]
          exact g1.near (fun a z1 z2 => q4 a (by omega) (by omega) (by omega))
        · rw [if_neg z, show ((np + 1) % 20 + 20 - 20 + i) % 20 = (np + 20 - A.u + (i + 1)) % 20 by omega]
          have hne : (np + 20 - A.u + (i + 1)) % 20 ≠ np := by omega
          have hlt : (np + 20 - A.u + (i + 1)) % 20 < 20 := Nat.mod_lt _ (by omega)
          exact (hP (i + 1) (by omega)).near (fun a z1 z2 => by rw [q4 a (by omega) (by omega) (by omega), f1 a (by omega)])
  have z286 : ∀ f : Nat → Nat → Int32, hp_u (hp_u f 286 0 0) 288 0 0 286 0 = 0 := fun f => by rw [pu_cell (by decide), pu_eq]
  by_cases c : A.u < 20
  · rw [if_neg (show ¬ (20 : Int32) ≤ nI A.u from nI_ge (b := 20) c (by omega))]
    refine ⟨_, rfl, fin (A.u + 1) (by rw [if_pos c]) _ ?_ ?_ ?_ ?_, ?_, ?_, z286 _, pu_eq⟩
    · rw [pu_cell (by decide), pu_cell (by decide), pu_eq]
    · rw [pu_cell (by decide), pu_cell (by decide), pu_place (by decide), pu_eq]
    · intro k h1 h2; rw [pu_cell (by decide), pu_cell (by decide), pu_place h1, pu_place h2, f1 0 (by omega)]
    · intro a h1 h2 h3; rw [pu_cell h3, pu_cell h2, pu_cell h1, pu_cell h1]
    · intro a h4 h1 h2 h3; rw [pu_cell h3, pu_cell h2, pu_cell h1, pu_cell h1, f1 a (by omega)]
    · intro k h1 h2; rw [pu_cell (by decide), pu_cell (by decide), pu_place h1, pu_place h2, f1 0 (by omega)]
  · rw [if_pos (show (20 : Int32) ≤ nI A.u from nI_le (a := 20) (by omega) (by omega))]
    refine ⟨_, rfl, fin 20 (by rw [if_neg c]) _ ?_ ?_ ?_ ?_, ?_, ?_, z286 _, pu_eq⟩
    · rw [pu_cell (by decide), pu_cell (by decide), pu_place (by decide), f1 0 (by omega), hX.u, show A.u = 20 by omega]
    · rw [pu_cell (by decide), pu_cell (by decide), pu_eq]
    · intro k h1 h2; rw [pu_cell (by decide), pu_cell (by decide), pu_place h2, f1 0 (by omega)]
    · intro a h1 h2 h3; rw [pu_cell h3, pu_cell h2, pu_cell h1]
    · intro a h4 h1 h2 h3; rw [pu_cell h3, pu_cell h2, pu_cell h1, f1 a (by omega)]
    · intro k h1 h2; rw [pu_cell (by decide), pu_cell (by decide), pu_place h2, f1 0 (by omega)]
end PSQ
