/-! ===== a point (the class's side) ===== -/
def ps_f2 (f : Nat) : Nat := if f = 5 then 0 else if f = 0 then 0 else if f = 1 then 6 else f - 1
def ps_C.setpt (C : ps_C) (s : Nat) : ps_C := ps_C.mk (fun s' k => if s' = s ∧ C.sv ≠ s then C.six s' ((k + 1) % 6) else C.six s' k) C.mate C.x C.y (fun s' => if s' = s ∧ C.sv ≠ s then ps_f2 (C.fs s') else C.fs s') (fun s' => if (s' = s ∧ C.sv ≠ s) ∧ C.fs s' = 5 then 1 else 0) C.lf (fun s' => if s' = s ∧ C.sv ≠ s then (C.tn s' + 1) % 6 else C.tn s') (fun s' => if s' = s then C.sc s' + 1 else C.sc s') s (C.pl + 1)
def ps_point (A : ps_A) (s : Nat) : ps_A := ps_A.mk A.tz A.tb A.fk A.fp A.on A.W (A.C.setpt s) (ps_push A).u (ps_push A).P (fun k => if k = A.C.pl then s else A.had k) (fun k => if k = A.C.pl then A.C.sv else A.svd k) (fun k => if k = A.C.pl then ps_onN A.W A.C A.C.sv 0 else A.svr k)
section PSF37
variable {t v w : Bool} {A : ps_A} {I : Nat → Nat → Int32} {L : Nat → Nat → Int64}
theorem cx_turnOnce {s f : Nat} (hs : s < 2) (hf : f = 0 ∨ f = 1 ∨ f = 5 ∨ f = 6) (h4 : I (22 + 5 * s + 1) 4 = nI f) {n7 : Nat} (hn7 : n7 < 6) (h7 : I (22 + 5 * s + 1) 7 = nI n7) :
    ∃ J, ((∀ k, k < 6 → J (22 + 5 * s + 2) k = I (22 + 5 * s + 2) ((k + 1) % 6)) ∧ J (22 + 5 * s + 1) 7 = nI ((n7 + 1) % 6) ∧ J (22 + 5 * s + 1) 4 = nI (ps_f2 f) ∧ J (22 + 5 * s + 1) 5 = (if f = 5 then 1 else I (22 + 5 * s + 1) 5) ∧ (∀ k, k ≠ 7 → k ≠ 4 → k ≠ 5 → J (22 + 5 * s + 1) k = I (22 + 5 * s + 1) k) ∧ ∀ a, a ≠ 22 + 5 * s + 1 → a ≠ 22 + 5 * s + 2 → J a = I a) ∧ fX6_turnOnce (22 + 5 * s + 1) (I, L, px_R t v w) = some (J, L, px_R t v w) := by
  unfold fX6_turnOnce
  rw [pl_let]
  have e0 : (I, L, px_R t v w).1 ((I, L, px_R t v w).2.2 (22 + 5 * s + 1) 0) (fx_ix 0) = I (22 + 5 * s + 2) 0 := by
    show I (px_R t v w (22 + 5 * s + 1) 0) 0 = _
    rw [pr_s hs (by omega)]
  rw [e0]
  have tail : ∀ H : Nat → Nat → Int32, (∀ k, k < 5 → H (22 + 5 * s + 2) k = I (22 + 5 * s + 2) (k + 1)) → (∀ a, a ≠ 22 + 5 * s + 2 → H a = I a) → ∀ n, ∃ J, ((∀ k, k < 6 → J (22 + 5 * s + 2) k = I (22 + 5 * s + 2) ((k + 1) % 6)) ∧ J (22 + 5 * s + 1) 7 = nI ((n7 + 1) % 6) ∧ J (22 + 5 * s + 1) 4 = nI (ps_f2 f) ∧ J (22 + 5 * s + 1) 5 = (if f = 5 then 1 else I (22 + 5 * s + 1) 5) ∧ (∀ k, k ≠ 7 → k ≠ 4 → k ≠ 5 → J (22 + 5 * s + 1) k = I (22 + 5 * s + 1) k) ∧ ∀ a, a ≠ 22 + 5 * s + 1 → a ≠ 22 + 5 * s + 2 → J a = I a) ∧ fX6_turnOnce_9 (n + 1) (22 + 5 * s + 1) (I (22 + 5 * s + 2) 0) (nI 6) (H, L, px_R t v w) = some (J, L, px_R t v w) := by
    intro H p1 p2 n
    rw [fX6_turnOnce_9, if_pos (show (6 : Int32) ≤ nI 6 by decide), pl_let, pl_let]
    show ∃ J, _ ∧ fx_b1 (fX6_turnFree (22 + 5 * s + 1) (hp_u (hp_u H (px_R t v w (22 + 5 * s + 1) 0) 5 (I (22 + 5 * s + 2) 0)) (22 + 5 * s + 1) 7 (fx_rem (hp_u H (px_R t v w (22 + 5 * s + 1) 0) 5 (I (22 + 5 * s + 2) 0) (22 + 5 * s + 1) 7 + 1) 6), L, px_R t v w)) _ = _
    rw [pr_s hs (by omega), pu_cell (x := 22 + 5 * s + 1) (by omega), p2 (22 + 5 * s + 1) (by omega), h7, nI_1, nI_rem6 (by omega)]
    have g1 : ∀ k, k < 6 → hp_u (hp_u H (22 + 5 * s + (0 + 2)) 5 (I (22 + 5 * s + 2) 0)) (22 + 5 * s + 1) 7 (nI ((n7 + 1) % 6)) (22 + 5 * s + 2) k = I (22 + 5 * s + 2) ((k + 1) % 6) := fun k hk => by
      rw [pu_cell (by omega)]
      by_cases c : k = 5
      · rw [c]; exact pu_eq
      · rw [pu_place c, p1 k (by omega), Nat.mod_eq_of_lt (by omega)]
    have g2 : hp_u (hp_u H (22 + 5 * s + (0 + 2)) 5 (I (22 + 5 * s + 2) 0)) (22 + 5 * s + 1) 7 (nI ((n7 + 1) % 6)) (22 + 5 * s + 1) 7 = nI ((n7 + 1) % 6) := pu_eq
    have g3 : ∀ k, k ≠ 7 → hp_u (hp_u H (22 + 5 * s + (0 + 2)) 5 (I (22 + 5 * s + 2) 0)) (22 + 5 * s + 1) 7 (nI ((n7 + 1) % 6)) (22 + 5 * s + 1) k = I (22 + 5 * s + 1) k := fun k hk => by
      rw [pu_place hk, pu_cell (by omega), p2 _ (by omega)]
    have g4 : ∀ a, a ≠ 22 + 5 * s + 1 → a ≠ 22 + 5 * s + 2 → hp_u (hp_u H (22 + 5 * s + (0 + 2)) 5 (I (22 + 5 * s + 2) 0)) (22 + 5 * s + 1) 7 (nI ((n7 + 1) % 6)) a = I a := fun a q1 q2 => by
      rw [pu_cell q1, pu_cell (by omega), p2 a q2]
    generalize hp_u (hp_u H (22 + 5 * s + (0 + 2)) 5 (I (22 + 5 * s + 2) 0)) (22 + 5 * s + 1) 7 (nI ((n7 + 1) % 6)) = G at g1 g2 g3 g4 ⊢
    unfold fX6_turnFree
    have e4 : (G, L, px_R t v w).1 (22 + 5 * s + 1) 4 = nI f := (g3 4 (by decide)).trans h4
    rw [e4]
    rcases hf with rfl | rfl | rfl | rfl
    · rw [if_neg (show ¬ nI 0 = 5 by decide), if_pos (show nI 0 = 0 from rfl), pb_1]
      exact ⟨G, ⟨g1, g2, (g3 4 (by decide)).trans h4, by rw [if_neg (by decide)]; exact g3 5 (by decide), fun k q1 q2 q3 => g3 k q1, g4⟩, rfl⟩
    · rw [if_neg (show ¬ nI 1 = 5 by decide), if_neg (show ¬ nI 1 = 0 by decide)]
      show ∃ J, _ ∧ fx_b1 (some (hp_u G (22 + 5 * s + 1) 4 6, L, px_R t v w)) _ = _
      rw [pb_1]
      exact ⟨_, ⟨fun k hk => by rw [pu_cell (by omega)]; exact g1 k hk, by rw [pu_place (by decide)]; exact g2, pu_eq, by rw [pu_place (by decide), if_neg (by decide)]; exact g3 5 (by decide), fun k q1 q2 q3 => by rw [pu_place q2]; exact g3 k q1, fun a q1 q2 => by rw [pu_cell q1]; exact g4 a q1 q2⟩, rfl⟩
    · rw [if_pos (show nI 5 = 5 from rfl), pl_let, pl_let, pb_1]
      exact ⟨hp_u (hp_u G (22 + 5 * s + 1) 4 0) (22 + 5 * s + 1) 5 1, ⟨fun k hk => by rw [pu_cell (by omega), pu_cell (by omega)]; exact g1 k hk, by rw [pu_place (by decide), pu_place (by decide)]; exact g2, by rw [pu_place (by decide), pu_eq]; rfl, by rw [if_pos rfl]; exact pu_eq, fun k q1 q2 q3 => by rw [pu_place q3, pu_place q2]; exact g3 k q1, fun a q1 q2 => by rw [pu_cell q1, pu_cell q1]; exact g4 a q1 q2⟩, rfl⟩
    · rw [if_neg (show ¬ nI 6 = 5 by decide), if_neg (show ¬ nI 6 = 0 by decide)]
      show ∃ J, _ ∧ fx_b1 (some (hp_u G (22 + 5 * s + 1) 4 5, L, px_R t v w)) _ = _
      rw [pb_1]
      exact ⟨_, ⟨fun k hk => by rw [pu_cell (by omega)]; exact g1 k hk, by rw [pu_place (by decide)]; exact g2, pu_eq, by rw [pu_place (by decide), if_neg (by decide)]; exact g3 5 (by decide), fun k q1 q2 q3 => by rw [pu_place q2]; exact g3 k q1, fun a q1 q2 => by rw [pu_cell q1]; exact g4 a q1 q2⟩, rfl⟩
  obtain ⟨⟨H, n'⟩, ⟨p1, p2, p3⟩, e⟩ := pf_loop (S := (Nat → Nat → Int32) × Nat) (fun n i z => fX6_turnOnce_9 n (22 + 5 * s + 1) (I (22 + 5 * s + 2) 0) (nI (i + 1)) (z.1, L, px_R t v w)) (fun z => fX6_turnOnce_9 (fx_N - 5) (22 + 5 * s + 1) (I (22 + 5 * s + 2) 0) (nI 6) (z.1, L, px_R t v w))
    (fun i z => (∀ k, k < i → z.1 (22 + 5 * s + 2) k = I (22 + 5 * s + 2) (k + 1)) ∧ (∀ k, i ≤ k → z.1 (22 + 5 * s + 2) k = I (22 + 5 * s + 2) k) ∧ ∀ a, a ≠ 22 + 5 * s + 2 → z.1 a = I a) 5 (by
      rintro n ⟨H, n'⟩ ⟨p1, p2, p3⟩
      dsimp only at p1 p2 p3 ⊢
      obtain ⟨J1, -, e1⟩ := tail H p1 p3 n
      obtain ⟨J2, -, e2⟩ := tail H p1 p3 (fx_N - 6)
      rw [show fx_N - 5 = fx_N - 6 + 1 from rfl]
      rw [fX6_turnOnce_9, fX6_turnOnce_9, if_pos (show (6 : Int32) ≤ nI (5 + 1) by decide), if_pos (show (6 : Int32) ≤ nI 6 by decide)]) (by
      rintro n i ⟨H, n'⟩ hi ⟨p1, p2, p3⟩
      dsimp only at p1 p2 p3
      show ∃ s' : (Nat → Nat → Int32) × Nat, _ ∧ fX6_turnOnce_9 (n + 1) _ _ (nI (i + 1)) _ = fX6_turnOnce_9 n _ _ (nI (i + 1 + 1)) _
      rw [fX6_turnOnce_9, if_neg (show ¬ (6 : Int32) ≤ nI (i + 1) from nI_ge (b := 6) (by omega) (by omega)), pg_pos (pi_in (by omega) (by omega)), nI_pred, pg_pos (pi_in (by omega) (by omega)), pl_let, pl_let, nI_1, pi_ix (n := i) (by omega), pi_ix (by omega)]
      refine ⟨(hp_u H (22 + 5 * s + 2) i (H (22 + 5 * s + 2) (i + 1)), 0), ⟨fun k hk => ?_, fun k hk => ?_, fun a ha => ?_⟩, ?_⟩
      · show hp_u H _ _ _ _ k = _
        by_cases c : k = i
        · rw [c, pu_eq, p2 (i + 1) (by omega)]
        · rw [pu_place c]; exact p1 k (by omega)
      · show hp_u H _ _ _ _ k = _
        rw [pu_place (by omega)]; exact p2 k (by omega)
      · show hp_u H _ _ _ a = _
        rw [pu_cell ha]; exact p3 a ha
      · show fX6_turnOnce_9 n _ _ _ (hp_u H (px_R t v w (22 + 5 * s + 1) 0) i (H (px_R t v w (22 + 5 * s + 1) 0) (i + 1)), L, px_R t v w) = _
        rw [pr_s hs (by omega)]) 5 0 fx_N (I, 0) (by omega) (by unfold fx_N; omega) ⟨fun k hk => absurd hk (by omega), fun _ _ => rfl, fun _ _ => rfl⟩
  dsimp only at p1 p2 p3 e
  obtain ⟨J, j1, j2⟩ := tail H (fun k hk => p1 k hk) p3 (fx_N - 6)
  refine ⟨J, j1, ?_⟩
  rw [← j2]
  exact e
end PSF37
