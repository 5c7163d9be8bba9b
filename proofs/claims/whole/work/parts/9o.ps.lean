/-! ===== a set begins (the reference's side) ===== -/
section PSF64
variable {t v w : Bool} {I I0 : Nat → Nat → Int32} {L : Nat → Nat → Int64} {b : Nat → Nat} {n p f g : Nat} {Q Q' : ps_Q} {A : ps_A}
theorem cm_stands9 {s : Nat} (hs : s < 2) (k2 : Nat → Int32 → hp_T → Option hp_T) : ∀ m i f I, i + m = 6 → m < f → ∃ J, (∀ a, a ≠ 298 → J a = I a) ∧ (∀ j, (j < 71 + 12 * s + 2 * i ∨ 71 + 12 * s + 12 ≤ j) → J 298 j = I 298 j) ∧ (∀ k, i ≤ k → k < 6 → J 298 (71 + 12 * s + 2 * k) = hp_zt 0 k ∧ J 298 (72 + 12 * s + 2 * k) = hp_zt 1 k) ∧ fX10_stands0_9 k2 f 290 (nI s) (nI (i + 1)) (I, L, px_R t v w) = k2 290 (nI (s + 1)) (J, L, px_R t v w) := by
  intro m
  induction m with
  | zero =>
    intro i f I h1 h2
    obtain ⟨f, rfl⟩ : ∃ f', f = f' + 1 := ⟨f - 1, by omega⟩
    obtain rfl : i = 6 := by omega
    refine ⟨I, fun a _ => rfl, fun k _ => rfl, fun k q1 q2 => by omega, ?_⟩
    rw [fX10_stands0_9, if_pos (show (6 : Int32) < nI (6 + 1) by decide), pl_let, nI_1]
  | succ m ih =>
    intro i f I h1 h2
    obtain ⟨f, rfl⟩ : ∃ f', f = f' + 1 := ⟨f - 1, by omega⟩
    obtain ⟨J, j1, j2, j3, j4⟩ := ih (i + 1) f (hp_u (hp_u I 298 (71 + 2 * (6 * s + i)) (hp_zt 0 i)) 298 (71 + 2 * (6 * s + i) + 1) (hp_zt 1 i)) (by omega) (by omega)
    refine ⟨J, fun a ha => by rw [j1 a ha, pu_cell ha, pu_cell ha], fun j hj => by rw [j2 j (by omega), pu_place (by omega), pu_place (by omega)], fun k q1 q2 => ?_, ?_⟩
    · by_cases d : k = i
      · rw [d]
        constructor
        · rw [j2 _ (by omega), pu_place (by omega), show 71 + 12 * s + 2 * i = 71 + 2 * (6 * s + i) by omega, pu_eq]
        · rw [j2 _ (by omega), show 72 + 12 * s + 2 * i = 71 + 2 * (6 * s + i) + 1 by omega, pu_eq]
      · exact j3 k (by omega) q2
    · rw [fX10_stands0_9, if_neg (show ¬ (6 : Int32) < nI (i + 1) from nI_nlt (a := 6) (by omega) (by omega))]
      unfold fX10_two
      rw [pb_2, pl_let, show (6 : Int32) = nI 6 from rfl, show nI (i + 1) - 1 = nI i from by rw [nI_pred], pk_mul, nI_add, show (71 : Int32) = nI 71 from rfl, show (2 : Int32) = nI 2 from rfl, pk_mul, nI_add]
      unfold fX10_stands0_45 fX10_stands0_61
      have e68 : fX10_stands0_68 k2 (fX10_stands0_9 k2 f) 290 (nI s) (nI (i + 1)) (nI (71 + 2 * (6 * s + i))) 298 (nI (71 + 2 * (6 * s + i))) (hp_zt 0 i) (I, L, px_R t v w) = fX10_stands0_9 k2 f 290 (nI s) (nI (i + 1 + 1)) (hp_u (hp_u I 298 (71 + 2 * (6 * s + i)) (hp_zt 0 i)) 298 (71 + 2 * (6 * s + i) + 1) (hp_zt 1 i), L, px_R t v w) := by
        unfold fX10_stands0_68 fX10_stands0_90
        rw [pg_pos (pi_in (by omega) (by omega)), pl_let, pi_ix (by omega), nI_1, nI_1]
        have e90 : ∀ x : Int32, (fx_g (fx_in (nI (71 + 2 * (6 * s + i) + 1)) 120) (fx_let (hp_sI (hp_u I 298 (71 + 2 * (6 * s + i)) (hp_zt 0 i), L, px_R t v w) 298 (fx_ix (nI (71 + 2 * (6 * s + i) + 1))) x) fun h90 => fx_let (nI (i + 1 + 1)) fun x91 => fX10_stands0_9 k2 f 290 (nI s) x91 h90)) = fX10_stands0_9 k2 f 290 (nI s) (nI (i + 1 + 1)) (hp_u (hp_u I 298 (71 + 2 * (6 * s + i)) (hp_zt 0 i)) 298 (71 + 2 * (6 * s + i) + 1) x, L, px_R t v w) := fun x => by
          rw [pg_pos (pi_in (by omega) (by omega)), pl_let, pl_let, pi_ix (by omega)]; rfl
        show fx_b2 (fX10_isFront (nI (i + 1)) (hp_u I 298 (71 + 2 * (6 * s + i)) (hp_zt 0 i), L, px_R t v w)) _ = _
        have ef : fX10_isFront (nI (i + 1)) (hp_u I 298 (71 + 2 * (6 * s + i)) (hp_zt 0 i), L, px_R t v w) = some (if hp_zt 1 i = 70 then 0 else 1, (hp_u I 298 (71 + 2 * (6 * s + i)) (hp_zt 0 i), L, px_R t v w)) := by
          rcases (show i = 0 ∨ i = 1 ∨ i = 2 ∨ i = 3 ∨ i = 4 ∨ i = 5 by omega) with rfl | rfl | rfl | rfl | rfl | rfl <;> rfl
        rw [ef, pb_2]
        by_cases d : hp_zt 1 i = 70
        · rw [if_pos d, if_pos rfl]
          refine (e90 70).trans ?_
          rw [d]
        · have d2 : hp_zt 1 i = 20 := by
            rcases (show i = 0 ∨ i = 1 ∨ i = 2 ∨ i = 3 ∨ i = 4 ∨ i = 5 by omega) with rfl | rfl | rfl | rfl | rfl | rfl <;> first | rfl | exact absurd rfl d
          rw [if_neg d, if_neg (by decide)]
          refine (e90 20).trans ?_
          rw [d2]
      rw [show i + 1 + 1 = i + 1 + 1 from rfl] at e68
      rw [← j4, ← e68]
      show (if nI (i + 1) = 4 then fX10_stands0_68 k2 (fX10_stands0_9 k2 f) 290 (nI s) (nI (i + 1)) (nI (71 + 2 * (6 * s + i))) 298 (nI (71 + 2 * (6 * s + i))) 20 (I, L, px_R t v w) else if nI (i + 1) = 5 then fX10_stands0_68 k2 (fX10_stands0_9 k2 f) 290 (nI s) (nI (i + 1)) (nI (71 + 2 * (6 * s + i))) 298 (nI (71 + 2 * (6 * s + i))) 20 (I, L, px_R t v w) else if nI (i + 1) = 3 then fX10_stands0_68 k2 (fX10_stands0_9 k2 f) 290 (nI s) (nI (i + 1)) (nI (71 + 2 * (6 * s + i))) 298 (nI (71 + 2 * (6 * s + i))) 45 (I, L, px_R t v w) else if nI (i + 1) = 6 then fX10_stands0_68 k2 (fX10_stands0_9 k2 f) 290 (nI s) (nI (i + 1)) (nI (71 + 2 * (6 * s + i))) 298 (nI (71 + 2 * (6 * s + i))) 45 (I, L, px_R t v w) else fX10_stands0_68 k2 (fX10_stands0_9 k2 f) 290 (nI s) (nI (i + 1)) (nI (71 + 2 * (6 * s + i))) 298 (nI (71 + 2 * (6 * s + i))) 70 (I, L, px_R t v w)) = _
      rcases (show i = 0 ∨ i = 1 ∨ i = 2 ∨ i = 3 ∨ i = 4 ∨ i = 5 by omega) with rfl | rfl | rfl | rfl | rfl | rfl
      · rw [if_neg (by decide), if_neg (by decide), if_neg (by decide), if_neg (by decide)]; rfl
      · rw [if_neg (by decide), if_neg (by decide), if_neg (by decide), if_neg (by decide)]; rfl
      · rw [if_neg (by decide), if_neg (by decide), if_pos (by decide)]; rfl
      · rw [if_pos (by decide)]; rfl
      · rw [if_neg (by decide), if_pos (by decide)]; rfl
      · rw [if_neg (by decide), if_neg (by decide), if_neg (by decide), if_pos (by decide)]; rfl
theorem cm_stands0 : ∃ J, (∀ a, a ≠ 298 → J a = I a) ∧ (∀ j, (j < 71 ∨ 95 ≤ j) → J 298 j = I 298 j) ∧ (∀ s, s < 2 → ∀ k, k < 6 → J 298 (71 + 12 * s + 2 * k) = hp_zt 0 k ∧ J 298 (72 + 12 * s + 2 * k) = hp_zt 1 k) ∧ fX10_stands0 290 (I, L, px_R t v w) = some (J, L, px_R t v w) := by
  unfold fX10_stands0 fx_N
  obtain ⟨J, j1, j2, j3, j4⟩ := cm_stands9 (L := L) (t := t) (v := v) (w := w) (s := 0) (by omega) (fX10_stands0_2 99999) 6 0 fx_N I (by omega) (by unfold fx_N; omega)
  obtain ⟨H, k1, k2, k3, k4⟩ := cm_stands9 (L := L) (t := t) (v := v) (w := w) (s := 1) (by omega) (fX10_stands0_2 99998) 6 0 fx_N J (by omega) (by unfold fx_N; omega)
  refine ⟨H, fun a ha => by rw [k1 a ha, j1 a ha], fun j hj => by rw [k2 j (by omega), j2 j (by omega)], fun s hs k hk => ?_, ?_⟩
  · rcases (show s = 0 ∨ s = 1 by omega) with rfl | rfl
    · rw [k2 _ (by omega), k2 _ (by omega)]; exact j3 k (by omega) hk
    · exact k3 k (by omega) hk
  · rw [fX10_stands0_2, if_neg (by decide)]
    refine Eq.trans j4 ?_
    rw [fX10_stands0_2, if_neg (by decide)]
    refine Eq.trans k4 ?_
    rw [fX10_stands0_2, if_pos (by decide)]
theorem cm_serve66 {s : Nat} (hs : s < 2) (k35 : Nat → Int32 → hp_T → Option hp_T) : ∀ m i f I, i + m = 6 → m < f → ∃ J, (∀ a, a ≠ 298 → J a = I a) ∧ (∀ j, (j < 11 + 6 * s + i ∨ 11 + 6 * s + 6 ≤ j) → J 298 j = I 298 j) ∧ (∀ k, i ≤ k → k < 6 → J 298 (11 + 6 * s + k) = I 292 (9 + 6 * s + k)) ∧ fX10_serveFirst_66 k35 f 290 (nI s) (nI i) (I, L, px_R t v w) = fX10_serveFirst_110 k35 fx_N 290 (nI s) 0 (J, L, px_R t v w) := by
  intro m
  induction m with
  | zero =>
    intro i f I h1 h2
    obtain ⟨f, rfl⟩ : ∃ f', f = f' + 1 := ⟨f - 1, by omega⟩
    obtain rfl : i = 6 := by omega
    refine ⟨I, fun a _ => rfl, fun k _ => rfl, fun k q1 q2 => by omega, ?_⟩
    rw [fX10_serveFirst_66, if_pos (show (6 : Int32) ≤ nI 6 by decide)]
  | succ m ih =>
    intro i f I h1 h2
    obtain ⟨f, rfl⟩ : ∃ f', f = f' + 1 := ⟨f - 1, by omega⟩
    obtain ⟨J, j1, j2, j3, j4⟩ := ih (i + 1) f (hp_u I 298 (11 + (6 * s + i)) (I 292 (9 + (6 * s + i)))) (by omega) (by omega)
    refine ⟨J, fun a ha => by rw [j1 a ha, pu_cell ha], fun j hj => by rw [j2 j (by omega), pu_place (by omega)], fun k q1 q2 => ?_, ?_⟩
    · by_cases d : k = i
      · rw [d, j2 _ (by omega), show 11 + 6 * s + i = 11 + (6 * s + i) by omega, pu_eq, Nat.add_assoc]
      · rw [j3 k (by omega) q2, pu_cell (by omega)]
    · rw [fX10_serveFirst_66, if_neg (show ¬ (6 : Int32) ≤ nI i from nI_ge (b := 6) (by omega) (by omega))]
      unfold fX10_two
      rw [pb_2, pb_2, show (6 : Int32) = nI 6 from rfl, pk_mul, nI_add, show (9 : Int32) = nI 9 from rfl, show (11 : Int32) = nI 11 from rfl, nI_add, nI_add, pg_pos (pi_in (by omega) (by omega)), pg_pos (pi_in (by omega) (by omega)), pl_let, pl_let, pi_ix (by omega), pi_ix (by omega), nI_1]
      exact j4
theorem cm_serve110 {s : Nat} (hs : s < 2) (k35 : Nat → Int32 → hp_T → Option hp_T) : ∀ m i f I, i + m = 12 → m < f → ∃ J, (∀ a, a ≠ 298 → J a = I a) ∧ (∀ j, (j < 23 + 12 * s + i ∨ 23 + 12 * s + 12 ≤ j) → J 298 j = I 298 j) ∧ (∀ k, i ≤ k → k < 12 → J 298 (23 + 12 * s + k) = -2) ∧ fX10_serveFirst_110 k35 f 290 (nI s) (nI i) (I, L, px_R t v w) = k35 290 (nI (s + 1)) (J, L, px_R t v w) := by
  intro m
  induction m with
  | zero =>
    intro i f I h1 h2
    obtain ⟨f, rfl⟩ : ∃ f', f = f' + 1 := ⟨f - 1, by omega⟩
    obtain rfl : i = 12 := by omega
    refine ⟨I, fun a _ => rfl, fun k _ => rfl, fun k q1 q2 => by omega, ?_⟩
    rw [fX10_serveFirst_110, if_pos (show (12 : Int32) ≤ nI 12 by decide), pl_let, nI_1]
  | succ m ih =>
    intro i f I h1 h2
    obtain ⟨f, rfl⟩ : ∃ f', f = f' + 1 := ⟨f - 1, by omega⟩
    obtain ⟨J, j1, j2, j3, j4⟩ := ih (i + 1) f (hp_u I 298 (23 + (12 * s + i)) (-2)) (by omega) (by omega)
    refine ⟨J, fun a ha => by rw [j1 a ha, pu_cell ha], fun j hj => by rw [j2 j (by omega), pu_place (by omega)], fun k q1 q2 => ?_, ?_⟩
    · by_cases d : k = i
      · rw [d, j2 _ (by omega), show 23 + 12 * s + i = 23 + (12 * s + i) by omega, pu_eq]
      · exact j3 k (by omega) q2
    · rw [fX10_serveFirst_110, if_neg (show ¬ (12 : Int32) ≤ nI i from nI_ge (b := 12) (by omega) (by omega))]
      unfold fX10_two
      rw [pb_2, show (12 : Int32) = nI 12 from rfl, pk_mul, nI_add, show (23 : Int32) = nI 23 from rfl, nI_add, pg_pos (pi_in (by omega) (by omega)), pl_let, pl_let, pi_ix (by omega), nI_1]
      exact j4
/-- one side of a new set -/
theorem cm_serve35 {s : Nat} (hs : s < 2) (f : Nat) (I : Nat → Nat → Int32) : ∃ J, (∀ a, a ≠ 298 → J a = I a) ∧ (∀ j, j ≠ 5 + s → j ≠ 7 + s → (j < 11 + 6 * s ∨ 11 + 6 * s + 6 ≤ j) → (j < 23 + 12 * s ∨ 23 + 12 * s + 12 ≤ j) → J 298 j = I 298 j) ∧ J 298 (5 + s) = I 292 1 ∧ J 298 (7 + s) = -1 ∧ (∀ k, k < 6 → J 298 (11 + 6 * s + k) = I 292 (9 + 6 * s + k)) ∧ (∀ k, k < 12 → J 298 (23 + 12 * s + k) = -2) ∧ fX10_serveFirst_35 (f + 1) 290 (nI s) (I, L, px_R t v w) = fX10_serveFirst_35 f 290 (nI (s + 1)) (J, L, px_R t v w) := by
  rw [fX10_serveFirst_35, if_neg (show ¬ (2 : Int32) ≤ nI s from nI_ge (b := 2) (by omega) (by omega)), show (5 : Int32) = nI 5 from rfl, show (7 : Int32) = nI 7 from rfl, nI_add, nI_add, pg_pos (pi_in (by omega) (by omega)), pl_let, pg_pos (pi_in (by omega) (by omega)), pl_let, pi_ix (by omega), pi_ix (by omega)]
  obtain ⟨J, j1, j2, j3, j4⟩ := cm_serve66 (L := L) (t := t) (v := v) (w := w) hs (fX10_serveFirst_35 f) 6 0 fx_N (hp_u (hp_u I 298 (5 + s) (I 292 1)) 298 (7 + s) (-1)) (by omega) (by unfold fx_N; omega)
  obtain ⟨H, k1, k2, k3, k4⟩ := cm_serve110 (L := L) (t := t) (v := v) (w := w) hs (fX10_serveFirst_35 f) 12 0 fx_N J (by omega) (by unfold fx_N; omega)
  refine ⟨H, fun a ha => by rw [k1 a ha, j1 a ha, pu_cell ha, pu_cell ha], fun j q1 q2 q3 q4 => by rw [k2 j (by omega), j2 j (by omega), pu_place q2, pu_place q1], by rw [k2 _ (by omega), j2 _ (by omega), pu_place (by omega), pu_eq], by rw [k2 _ (by omega), j2 _ (by omega), pu_eq], fun k hk => by rw [k2 _ (by omega), j3 k (by omega) hk, pu_cell (by omega), pu_cell (by omega)], fun k hk => k3 k (by omega) hk, ?_⟩
  rw [← k4]
  exact j4
theorem cm_zero120 : ∀ m i f I, i + m = 120 → m < f → ∃ J, (∀ a, a ≠ 298 → J a = I a) ∧ (∀ j, j < i → J 298 j = I 298 j) ∧ (∀ k, i ≤ k → k < 120 → J 298 k = 0) ∧ fX10_serveFirst_2 f 290 (nI i) (I, L, px_R t v w) = fX10_serveFirst_2 1 290 (nI 120) (J, L, px_R t v w) := by
  intro m
  induction m with
  | zero =>
    intro i f I h1 h2
    obtain ⟨f, rfl⟩ : ∃ f', f = f' + 1 := ⟨f - 1, by omega⟩
    obtain rfl : i = 120 := by omega
    refine ⟨I, fun a _ => rfl, fun k _ => rfl, fun k q1 q2 => by omega, ?_⟩
    rw [fX10_serveFirst_2, fX10_serveFirst_2, if_pos (show (120 : Int32) ≤ nI 120 by decide), if_pos (show (120 : Int32) ≤ nI 120 by decide)]
  | succ m ih =>
    intro i f I h1 h2
    obtain ⟨f, rfl⟩ : ∃ f', f = f' + 1 := ⟨f - 1, by omega⟩
    obtain ⟨J, j1, j2, j3, j4⟩ := ih (i + 1) f (hp_u I 298 i 0) (by omega) (by omega)
    refine ⟨J, fun a ha => by rw [j1 a ha, pu_cell ha], fun k hk => by rw [j2 k (by omega), pu_place (by omega)], fun k q1 q2 => ?_, ?_⟩
    · by_cases d : k = i
      · rw [j2 k (by omega), d, pu_eq]
      · exact j3 k (by omega) q2
    · rw [fX10_serveFirst_2, if_neg (show ¬ (120 : Int32) ≤ nI i from nI_ge (b := 120) (by omega) (by omega)), pg_pos (pi_in (by omega) (by omega)), pl_let, pl_let, pi_ix (by omega), nI_1]
      exact j4
theorem cm_serveFirst {W : ps_W} (hW : ps_MW I W) (hA : A.W = W) (hC : A.C = ps_C0 W) : ∃ J, (∀ a, a ≠ 298 → a ≠ 290 → J a = I a) ∧ (∀ k, k ≠ 22 → J 290 k = I 290 k) ∧ J 290 22 = 0 ∧ ps_MR A (ps_C0 W) (J 298) ∧ fX10_serveFirst 290 (I, L, px_R t v w) = some (J, L, px_R t v w) := by
  unfold fX10_serveFirst
  obtain ⟨J, j1, -, j3, j4⟩ := cm_zero120 (L := L) (t := t) (v := v) (w := w) 120 0 fx_N I (by omega) (by unfold fx_N; omega)
  have j4 : fX10_serveFirst_2 fx_N 290 0 (I, L, px_R t v w) = _ := j4
  rw [j4, fX10_serveFirst_2, if_pos (show (120 : Int32) ≤ nI 120 by decide), pl_let]
  show ∃ J', _ ∧ _ ∧ _ ∧ _ ∧ fX10_serveFirst_35 100000 290 (nI 0) (hp_u J 298 2 (J 292 3), L, px_R t v w) = _
  obtain ⟨G, g1, g2, g3, g4, g5, g6, g7⟩ := cm_serve35 (L := L) (t := t) (v := v) (w := w) (s := 0) (by omega) 99999 (hp_u J 298 2 (J 292 3))
  obtain ⟨H, h1, h2, h3, h4, h5, h6, h7⟩ := cm_serve35 (L := L) (t := t) (v := v) (w := w) (s := 1) (by omega) 99998 G
  obtain ⟨K, k1, k2, k3, k4⟩ := cm_stands0 (I := H) (L := L) (t := t) (v := v) (w := w)
  rw [g7, h7, fX10_serveFirst_35, if_pos (by decide), k4, pb_1, pl_let]
  have e92 : H 292 = I 292 := by rw [h1 _ (by decide), g1 _ (by decide), pu_cell (by decide), j1 _ (by decide)]
  have g92 : G 292 = I 292 := by rw [g1 _ (by decide), pu_cell (by decide), j1 _ (by decide)]
  have j92 : hp_u J 298 2 (J 292 3) 292 = I 292 := by rw [pu_cell (by decide), j1 _ (by decide)]
  have er : ∀ k, hp_u K 290 22 0 298 k = K 298 k := fun k => by rw [pu_cell (by decide)]
  -- the row before the sides
  have z : ∀ j, j < 120 → j ≠ 2 → hp_u J 298 2 (J 292 3) 298 j = 0 := fun j hj h2 => by rw [pu_place h2]; exact j3 j (by omega) hj
  have keep : ∀ j, j < 120 → (j < 5 ∨ 8 < j) → (j < 11 ∨ 47 ≤ j) → (j < 71 ∨ 95 ≤ j) → K 298 j = hp_u J 298 2 (J 292 3) 298 j := fun j q0 q1 q2 q3 => by rw [k2 j q3, h2 j (by omega) (by omega) (by omega) (by omega), g2 j (by omega) (by omega) (by omega) (by omega)]
  have k0 : ∀ j, j < 120 → j ≠ 2 → (j < 5 ∨ 8 < j) → (j < 11 ∨ 47 ≤ j) → (j < 71 ∨ 95 ≤ j) → K 298 j = 0 := fun j q0 qq q1 q2 q3 => by rw [keep j q0 q1 q2 q3]; exact z j q0 qq
  refine ⟨hp_u K 290 22 0, fun a q1 q2 => by rw [pu_cell q2, k1 a q1, h1 a q1, g1 a q1, pu_cell q1, j1 a q1], fun k hk => by rw [pu_place hk, k1 _ (by decide), h1 _ (by decide), g1 _ (by decide), pu_cell (by decide), j1 _ (by decide)], pu_eq, ?_, rfl⟩
  have sp : ∀ s, s < 2 → s = 0 ∨ s = 1 := fun s hs => by omega
  refine ⟨fun s hs => ?_, ?_, fun s hs => ?_, fun s hs => ?_, fun s hs => ?_, fun s hs => ?_, fun s hs k hk => ?_, fun s hs p hp => ?_, fun s hs p hp => ?_, fun s hs k hk => ?_, fun s hs k hk => ?_, fun s hs p hp => ?_, ?_⟩
  · rw [er, k0 s (by omega) (by omega) (by omega) (by omega) (by omega)]; rfl
  · rw [er, keep 2 (by omega) (by omega) (by omega) (by omega), pu_eq, j1 _ (by decide)]; exact hW.fst
  · rw [er, k0 (3 + s) (by omega) (by omega) (by omega) (by omega) (by omega)]; rfl
  · rw [er]
    rcases sp s hs with rfl | rfl
    · rw [k2 _ (by omega), h2 _ (by omega) (by omega) (by omega) (by omega), g3, j92]; exact hW.sbs
    · rw [k2 _ (by omega), h3, g92]; exact hW.sbs
  · rw [er]
    rcases sp s hs with rfl | rfl
    · rw [k2 _ (by omega), h2 _ (by omega) (by omega) (by omega) (by omega), g4]; rfl
    · rw [k2 _ (by omega), h4]; rfl
  · rw [er, k0 (9 + s) (by omega) (by omega) (by omega) (by omega) (by omega)]; rfl
  · rw [er]
    have eo : ps_on A.W (ps_C0 W) s k = nI (W.start s k) := by
      unfold ps_on
      rw [if_neg (show ¬ (ps_C0 W).fs s = k + 1 from fun q => by have q : 0 = k + 1 := q; omega)]
      rfl
    rw [eo]
    rcases sp s hs with rfl | rfl
    · rw [k2 _ (by omega), h2 _ (by omega) (by omega) (by omega) (by omega), g5 k hk, j92]; exact hW.st 0 hs k hk
    · rw [k2 _ (by omega), h5 k hk, g92]; exact hW.st 1 hs k hk
  · rw [er]
    rcases sp s hs with rfl | rfl
    · rw [k2 _ (by omega), h2 _ (by omega) (by omega) (by omega) (by omega), g6 p hp]; rfl
    · rw [k2 _ (by omega), h6 p hp]; rfl
  · rw [er, k0 (47 + 12 * s + p) (by omega) (by omega) (by omega) (by omega) (by omega)]
    unfold ps_gone
    rw [if_neg (fun q => q.2 rfl)]; rfl
  · rw [er, (k3 s hs k hk).1]; exact (ps_z01 k hk).1
  · rw [er, (k3 s hs k hk).2]; exact (ps_z01 k hk).2.1
  · rw [er, k0 (95 + 12 * s + p) (by omega) (by omega) (by omega) (by omega) (by omega)]; rfl
  · rw [er, k0 119 (by omega) (by omega) (by omega) (by omega) (by omega)]; rfl
end PSF64
