/-! ===== a player's things ===== -/
section PSL
variable {t v w : Bool} {A : ps_A} {I : Nat → Nat → Int32} {L : Nat → Nat → Int64}
theorem cx_mateOf (h0 : ps_wf A) (ho : A.on = true) (hX : ps_RX t A I) {s p : Nat} (hs : s < 2) (hp : p < 12) : fX9_mateOf 0 (nI s) (nI p) (I, L, px_R t v w) = some (ps_e2 (A.C.mate s p), (I, L, px_R t v w)) := by
  unfold fX9_mateOf
  rw [show (I, L, px_R t v w).2.2 0 3 = 22 from rfl, cx_team hs, pb_2, pg_pos (pi_in hp (by omega)), pi_ix (by omega), pl_let]
  show (if I (px_R t v w (22 + 5 * s + 1) 1) p = -1 then _ else some (I (px_R t v w (22 + 5 * s + 1) 1) p, _)) = _
  rw [pr_s hs (by omega), (hX.C ho).mate s hs p hp]
  have hm := ps_mate_lt h0 ho hs p
  cases e : A.C.mate s p with
  | none => rfl
  | some q => rw [if_neg (show ¬ ps_e1 (some q) = -1 from nI_ne_m1 (hm q e))]; rfl
theorem cx_pointOf (h0 : ps_wf A) (ho : A.on = true) (hX : ps_RX t A I) {s p k : Nat} (hs : s < 2) (hp : p < 12) (hk : k < A.C.pl) : fX3_isPointOf 18 (nI k) (nI s) (nI p) (I, L, px_R t v w) = some (if A.had k = s ∧ A.svd k = s ∧ A.svr k = p then 1 else 0, (I, L, px_R t v w)) := by
  have hl := ps_pl_le h0 ho
  have b1 := h0.had ho k hk
  have b2 := h0.svd ho k hk
  have b3 := h0.svr ho k hk
  unfold fX3_isPointOf
  rw [pg_pos (pi_in (by omega) (by omega)), pg_pos (pi_in (by omega) (by omega)), pg_pos (pi_in (by omega) (by omega)), pi_ix (by omega)]
  show (if I 19 k = nI s then (if I 20 k = nI s then (if I 21 k = nI p then _ else _) else _) else _) = _
  rw [hX.had ho k hk, hX.svd ho k hk, hX.svr ho k hk]
  by_cases c1 : A.had k = s
  · rw [if_pos (by rw [c1])]
    by_cases c2 : A.svd k = s
    · rw [if_pos (by rw [c2])]
      by_cases c3 : A.svr k = p
      · rw [if_pos (by rw [c3]), if_pos ⟨c1, c2, c3⟩]
      · rw [if_neg (fun q => c3 ((nI_eq (by omega) (by omega)).mp q)), if_neg (fun q => c3 q.2.2)]
    · rw [if_neg (fun q => c2 ((nI_eq (by omega) (by omega)).mp q)), if_neg (fun q => c2 q.2.1)]
  · rw [if_neg (fun q => c1 ((nI_eq (by omega) (by omega)).mp q)), if_neg (fun q => c1 q.1)]
theorem cx_points (h0 : ps_wf A) (ho : A.on = true) (hX : ps_RX t A I) {s p : Nat} (hs : s < 2) (hp : p < 12) : fX3_pointsOf 18 (nI A.C.pl) (nI s) (nI p) (I, L, px_R t v w) = some (nI (ps_cnt A s p A.C.pl), (I, L, px_R t v w)) := by
  have hl := ps_pl_le h0 ho
  have key : ∀ m i n, i + m = A.C.pl → m < n → fX3_pointsOf_6 n 18 (nI A.C.pl) (nI s) (nI p) (nI (ps_cnt A s p i)) (nI i) (I, L, px_R t v w) = some (nI (ps_cnt A s p A.C.pl), (I, L, px_R t v w)) := by
    intro m
    induction m with
    | zero =>
      intro i n h1 h2
      obtain ⟨n, rfl⟩ : ∃ n', n = n' + 1 := ⟨n - 1, by omega⟩
      unfold fX3_pointsOf_6
      rw [if_pos (nI_le (by omega) (by omega)), show i = A.C.pl by omega]
    | succ m ih =>
      intro i n h1 h2
      obtain ⟨n, rfl⟩ : ∃ n', n = n' + 1 := ⟨n - 1, by omega⟩
      unfold fX3_pointsOf_6 fX3_pointsOf_33
      rw [if_neg (nI_ge (by omega) (by omega)), if_neg (show ¬ (49 : Int32) ≤ nI i from nI_ge (b := 49) (by omega) (by omega)), cx_pointOf h0 ho hX hs hp (by omega), pb_2]
      simp only [pl_let, nI_1]
      have h3 := ih (i + 1) n (by omega) (by omega)
      rw [show ps_cnt A s p (i + 1) = ps_cnt A s p i + (if A.had i = s ∧ A.svd i = s ∧ A.svr i = p then 1 else 0) from rfl] at h3
      by_cases c : A.had i = s ∧ A.svd i = s ∧ A.svr i = p
      · rw [if_pos c] at h3
        rw [if_pos c, if_neg (by decide)]; exact h3
      · rw [if_neg c] at h3
        rw [if_neg c, if_pos rfl]; exact h3
  exact key A.C.pl 0 fx_N (by omega) (by unfold fx_N; omega)
def ps_thing (A : ps_A) (s p : Nat) (k : Nat) : Int32 :=
  if k < 3 then nI (A.W.sk s p k) else if k = 3 then (if A.W.free s = some p then 1 else 0) else if k = 4 then nI (ps_onc A.W A.C s p) else if k = 5 then nI (ps_role A s p) else if k = 6 then ps_e2 (A.C.mate s p) else nI (ps_cnt A s p A.C.pl)
theorem cx_thing (h0 : ps_wf A) (hX : ps_RX t A I) {a b : Int32} (hpl : ps_pl A a b = true) {k : Nat} (hk : k < 8) : fX9_player 0 a b (nI k) (I, L, px_R t v w) = some (ps_thing A a.toNatClampNeg b.toNatClampNeg k, (I, L, px_R t v w)) := by
  unfold fX9_player
  rw [cx_player h0 hX, pb_2, hpl, if_pos rfl, if_neg (by decide)]
  obtain ⟨ho, s, hs, rfl, p, hp, hp2, rfl⟩ := ps_pl_of h0 hpl
  have hW := hX.W ho
  rw [show (I, L, px_R t v w).2.2 0 11 = ps_T t from rfl, cx_squad hs, pb_2, nI_clamp (by omega), nI_clamp (by omega), pg_pos (pi_in hp2 (by omega)), pg_pos (pi_in hp2 (by omega)), pg_pos (pi_in hp2 (by omega)), pi_ix (by omega), cx_onc h0 ho hX hs hp2, pb_2, cx_role h0 ho hX hs hp2, pb_2, cx_mateOf h0 ho hX hs hp2, pb_2]
  show (if nI k = 0 then some (I (px_R t v w (ps_T t + 6 * s + 1) 1) p, _) else if nI k = 1 then some (I (px_R t v w (ps_T t + 6 * s + 1) 2) p, _) else if nI k = 2 then some (I (px_R t v w (ps_T t + 6 * s + 1) 3) p, _) else if nI k = 3 then (if nI p = I (ps_T t + 6 * s + 1) 7 then _ else _) else if nI k = 4 then _ else if nI k = 5 then _ else if nI k = 6 then _ else if nI k = 7 then fx_b2 (fX3_pointsOf 18 (I 22 3) (nI s) (nI p) (I, L, px_R t v w)) _ else _) = _
  rw [(hX.C ho).pl, cx_points h0 ho hX hs hp2, pb_2, pr_q hs (by omega), pr_q hs (by omega), pr_q hs (by omega), hW.free s hs]
  have e0 := hW.sk s hs 0 (by omega) p hp
  have e1 := hW.sk s hs 1 (by omega) p hp
  have e2 := hW.sk s hs 2 (by omega) p hp
  have hfr := ps_e1_eq (p := p) (by omega) (ps_free_lt (h0.W ho) hs)
  unfold ps_thing
  rcases (show k = 0 ∨ k = 1 ∨ k = 2 ∨ k = 3 ∨ k = 4 ∨ k = 5 ∨ k = 6 ∨ k = 7 by omega) with rfl | rfl | rfl | rfl | rfl | rfl | rfl | rfl
  · exact congrArg (fun z => some (z, _)) e0
  · exact congrArg (fun z => some (z, _)) e1
  · exact congrArg (fun z => some (z, _)) e2
  · show (if nI p = ps_e1 (A.W.free s) then some ((1 : Int32), (I, L, px_R t v w)) else some (0, (I, L, px_R t v w))) = some (if A.W.free s = some p then 1 else 0, _)
    by_cases c : A.W.free s = some p
    · rw [if_pos (hfr.mpr c), if_pos c]
    · rw [if_neg (fun q => c (hfr.mp q)), if_neg c]
  · rfl
  · rfl
  · rfl
  · rfl
theorem cm_skill (hW : ps_MW I A.W) {s p k : Nat} (hs : s < 2) (hk : k < 3) (hp : p < A.W.size s) (hp2 : p < 12) : fX10_skill 290 (nI s) (nI p) (nI k) (I, L, px_R t v w) = some (nI (A.W.sk s p k), (I, L, px_R t v w)) := by
  unfold fX10_skill
  rw [pm_two12, pb_2, show (21 : Int32) = nI 21 from rfl, show (4 : Int32) = nI 4 from rfl, pk_mul, nI_add, nI_add, pg_pos (pi_in (by omega) (by omega)), pi_ix (by omega)]
  show some (I 292 (21 + 4 * (12 * s + p) + k), _) = _
  rw [show 21 + 4 * (12 * s + p) + k = 21 + 48 * s + 4 * p + k by omega, hW.sk s hs k hk p hp]
theorem cm_thing (h0 : ps_wf A) (hM : ps_MX A I) {a b : Int32} (hpl : ps_pl A a b = true) {k : Nat} (hk : k < 8) : fX10_player 290 a b (nI k) (I, L, px_R t v w) = some (ps_thing A a.toNatClampNeg b.toNatClampNeg k, (hp_u I 290 0 0, L, px_R t v w)) := by
  unfold fX10_player
  rw [pl_let]
  show fx_b2 (fX10_isPlayer 290 a b (hp_u I 290 0 0, L, px_R t v w)) _ = _
  have hM := hM.flag (z := 0)
  generalize hp_u I 290 0 0 = J at hM ⊢
  rw [cm_player h0 hM, pb_2, hpl, if_pos rfl, if_neg (by decide)]
  obtain ⟨ho, s, hs, rfl, p, hp, hp2, rfl⟩ := ps_pl_of h0 hpl
  have hW := hM.W ho
  have hC := hM.C ho
  have w0 := h0.C ho
  have w1 := h0.W ho
  have hfr := ps_e1_eq (p := p) (by omega) (ps_free_lt w1 hs)
  rw [nI_clamp (by omega), nI_clamp (by omega), cm_spotOf hC hs, pb_2, ps_onc_eq w1 w0 hs (by omega), cm_role h0 ho hM hs hp2, pb_2, cm_mate hC hs hp2, pb_2, pm_two12, pb_2]
  unfold ps_thing fX10_player_68
  rcases (show k = 0 ∨ k = 1 ∨ k = 2 ∨ k = 3 ∨ k = 4 ∨ k = 5 ∨ k = 6 ∨ k = 7 by omega) with rfl | rfl | rfl | rfl | rfl | rfl | rfl | rfl
  · rw [if_pos (show nI 0 = 0 from rfl), cm_skill hW hs (by omega) hp hp2, pb_2]; rfl
  · rw [if_neg (show ¬ nI 1 = 0 by decide), if_pos (show nI 1 = 1 from rfl), cm_skill hW hs (by omega) hp hp2, pb_2]; rfl
  · rw [if_neg (show ¬ nI 2 = 0 by decide), if_neg (show ¬ nI 2 = 1 by decide), if_pos (show nI 2 = 2 from rfl), cm_skill hW hs (by omega) hp hp2, pb_2]; rfl
  · rw [if_neg (show ¬ nI 3 = 0 by decide), if_neg (show ¬ nI 3 = 1 by decide), if_neg (show ¬ nI 3 = 2 by decide), if_pos (show nI 3 = 3 from rfl), show (7 : Int32) = nI 7 from rfl, nI_add, pg_pos (pi_in (by omega) (by omega)), pi_ix (by omega)]
    show (if J 292 (7 + s) = nI p then some ((1 : Int32), (J, L, px_R t v w)) else some (0, (J, L, px_R t v w))) = some (if A.W.free s = some p then 1 else 0, _)
    rw [hW.free s hs]
    by_cases c : A.W.free s = some p
    · rw [if_pos (hfr.mpr c).symm, if_pos c]
    · rw [if_neg (fun q => c (hfr.mp q.symm)), if_neg c]
  · rfl
  · rfl
  · rfl
  · rw [if_neg (show ¬ nI 7 = 0 by decide), if_neg (show ¬ nI 7 = 1 by decide), if_neg (show ¬ nI 7 = 2 by decide), if_neg (show ¬ nI 7 = 3 by decide), if_neg (show ¬ nI 7 = 4 by decide), if_neg (show ¬ nI 7 = 5 by decide), if_neg (show ¬ nI 7 = 6 by decide), if_pos (show nI 7 = 7 from rfl), show (95 : Int32) = nI 95 from rfl, nI_add, pg_pos (pi_in (by omega) (by omega)), pi_ix (by omega)]
    show some (J 298 (95 + (12 * s + p)), _) = _
    rw [← Nat.add_assoc, hC.svd s hs p hp2]
    rfl
end PSL
