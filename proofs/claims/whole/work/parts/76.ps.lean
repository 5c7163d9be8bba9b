/-! ===== ifSwapped, bestSwap ===== -/
def ps_wq (A : ps_A) (s i j : Nat) (s' k : Nat) : Nat := if s' = s ∧ k = j then A.W.start s i else if s' = s ∧ k = i then A.W.start s j else A.W.start s' k
def ps_wv (A : ps_A) (s i j : Nat) : Int32 := nI (ps_V (ps_ch A.W (ps_wq A s i j)) A.W.pts A.W.pts 0 0 A.W.fst)
def ps_swr (A : ps_A) (s i : Nat) (b : Option (Int32 × Int32 × Int32)) : Nat → Option (Int32 × Int32 × Int32)
  | 0 => b
  | n + 1 => ps_bo (ps_swr A s i b n) (nI (i + 1)) (nI (i + 1 + n + 1)) (ps_wv A s i (i + 1 + n)) (decide (s = 0))
def ps_sws (A : ps_A) (s : Nat) : Nat → Option (Int32 × Int32 × Int32)
  | 0 => none
  | i + 1 => ps_swr A s i (ps_sws A s i) (5 - i)
theorem ps_bo_ne (b : Option (Int32 × Int32 × Int32)) (f s z : Int32) (m : Bool) : ∃ d, ps_bo b f s z m = some d := by
  rcases ps_bo_some b f s z m with e | e
  · exact ⟨_, e⟩
  · cases b with
    | none => exact ⟨_, rfl⟩
    | some c => exact ⟨c, e⟩
theorem ps_swr_some {A : ps_A} {s i : Nat} {b : Option (Int32 × Int32 × Int32)} : ∀ n, (n ≠ 0 ∨ ∃ d, b = some d) → ∃ d, ps_swr A s i b n = some d
  | 0, h => h.resolve_left (fun q => q rfl)
  | n + 1, _ => ps_bo_ne _ _ _ _ _
theorem ps_sws_some {A : ps_A} {s : Nat} : ∀ i, ∃ d, ps_sws A s (i + 1) = some d
  | 0 => by rw [ps_sws]; exact ps_swr_some (5 - 0) (Or.inl (by decide))
  | i + 1 => by
    rw [ps_sws]
    exact ps_swr_some _ (Or.inr (ps_sws_some i))
theorem ps_swr_ne {A : ps_A} {s i : Nat} (hi : i < 2 ^ 20) {b : Option (Int32 × Int32 × Int32)} (hb : ∀ c, b = some c → c.1 ≠ 0) : ∀ n c, ps_swr A s i b n = some c → c.1 ≠ 0
  | 0, c, h => hb c h
  | n + 1, c, h => by
    rw [ps_swr] at h
    rcases ps_bo_some (ps_swr A s i b n) (nI (i + 1)) (nI (i + 1 + n + 1)) (ps_wv A s i (i + 1 + n)) (decide (s = 0)) with e | e
    · rw [e] at h; rw [← Option.some.inj h]; exact nI_ne0 (by omega) (by omega)
    · rw [e] at h; exact ps_swr_ne hi hb n c h
theorem ps_sws_ne {A : ps_A} {s : Nat} : ∀ i, i < 2 ^ 20 → ∀ c, ps_sws A s i = some c → c.1 ≠ 0
  | 0, _, c, h => by cases h
  | i + 1, hi, c, h => by
    rw [ps_sws] at h
    exact ps_swr_ne (by omega) (fun c h => ps_sws_ne i (by omega) c h) _ c h
def sp_ifSwapped (A : ps_A) (a b c : Int32) : Int32 := if ps_sd A a && (ps_sp b && (ps_sp c && !decide (b = c))) then ps_wv A a.toNatClampNeg (b.toNatClampNeg - 1) (c.toNatClampNeg - 1) else -1
def sp_bestSwap (A : ps_A) (a b : Int32) : Int32 := if ps_sd A a && ps_02 b then ps_ans (ps_sws A a.toNatClampNeg 5) b else -1
theorem ps_wq_six {A : ps_A} (h0 : ps_wf A) (ho : A.on = true) {s i j : Nat} (hs : s < 2) (hi : i < 6) (hj : j < 6) : ∀ s', s' < 2 → ps_six A.W s' (ps_wq A s i j s') := by
  intro s' hs' k hk
  have st := (h0.W ho).st
  unfold ps_wq
  split
  · rename_i h; rw [h.1]; exact st s hs i hi
  · split
    · rename_i h; rw [h.1]; exact st s hs j hj
    · exact st s' hs' k hk
section PSF26
variable {t v w : Bool} {A : ps_A} {I : Nat → Nat → Int32} {L : Nat → Nat → Int64}
theorem cx_swapped (h0 : ps_wf A) (ho : A.on = true) (hX : ps_RX t A I) {s i j : Nat} (hs : s < 2) (hi : i < 6) (hj : j < 6) (hij : i ≠ j) :
    ∃ z : Bool × (Nat → Nat → Int32), ps_fx I z.2 ∧ fX9_valueSwapped 0 (nI s) (nI (i + 1)) (nI (j + 1)) (I, L, px_R t v w) = some (ps_wv A s i j, (z.2, L, px_R t z.1 w)) := by
  have hT := ps_T_le t
  have w1 := h0.W ho
  have hW := hX.W ho
  unfold fX9_valueSwapped
  rw [pl_let, pl_let]
  show ∃ z : Bool × (Nat → Nat → Int32), _ ∧ fx_b2 (fX9_trialOf 0 (nI s) (hp_w (hp_w I 35 (I (px_R t v w (px_R t v w (ps_T t) 0) 4))) 36 (hp_w I 35 (I (px_R t v w (px_R t v w (ps_T t) 0) 4)) (px_R t v w (px_R t v w (ps_T t) 1) 4)), L, px_R t v w)) _ = _
  rw [pr_T_0, pr_T_1, pr_T1 (by omega), pr_T7 (by omega), pw_cell (x := ps_T t + 8 + 4) (by omega)]
  have near : ∀ a, a ≠ 35 → a ≠ 36 → hp_w (hp_w I 35 (I (ps_T t + 2 + 4))) 36 (I (ps_T t + 8 + 4)) a = I a := fun a h1 h2 => by rw [pw_cell h2, pw_cell h1]
  have c35 : hp_w (hp_w I 35 (I (ps_T t + 2 + 4))) 36 (I (ps_T t + 8 + 4)) 35 = I (ps_T t + 2 + 4) := by rw [pw_cell (by omega), pw_eq]
  have c36 : hp_w (hp_w I 35 (I (ps_T t + 2 + 4))) 36 (I (ps_T t + 8 + 4)) 36 = I (ps_T t + 8 + 4) := pw_eq
  generalize hp_w (hp_w I 35 (I (ps_T t + 2 + 4))) 36 (I (ps_T t + 8 + 4)) = H at near c35 c36 ⊢
  have base : ∀ s', s' < 2 → ∀ k, k < 6 → H (35 + s') k = nI (A.W.start s' k) := by
    intro s' hs' k hk
    rcases (show s' = 0 ∨ s' = 1 by omega) with rfl | rfl
    · rw [show 35 + 0 = 35 from rfl, c35]; exact hW.st 0 (by omega) k hk
    · rw [show 35 + 1 = 36 from rfl, c36]; exact hW.st 1 (by omega) k hk
  have e1 : fX9_trialOf 0 (nI s) (H, L, px_R t v w) = some (35 + s, (H, L, px_R t v w)) := by
    rcases (show s = 0 ∨ s = 1 by omega) with rfl | rfl <;> rfl
  rw [e1, pb_2, nI_pred, nI_pred, pg_pos (pi_in hi (by omega)), pl_let, pg_pos (pi_in hj (by omega)), pg_pos (pi_in hi (by omega)), pl_let, pg_pos (pi_in hj (by omega)), pl_let, pi_ix (n := i) (by omega), pi_ix (n := j) (by omega)]
  show ∃ z : Bool × (Nat → Nat → Int32), _ ∧ fx_b1 (fX9_weighTrials 0 (hp_u (hp_u H (35 + s) i (H (35 + s) j)) (35 + s) j (H (35 + s) i), L, px_R t v w)) _ = _
  rw [base s hs i hi, base s hs j hj]
  have near2 : ∀ a, a ≠ 35 → a ≠ 36 → hp_u (hp_u H (35 + s) i (nI (A.W.start s j))) (35 + s) j (nI (A.W.start s i)) a = I a := fun a h1 h2 => by rw [pu_cell (by omega), pu_cell (by omega)]; exact near a h1 h2
  have rd : ∀ s', s' < 2 → ∀ k, k < 6 → hp_u (hp_u H (35 + s) i (nI (A.W.start s j))) (35 + s) j (nI (A.W.start s i)) (35 + s') k = nI (ps_wq A s i j s' k) := by
    intro s' hs' k hk
    unfold ps_wq
    by_cases c1 : s' = s ∧ k = j
    · rw [if_pos c1, c1.1, c1.2, pu_eq]
    · rw [if_neg c1, pu_ne (by omega)]
      by_cases c2 : s' = s ∧ k = i
      · rw [if_pos c2, c2.1, c2.2, pu_eq]
      · rw [if_neg c2, pu_ne (by omega)]; exact base s' hs' k hk
  obtain ⟨J2, m1, m2, m3⟩ := cx_weighTrials (I := hp_u (hp_u H (35 + s) i (nI (A.W.start s j))) (35 + s) j (nI (A.W.start s i))) (L := L) (t := t) (v := v) (w := w) (q := ps_wq A s i j) w1 (hW.near (fun a h1 h2 => near2 a (by omega) (by omega))) (ps_wq_six h0 ho hs hi hj) (rd 0 (by omega)) (rd 1 (by omega))
  have fx : ps_fx I J2 := fun a ha => by unfold ps_sc at ha; rw [m2 a (by omega)]; exact near2 a (by omega) (by omega)
  rw [m3, pb_1]
  show ∃ z : Bool × (Nat → Nat → Int32), _ ∧ fx_b2 (fX4_valueOf 3 (nI 0) (nI 0) (nI 0) (nI 0) (J2 (ps_T t) 5) _) _ = _
  rw [m2 _ (by omega), near2 _ (by omega) (by omega), hW.fst]
  have p3 := w1.p3
  obtain ⟨z, k1, k2⟩ := cx_valueOf (I := J2) (L := L) (t := t) (v := v) (w := w) w1 (ps_wq_six h0 ho hs hi hj) m1 (a := 0) (b := 0) (r := 0) (s := 0) (by omega) (by omega) w1.fst (by omega) (by omega) (by omega)
  rw [k2, pb_2]
  exact ⟨z, fx.trans (ps_fx.val k1), rfl⟩
theorem cm_swapped (h0 : ps_wf A) (ho : A.on = true) (hM : ps_MX A I) {s i j : Nat} (hs : s < 2) (hi : i < 6) (hj : j < 6) (hij : i ≠ j) :
    ∃ J, ps_fm I J ∧ fX10_swapped 290 (nI s) (nI (i + 1)) (nI (j + 1)) (I, L, px_R t v w) = some (ps_wv A s i j, (J, L, px_R t v w)) := by
  unfold fX10_swapped
  obtain ⟨J, j1, j2, j3⟩ := cm_takesStart (A := A) (L := L) (t := t) (v := v) (w := w) (hM.W ho)
  rw [j3, pb_1, pm_two, pb_2, pm_two, pb_2, pg_pos (pi_in (by omega) (by omega)), pl_let, pg_pos (pi_in (by omega) (by omega)), pg_pos (pi_in (by omega) (by omega)), pl_let, pg_pos (pi_in (by omega) (by omega)), pl_let, pi_ix (n := 6 * s + i) (by omega), pi_ix (n := 6 * s + j) (by omega)]
  show ∃ H, _ ∧ fx_b1 (fX10_laysValues 290 (hp_u (hp_u J 301 (6 * s + i) (J 301 (6 * s + j))) 301 (6 * s + j) (J 301 (6 * s + i)), L, px_R t v w)) _ = _
  rw [j1 s hs i hi, j1 s hs j hj]
  have cell : ∀ a, a ≠ 301 → hp_u (hp_u J 301 (6 * s + i) (nI (A.W.start s j))) 301 (6 * s + j) (nI (A.W.start s i)) a = I a := fun a ha => by rw [pu_cell ha, pu_cell ha]; exact j2 a ha
  have hS : ps_S (hp_u (hp_u J 301 (6 * s + i) (nI (A.W.start s j))) 301 (6 * s + j) (nI (A.W.start s i))) (ps_wq A s i j) := by
    intro s' hs' k hk
    unfold ps_wq
    by_cases c1 : s' = s ∧ k = j
    · rw [if_pos c1, c1.1, c1.2, pu_eq]
    · rw [if_neg c1, pu_place (by omega)]
      by_cases c2 : s' = s ∧ k = i
      · rw [if_pos c2, c2.1, c2.2, pu_eq]
      · rw [if_neg c2, pu_place (by omega)]; exact j1 s' hs' k hk
  have hMW := (hM.fm (show ps_fm I _ from fun a ha => cell a (by omega))).W ho
  obtain ⟨H, k1, k2, k3⟩ := cm_laysValues (L := L) (t := t) (v := v) (w := w) (h0.W ho) hMW (ps_wq_six h0 ho hs hi hj) hS
  have tb := cm_tableAtq (I := H) (L := L) (t := t) (v := v) (w := w) (A := A) (q := ps_wq A s i j) (h0.W ho) (by rw [k2 292 (by omega) (by omega), cell 292 (by omega)]; exact (hM.W ho).fst) k1 (r := 0) (s := 0) (by omega) (by omega)
  rw [show nI 0 = 0 from rfl] at tb
  refine ⟨H, fun a ha => by rw [k2 a (by omega) (by omega), cell a (by omega)], ?_⟩
  rw [k3, pb_1, tb, pb_2]; rfl
theorem cx_ifSwapped (h0 : ps_wf A) (hX : ps_RX t A I) (a b c : Int32) : ∃ z : Bool × (Nat → Nat → Int32), ps_fx I z.2 ∧ fX9_ifSwapped 0 a b c (I, L, px_R t v w) = some (sp_ifSwapped A a b c, (z.2, L, px_R t z.1 w)) := by
  unfold fX9_ifSwapped sp_ifSwapped
  rw [cx_side hX, pb_2]
  cases e : ps_sd A a with
  | false => exact ⟨(v, I), ps_fx.refl I, rfl⟩
  | true =>
    rw [if_neg (by decide), cx_spot, pb_2]
    cases e1 : ps_sp b with
    | false => exact ⟨(v, I), ps_fx.refl I, rfl⟩
    | true =>
      rw [if_neg (by decide), cx_spot, pb_2]
      cases e2 : ps_sp c with
      | false => exact ⟨(v, I), ps_fx.refl I, rfl⟩
      | true =>
        rw [if_neg (by decide)]
        by_cases e3 : b = c
        · rw [if_pos e3, decide_eq_true e3]; exact ⟨(v, I), ps_fx.refl I, rfl⟩
        · rw [if_neg e3, decide_eq_false e3]
          obtain ⟨ho, s, hs, rfl⟩ := ps_sd_of e
          obtain ⟨i, hi, rfl⟩ := ps_sp_of e1
          obtain ⟨j, hj, rfl⟩ := ps_sp_of e2
          obtain ⟨z, k1, k2⟩ := cx_swapped (L := L) (v := v) (w := w) h0 ho hX hs hi hj (fun q => e3 (by rw [q]))
          refine ⟨z, k1, ?_⟩
          rw [k2, pb_2, nI_clamp (n := s) (by omega), nI_clamp (n := i + 1) (by omega), nI_clamp (n := j + 1) (by omega)]; rfl
theorem cm_ifSwapped (h0 : ps_wf A) (hM : ps_MX A I) (a b c : Int32) : ∃ J, ps_fm (hp_u I 290 0 0) J ∧ fX10_ifSwapped 290 a b c (I, L, px_R t v w) = some (sp_ifSwapped A a b c, (J, L, px_R t v w)) := by
  unfold fX10_ifSwapped sp_ifSwapped
  rw [pl_let]
  have hM := hM.flag (z := 0)
  show ∃ J, _ ∧ fx_b2 (fX10_isSide 290 a (hp_u I 290 0 0, L, px_R t v w)) _ = _
  generalize hp_u I 290 0 0 = I at hM ⊢
  rw [cm_side hM, pb_2]
  cases e : ps_sd A a with
  | false => exact ⟨I, ps_fm.refl I, rfl⟩
  | true =>
    rw [if_neg (by decide), cm_spot, pb_2]
    cases e1 : ps_sp b with
    | false => exact ⟨I, ps_fm.refl I, rfl⟩
    | true =>
      rw [if_neg (by decide), cm_spot, pb_2]
      cases e2 : ps_sp c with
      | false => exact ⟨I, ps_fm.refl I, rfl⟩
      | true =>
        rw [if_neg (by decide)]
        by_cases e3 : b = c
        · rw [if_pos e3, decide_eq_true e3]; exact ⟨I, ps_fm.refl I, rfl⟩
        · rw [if_neg e3, decide_eq_false e3]
          obtain ⟨ho, s, hs, rfl⟩ := ps_sd_of e
          obtain ⟨i, hi, rfl⟩ := ps_sp_of e1
          obtain ⟨j, hj, rfl⟩ := ps_sp_of e2
          obtain ⟨J, k1, k2⟩ := cm_swapped (L := L) (t := t) (v := v) (w := w) h0 ho hM hs hi hj (fun q => e3 (by rw [q]))
          refine ⟨J, k1, ?_⟩
          rw [k2, pb_2, nI_clamp (n := s) (by omega), nI_clamp (n := i + 1) (by omega), nI_clamp (n := j + 1) (by omega)]; rfl
theorem cx_offerSwaps (h0 : ps_wf A) (ho : A.on = true) (hX : ps_RX t A I) {s : Nat} (hs : s < 2) :
    ∃ z : Bool × (Nat → Nat → Int32), (ps_BC z.2 (287 + 2 * s) (ps_sws A s 5) ∧ ∀ a, ¬ ps_sc a → a ≠ 287 + 2 * s → z.2 a = I a) ∧ fX9_offerSwaps 0 (nI s) (287 + 2 * s) (I, L, px_R t v w) = some (z.2, L, px_R t z.1 w) := by
  unfold fX9_offerSwaps
  obtain ⟨I1, i1, i2, i3⟩ := cx_clear (c := 287 + 2 * s) (I := I) (L := L) (px_R t v w)
  rw [i3, pb_1]
  have inner : ∀ (i : Nat), i < 5 → ∀ (b : Option (Int32 × Int32 × Int32)) (z0 : Bool × (Nat → Nat → Int32)), ps_BC z0.2 (287 + 2 * s) b → (∀ a, ¬ ps_sc a → a ≠ 287 + 2 * s → z0.2 a = I a) → ∀ (k6 : Nat → Int32 → Nat → Int32 → hp_T → Option hp_T),
      ∃ z : Bool × (Nat → Nat → Int32), (ps_BC z.2 (287 + 2 * s) (ps_swr A s i b (5 - i)) ∧ ∀ a, ¬ ps_sc a → a ≠ 287 + 2 * s → z.2 a = I a) ∧ fX9_offerSwaps_17 k6 fx_N 0 (nI s) (287 + 2 * s) (nI (i + 1)) (nI (i + 1 + 0 + 1)) (z0.2, L, px_R t z0.1 w) = k6 0 (nI s) (287 + 2 * s) (nI (i + 1 + 1)) (z.2, L, px_R t z.1 w) := by
    intro i hi b z0 hz1 hz2 k6
    refine pf_loop (S := Bool × (Nat → Nat → Int32)) (fun n m z => fX9_offerSwaps_17 k6 n 0 (nI s) (287 + 2 * s) (nI (i + 1)) (nI (i + 1 + m + 1)) (z.2, L, px_R t z.1 w)) (fun z => k6 0 (nI s) (287 + 2 * s) (nI (i + 1 + 1)) (z.2, L, px_R t z.1 w))
      (fun m z => ps_BC z.2 (287 + 2 * s) (ps_swr A s i b m) ∧ ∀ a, ¬ ps_sc a → a ≠ 287 + 2 * s → z.2 a = I a) (5 - i) ?_ ?_ (5 - i) 0 fx_N z0 (by omega) (by unfold fx_N; omega) ⟨hz1, hz2⟩
    · intro n z _
      show fX9_offerSwaps_17 k6 (n + 1) _ _ _ _ (nI (i + 1 + (5 - i) + 1)) _ = _
      rw [fX9_offerSwaps_17, if_pos (show (6 : Int32) < nI (i + 1 + (5 - i) + 1) from nI_lt (a := 6) (by omega) (by omega)), pl_let, nI_1]
    · rintro n m ⟨v1, J⟩ hm ⟨p1, p2⟩
      dsimp only at p1 p2
      have hXJ := hX.G (ps_ge (fun a h1 h2 => p2 a h1 (by omega)))
      show ∃ z : Bool × (Nat → Nat → Int32), _ ∧ fX9_offerSwaps_17 k6 (n + 1) _ _ _ _ (nI (i + 1 + m + 1)) _ = fX9_offerSwaps_17 k6 n _ _ _ _ (nI (i + 1 + m + 1 + 1)) _
      obtain ⟨z1, k1, k3⟩ := cx_swapped (I := J) (L := L) (t := t) (v := v1) (w := w) h0 ho hXJ hs (show i < 6 by omega) (show i + 1 + m < 6 by omega) (by omega)
      rw [fX9_offerSwaps_17, if_neg (show ¬ (6 : Int32) < nI (i + 1 + m + 1) from nI_nlt (a := 6) (by omega) (by omega)), k3, pb_2]
      unfold fX9_offerSwaps_45
      obtain ⟨H, l1, l2, l3⟩ := cx_offer (I := z1.2) (L := L) (p1.cell (k1 _ (by unfold ps_sc; omega))) (nI (i + 1)) (nI (i + 1 + m + 1)) (ps_wv A s i (i + 1 + m)) (decide (s = 0)) (px_R t z1.1 w)
      refine ⟨(z1.1, H), ⟨l1, fun a h1 h2 => by rw [show (z1.1, H).2 a = H a from rfl, l2 a h2, k1 a h1]; exact p2 a h1 h2⟩, ?_⟩
      rcases (show s = 0 ∨ s = 1 by omega) with rfl | rfl
      · rw [if_pos (show decide (0 = 0) = true from rfl)] at l3
        rw [if_pos (show nI 0 = 0 from rfl), l3, pb_1, pl_let, nI_1]
      · rw [if_neg (show ¬ decide (1 = 0) = true by decide)] at l3
        rw [if_neg (show ¬ nI 1 = 0 by decide), l3, pb_1, pl_let, nI_1]
  refine pf_loop (S := Bool × (Nat → Nat → Int32)) (fun n i z => fX9_offerSwaps_6 n 0 (nI s) (287 + 2 * s) (nI (i + 1)) (z.2, L, px_R t z.1 w)) (fun z => some (z.2, L, px_R t z.1 w))
    (fun i z => ps_BC z.2 (287 + 2 * s) (ps_sws A s i) ∧ ∀ a, ¬ ps_sc a → a ≠ 287 + 2 * s → z.2 a = I a) 5 ?_ ?_ 5 0 fx_N (v, I1) (by omega) (by unfold fx_N; omega) ⟨i1, fun a _ h2 => i2 a h2⟩
  · intro n z _
    show fX9_offerSwaps_6 (n + 1) _ _ _ (nI 6) _ = _
    rw [fX9_offerSwaps_6, if_pos (by decide)]
  · rintro n i z hi ⟨p1, p2⟩
    show ∃ z' : Bool × (Nat → Nat → Int32), _ ∧ fX9_offerSwaps_6 (n + 1) _ _ _ (nI (i + 1)) _ = fX9_offerSwaps_6 n _ _ _ (nI (i + 1 + 1)) _
    rw [fX9_offerSwaps_6, if_neg (show ¬ (6 : Int32) ≤ nI (i + 1) from nI_ge (b := 6) (by omega) (by omega)), pl_let, nI_1]
    obtain ⟨z1, q1, q2⟩ := inner i hi _ z p1 p2 (fX9_offerSwaps_6 n)
    exact ⟨z1, q1, q2⟩
theorem cx_bestSwap (h0 : ps_wf A) (hX : ps_RX t A I) (hK : A.on = true → ∀ s, s < 2 → ps_kb I (287 + 2 * s) (ps_sws A s 5)) (a b : Int32) :
    ∃ z : Bool × (Nat → Nat → Int32), ps_G I z.2 ∧ z.2 0 = I 0 ∧ z.2 34 = I 34 ∧ (∀ s, s < 2 → z.2 (286 + 2 * s) = I (286 + 2 * s)) ∧ (A.on = true → ∀ s, s < 2 → ps_kb z.2 (287 + 2 * s) (ps_sws A s 5)) ∧ fX9_bestSwap 0 a b (I, L, px_R t v w) = some (sp_bestSwap A a b, (z.2, L, px_R t z.1 w)) := by
  have triv : ∀ x, fX9_bestSwap 0 a b (I, L, px_R t v w) = some (x, (I, L, px_R t v w)) → x = sp_bestSwap A a b → ∃ z : Bool × (Nat → Nat → Int32), ps_G I z.2 ∧ z.2 0 = I 0 ∧ z.2 34 = I 34 ∧ (∀ s, s < 2 → z.2 (286 + 2 * s) = I (286 + 2 * s)) ∧ (A.on = true → ∀ s, s < 2 → ps_kb z.2 (287 + 2 * s) (ps_sws A s 5)) ∧ fX9_bestSwap 0 a b (I, L, px_R t v w) = some (sp_bestSwap A a b, (z.2, L, px_R t z.1 w)) :=
    fun x e1 e2 => ⟨(v, I), ps_G.refl I, rfl, rfl, fun _ _ => rfl, hK, by rw [e1, e2]⟩
  have unf : fX9_bestSwap 0 a b (I, L, px_R t v w) = fX9_bestSwap 0 a b (I, L, px_R t v w) := rfl
  conv at unf => rhs; unfold fX9_bestSwap; rw [cx_side hX, pb_2]
  cases e : ps_sd A a with
  | false => exact triv (-1) (by rw [unf, e]; rfl) (by unfold sp_bestSwap; rw [e]; rfl)
  | true =>
    rw [e, if_neg (by decide), ps_02_if] at unf
    cases e1 : ps_02 b with
    | false => exact triv (-1) (by rw [unf, e1]; rfl) (by unfold sp_bestSwap; rw [e, e1]; rfl)
    | true =>
      obtain ⟨ho, s, hs, rfl⟩ := ps_sd_of e
      have hs2 : sp_bestSwap A (nI s) b = ps_ans (ps_sws A s 5) b := by
        unfold sp_bestSwap
        rw [e, e1, nI_clamp (n := s) (by omega), if_pos (show (true && true) = true from rfl)]
      rw [e1, if_pos rfl, pg_pos (pi_in hs (by omega)), pi_ix (by omega), show (I, L, px_R t v w).2.2 ((I, L, px_R t v w).2.2 0 10) s = 287 + 2 * s from (pr_38 t v w s hs).2] at unf
      obtain ⟨d0, hd0⟩ := ps_sws_some (A := A) (s := s) 4
      rw [show 4 + 1 = 5 from rfl] at hd0
      have ea : ∀ d, ps_ans (some d) b = ps_pa d b := fun _ => rfl
      rcases hK ho s hs with k0 | ⟨d, d1, d2⟩
      · rw [if_pos (show (I, L, px_R t v w).1 (287 + 2 * s) 0 = 0 from k0)] at unf
        obtain ⟨z, ⟨z1, z2⟩, z3⟩ := cx_offerSwaps (L := L) (v := v) (w := w) h0 ho hX hs
        rw [hd0] at z1
        rw [z3, pb_1, cx_part z1, pb_2] at unf
        refine ⟨z, ps_ge (fun a h1 h2 => z2 a h1 (by omega)), z2 0 (by unfold ps_sc; omega) (by omega), z2 34 (by unfold ps_sc; omega) (by omega), fun s' hs' => z2 _ (by unfold ps_sc; omega) (by omega), fun _ s' hs' => ?_, by rw [unf, hs2, hd0, ea]⟩
        by_cases q : s' = s
        · subst q
          exact Or.inr ⟨d0, hd0, z1⟩
        · exact (hK ho s' hs').cell (z2 _ (by unfold ps_sc; omega) (by omega))
      · rw [if_neg (show ¬ (I, L, px_R t v w).1 (287 + 2 * s) 0 = 0 by rw [show (I, L, px_R t v w).1 (287 + 2 * s) 0 = 1 from d2.1]; decide), cx_part d2, pb_2] at unf
        exact triv _ unf (by rw [hs2, d1, ea])
end PSF26
