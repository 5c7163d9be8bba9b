/-! ===== chance, chanceAt, strength, weak, strong ===== -/
section PSF9
variable {t v w : Bool} {A : ps_A} {I : Nat → Nat → Int32} {L : Nat → Nat → Int64}
theorem cx_fillTrials (h0 : ps_wf A) (ho : A.on = true) (hX : ps_RX t A I) :
    ∃ J, ((∀ k, k < 6 → J 35 k = nI (ps_onN A.W A.C 0 k) ∧ J 36 k = nI (ps_onN A.W A.C 1 k)) ∧ ∀ a, a ≠ 35 → a ≠ 36 → J a = I a) ∧ fX9_fillTrials 0 (I, L, px_R t v w) = some (J, L, px_R t v w) := by
  have hT := ps_T_le t
  unfold fX9_fillTrials
  refine pf_loop (S := Nat → Nat → Int32) (fun n i J => fX9_fillTrials_2 n 0 (nI (i + 1)) (J, L, px_R t v w)) (fun J => some (J, L, px_R t v w))
    (fun i J => (∀ k, k < i → J 35 k = nI (ps_onN A.W A.C 0 k) ∧ J 36 k = nI (ps_onN A.W A.C 1 k)) ∧ ∀ a, a ≠ 35 → a ≠ 36 → J a = I a) 6 ?_ ?_ 6 0 fx_N I (by omega) (by unfold fx_N; omega) ⟨fun r hr => absurd hr (by omega), fun _ _ _ => rfl⟩
  · intro n J _
    show fX9_fillTrials_2 (n + 1) _ (nI 7) _ = _
    rw [fX9_fillTrials_2]
    rw [if_pos (by decide)]
  · rintro n i J hi ⟨p1, p2⟩
    show ∃ s', _ ∧ fX9_fillTrials_2 (n + 1) _ (nI (i + 1)) _ = fX9_fillTrials_2 n _ (nI (i + 1 + 1)) _
    have who : ∀ H, (∀ a, a ≠ 35 → a ≠ 36 → H a = I a) → ∀ s, s < 2 → fX9_whoIsOn 0 (nI s) (nI (i + 1)) (H, L, px_R t v w) = some (nI (ps_onN A.W A.C s i), (H, L, px_R t v w)) := fun H e s hs => by
      rw [cx_who (A := A) ((hX.C ho).near (fun a h1 h2 => e a (by omega) (by omega))) ((hX.W ho).near (fun a h1 h2 => e a (by omega) (by omega))) (h0.C ho) hs hi, ps_onN_eq (h0.C ho) hs]
    rw [fX9_fillTrials_2]
    rw [if_neg (show ¬ (6 : Int32) < nI (i + 1) from nI_nlt (a := 6) (by omega) (by omega)), show (0 : Int32) = nI 0 from rfl, who J p2 0 (by omega), pb_2, nI_pred, pg_pos (pi_in hi (by omega)), pl_let, pi_ix (by omega)]
    show ∃ s', _ ∧ fx_b2 (fX9_whoIsOn 0 (nI 1) _ (hp_u J 35 i (nI (ps_onN A.W A.C 0 i)), L, px_R t v w)) _ = _
    rw [who _ (fun a h1 h2 => by rw [pu_cell h1]; exact p2 a h1 h2) 1 (by omega), pb_2, pg_pos (pi_in hi (by omega)), pl_let, pl_let, nI_1]
    refine ⟨hp_u (hp_u J 35 i (nI (ps_onN A.W A.C 0 i))) 36 i (nI (ps_onN A.W A.C 1 i)), ⟨fun k hk => ?_, fun a h1 h2 => ?_⟩, rfl⟩
    · by_cases c : k = i
      · subst c
        exact ⟨by rw [pu_ne (by omega)]; exact pu_eq, pu_eq⟩
      · rw [pu_place c, pu_place c, pu_place c, pu_place c]
        exact p1 k (by omega)
    · rw [pu_cell h2, pu_cell h1]; exact p2 a h1 h2
theorem cx_weighTrials {q : Nat → Nat → Nat} (w1 : ps_wfW A.W) (hW : ps_RW I (ps_T t) A.W) (hq : ∀ s, s < 2 → ps_six A.W s (q s)) (h0 : ∀ k, k < 6 → I 35 k = nI (q 0 k)) (h1 : ∀ k, k < 6 → I 36 k = nI (q 1 k)) :
    ∃ J, ps_F J A.W q ∧ (∀ a, (a < 3 ∨ 11 < a) → J a = I a) ∧ fX9_weighTrials 0 (I, L, px_R t v w) = some (J, L, px_R t v w) := by
  unfold fX9_weighTrials
  obtain ⟨J, j1, j2, j3⟩ := cx_weigh (L := L) (t := t) (v := v) (w := w) w1 hW hq h0 h1 (by omega) (by omega)
  refine ⟨J, j1, j2, ?_⟩
  show fx_b1 (fX4_weigh 3 (ps_T t) 35 36 (I, L, px_R t v w)) _ = _
  rw [j3, pb_1]
theorem cx_weighCourt (h0 : ps_wf A) (ho : A.on = true) (hX : ps_RX t A I) :
    ∃ J, ps_F J A.W (ps_onN A.W A.C) ∧ (∀ a, (a < 3 ∨ 11 < a) → a ≠ 35 → a ≠ 36 → J a = I a) ∧ fX9_weighCourt 0 (I, L, px_R t v w) = some (J, L, px_R t v w) := by
  have hT := ps_T_le t
  unfold fX9_weighCourt
  obtain ⟨J, ⟨j1, j2⟩, j3⟩ := cx_fillTrials (L := L) (v := v) (w := w) h0 ho hX
  rw [j3, pb_1]
  obtain ⟨J2, k1, k2, k3⟩ := cx_weighTrials (I := J) (L := L) (t := t) (v := v) (w := w) (h0.W ho) ((hX.W ho).near (fun a h1 h2 => j2 a (by omega) (by omega))) (fun s hs => ps_onN_six (h0.W ho) (h0.C ho) hs) (fun k hk => (j1 k hk).1) (fun k hk => (j1 k hk).2)
  rw [k3, pb_1]
  exact ⟨J2, k1, fun a ha h1 h2 => (k2 a ha).trans (j2 a h1 h2), rfl⟩
theorem cx_weighNow (h0 : ps_wf A) (ho : A.on = true) (hX : ps_RX t A I) :
    ∃ J, ps_F J A.W A.C.six ∧ (∀ a, (a < 3 ∨ 11 < a) → J a = I a) ∧ fX9_weighNow 0 (I, L, px_R t v w) = some (J, L, px_R t v w) := by
  unfold fX9_weighNow
  have hC := hX.C ho
  obtain ⟨J, j1, j2, j3⟩ := cx_weigh (L := L) (t := t) (v := v) (w := w) (h0.W ho) (hX.W ho) (q := A.C.six) (fun s hs => (h0.C ho).six s hs) (z0 := 24) (z1 := 29) (fun k hk => hC.six 0 (by omega) k hk) (fun k hk => hC.six 1 (by omega) k hk) (by omega) (by omega)
  refine ⟨J, j1, j2, ?_⟩
  show fx_b1 (fX4_weigh 3 (ps_T t) 24 29 (I, L, px_R t v w)) _ = _
  rw [j3, pb_1]
theorem ps_fx.of {I J : Nat → Nat → Int32} (h : ∀ a, (a < 3 ∨ 11 < a) → a ≠ 35 → a ≠ 36 → J a = I a) : ps_fx I J := fun a ha => by
  unfold ps_sc at ha
  exact h a (by omega) (by omega) (by omega)
def sp_chance (A : ps_A) : Int32 := if A.on = false then -1 else if ps_over A then -2 else nI (ps_ch A.W (ps_onN A.W A.C) 0 0 A.C.sv)
theorem cx_chance (h0 : ps_wf A) (hX : ps_RX t A I) : ∃ J, ps_fx I J ∧ fX9_chance 0 (I, L, px_R t v w) = some (sp_chance A, (J, L, px_R t v w)) := by
  unfold fX9_chance sp_chance
  show ∃ J, _ ∧ (if I 0 13 = 0 then _ else _) = _
  rw [hX.on]
  cases ho : A.on with
  | false => exact ⟨I, ps_fx.refl I, by simp⟩
  | true =>
    rw [if_neg (by decide), cx_over (h0.C ho) (h0.W ho) (hX.C ho) (hX.W ho), pb_2, if_neg (show ¬ (true = false) by decide)]
    cases e : ps_over A with
    | true => exact ⟨I, ps_fx.refl I, rfl⟩
    | false =>
      obtain ⟨J, j1, j2, j3⟩ := cx_weighCourt (L := L) (v := v) (w := w) h0 ho hX
      refine ⟨J, ps_fx.of j2, ?_⟩
      rw [if_pos (by decide), j3, pb_1]
      show fx_b2 (fX4_chanceOf 3 (nI 0) (nI 0) (J 22 2) _) _ = _
      rw [j2 22 (by omega) (by omega) (by omega), (hX.C ho).sv, cx_chanceOf (h0.W ho) (fun s hs => ps_onN_six (h0.W ho) (h0.C ho) hs) j1 (by omega) (by omega) (h0.C ho).sv, pb_2]
      rfl
theorem cm_chance (h0 : ps_wf A) (hM : ps_MX A I) : ∃ J, ps_fm (hp_u I 290 0 0) J ∧ fX10_chance 290 (I, L, px_R t v w) = some (sp_chance A, (J, L, px_R t v w)) := by
  unfold fX10_chance sp_chance
  rw [pl_let]
  have hM := hM.flag (z := 0)
  show ∃ J, _ ∧ (if hp_u I 290 0 0 290 7 = 0 then some (-1, (hp_u I 290 0 0, L, px_R t v w)) else fx_b2 (fX10_isOver 290 (hp_u I 290 0 0, L, px_R t v w)) _) = _
  generalize hp_u I 290 0 0 = I at hM ⊢
  rw [hM.on]
  cases ho : A.on with
  | false => exact ⟨I, ps_fm.refl I, rfl⟩
  | true =>
    rw [if_neg (by decide), cm_over (h0.C ho) (h0.W ho) (hM.C ho) (hM.W ho), pb_2, if_neg (show ¬ (true = false) by decide)]
    cases e : ps_over A with
    | true => exact ⟨I, ps_fm.refl I, rfl⟩
    | false =>
      obtain ⟨J, j1, j2, j3⟩ := cm_takesCourt (L := L) (t := t) (v := v) (w := w) h0 ho hM
      have fm : ps_fm I J := fun a ha => j2 a (by omega)
      refine ⟨J, fm, ?_⟩
      rw [if_pos (by decide), j3, pb_1]
      show fx_b2 (fX10_chanceOf 290 (nI 0) (nI 0) (J 298 2) _) _ = _
      rw [j2 298 (by omega), (hM.C ho).sv, cm_chanceOf (h0.W ho) ((hM.fm fm).W ho) (fun s hs => ps_onN_six (h0.W ho) (h0.C ho) hs) j1 (by omega) (by omega) (h0.C ho).sv, pb_2]
      rfl
def ps_tu (a : Int32) : Bool := decide (0 ≤ a) && decide (a < 6)
theorem ps_tu_of {a : Int32} (h : ps_tu a = true) : ∃ k, k < 6 ∧ a = nI k := by
  simp only [ps_tu, Bool.and_eq_true, decide_eq_true_eq] at h
  obtain ⟨h1, h2⟩ := h
  obtain ⟨j, hj, rfl⟩ := nI_of (Int32.not_lt.mpr h1)
  have h3 : nI j < nI 6 := h2
  rw [nI_ltI hj (by omega)] at h3
  exact ⟨j, h3, rfl⟩
theorem cx_turns (a : Int32) (h : hp_T) : fX9_isTurns a h = some (if ps_tu a then 1 else 0, h) := by
  unfold fX9_isTurns ps_tu
  by_cases c1 : a < 0
  · rw [if_pos c1, decide_eq_false (Int32.not_le.mpr c1)]; rfl
  · rw [if_neg c1, decide_eq_true (Int32.not_lt.mp c1)]
    by_cases c2 : 6 ≤ a
    · rw [if_pos c2, decide_eq_false (Int32.not_lt.mpr c2)]; rfl
    · rw [if_neg c2, decide_eq_true (Int32.not_le.mp c2)]; rfl
theorem cm_turns (hM : ps_MX A I) (a : Int32) : fX10_isTurn 290 a (I, L, px_R t v w) = some (if A.on && ps_tu a then 1 else 0, (I, L, px_R t v w)) := by
  unfold fX10_isTurn ps_tu
  show (if I 290 7 = 0 then _ else _) = _
  rw [hM.on]
  cases A.on with
  | false => rfl
  | true =>
    rw [if_neg (by decide)]
    by_cases c1 : a < 0
    · rw [if_pos c1, decide_eq_false (Int32.not_le.mpr c1)]; rfl
    · rw [if_neg c1, decide_eq_true (Int32.not_lt.mp c1)]
      by_cases c2 : 6 ≤ a
      · rw [if_pos c2, decide_eq_false (Int32.not_lt.mpr c2)]; rfl
      · rw [if_neg c2, decide_eq_true (Int32.not_le.mp c2)]; rfl
theorem ps_sd_on {A : ps_A} {a : Int32} (h : ps_sd A a = true) : A.on = true := (ps_sd_of h).1
def sp_chanceAt (A : ps_A) (a b c : Int32) : Int32 := if ps_sd A c && (ps_tu a && ps_tu b) then nI (ps_ch A.W A.C.six a.toNatClampNeg b.toNatClampNeg c.toNatClampNeg) else -1
theorem cx_chanceAt (h0 : ps_wf A) (hX : ps_RX t A I) (a b c : Int32) : ∃ J, ps_fx I J ∧ fX9_chanceAt 0 a b c (I, L, px_R t v w) = some (sp_chanceAt A a b c, (J, L, px_R t v w)) := by
  unfold fX9_chanceAt sp_chanceAt
  rw [cx_side hX, pb_2]
  cases e : ps_sd A c with
  | false => exact ⟨I, ps_fx.refl I, rfl⟩
  | true =>
    rw [if_neg (by decide), cx_turns, pb_2]
    cases e1 : ps_tu a with
    | false => exact ⟨I, ps_fx.refl I, rfl⟩
    | true =>
      rw [if_neg (by decide), cx_turns, pb_2]
      cases e2 : ps_tu b with
      | false => exact ⟨I, ps_fx.refl I, rfl⟩
      | true =>
        obtain ⟨ho, s, hs, rfl⟩ := ps_sd_of e
        obtain ⟨r, hr, rfl⟩ := ps_tu_of e1
        obtain ⟨r2, hr2, rfl⟩ := ps_tu_of e2
        obtain ⟨J, j1, j2, j3⟩ := cx_weighNow (L := L) (v := v) (w := w) h0 ho hX
        refine ⟨J, ps_fx.of (fun a ha _ _ => j2 a ha), ?_⟩
        rw [if_neg (by decide), j3, pb_1]
        show fx_b2 (fX4_chanceOf 3 _ _ _ _) _ = _
        rw [cx_chanceOf (h0.W ho) (fun s hs => (h0.C ho).six s hs) j1 hr hr2 hs, pb_2, nI_clamp (by omega), nI_clamp (by omega), nI_clamp (by omega)]
        rfl
theorem cm_chanceAt (h0 : ps_wf A) (hM : ps_MX A I) (a b c : Int32) : ∃ J, ps_fm (hp_u I 290 0 0) J ∧ fX10_chanceAt 290 a b c (I, L, px_R t v w) = some (sp_chanceAt A a b c, (J, L, px_R t v w)) := by
  unfold fX10_chanceAt sp_chanceAt
  rw [pl_let]
  have hM := hM.flag (z := 0)
  show ∃ J, _ ∧ fx_b2 (fX10_isTurn 290 a (hp_u I 290 0 0, L, px_R t v w)) _ = _
  generalize hp_u I 290 0 0 = I at hM ⊢
  rw [cm_turns hM, pb_2]
  cases e1 : A.on && ps_tu a with
  | false =>
    refine ⟨I, ps_fm.refl I, ?_⟩
    have : (ps_sd A c && (ps_tu a && ps_tu b)) = false := by
      cases h1 : A.on with
      | false => simp [ps_sd, h1]
      | true => rw [h1] at e1; rw [show ps_tu a = false from e1]; simp
    rw [this]; rfl
  | true =>
    have e1b : ps_tu a = true := by revert e1; cases A.on <;> simp
    have on : A.on = true := by revert e1; cases A.on <;> simp
    rw [if_neg (by decide), cm_turns hM, pb_2, on, e1b]
    cases e2 : ps_tu b with
    | false => exact ⟨I, ps_fm.refl I, by rw [Bool.and_comm (ps_sd A c)]; rfl⟩
    | true =>
      rw [if_neg (by decide), cm_side hM, pb_2]
      cases e : ps_sd A c with
      | false => exact ⟨I, ps_fm.refl I, rfl⟩
      | true =>
        obtain ⟨ho, s, hs, rfl⟩ := ps_sd_of e
        obtain ⟨r, hr, rfl⟩ := ps_tu_of e1b
        obtain ⟨r2, hr2, rfl⟩ := ps_tu_of e2
        obtain ⟨J, j1, j2, j3⟩ := cm_takesLines (L := L) (t := t) (v := v) (w := w) h0 ho hM
        have fm : ps_fm I J := fun a ha => j2 a (by omega)
        refine ⟨J, fm, ?_⟩
        rw [if_neg (by decide), j3, pb_1, cm_chanceOf (h0.W ho) ((hM.fm fm).W ho) (fun s hs => (h0.C ho).six s hs) j1 hr hr2 hs, pb_2, nI_clamp (by omega), nI_clamp (by omega), nI_clamp (by omega)]
        rfl
end PSF9
