/-! ===== value, valueAt, worth ===== -/
def ps_sco (W : ps_W) (a b : Int32) : Bool := if a < 0 then false else if nI W.pts < a then false else if b < 0 then false else if nI W.pts < b then false else if a < nI W.pts then true else if nI W.pts ≤ b then false else true
theorem ps_sco_of {W : ps_W} (w1 : ps_wfW W) {a b : Int32} (h : ps_sco W a b = true) : ∃ i j, a = nI i ∧ b = nI j ∧ i ≤ W.pts ∧ j ≤ W.pts ∧ (i < W.pts ∨ j < W.pts) := by
  have h25 := w1.p25
  unfold ps_sco at h
  by_cases c1 : a < 0
  · rw [if_pos c1] at h; exact absurd h (by decide)
  rw [if_neg c1] at h
  by_cases c2 : nI W.pts < a
  · rw [if_pos c2] at h; exact absurd h (by decide)
  rw [if_neg c2] at h
  by_cases c3 : b < 0
  · rw [if_pos c3] at h; exact absurd h (by decide)
  rw [if_neg c3] at h
  by_cases c4 : nI W.pts < b
  · rw [if_pos c4] at h; exact absurd h (by decide)
  rw [if_neg c4] at h
  obtain ⟨i, hi, rfl⟩ := nI_of c1
  obtain ⟨j, hj, rfl⟩ := nI_of c3
  rw [nI_ltI (by omega) hi] at c2
  rw [nI_ltI (by omega) hj] at c4
  refine ⟨i, j, rfl, rfl, by omega, by omega, ?_⟩
  by_cases c5 : i < W.pts
  · exact Or.inl c5
  · rw [if_neg (show ¬ nI i < nI W.pts by rw [nI_ltI hi (by omega)]; exact c5)] at h
    by_cases c6 : W.pts ≤ j
    · rw [if_pos (nI_le c6 hj)] at h; exact absurd h (by decide)
    · exact Or.inr (by omega)
def ps_val (A : ps_A) (q : Nat → Nat → Nat) : Int32 := nI (ps_V (ps_ch A.W q) (A.W.pts - A.C.sc 0) (A.W.pts - A.C.sc 1) 0 0 A.C.sv)
def sp_value (A : ps_A) : Int32 := if A.on = false then -1 else ps_val A A.C.six
def sp_valueAt (A : ps_A) (a b c d e : Int32) : Int32 := if ps_sd A e && (ps_sco A.W a b && (ps_tu c && ps_tu d)) then nI (ps_V (ps_ch A.W A.C.six) (A.W.pts - a.toNatClampNeg) (A.W.pts - b.toNatClampNeg) c.toNatClampNeg d.toNatClampNeg e.toNatClampNeg) else -1
section PSF19
variable {t v w : Bool} {A : ps_A} {I : Nat → Nat → Int32} {L : Nat → Nat → Int64}
theorem ps_fx.val {I J : Nat → Nat → Int32} (h : ∀ a, (a < 12 ∨ 15 < a) → J a = I a) : ps_fx I J := fun a ha => h a (by unfold ps_sc at ha; omega)
theorem cx_valueFromNow (h0 : ps_wf A) (ho : A.on = true) (hX : ps_RX t A I) {q : Nat → Nat → Nat} (hq : ∀ s, s < 2 → ps_six A.W s (q s)) (hF : ps_F I A.W q) :
    ∃ z : Bool × (Nat → Nat → Int32), (∀ a, (a < 12 ∨ 15 < a) → z.2 a = I a) ∧ fX9_valueFromNow 0 (I, L, px_R t v w) = some (ps_val A q, (z.2, L, px_R t z.1 w)) := by
  have w0 := h0.C ho
  unfold fX9_valueFromNow
  show ∃ z : Bool × (Nat → Nat → Int32), _ ∧ fx_b2 (fX4_valueOf 3 (I 23 8) (I 28 8) (nI 0) (nI 0) (I 22 2) _) _ = _
  have s0 := (hX.C ho).sc 0 (by omega)
  have s1 := (hX.C ho).sc 1 (by omega)
  rw [show I 23 8 = _ from s0, show I 28 8 = _ from s1, (hX.C ho).sv]
  obtain ⟨z, k1, k2⟩ := cx_valueOf (I := I) (L := L) (t := t) (v := v) (w := w) (h0.W ho) hq hF (r := 0) (s := 0) (by omega) (by omega) w0.sv (w0.sc 0 (by omega)) (w0.sc 1 (by omega)) w0.sc2
  rw [k2, pb_2]
  exact ⟨z, k1, rfl⟩
theorem cx_value (h0 : ps_wf A) (hX : ps_RX t A I) : ∃ z : Bool × (Nat → Nat → Int32), ps_fx I z.2 ∧ fX9_value 0 (I, L, px_R t v w) = some (sp_value A, (z.2, L, px_R t z.1 w)) := by
  unfold fX9_value sp_value
  show ∃ z : Bool × (Nat → Nat → Int32), _ ∧ (if I 0 13 = 0 then _ else _) = _
  rw [hX.on]
  cases ho : A.on with
  | false => exact ⟨(v, I), ps_fx.refl I, by simp⟩
  | true =>
    obtain ⟨J, j1, j2, j3⟩ := cx_weighNow (L := L) (v := v) (w := w) h0 ho hX
    have fx := ps_fx.of (fun a ha _ _ => j2 a ha)
    obtain ⟨z, k1, k2⟩ := cx_valueFromNow (I := J) (L := L) (t := t) (v := v) (w := w) h0 ho (hX.fx fx) (fun s hs => (h0.C ho).six s hs) j1
    refine ⟨z, fx.trans (ps_fx.val k1), ?_⟩
    rw [if_neg (by decide), j3, pb_1, k2, pb_2]; rfl
theorem cx_score (hW : ps_RW I (ps_T t) A.W) (a b : Int32) : fX9_isScore 0 a b (I, L, px_R t v w) = some (if ps_sco A.W a b then 1 else 0, (I, L, px_R t v w)) := by
  unfold fX9_isScore ps_sco
  rw [pl_let, show (I, L, px_R t v w).1 ((I, L, px_R t v w).2.2 0 11) 2 = nI A.W.pts from hW.pts]
  by_cases c1 : a < 0
  · rw [if_pos c1, if_pos c1]; rfl
  rw [if_neg c1, if_neg c1]
  by_cases c2 : nI A.W.pts < a
  · rw [if_pos c2, if_pos c2]; rfl
  rw [if_neg c2, if_neg c2]
  by_cases c3 : b < 0
  · rw [if_pos c3, if_pos c3]; rfl
  rw [if_neg c3, if_neg c3]
  by_cases c4 : nI A.W.pts < b
  · rw [if_pos c4, if_pos c4]; rfl
  rw [if_neg c4, if_neg c4]
  by_cases c5 : a < nI A.W.pts
  · rw [if_pos c5, if_pos c5]; rfl
  rw [if_neg c5, if_neg c5]
  by_cases c6 : nI A.W.pts ≤ b
  · rw [if_pos c6, if_pos c6]; rfl
  rw [if_neg c6, if_neg c6]; rfl
theorem cm_score (hM : ps_MX A I) (a b : Int32) : fX10_arePoints 290 a b (I, L, px_R t v w) = some (if A.on && ps_sco A.W a b then 1 else 0, (I, L, px_R t v w)) := by
  unfold fX10_arePoints ps_sco
  rw [pl_let]
  show (if I 290 7 = 0 then _ else _) = _
  rw [hM.on]
  cases ho : A.on with
  | false => rfl
  | true =>
    rw [if_neg (by decide), Bool.true_and, show (I, L, px_R t v w).1 ((I, L, px_R t v w).2.2 290 3) (fx_ix 0) = nI A.W.pts from (hM.W ho).pts]
    by_cases c1 : a < 0
    · rw [if_pos c1, if_pos c1]; rfl
    rw [if_neg c1, if_neg c1]
    by_cases c2 : nI A.W.pts < a
    · rw [if_pos c2, if_pos c2]; rfl
    rw [if_neg c2, if_neg c2]
    by_cases c3 : b < 0
    · rw [if_pos c3, if_pos c3]; rfl
    rw [if_neg c3, if_neg c3]
    by_cases c4 : nI A.W.pts < b
    · rw [if_pos c4, if_pos c4]; rfl
    rw [if_neg c4, if_neg c4]
    by_cases c5 : a < nI A.W.pts
    · rw [if_pos c5, if_pos c5]; rfl
    rw [if_neg c5, if_neg c5]
    by_cases c6 : nI A.W.pts ≤ b
    · rw [if_pos c6, if_pos c6]; rfl
    rw [if_neg c6, if_neg c6]; rfl
theorem cx_valueAt (h0 : ps_wf A) (hX : ps_RX t A I) (a b c d e : Int32) : ∃ z : Bool × (Nat → Nat → Int32), ps_fx I z.2 ∧ fX9_valueAt 0 a b c d e (I, L, px_R t v w) = some (sp_valueAt A a b c d e, (z.2, L, px_R t z.1 w)) := by
  unfold fX9_valueAt sp_valueAt
  rw [cx_side hX, pb_2]
  cases e1 : ps_sd A e with
  | false => exact ⟨(v, I), ps_fx.refl I, rfl⟩
  | true =>
    obtain ⟨ho, sv, hsv, rfl⟩ := ps_sd_of e1
    rw [if_neg (by decide), cx_score (hX.W ho), pb_2]
    cases e2 : ps_sco A.W a b with
    | false => exact ⟨(v, I), ps_fx.refl I, rfl⟩
    | true =>
      rw [if_neg (by decide), cx_turns, pb_2]
      cases e3 : ps_tu c with
      | false => exact ⟨(v, I), ps_fx.refl I, rfl⟩
      | true =>
        rw [if_neg (by decide), cx_turns, pb_2]
        cases e4 : ps_tu d with
        | false => exact ⟨(v, I), ps_fx.refl I, rfl⟩
        | true =>
          obtain ⟨i, j, rfl, rfl, hi, hj, hij⟩ := ps_sco_of (h0.W ho) e2
          obtain ⟨r, hr, rfl⟩ := ps_tu_of e3
          obtain ⟨s, hs, rfl⟩ := ps_tu_of e4
          have h25 := (h0.W ho).p25
          obtain ⟨J, j1, j2, j3⟩ := cx_weighNow (L := L) (v := v) (w := w) h0 ho hX
          have fx := ps_fx.of (fun a ha _ _ => j2 a ha)
          obtain ⟨z, k1, k2⟩ := cx_valueOf (I := J) (L := L) (t := t) (v := v) (w := w) (h0.W ho) (fun s hs => (h0.C ho).six s hs) j1 hr hs hsv hi hj hij
          refine ⟨z, fx.trans (ps_fx.val k1), ?_⟩
          rw [if_neg (by decide), j3, pb_1]
          show fx_b2 (fX4_valueOf 3 _ _ _ _ _ _) _ = _
          rw [k2, pb_2, nI_clamp (n := i) (by omega), nI_clamp (n := j) (by omega), nI_clamp (n := r) (by omega), nI_clamp (n := s) (by omega), nI_clamp (n := sv) (by omega)]
          rfl
theorem cm_linedq {X : Nat} {s k : Nat} (hs : s < 2) (hk : k < 6) (hR : (if I 298 (11 + 6 * s + k) = I 292 (7 + s) then I 298 (7 + s) else I 298 (11 + 6 * s + k)) = nI X) :
    fX10_lined 290 (nI s) (nI (k + 1)) (I, L, px_R t v w) = some (nI X, (I, L, px_R t v w)) := by
  have hc : fX10_court 290 (nI s) (nI (k + 1)) (I, L, px_R t v w) = some (I 298 (11 + 6 * s + k), (I, L, px_R t v w)) := by
    unfold fX10_court
    rw [pm_two, pb_2, show (11 : Int32) = nI 11 from rfl, nI_add, pg_pos (pi_in (by omega) (by omega)), pi_ix (by omega)]
    show some (I 298 (11 + (6 * s + k)), _) = _
    rw [← Nat.add_assoc]
  unfold fX10_lined
  rw [hc, pb_2, show (7 : Int32) = nI 7 from rfl, nI_add, pg_pos (pi_in (by omega) (by omega)), pg_pos (pi_in (by omega) (by omega)), pi_ix (by omega)]
  show (if I 298 (11 + 6 * s + k) = I 292 (7 + s) then some (I 298 (7 + s), _) else some (I 298 (11 + 6 * s + k), _)) = _
  rw [← hR]
  exact pq_if rfl rfl
def ps_li (I : Nat → Nat → Int32) (q : Nat → Nat → Nat) : Prop := ∀ s, s < 2 → ∀ k, k < 6 → (if I 298 (11 + 6 * s + k) = I 292 (7 + s) then I 298 (7 + s) else I 298 (11 + 6 * s + k)) = nI (q s k)
theorem ps_li_of (h0 : ps_wf A) (ho : A.on = true) (hM : ps_MX A I) : ps_li I A.C.six := by
  intro s hs k hk
  have w0 := h0.C ho
  rw [(hM.C ho).on s hs k hk, (hM.W ho).free s hs, (hM.C ho).fr s hs]
  by_cases c : A.C.fs s = k + 1
  · rw [if_pos ((ps_on_free w0 (h0.W ho) hs hk).mpr c)]
    unfold ps_for
    rw [c, if_neg (by omega)]; rfl
  · rw [if_neg (fun q => c ((ps_on_free w0 (h0.W ho) hs hk).mp q))]
    unfold ps_on
    rw [if_neg c]
theorem cm_takesLinesq {q : Nat → Nat → Nat} (hR : ps_li I q) : ∃ J, ps_S J q ∧ (∀ a, a ≠ 301 → J a = I a) ∧ fX10_takesLines 290 (I, L, px_R t v w) = some (J, L, px_R t v w) := by
  unfold fX10_takesLines fx_N
  rw [fX10_takesLines_2, if_neg (by decide)]
  have hc : ∀ J, (∀ a, a ≠ 301 → J a = I a) → ∀ s, s < 2 → ∀ k, k < 6 → fX10_lined 290 (nI s) (nI (k + 1)) (J, L, px_R t v w) = some (nI (q s k), (J, L, px_R t v w)) := fun J e s hs k hk => cm_linedq hs hk (by rw [e 298 (by omega), e 292 (by omega)]; exact hR s hs k hk)
  obtain ⟨J, ⟨j1, j2, j3⟩, j4⟩ := cm_takesl9 (I := I) (L := L) (t := t) (v := v) (w := w) (s := 0) (by omega) (fun J e k hk => hc J e 0 (by omega) k hk) (fX10_takesLines_2 99999)
  rw [show nI 0 = 0 from rfl] at j4
  rw [j4, fX10_takesLines_2, if_neg (by decide)]
  obtain ⟨J2, ⟨k1, k2, k3⟩, k4⟩ := cm_takesl9 (I := J) (L := L) (t := t) (v := v) (w := w) (s := 1) (by omega) (fun H e k hk => hc H (fun a ha => (e a ha).trans (j3 a ha)) 1 (by omega) k hk) (fX10_takesLines_2 99998)
  rw [k4, fX10_takesLines_2, if_pos (by decide)]
  refine ⟨J2, fun s hs k hk => ?_, fun a ha => (k3 a ha).trans (j3 a ha), rfl⟩
  rcases (show s = 0 ∨ s = 1 by omega) with rfl | rfl
  · rw [k2 _ (by omega)]; exact j1 k hk
  · exact k1 k hk
def ps_lv (J : Nat → Nat → Int32) (A : ps_A) (q : Nat → Nat → Nat) : Prop := ∀ a b r s sv, a ≤ A.W.pts → b ≤ A.W.pts → r < 6 → s < 6 → sv < 2 → J 302 (72 * (26 * a + b) + 12 * r + 2 * s + sv) = nI (ps_V (ps_ch A.W q) (A.W.pts - a) (A.W.pts - b) r s sv)
theorem cm_valueNowq (w1 : ps_wfW A.W) (w0 : ps_wfC A.W A.C) (hW : ps_MW I A.W) (hs0 : I 298 0 = nI (A.C.sc 0)) (hs1 : I 298 1 = nI (A.C.sc 1)) (hsv : I 298 2 = nI A.C.sv) {q : Nat → Nat → Nat} (hq : ∀ s, s < 2 → ps_six A.W s (q s)) (hR : ps_li I q) :
    ∃ J, ps_lv J A q ∧ ps_fm I J ∧ fX10_valueNow 290 (I, L, px_R t v w) = some (ps_val A q, (J, L, px_R t v w)) := by
  unfold fX10_valueNow
  obtain ⟨J, j1, j2, j3⟩ := cm_takesLinesq (I := I) (L := L) (t := t) (v := v) (w := w) hR
  have hW2 : ps_MW J A.W := by
    unfold ps_MW at hW ⊢
    rw [j2 292 (by omega), j2 295 (by omega)]; exact hW
  obtain ⟨H, k1, k2, k3⟩ := cm_laysValues (I := J) (L := L) (t := t) (v := v) (w := w) w1 hW2 hq j1
  rw [j3, pb_1, k3, pb_1]
  have h25 := w1.p25
  have b0 := w0.sc 0 (by omega)
  have b1 := w0.sc 1 (by omega)
  have b2 := w0.sv
  refine ⟨H, k1, fun a ha => by rw [k2 a (by omega) (by omega)]; exact j2 a (by omega), ?_⟩
  show fx_b2 (fX10_at (H 298 0) (H 298 1) (nI 0) (nI 0) (H 298 2) _) _ = _
  rw [k2 298 (by omega) (by omega), j2 298 (by omega), hs0, hs1, hsv, cm_at, pb_2, pg_pos (pi_in (by omega) (by omega)), pi_ix (by omega)]
  show some (H 302 _, _) = _
  rw [k1 _ _ _ _ _ b0 b1 (by omega) (by omega) b2]; rfl
theorem cm_valueNow (h0 : ps_wf A) (ho : A.on = true) (hM : ps_MX A I) : ∃ J, ps_lv J A A.C.six ∧ ps_fm I J ∧ fX10_valueNow 290 (I, L, px_R t v w) = some (ps_val A A.C.six, (J, L, px_R t v w)) :=
  cm_valueNowq (h0.W ho) (h0.C ho) (hM.W ho) ((hM.C ho).sc 0 (by omega)) ((hM.C ho).sc 1 (by omega)) (hM.C ho).sv (fun s hs => (h0.C ho).six s hs) (ps_li_of h0 ho hM)
theorem cm_value (h0 : ps_wf A) (hM : ps_MX A I) : ∃ J, ps_fm (hp_u I 290 0 0) J ∧ fX10_value 290 (I, L, px_R t v w) = some (sp_value A, (J, L, px_R t v w)) := by
  unfold fX10_value sp_value
  rw [pl_let]
  have hM := hM.flag (z := 0)
  show ∃ J, _ ∧ (if hp_u I 290 0 0 290 7 = 0 then some (-1, (hp_u I 290 0 0, L, px_R t v w)) else fx_b2 (fX10_valueNow 290 (hp_u I 290 0 0, L, px_R t v w)) _) = _
  generalize hp_u I 290 0 0 = I at hM ⊢
  rw [hM.on]
  cases ho : A.on with
  | false => exact ⟨I, ps_fm.refl I, rfl⟩
  | true =>
    obtain ⟨J, j1, j2, j3⟩ := cm_valueNow (L := L) (t := t) (v := v) (w := w) h0 ho hM
    refine ⟨J, j2, ?_⟩
    rw [if_neg (by decide), j3, pb_2]; rfl
theorem cm_valueAt (h0 : ps_wf A) (hM : ps_MX A I) (a b c d e : Int32) : ∃ J, ps_fm (hp_u I 290 0 0) J ∧ fX10_valueAt 290 a b c d e (I, L, px_R t v w) = some (sp_valueAt A a b c d e, (J, L, px_R t v w)) := by
  unfold fX10_valueAt sp_valueAt
  rw [pl_let]
  have hM := hM.flag (z := 0)
  show ∃ J, _ ∧ fx_b2 (fX10_arePoints 290 a b (hp_u I 290 0 0, L, px_R t v w)) _ = _
  generalize hp_u I 290 0 0 = I at hM ⊢
  rw [cm_score hM, pb_2]
  cases ho : A.on with
  | false =>
    refine ⟨I, ps_fm.refl I, ?_⟩
    rw [show ps_sd A e = false by unfold ps_sd; rw [ho]; rfl]; rfl
  | true =>
    cases e2 : ps_sco A.W a b with
    | false => exact ⟨I, ps_fm.refl I, by rw [Bool.and_comm (ps_sd A e)]; rfl⟩
    | true =>
      rw [if_neg (by decide), cm_turns hM, pb_2, ho]
      cases e3 : ps_tu c with
      | false => exact ⟨I, ps_fm.refl I, by rw [Bool.and_comm (ps_sd A e)]; rfl⟩
      | true =>
        rw [if_neg (by decide), cm_turns hM, pb_2, ho]
        cases e4 : ps_tu d with
        | false => exact ⟨I, ps_fm.refl I, by rw [Bool.and_comm (ps_sd A e)]; rfl⟩
        | true =>
          rw [if_neg (by decide), cm_side hM, pb_2]
          cases e1 : ps_sd A e with
          | false => exact ⟨I, ps_fm.refl I, rfl⟩
          | true =>
            obtain ⟨-, sv, hsv, rfl⟩ := ps_sd_of e1
            obtain ⟨i, j, rfl, rfl, hi, hj, hij⟩ := ps_sco_of (h0.W ho) e2
            obtain ⟨r, hr, rfl⟩ := ps_tu_of e3
            obtain ⟨s, hs, rfl⟩ := ps_tu_of e4
            have h25 := (h0.W ho).p25
            obtain ⟨J, j1, j2, j3⟩ := cm_takesLines (L := L) (t := t) (v := v) (w := w) h0 ho hM
            have fm : ps_fm I J := fun a ha => j2 a (by omega)
            obtain ⟨H, k1, k2, k3⟩ := cm_laysValues (I := J) (L := L) (t := t) (v := v) (w := w) (h0.W ho) ((hM.fm fm).W ho) (fun s hs => (h0.C ho).six s hs) j1
            refine ⟨H, fm.trans (fun a ha => k2 a (by omega) (by omega)), ?_⟩
            rw [if_neg (by decide), j3, pb_1, k3, pb_1, cm_at, pb_2, pg_pos (pi_in (by omega) (by omega)), pi_ix (by omega)]
            show some (H 302 _, _) = _
            rw [k1 i j r s sv hi hj hr hs hsv, nI_clamp (n := i) (by omega), nI_clamp (n := j) (by omega), nI_clamp (n := r) (by omega), nI_clamp (n := s) (by omega), nI_clamp (n := sv) (by omega)]
            rfl
end PSF19
