/-! ===== strength; the best of what is offered; weak, strong ===== -/
def ps_BC (I : Nat → Nat → Int32) (c : Nat) : Option (Int32 × Int32 × Int32) → Prop
  | none => I c 0 = 0
  | some b => I c 0 = 1 ∧ I c 1 = b.1 ∧ I c 2 = b.2.1 ∧ I c 3 = b.2.2
def ps_bo (b : Option (Int32 × Int32 × Int32)) (f s w : Int32) (most : Bool) : Option (Int32 × Int32 × Int32) :=
  match b with
  | none => some (f, s, w)
  | some b => if (if most = true then b.2.2 < w else w < b.2.2) then some (f, s, w) else some b
def ps_pa (b : Int32 × Int32 × Int32) (a : Int32) : Int32 := if a = 0 then b.1 else if a = 1 then b.2.1 else b.2.2
section PSF10
variable {t v w : Bool} {A : ps_A} {I : Nat → Nat → Int32} {L : Nat → Nat → Int64}
theorem ps_BC.cell {I J : Nat → Nat → Int32} {c : Nat} {b : Option (Int32 × Int32 × Int32)} (h : ps_BC I c b) (e : J c = I c) : ps_BC J c b := by
  cases b with
  | none => show J c 0 = 0; rw [e]; exact h
  | some b => show J c 0 = 1 ∧ J c 1 = b.1 ∧ J c 2 = b.2.1 ∧ J c 3 = b.2.2; rw [e]; exact h
theorem cx_offer32 {c : Nat} (f s z : Int32) (R : Nat → Nat → Nat) : ∃ J, ps_BC J c (some (f, s, z)) ∧ (∀ a, a ≠ c → J a = I a) ∧ fX0_offer_32 c f s z (I, L, R) = some (J, L, R) := by
  unfold fX0_offer_32
  rw [pl_let, pl_let, pl_let, pl_let]
  refine ⟨hp_u (hp_u (hp_u (hp_u I c 0 1) c 1 f) c 2 s) c 3 z, ⟨?_, ?_, ?_, ?_⟩, fun a ha => ?_, rfl⟩
  · rw [pu_place (by omega), pu_place (by omega), pu_place (by omega), pu_eq]
  · rw [pu_place (by omega), pu_place (by omega), pu_eq]
  · rw [pu_place (by omega), pu_eq]
  · exact pu_eq
  · rw [pu_cell ha, pu_cell ha, pu_cell ha, pu_cell ha]
theorem cx_offer {c : Nat} {b : Option (Int32 × Int32 × Int32)} (hb : ps_BC I c b) (f s z : Int32) (most : Bool) (R : Nat → Nat → Nat) : ∃ J, ps_BC J c (ps_bo b f s z most) ∧ (∀ a, a ≠ c → J a = I a) ∧ fX0_offer c f s z (if most then 1 else 0) (I, L, R) = some (J, L, R) := by
  unfold fX0_offer
  cases b with
  | none =>
    rw [if_pos (show (I, L, R).1 c 0 = 0 from hb)]
    exact cx_offer32 f s z R
  | some b =>
    obtain ⟨h0, h1, h2, h3⟩ := hb
    rw [if_neg (show ¬ (I, L, R).1 c 0 = 0 by rw [show (I, L, R).1 c 0 = 1 from h0]; decide)]
    unfold ps_bo
    cases most with
    | true =>
      rw [if_neg (show ¬ ((if true = true then (1 : Int32) else 0) = 0) by decide), show (I, L, R).1 c 3 = b.2.2 from h3]
      by_cases q : b.2.2 < z
      · rw [if_pos q]; simp only [if_pos q, if_true]; exact cx_offer32 f s z R
      · rw [if_neg q]; simp only [if_neg q, if_true]; exact ⟨I, ⟨h0, h1, h2, h3⟩, fun _ _ => rfl, rfl⟩
    | false =>
      rw [if_pos (show (if false = true then (1 : Int32) else 0) = 0 by decide), show (I, L, R).1 c 3 = b.2.2 from h3]
      by_cases q : z < b.2.2
      · rw [if_pos q]; simp only [if_pos q, Bool.false_eq_true, if_false]; exact cx_offer32 f s z R
      · rw [if_neg q]; simp only [if_neg q, Bool.false_eq_true, if_false]; exact ⟨I, ⟨h0, h1, h2, h3⟩, fun _ _ => rfl, rfl⟩
theorem cx_part {c : Nat} {b : Int32 × Int32 × Int32} (hb : ps_BC I c (some b)) (a : Int32) (R : Nat → Nat → Nat) : fX0_part c a (I, L, R) = some (ps_pa b a, (I, L, R)) := by
  obtain ⟨h0, h1, h2, h3⟩ := hb
  unfold fX0_part ps_pa
  show (if a = 0 then some (I c 1, _) else (if a = 1 then some (I c 2, _) else some (I c 3, _))) = _
  rw [h1, h2, h3]
  exact pq_if rfl (pq_if rfl rfl)
theorem cx_clear {c : Nat} (R : Nat → Nat → Nat) : ∃ J, ps_BC J c none ∧ (∀ a, a ≠ c → J a = I a) ∧ fX0_clear c (I, L, R) = some (J, L, R) :=
  ⟨hp_u I c 0 0, pu_eq, fun a ha => pu_cell ha, rfl⟩
def ps_wb (g : Nat → Int32) : Nat → Option (Int32 × Int32 × Int32)
  | 0 => none
  | k + 1 => ps_bo (ps_wb g k) (nI k) (g k) (g k) true
/-- the cells that weighing leaves -/
theorem ps_F.cong {I J : Nat → Nat → Int32} {W : ps_W} {q : Nat → Nat → Nat} (h : ps_F I W q) (e : ∀ a, 3 ≤ a → a ≤ 11 → J a = I a) : ps_F J W q := by
  refine ⟨?_, ?_, ?_, ?_, ?_⟩
  · rw [e 3 (by omega) (by omega)]; exact h.pts
  · rw [e 3 (by omega) (by omega)]; exact h.edg
  · intro s hs r hr; rw [e _ (by omega) (by omega)]; exact h.sv s hs r hr
  · intro s hs r hr; rw [e _ (by omega) (by omega)]; exact h.fr s hs r hr
  · intro s hs r hr; rw [e _ (by omega) (by omega)]; exact h.re s hs r hr
def ps_tg (W : ps_W) (q : Nat → Nat → Nat) (s sv k : Nat) : Int32 := nI (if s = 0 then ps_ch W q k 0 sv else ps_ch W q 0 k sv)
theorem ps_wb_some (g : Nat → Int32) : ∀ k, ∃ b, ps_wb g (k + 1) = some b := by
  intro k
  unfold ps_wb ps_bo
  split
  · exact ⟨_, rfl⟩
  · split <;> split <;> exact ⟨_, rfl⟩
theorem cx_bestTurns {W : ps_W} (w1 : ps_wfW W) {q : Nat → Nat → Nat} (hq : ∀ s, s < 2 → ps_six W s (q s)) (hF : ps_F I W q) {s sv : Nat} (hs : s < 2) (hsv : sv < 2) (a : Int32) :
    ∃ J, (∀ c, c ≠ 37 → J c = I c) ∧ fX9_bestTurns 0 (nI s) (nI sv) a (I, L, px_R t v w) = some (ps_pa ((ps_wb (ps_tg W q s sv) 6).getD (0, 0, 0)) a, (J, L, px_R t v w)) := by
  unfold fX9_bestTurns
  show ∃ J, _ ∧ fx_b1 (fX0_clear 37 _) _ = _
  obtain ⟨I1, i1, i2, i3⟩ := cx_clear (c := 37) (I := I) (L := L) (px_R t v w)
  rw [i3, pb_1]
  obtain ⟨J, ⟨j1, j2⟩, j3⟩ := pf_loop (S := Nat → Nat → Int32) (fun n i J => fX9_bestTurns_10 n 0 (nI s) (nI sv) a (nI i) (J, L, px_R t v w)) (fun J => fx_b2 (fX0_part 37 a (J, L, px_R t v w)) fun r h => some (r, h))
    (fun i J => ps_BC J 37 (ps_wb (ps_tg W q s sv) i) ∧ ∀ c, c ≠ 37 → J c = I c) 6 (by
      intro n J _
      show fX9_bestTurns_10 (n + 1) _ _ _ _ (nI 6) _ = _
      rw [fX9_bestTurns_10, if_pos (by decide)]; rfl) (by
      rintro n i J hi ⟨p1, p2⟩
      show ∃ s', _ ∧ fX9_bestTurns_10 (n + 1) _ _ _ _ (nI i) _ = fX9_bestTurns_10 n _ _ _ _ (nI (i + 1)) _
      have hF2 : ps_F J W q := hF.cong (fun a h1 h2 => p2 a (by omega))
      obtain ⟨H, k1, k2, k3⟩ := cx_offer p1 (L := L) (nI i) (ps_tg W q s sv i) (ps_tg W q s sv i) true (px_R t v w)
      refine ⟨H, ⟨k1, fun c hc => (k2 c hc).trans (p2 c hc)⟩, ?_⟩
      rw [fX9_bestTurns_10, if_neg (show ¬ (6 : Int32) ≤ nI i from nI_ge (b := 6) hi (by omega)), show (0 : Int32) = nI 0 from rfl]
      unfold fX9_bestTurns_46
      show (if nI s = nI 0 then fx_b2 (fX4_chanceOf 3 _ _ _ _) _ else fx_b2 (fX4_chanceOf 3 _ _ _ _) _) = _
      rw [cx_chanceOf w1 hq hF2 hi (by omega) hsv, pb_2, cx_chanceOf w1 hq hF2 (by omega) hi hsv, pb_2]
      unfold ps_tg at k3
      rcases (show s = 0 ∨ s = 1 by omega) with rfl | rfl
      · rw [if_pos rfl]
        rw [if_pos rfl] at k3
        show fx_b1 (fX0_offer 37 _ _ _ (if true = true then 1 else 0) _) _ = _
        rw [k3, pb_1, pl_let, nI_1]
      · rw [if_neg (by decide)]
        rw [if_neg (by decide)] at k3
        show fx_b1 (fX0_offer 37 _ _ _ (if true = true then 1 else 0) _) _ = _
        rw [k3, pb_1, pl_let, nI_1]) 6 0 fx_N I1 (by omega) (by unfold fx_N; omega) ⟨i1, i2⟩
  refine ⟨J, j2, ?_⟩
  have j3' : fX9_bestTurns_10 fx_N 0 (nI s) (nI sv) a 0 (I1, L, px_R t v w) = fx_b2 (fX0_part 37 a (J, L, px_R t v w)) fun r h => some (r, h) := j3
  rw [j3']
  obtain ⟨b, hb⟩ := ps_wb_some (ps_tg W q s sv) 5
  rw [hb] at j1 ⊢
  rw [cx_part j1, pb_2]; rfl
def ps_01 (b : Int32) : Bool := decide (0 ≤ b) && decide (b ≤ 1)
theorem ps_01_of {b : Int32} (h : ps_01 b = true) : b = 0 ∨ b = 1 := by
  simp only [ps_01, Bool.and_eq_true, decide_eq_true_eq] at h
  obtain ⟨j, hj, rfl⟩ := nI_of2 (n := 1) (M := 1) rfl (Int32.not_lt.mpr h.1) h.2
  rcases (show j = 0 ∨ j = 1 by omega) with rfl | rfl
  · exact Or.inl rfl
  · exact Or.inr rfl
theorem ps_01_if {β : Type} {b : Int32} {x y : β} : (if b < 0 then y else (if b ≤ (1 : Int32) then x else y)) = if ps_01 b then x else y := by
  unfold ps_01
  by_cases c1 : b < 0
  · rw [if_pos c1, decide_eq_false (Int32.not_le.mpr c1)]; rfl
  · rw [if_neg c1, decide_eq_true (Int32.not_lt.mp c1)]
    by_cases c2 : b ≤ 1
    · rw [if_pos c2, decide_eq_true c2]; rfl
    · rw [if_neg c2, decide_eq_false c2]; rfl
def sp_tu (A : ps_A) (sv : Nat → Nat) (a b : Int32) : Int32 := if ps_sd A a && ps_01 b then ps_pa ((ps_wb (ps_tg A.W A.C.six a.toNatClampNeg (sv a.toNatClampNeg)) 6).getD (0, 0, 0)) b else -1
theorem cx_weak (h0 : ps_wf A) (hX : ps_RX t A I) (a b : Int32) : ∃ J, ps_fx I J ∧ fX9_weak 0 a b (I, L, px_R t v w) = some (sp_tu A (fun s => 1 - s) a b, (J, L, px_R t v w)) := by
  unfold fX9_weak sp_tu
  rw [cx_side hX, pb_2]
  cases e : ps_sd A a with
  | false => exact ⟨I, ps_fx.refl I, rfl⟩
  | true =>
    rw [if_neg (by decide), ps_01_if]
    cases e1 : ps_01 b with
    | false => exact ⟨I, ps_fx.refl I, rfl⟩
    | true =>
      obtain ⟨ho, s, hs, rfl⟩ := ps_sd_of e
      obtain ⟨J, j1, j2, j3⟩ := cx_weighNow (L := L) (v := v) (w := w) h0 ho hX
      rw [if_pos rfl, j3, pb_1, show (1 : Int32) - nI s = nI (1 - s) from pk_sub (a := 1) (by omega), nI_clamp (n := s) (by omega)]
      obtain ⟨H, k1, k2⟩ := cx_bestTurns (I := J) (L := L) (t := t) (v := v) (w := w) (h0.W ho) (fun s hs => (h0.C ho).six s hs) j1 hs (show 1 - s < 2 by omega) b
      refine ⟨H, (ps_fx.of (fun a ha _ _ => j2 a ha)).trans (fun c hc => k1 c (by unfold ps_sc at hc; omega)), ?_⟩
      rw [k2, pb_2]; rfl
theorem cx_strong (h0 : ps_wf A) (hX : ps_RX t A I) (a b : Int32) : ∃ J, ps_fx I J ∧ fX9_strong 0 a b (I, L, px_R t v w) = some (sp_tu A (fun s => s) a b, (J, L, px_R t v w)) := by
  unfold fX9_strong sp_tu
  rw [cx_side hX, pb_2]
  cases e : ps_sd A a with
  | false => exact ⟨I, ps_fx.refl I, rfl⟩
  | true =>
    rw [if_neg (by decide), ps_01_if]
    cases e1 : ps_01 b with
    | false => exact ⟨I, ps_fx.refl I, rfl⟩
    | true =>
      obtain ⟨ho, s, hs, rfl⟩ := ps_sd_of e
      obtain ⟨J, j1, j2, j3⟩ := cx_weighNow (L := L) (v := v) (w := w) h0 ho hX
      rw [if_pos rfl, j3, pb_1, nI_clamp (n := s) (by omega)]
      obtain ⟨H, k1, k2⟩ := cx_bestTurns (I := J) (L := L) (t := t) (v := v) (w := w) (h0.W ho) (fun s hs => (h0.C ho).six s hs) j1 hs hs b
      refine ⟨H, (ps_fx.of (fun a ha _ _ => j2 a ha)).trans (fun c hc => k1 c (by unfold ps_sc at hc; omega)), ?_⟩
      rw [k2, pb_2]; rfl
end PSF10
