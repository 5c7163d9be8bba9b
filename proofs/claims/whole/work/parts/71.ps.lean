/-! ===== ifSub, bestSub ===== -/
def ps_sbr (A : ps_A) (s g : Nat) (b : Option (Int32 × Int32 × Int32)) : Nat → Option (Int32 × Int32 × Int32)
  | 0 => b
  | c + 1 => if ps_judge A s g c = 0 then ps_bo (ps_sbr A s g b c) (nI g) (nI c) (ps_val A (ps_sq A s g c)) (decide (s = 0)) else ps_sbr A s g b c
def ps_sbs (A : ps_A) (s : Nat) : Nat → Option (Int32 × Int32 × Int32)
  | 0 => none
  | g + 1 => ps_sbr A s g (ps_sbs A s g) (A.W.size s)
def ps_02 (b : Int32) : Bool := decide (0 ≤ b) && decide (b ≤ 2)
theorem ps_02_if {β : Type} {b : Int32} {x y : β} : (if b < 0 then y else (if b ≤ (2 : Int32) then x else y)) = if ps_02 b then x else y := by
  unfold ps_02
  by_cases c1 : b < 0
  · rw [if_pos c1, decide_eq_false (Int32.not_le.mpr c1)]; rfl
  · rw [if_neg c1, decide_eq_true (Int32.not_lt.mp c1)]
    by_cases c2 : b ≤ 2
    · rw [if_pos c2, decide_eq_true c2]; rfl
    · rw [if_neg c2, decide_eq_false c2]; rfl
def ps_ans (b : Option (Int32 × Int32 × Int32)) (a : Int32) : Int32 := match b with | none => -2 | some c => ps_pa c a
def sp_bestSub (A : ps_A) (a b : Int32) : Int32 := if ps_sd A a && ps_02 b then ps_ans (ps_sbs A a.toNatClampNeg (A.W.size a.toNatClampNeg)) b else -1
def sp_ifSub (A : ps_A) (a b c : Int32) : Int32 := if sp_maySub A a b c = 0 then ps_val A (ps_sq A a.toNatClampNeg b.toNatClampNeg c.toNatClampNeg) else sp_maySub A a b c
theorem ps_may_of {A : ps_A} (h0 : ps_wf A) {a b c : Int32} (h : sp_maySub A a b c = 0) : A.on = true ∧ ∃ s g d, s < 2 ∧ a = nI s ∧ g < A.W.size s ∧ b = nI g ∧ d < A.W.size s ∧ c = nI d ∧ ps_judge A s g d = 0 := by
  unfold sp_maySub at h
  cases e : ps_pl A a b && ps_pl A a c with
  | false => rw [e, if_neg (by decide)] at h; exact absurd h (by decide)
  | true =>
    rw [e, if_pos rfl] at h
    rw [Bool.and_eq_true] at e
    obtain ⟨ho, s, hs, rfl, g, hg, hg2, rfl⟩ := ps_pl_of h0 e.1
    obtain ⟨-, s', hs', es, d, hd, hd2, rfl⟩ := ps_pl_of h0 e.2
    obtain rfl : s = s' := (nI_eq (by omega) (by omega)).mp es
    rw [nI_clamp (by omega), nI_clamp (by omega), nI_clamp (by omega)] at h
    exact ⟨ho, s, g, d, hs, rfl, hg, rfl, hd, rfl, h⟩
theorem ps_sbr_none {A : ps_A} {s g : Nat} (h : ∀ c, ps_judge A s g c ≠ 0) (b : Option (Int32 × Int32 × Int32)) : ∀ c, ps_sbr A s g b c = b
  | 0 => rfl
  | c + 1 => by rw [ps_sbr, if_neg (h c)]; exact ps_sbr_none h b c
theorem ps_sbs_none {A : ps_A} {s : Nat} (h : ∀ g c, ps_judge A s g c ≠ 0) : ∀ g, ps_sbs A s g = none
  | 0 => rfl
  | g + 1 => by rw [ps_sbs, ps_sbr_none (h g)]; exact ps_sbs_none h g
def ps_G (I J : Nat → Nat → Int32) : Prop :=
  (∀ a, 0 < a → a < 286 → ¬ ps_sc a → a ≠ 34 → J a = I a) ∧
  (∀ k, k ≠ 14 → J 0 k = I 0 k) ∧
  (∀ a, 290 ≤ a → J a = I a)
theorem ps_G.a {I J : Nat → Nat → Int32} (h : ps_G I J) : ∀ a, 0 < a → a < 286 → ¬ ps_sc a → a ≠ 34 → J a = I a := h.1
theorem ps_G.z {I J : Nat → Nat → Int32} (h : ps_G I J) : ∀ k, k ≠ 14 → J 0 k = I 0 k := h.2.1
theorem ps_G.m {I J : Nat → Nat → Int32} (h : ps_G I J) : ∀ a, 290 ≤ a → J a = I a := h.2.2
theorem ps_G.refl (I : Nat → Nat → Int32) : ps_G I I := ⟨fun _ _ _ _ _ => rfl, fun _ _ => rfl, fun _ _ => rfl⟩
theorem ps_G.trans {I J H : Nat → Nat → Int32} (h : ps_G I J) (h2 : ps_G J H) : ps_G I H := ⟨fun a q1 q2 q3 q4 => (h2.a a q1 q2 q3 q4).trans (h.a a q1 q2 q3 q4), fun k hk => (h2.z k hk).trans (h.z k hk), fun a ha => (h2.m a ha).trans (h.m a ha)⟩
theorem ps_fx.G {I J : Nat → Nat → Int32} (h : ps_fx I J) : ps_G I J := ⟨fun a _ _ q _ => h a q, fun k _ => by rw [h 0 (by unfold ps_sc; omega)], fun a ha => h a (by unfold ps_sc; omega)⟩
theorem ps_RX.G {t : Bool} {A : ps_A} {I J : Nat → Nat → Int32} (h : ps_RX t A I) (g : ps_G I J) : ps_RX t A J := by
  have hT := ps_T_le t
  have e : ∀ a, (0 < a ∧ a < 3) ∨ (17 < a ∧ a < 34) ∨ (37 < a ∧ a < 286) → J a = I a := fun a q => g.a a (by omega) (by omega) (by unfold ps_sc; omega) (by omega)
  refine ⟨?_, ?_, ?_, ?_, ?_, fun q => (h.W q).near (fun a h1 h2 => e a (by omega)), fun q => (h.C q).near (fun a h1 h2 => e a (by omega)), ?_, ?_, ?_, ?_, fun q => ?_⟩
  · rw [e _ (by omega)]; exact h.tz
  · intro k hk; rw [e _ (by omega)]; exact h.tb k hk
  · rw [e _ (by omega)]; exact h.fk
  · rw [e _ (by omega)]; exact h.fp
  · rw [g.z _ (by omega)]; exact h.on
  · intro q k hk; rw [e _ (by omega)]; exact h.had q k hk
  · intro q k hk; rw [e _ (by omega)]; exact h.svd q k hk
  · intro q k hk; rw [e _ (by omega)]; exact h.svr q k hk
  · rw [g.z _ (by omega)]; exact h.u
  · obtain ⟨np, h1, h2, h3⟩ := h.P q
    exact ⟨np, h1, by rw [g.z _ (by omega)]; exact h2, fun i hi => (h3 i hi).near (fun a h1 h2 => e a (by omega))⟩
theorem ps_MX.G {A : ps_A} {I J : Nat → Nat → Int32} (h : ps_MX A I) (g : ps_G I J) : ps_MX A J := h.cong (fun a h1 h2 => g.m a h1)
section PSF21
variable {t v w : Bool} {A : ps_A} {I : Nat → Nat → Int32} {L : Nat → Nat → Int64}
theorem cx_ifSub (h0 : ps_wf A) (hX : ps_RX t A I) (a b c : Int32) : ∃ z : Bool × (Nat → Nat → Int32), ps_fx I z.2 ∧ fX9_ifSub 0 a b c (I, L, px_R t v w) = some (sp_ifSub A a b c, (z.2, L, px_R t z.1 w)) := by
  unfold fX9_ifSub sp_ifSub
  rw [cx_judge h0 hX, pb_2]
  by_cases e : sp_maySub A a b c = 0
  · rw [if_pos e, if_pos e]
    obtain ⟨ho, s, g, d, hs, rfl, hg, rfl, hd, rfl, hj⟩ := ps_may_of h0 e
    have hz := (h0.W ho).size s hs
    obtain ⟨-, -, j1, j2, -, -, -⟩ := ps_judge0 hj
    obtain ⟨z, k1, -, k2⟩ := cx_behindSub (L := L) (v := v) (w := w) h0 ho hX hs hg hd (ps_onc_spot j1 j2)
    refine ⟨z, k1, ?_⟩
    rw [k2, pb_2, nI_clamp (n := s) (by omega), nI_clamp (n := g) (by omega), nI_clamp (n := d) (by omega)]
  · rw [if_neg e, if_neg e]
    exact ⟨(v, I), ps_fx.refl I, rfl⟩
theorem cm_behindSub (h0 : ps_wf A) (ho : A.on = true) (hM : ps_MX A I) {s g c : Nat} (hs : s < 2) (hg : g < A.W.size s) (hc : c < A.W.size s) (hj : ps_judge A s g c = 0) :
    ∃ J, ps_fm I J ∧ fX10_valueBehind 290 (nI s) (nI g) (nI c) (I, L, px_R t v w) = some (ps_val A (ps_sq A s g c), (J, L, px_R t v w)) := by
  have w0 := h0.C ho
  have w1 := h0.W ho
  have hz := w1.size s hs
  have hC := hM.C ho
  obtain ⟨-, -, j1, j2, j3, j4, -⟩ := ps_judge0 hj
  have hsp := ps_onc_spot j1 j2
  obtain ⟨k, hk, k1, k2, k3⟩ := ps_spot_k h0 ho hs hg hsp
  have eo : ps_onc A.W A.C s g = k + 1 ∧ A.C.fs s ≠ k + 1 := by
    unfold ps_onc at j2 ⊢
    rw [if_neg j1] at j2 ⊢
    by_cases q : ps_spot A.C s (nI g) = A.C.fs s
    · rw [if_pos q] at j2; exact absurd rfl j2
    · rw [if_neg q, k1]; exact ⟨rfl, fun y => q (by rw [k1, y])⟩
  unfold fX10_valueBehind
  rw [cm_spotOf hC hs, ps_onc_eq w1 w0 hs (by omega), eo.1, pb_2, cm_puts hs hk, pb_1]
  have cell : ∀ a, a ≠ 298 → hp_u I 298 (11 + 6 * s + k) (nI c) a = I a := fun a ha => pu_cell ha
  have li : ps_li (hp_u I 298 (11 + 6 * s + k) (nI c)) (ps_sq A s g c) := by
    intro s' hs' k' hk'
    have base := ps_li_of h0 ho hM s' hs' k' hk'
    unfold ps_sq
    rw [cell 292 (by omega), pu_place (j := 7 + s') (by omega)]
    by_cases q : s' = s ∧ k' = k
    · obtain ⟨rfl, rfl⟩ := q
      rw [if_pos (show s' = s' ∧ A.C.six s' k' = g from ⟨rfl, k2⟩), pu_eq, if_neg]
      rw [(hM.W ho).free s' hs, ps_e1_eq (by omega) (ps_free_lt w1 hs)]
      exact j3
    · rw [pu_place (show ¬ 11 + 6 * s' + k' = 11 + 6 * s + k by omega), base, if_neg]
      rintro ⟨rfl, y⟩
      exact q ⟨rfl, (k3 k' hk').mp y⟩
  obtain ⟨J, m1, m2, m3⟩ := cm_valueNowq (I := hp_u I 298 (11 + 6 * s + k) (nI c)) (L := L) (t := t) (v := v) (w := w) (A := A) w1 w0 (by
    have h9 := hM.W ho
    unfold ps_MW at h9 ⊢
    rw [cell 292 (by omega), cell 295 (by omega)]; exact h9) (by rw [pu_place (by omega)]; exact hC.sc 0 (by omega)) (by rw [pu_place (by omega)]; exact hC.sc 1 (by omega)) (by rw [pu_place (by omega)]; exact hC.sv) (ps_sq_six h0 ho hc) li
  rw [m3, pb_2, cm_puts hs hk, pb_1]
  refine ⟨_, fun a ha => ?_, rfl⟩
  by_cases q : a = 298
  · subst q
    funext j
    by_cases d : j = 11 + 6 * s + k
    · rw [d, pu_eq, hC.on s hs k hk]
      unfold ps_on
      rw [if_neg eo.2, k2]
    · rw [pu_place d, m2 298 (by omega), pu_place d]
  · rw [pu_cell q, m2 a ha, pu_cell q]
theorem cm_ifSub (h0 : ps_wf A) (hM : ps_MX A I) (a b c : Int32) : ∃ J, ps_fm (hp_u I 290 0 0) J ∧ fX10_ifSub 290 a b c (I, L, px_R t v w) = some (sp_ifSub A a b c, (J, L, px_R t v w)) := by
  unfold fX10_ifSub sp_ifSub
  rw [pl_let]
  have hM := hM.flag (z := 0)
  show ∃ J, _ ∧ fx_b2 (fX10_wrongSub 290 a b c (hp_u I 290 0 0, L, px_R t v w)) _ = _
  generalize hp_u I 290 0 0 = I at hM ⊢
  rw [cm_judge h0 hM, pb_2]
  by_cases e : sp_maySub A a b c = 0
  · rw [if_pos e, if_pos e]
    obtain ⟨ho, s, g, d, hs, rfl, hg, rfl, hd, rfl, hj⟩ := ps_may_of h0 e
    have hz := (h0.W ho).size s hs
    obtain ⟨J, k1, k2⟩ := cm_behindSub (L := L) (t := t) (v := v) (w := w) h0 ho hM hs hg hd hj
    refine ⟨J, k1, ?_⟩
    rw [k2, pb_2, nI_clamp (n := s) (by omega), nI_clamp (n := g) (by omega), nI_clamp (n := d) (by omega)]
  · rw [if_neg e, if_neg e]
    exact ⟨I, ps_fm.refl I, rfl⟩
theorem ps_ge {J : Nat → Nat → Int32} (e : ∀ a, ¬ ps_sc a → a < 286 ∨ 289 < a → J a = I a) : ps_G I J := ⟨fun a _ h2 h3 _ => e a h3 (Or.inl h2), fun k _ => by rw [e 0 (by unfold ps_sc; omega) (by omega)], fun a ha => e a (by unfold ps_sc; omega) (by omega)⟩
theorem cx_offerSubs (h0 : ps_wf A) (ho : A.on = true) (hX : ps_RX t A I) {s : Nat} (hs : s < 2) (hb : ps_BC I (286 + 2 * s) none) :
    ∃ z : Bool × (Nat → Nat → Int32), (ps_BC z.2 (286 + 2 * s) (ps_sbs A s (A.W.size s)) ∧ ∀ a, ¬ ps_sc a → a ≠ 286 + 2 * s → z.2 a = I a) ∧ fX9_offerSubs 0 (nI s) (286 + 2 * s) (I, L, px_R t v w) = some (z.2, L, px_R t z.1 w) := by
  have hz := (h0.W ho).size s hs
  unfold fX9_offerSubs
  rw [show (I, L, px_R t v w).2.2 0 11 = ps_T t from rfl, cx_squad hs, pb_2, pl_let, show (I, L, px_R t v w).1 (ps_T t + 6 * s + 1) 5 = nI (A.W.size s) from (hX.W ho).size s hs]
  have inner : ∀ (g : Nat), g < A.W.size s → ∀ (b : Option (Int32 × Int32 × Int32)) (z0 : Bool × (Nat → Nat → Int32)), ps_BC z0.2 (286 + 2 * s) b → (∀ a, ¬ ps_sc a → a ≠ 286 + 2 * s → z0.2 a = I a) → ∀ (k15 : Nat → Int32 → Nat → Int32 → Int32 → hp_T → Option hp_T),
      ∃ z : Bool × (Nat → Nat → Int32), (ps_BC z.2 (286 + 2 * s) (ps_sbr A s g b (A.W.size s)) ∧ ∀ a, ¬ ps_sc a → a ≠ 286 + 2 * s → z.2 a = I a) ∧ fX9_offerSubs_24 k15 fx_N 0 (nI s) (286 + 2 * s) (nI (A.W.size s)) (nI g) 0 (z0.2, L, px_R t z0.1 w) = k15 0 (nI s) (286 + 2 * s) (nI (A.W.size s)) (nI (g + 1)) (z.2, L, px_R t z.1 w) := by
    intro g hg b z0 hz1 hz2 k15
    refine pf_loop (S := Bool × (Nat → Nat → Int32)) (fun n i z => fX9_offerSubs_24 k15 n 0 (nI s) (286 + 2 * s) (nI (A.W.size s)) (nI g) (nI i) (z.2, L, px_R t z.1 w)) (fun z => k15 0 (nI s) (286 + 2 * s) (nI (A.W.size s)) (nI (g + 1)) (z.2, L, px_R t z.1 w))
      (fun i z => ps_BC z.2 (286 + 2 * s) (ps_sbr A s g b i) ∧ ∀ a, ¬ ps_sc a → a ≠ 286 + 2 * s → z.2 a = I a) (A.W.size s) ?_ ?_ (A.W.size s) 0 fx_N z0 (by omega) (by unfold fx_N; omega) ⟨hz1, hz2⟩
    · intro n z _
      show fX9_offerSubs_24 k15 (n + 1) _ _ _ _ _ _ _ = _
      rw [fX9_offerSubs_24, if_pos (nI_le (Nat.le_refl _) (by omega)), pl_let, nI_1]
    · rintro n i ⟨v1, J⟩ hi ⟨p1, p2⟩
      dsimp only at p1 p2
      have hG : ps_G I J := ps_ge (fun a h1 h2 => p2 a h1 (by omega))
      have hXJ := hX.G hG
      show ∃ z : Bool × (Nat → Nat → Int32), _ ∧ fX9_offerSubs_24 k15 (n + 1) _ _ _ _ _ (nI i) _ = fX9_offerSubs_24 k15 n _ _ _ _ _ (nI (i + 1)) _
      rw [fX9_offerSubs_24, if_neg (nI_ge hi (by omega)), cx_judge h0 hXJ, pb_2, ps_may_eq h0 ho hs hg hi]
      unfold fX9_offerSubs_65 fX9_offerSubs_68
      rw [ps_sbr]
      by_cases c : ps_judge A s g i = 0
      · rw [if_pos c, if_pos c]
        obtain ⟨-, -, j1, j2, -, -, -⟩ := ps_judge0 c
        obtain ⟨z1, k1, -, k3⟩ := cx_behindSub (I := J) (L := L) (t := t) (v := v1) (w := w) h0 ho hXJ hs hg hi (ps_onc_spot j1 j2)
        rw [k3, pb_2]
        obtain ⟨H, l1, l2, l3⟩ := cx_offer (I := z1.2) (L := L) (p1.cell (k1 _ (by unfold ps_sc; omega))) (nI g) (nI i) (ps_val A (ps_sq A s g i)) (decide (s = 0)) (px_R t z1.1 w)
        refine ⟨(z1.1, H), ⟨l1, fun a h1 h2 => by rw [show (z1.1, H).2 a = H a from rfl, l2 a h2, k1 a h1]; exact p2 a h1 h2⟩, ?_⟩
        rcases (show s = 0 ∨ s = 1 by omega) with rfl | rfl
        · rw [if_pos (show nI 0 = 0 from rfl)]
          have l3' : fX0_offer (286 + 2 * 0) (nI g) (nI i) (ps_val A (ps_sq A 0 g i)) 1 (z1.2, L, px_R t z1.1 w) = some (H, L, px_R t z1.1 w) := l3
          rw [l3', pb_1, pl_let, nI_1]
        · rw [if_neg (show ¬ nI 1 = 0 by decide)]
          have l3' : fX0_offer (286 + 2 * 1) (nI g) (nI i) (ps_val A (ps_sq A 1 g i)) 0 (z1.2, L, px_R t z1.1 w) = some (H, L, px_R t z1.1 w) := l3
          rw [l3', pb_1, pl_let, nI_1]
      · rw [if_neg c, if_neg c, pl_let, nI_1]
        exact ⟨(v1, J), ⟨p1, p2⟩, rfl⟩
  refine pf_loop (S := Bool × (Nat → Nat → Int32)) (fun n i z => fX9_offerSubs_15 n 0 (nI s) (286 + 2 * s) (nI (A.W.size s)) (nI i) (z.2, L, px_R t z.1 w)) (fun z => some (z.2, L, px_R t z.1 w))
    (fun i z => ps_BC z.2 (286 + 2 * s) (ps_sbs A s i) ∧ ∀ a, ¬ ps_sc a → a ≠ 286 + 2 * s → z.2 a = I a) (A.W.size s) ?_ ?_ (A.W.size s) 0 fx_N (v, I) (by omega) (by unfold fx_N; omega) ⟨hb, fun _ _ _ => rfl⟩
  · intro n z _
    show fX9_offerSubs_15 (n + 1) _ _ _ _ _ _ = _
    rw [fX9_offerSubs_15, if_pos (nI_le (Nat.le_refl _) (by omega))]
  · rintro n i z hi ⟨p1, p2⟩
    show ∃ z' : Bool × (Nat → Nat → Int32), _ ∧ fX9_offerSubs_15 (n + 1) _ _ _ _ (nI i) _ = fX9_offerSubs_15 n _ _ _ _ (nI (i + 1)) _
    rw [fX9_offerSubs_15, if_neg (nI_ge hi (by omega))]
    obtain ⟨z1, q1, q2⟩ := inner i hi _ z p1 p2 (fX9_offerSubs_15 n)
    exact ⟨z1, q1, q2⟩
end PSF21
