/-! ===== what a text tells as far as it is read; reading on behind a fault (the class's side) ===== -/
def ps_Q : Type := Option Nat × Option Nat × Option Nat × Option Nat × Nat × (Nat → Nat) × (Nat → Option Nat) × (Nat → Bool) × (Nat → Nat → Nat) × (Nat → Nat → Nat → Nat) × (Nat → Nat → Int32)
def ps_Q.pts (z : ps_Q) : Option Nat := z.1
def ps_Q.sbs (z : ps_Q) : Option Nat := z.2.1
def ps_Q.edg (z : ps_Q) : Option Nat := z.2.2.1
def ps_Q.fst (z : ps_Q) : Option Nat := z.2.2.2.1
def ps_Q.lns (z : ps_Q) : Nat := z.2.2.2.2.1
def ps_Q.size (z : ps_Q) : Nat → Nat := z.2.2.2.2.2.1
def ps_Q.free (z : ps_Q) : Nat → Option Nat := z.2.2.2.2.2.2.1
def ps_Q.stt (z : ps_Q) : Nat → Bool := z.2.2.2.2.2.2.2.1
def ps_Q.start (z : ps_Q) : Nat → Nat → Nat := z.2.2.2.2.2.2.2.2.1
def ps_Q.sk (z : ps_Q) : Nat → Nat → Nat → Nat := z.2.2.2.2.2.2.2.2.2.1
def ps_Q.nm (z : ps_Q) : Nat → Nat → Int32 := z.2.2.2.2.2.2.2.2.2.2
def ps_Q.mk (pts : Option Nat) (sbs : Option Nat) (edg : Option Nat) (fst : Option Nat) (lns : Nat) (size : Nat → Nat) (free : Nat → Option Nat) (stt : Nat → Bool) (start : Nat → Nat → Nat) (sk : Nat → Nat → Nat → Nat) (nm : Nat → Nat → Int32) : ps_Q := (pts, sbs, edg, fst, lns, size, free, stt, start, sk, nm)
/-- the class's cells of it -/
def ps_QX (I : Nat → Nat → Int32) (T : Nat) (Q : ps_Q) : Prop :=
  (I T 2 = ps_e1 Q.pts) ∧
  (I T 3 = ps_e1 Q.sbs) ∧
  (I T 4 = ps_e1 Q.edg) ∧
  (I T 5 = ps_e1 Q.fst) ∧
  (I T 6 = nI Q.lns) ∧
  (∀ s, s < 2 → I (T + 6 * s + 1) 5 = nI (Q.size s)) ∧
  (∀ s, s < 2 → I (T + 6 * s + 1) 6 = nI (if Q.stt s then 6 else 0)) ∧
  (∀ s, s < 2 → I (T + 6 * s + 1) 7 = ps_e1 (Q.free s)) ∧
  (∀ s, s < 2 → ∀ p, p < Q.size s → I (T + 6 * s + 2) p = Q.nm s p) ∧
  (∀ s, s < 2 → ∀ w, w < 3 → ∀ p, p < Q.size s → I (T + 6 * s + 3 + w) p = nI (Q.sk s p w)) ∧
  (∀ s, s < 2 → Q.stt s = true → ∀ k, k < 6 → I (T + 6 * s + 6) k = nI (Q.start s k))
theorem ps_QX.pts {I : Nat → Nat → Int32} {T : Nat} {Q : ps_Q} (h : ps_QX I T Q) : I T 2 = ps_e1 Q.pts := h.1
theorem ps_QX.sbs {I : Nat → Nat → Int32} {T : Nat} {Q : ps_Q} (h : ps_QX I T Q) : I T 3 = ps_e1 Q.sbs := h.2.1
theorem ps_QX.edg {I : Nat → Nat → Int32} {T : Nat} {Q : ps_Q} (h : ps_QX I T Q) : I T 4 = ps_e1 Q.edg := h.2.2.1
theorem ps_QX.fst {I : Nat → Nat → Int32} {T : Nat} {Q : ps_Q} (h : ps_QX I T Q) : I T 5 = ps_e1 Q.fst := h.2.2.2.1
theorem ps_QX.lns {I : Nat → Nat → Int32} {T : Nat} {Q : ps_Q} (h : ps_QX I T Q) : I T 6 = nI Q.lns := h.2.2.2.2.1
theorem ps_QX.size {I : Nat → Nat → Int32} {T : Nat} {Q : ps_Q} (h : ps_QX I T Q) : ∀ s, s < 2 → I (T + 6 * s + 1) 5 = nI (Q.size s) := h.2.2.2.2.2.1
theorem ps_QX.plc {I : Nat → Nat → Int32} {T : Nat} {Q : ps_Q} (h : ps_QX I T Q) : ∀ s, s < 2 → I (T + 6 * s + 1) 6 = nI (if Q.stt s then 6 else 0) := h.2.2.2.2.2.2.1
theorem ps_QX.free {I : Nat → Nat → Int32} {T : Nat} {Q : ps_Q} (h : ps_QX I T Q) : ∀ s, s < 2 → I (T + 6 * s + 1) 7 = ps_e1 (Q.free s) := h.2.2.2.2.2.2.2.1
theorem ps_QX.nm {I : Nat → Nat → Int32} {T : Nat} {Q : ps_Q} (h : ps_QX I T Q) : ∀ s, s < 2 → ∀ p, p < Q.size s → I (T + 6 * s + 2) p = Q.nm s p := h.2.2.2.2.2.2.2.2.1
theorem ps_QX.sk {I : Nat → Nat → Int32} {T : Nat} {Q : ps_Q} (h : ps_QX I T Q) : ∀ s, s < 2 → ∀ w, w < 3 → ∀ p, p < Q.size s → I (T + 6 * s + 3 + w) p = nI (Q.sk s p w) := h.2.2.2.2.2.2.2.2.2.1
theorem ps_QX.st {I : Nat → Nat → Int32} {T : Nat} {Q : ps_Q} (h : ps_QX I T Q) : ∀ s, s < 2 → Q.stt s = true → ∀ k, k < 6 → I (T + 6 * s + 6) k = nI (Q.start s k) := h.2.2.2.2.2.2.2.2.2.2
/-- behind a fault -/
def ps_WK (I0 : Nat → Nat → Int32) (T : Nat) (b : Nat → Nat) (n f g : Nat) (I : Nat → Nat → Int32) : Prop :=
  (ps_rd I b n) ∧
  (∃ a, a ≤ n ∧ I 1 5 = nI a) ∧
  (I 1 2 = nI f) ∧
  (I 1 3 = nI g) ∧
  (I 1 1 = 0) ∧
  (∀ s, s < 2 → ∃ z, z ≤ 12 ∧ I (T + 6 * s + 1) 5 = nI z) ∧
  (∀ s, s < 2 → ∃ z, z ≤ 6 ∧ I (T + 6 * s + 1) 6 = nI z) ∧
  (∀ a, a ≠ 1 → (a < T ∨ T + 12 < a) → I a = I0 a)
theorem ps_WK.rd {I0 : Nat → Nat → Int32} {T : Nat} {b : Nat → Nat} {n f g : Nat} {I : Nat → Nat → Int32} (h : ps_WK I0 T b n f g I) : ps_rd I b n := h.1
theorem ps_WK.at_ {I0 : Nat → Nat → Int32} {T : Nat} {b : Nat → Nat} {n f g : Nat} {I : Nat → Nat → Int32} (h : ps_WK I0 T b n f g I) : ∃ a, a ≤ n ∧ I 1 5 = nI a := h.2.1
theorem ps_WK.fk {I0 : Nat → Nat → Int32} {T : Nat} {b : Nat → Nat} {n f g : Nat} {I : Nat → Nat → Int32} (h : ps_WK I0 T b n f g I) : I 1 2 = nI f := h.2.2.1
theorem ps_WK.fp {I0 : Nat → Nat → Int32} {T : Nat} {b : Nat → Nat} {n f g : Nat} {I : Nat → Nat → Int32} (h : ps_WK I0 T b n f g I) : I 1 3 = nI g := h.2.2.2.1
theorem ps_WK.tz {I0 : Nat → Nat → Int32} {T : Nat} {b : Nat → Nat} {n f g : Nat} {I : Nat → Nat → Int32} (h : ps_WK I0 T b n f g I) : I 1 1 = 0 := h.2.2.2.2.1
theorem ps_WK.size {I0 : Nat → Nat → Int32} {T : Nat} {b : Nat → Nat} {n f g : Nat} {I : Nat → Nat → Int32} (h : ps_WK I0 T b n f g I) : ∀ s, s < 2 → ∃ z, z ≤ 12 ∧ I (T + 6 * s + 1) 5 = nI z := h.2.2.2.2.2.1
theorem ps_WK.plc {I0 : Nat → Nat → Int32} {T : Nat} {b : Nat → Nat} {n f g : Nat} {I : Nat → Nat → Int32} (h : ps_WK I0 T b n f g I) : ∀ s, s < 2 → ∃ z, z ≤ 6 ∧ I (T + 6 * s + 1) 6 = nI z := h.2.2.2.2.2.2.1
theorem ps_WK.fr {I0 : Nat → Nat → Int32} {T : Nat} {b : Nat → Nat} {n f g : Nat} {I : Nat → Nat → Int32} (h : ps_WK I0 T b n f g I) : ∀ a, a ≠ 1 → (a < T ∨ T + 12 < a) → I a = I0 a := h.2.2.2.2.2.2.2
/-- the told that is read into -/
def ps_T2 (t : Bool) : Nat := ps_T (!t)
section PSF47
variable {t v w : Bool} {I I0 : Nat → Nat → Int32} {L : Nat → Nat → Int64}
theorem ps_T2_le (t : Bool) : ps_T2 t = 40 ∨ ps_T2 t = 53 := ps_T_le (!t)
theorem pr_T2_0 : px_R t v w (ps_T2 t) 0 = ps_T2 t + 1 := by cases t <;> rfl
theorem pr_T2_1 : px_R t v w (ps_T2 t) 1 = ps_T2 t + 7 := by cases t <;> rfl
theorem pr_T2s {s : Nat} (hs : s < 2) : px_R t v w (ps_T2 t) s = ps_T2 t + 6 * s + 1 := by
  rcases (show s = 0 ∨ s = 1 by omega) with rfl | rfl
  · exact pr_T2_0
  · exact pr_T2_1
theorem pr_q2 {s k : Nat} (hs : s < 2) (hk : k < 5) : px_R t v w (ps_T2 t + 6 * s + 1) k = ps_T2 t + 6 * s + (k + 2) := by
  rcases (show s = 0 ∨ s = 1 by omega) with rfl | rfl <;> rcases (show k = 0 ∨ k = 1 ∨ k = 2 ∨ k = 3 ∨ k = 4 by omega) with rfl | rfl | rfl | rfl | rfl <;> cases t <;> rfl
theorem ps_WK.adv {T : Nat} {b : Nat → Nat} {n f g : Nat} (h : ps_WK I0 T b n f g I) (hT : T = 40 ∨ T = 53) : ∃ J, ps_WK I0 T b n f g J ∧ fX5_advance 1 (I, L, px_R t v w) = some (J, L, px_R t v w) := by
  obtain ⟨a, ha, h5⟩ := h.at_
  obtain ⟨J, ⟨j1, j2, j3, j4, j5, j6⟩, j7⟩ := cx_advance (L := L) (t := t) (v := v) (w := w) h.rd ha h5
  have hp := ps_tp_le (b := b) ha
  have hq := ps_tq_le (b := b) hp.2
  obtain ⟨r1, r2, r3, r4⟩ := h.rd
  exact ⟨J, ⟨⟨r1, (j5 4 (by decide) (by decide) (by decide) (by decide)).trans r2, fun k hk => by rw [j6 2 (by omega)]; exact r3 k hk, r4⟩, ⟨_, hq.2.1, j1⟩, by rw [j5 2 (by decide) (by decide) (by decide) (by decide)]; exact h.fk, by rw [j5 3 (by decide) (by decide) (by decide) (by decide)]; exact h.fp, by rw [j5 1 (by decide) (by decide) (by decide) (by decide)]; exact h.tz, fun s hs => by rw [j6 _ (by omega)]; exact h.size s hs, fun s hs => by rw [j6 _ (by omega)]; exact h.plc s hs, fun a h1 h2 => by rw [j6 a h1]; exact h.fr a h1 h2⟩, j7⟩
theorem ps_WK.fail {T : Nat} {b : Nat → Nat} {n f g : Nat} (h : ps_WK I0 T b n f g I) (hf : f ≠ 0) (hf2 : f < 5) (x : Int32) : fX5_fail 1 x (I, L, px_R t v w) = some (I, L, px_R t v w) := by
  unfold fX5_fail
  rw [show (I, L, px_R t v w).1 1 2 = nI f from h.fk, if_neg (nI_ne0 (by omega) (by omega))]
theorem ps_WK.num {T : Nat} {b : Nat → Nat} {n f g : Nat} (h : ps_WK I0 T b n f g I) (hf : f ≠ 0) (hf2 : f < 5) (x y : Int32) : fX5_numberHere 1 x y (I, L, px_R t v w) = some (I 1 8, (I, L, px_R t v w)) := by
  unfold fX5_numberHere fX5_numberHere_32
  rw [h.fail hf hf2, pb_1, h.fail hf hf2, pb_1]
  show (if _ then (if _ then some (I 1 8, _) else (if _ then some (I 1 8, _) else some (I 1 8, _))) else some (I 1 8, _)) = _
  split
  · split
    · rfl
    · split <;> rfl
  · rfl
theorem cx_find2 {s : Nat} (hs : s < 2) {z : Nat} (hz : z ≤ 12) (h5 : I (ps_T2 t + 6 * s + 1) 5 = nI z) (x : Int32) : ∃ r : Option Nat, (∀ p, r = some p → p < z) ∧ r = ps_nf (fun k => I (ps_T2 t + 6 * s + 2) k) x z 0 ∧ fX7_find (ps_T2 t + 6 * s + 1) x (I, L, px_R t v w) = some (ps_e1 r, (I, L, px_R t v w)) := by
  refine ⟨ps_nf (fun k => I (ps_T2 t + 6 * s + 2) k) x z 0, fun p hp => by have := ps_nf_some hp; omega, rfl, ?_⟩
  unfold fX7_find
  have key : ∀ m i f, i + m = z → m < f → fX7_find_2 f (ps_T2 t + 6 * s + 1) x (nI i) (I, L, px_R t v w) = some (ps_e1 (ps_nf (fun k => I (ps_T2 t + 6 * s + 2) k) x m i), (I, L, px_R t v w)) := by
    intro m
    induction m with
    | zero =>
      intro i f h1 h2
      obtain ⟨f, rfl⟩ : ∃ f', f = f' + 1 := ⟨f - 1, by omega⟩
      rw [fX7_find_2, show (I, L, px_R t v w).1 (ps_T2 t + 6 * s + 1) 5 = nI z from h5, if_pos (nI_le (by omega) (by omega))]; rfl
    | succ m ih =>
      intro i f h1 h2
      obtain ⟨f, rfl⟩ : ∃ f', f = f' + 1 := ⟨f - 1, by omega⟩
      rw [fX7_find_2, show (I, L, px_R t v w).1 (ps_T2 t + 6 * s + 1) 5 = nI z from h5, if_neg (nI_ge (by omega) (by omega)), pg_pos (pi_in (by omega) (by omega)), pi_ix (by omega)]
      show (if I (px_R t v w (ps_T2 t + 6 * s + 1) 0) i = x then _ else _) = _
      rw [pr_q2 hs (by omega), ps_nf]
      by_cases c : I (ps_T2 t + 6 * s + (0 + 2)) i = x
      · rw [if_pos c, if_pos (show (fun k => I (ps_T2 t + 6 * s + 2) k) i = x from c)]; rfl
      · rw [if_neg c, if_neg (show ¬ (fun k => I (ps_T2 t + 6 * s + 2) k) i = x from c), pl_let, nI_1]
        exact ih (i + 1) f (by omega) (by omega)
  exact key z 0 fx_N (by omega) (by unfold fx_N; omega)
theorem ps_WK.add {b : Nat → Nat} {n f g s : Nat} (h : ps_WK I0 (ps_T2 t) b n f g I) (hs : s < 2) (x y z u : Int32) : ∃ J, ps_WK I0 (ps_T2 t) b n f g J ∧ fX7_add (ps_T2 t + 6 * s + 1) x y z u (I, L, px_R t v w) = some (J, L, px_R t v w) := by
  have hT := ps_T2_le t
  obtain ⟨m, hm, h5⟩ := h.size s hs
  unfold fX7_add
  rw [show (I, L, px_R t v w).1 (ps_T2 t + 6 * s + 1) 5 = nI m from h5]
  by_cases c : 12 ≤ m
  · rw [if_pos (show (12 : Int32) ≤ nI m from nI_le (a := 12) c (by omega))]; exact ⟨I, h, rfl⟩
  · rw [if_neg (show ¬ (12 : Int32) ≤ nI m from nI_ge (b := 12) (by omega) (by omega)), pg_pos (pi_in (by omega) (by omega)), pl_let, pi_ix (n := m) (by omega)]
    show ∃ J, _ ∧ fx_g (fx_in (hp_u I (px_R t v w (ps_T2 t + 6 * s + 1) 0) m x (ps_T2 t + 6 * s + 1) 5) 12) (fx_let (hp_u (hp_u I (px_R t v w (ps_T2 t + 6 * s + 1) 0) m x) (px_R t v w (ps_T2 t + 6 * s + 1) 1) (fx_ix (hp_u I (px_R t v w (ps_T2 t + 6 * s + 1) 0) m x (ps_T2 t + 6 * s + 1) 5)) y, L, px_R t v w) _) = _
    rw [pr_q2 hs (by omega), pr_q2 hs (by omega), pu_cell (x := ps_T2 t + 6 * s + 1) (by omega), h5, pg_pos (pi_in (by omega) (by omega)), pl_let, pi_ix (n := m) (by omega)]
    show ∃ J, _ ∧ fx_g (fx_in (hp_u (hp_u I (ps_T2 t + 6 * s + (0 + 2)) m x) (ps_T2 t + 6 * s + (1 + 2)) m y (ps_T2 t + 6 * s + 1) 5) 12) (fx_let (hp_u (hp_u (hp_u I (ps_T2 t + 6 * s + (0 + 2)) m x) (ps_T2 t + 6 * s + (1 + 2)) m y) (px_R t v w (ps_T2 t + 6 * s + 1) 2) (fx_ix (hp_u (hp_u I (ps_T2 t + 6 * s + (0 + 2)) m x) (ps_T2 t + 6 * s + (1 + 2)) m y (ps_T2 t + 6 * s + 1) 5)) z, L, px_R t v w) _) = _
    rw [pr_q2 hs (by omega), pu_cell (x := ps_T2 t + 6 * s + 1) (by omega), pu_cell (x := ps_T2 t + 6 * s + 1) (by omega), h5, pg_pos (pi_in (by omega) (by omega)), pl_let, pi_ix (n := m) (by omega)]
    show ∃ J, _ ∧ fx_g (fx_in (hp_u (hp_u (hp_u I (ps_T2 t + 6 * s + (0 + 2)) m x) (ps_T2 t + 6 * s + (1 + 2)) m y) (ps_T2 t + 6 * s + (2 + 2)) m z (ps_T2 t + 6 * s + 1) 5) 12) (fx_let (hp_u (hp_u (hp_u (hp_u I (ps_T2 t + 6 * s + (0 + 2)) m x) (ps_T2 t + 6 * s + (1 + 2)) m y) (ps_T2 t + 6 * s + (2 + 2)) m z) (px_R t v w (ps_T2 t + 6 * s + 1) 3) (fx_ix (hp_u (hp_u (hp_u I (ps_T2 t + 6 * s + (0 + 2)) m x) (ps_T2 t + 6 * s + (1 + 2)) m y) (ps_T2 t + 6 * s + (2 + 2)) m z (ps_T2 t + 6 * s + 1) 5)) u, L, px_R t v w) _) = _
    rw [pr_q2 hs (by omega), pu_cell (x := ps_T2 t + 6 * s + 1) (by omega), pu_cell (x := ps_T2 t + 6 * s + 1) (by omega), pu_cell (x := ps_T2 t + 6 * s + 1) (by omega), h5, pg_pos (pi_in (by omega) (by omega)), pl_let, pl_let, pi_ix (n := m) (by omega)]
    refine ⟨hp_u (hp_u (hp_u (hp_u (hp_u I (ps_T2 t + 6 * s + (0 + 2)) m x) (ps_T2 t + 6 * s + (1 + 2)) m y) (ps_T2 t + 6 * s + (2 + 2)) m z) (ps_T2 t + 6 * s + (3 + 2)) m u) (ps_T2 t + 6 * s + 1) 5 (nI (m + 1)), ?_, ?_⟩
    · have c0 : ∀ a, a < ps_T2 t ∨ ps_T2 t + 12 < a → hp_u (hp_u (hp_u (hp_u (hp_u I (ps_T2 t + 6 * s + (0 + 2)) m x) (ps_T2 t + 6 * s + (1 + 2)) m y) (ps_T2 t + 6 * s + (2 + 2)) m z) (ps_T2 t + 6 * s + (3 + 2)) m u) (ps_T2 t + 6 * s + 1) 5 (nI (m + 1)) a = I a := fun a ha => by rw [pu_cell (by omega), pu_cell (by omega), pu_cell (by omega), pu_cell (by omega), pu_cell (by omega)]
      have cs : ∀ s', s' < 2 → ∀ k, ¬ (s' = s ∧ k = 5) → hp_u (hp_u (hp_u (hp_u (hp_u I (ps_T2 t + 6 * s + (0 + 2)) m x) (ps_T2 t + 6 * s + (1 + 2)) m y) (ps_T2 t + 6 * s + (2 + 2)) m z) (ps_T2 t + 6 * s + (3 + 2)) m u) (ps_T2 t + 6 * s + 1) 5 (nI (m + 1)) (ps_T2 t + 6 * s' + 1) k = I (ps_T2 t + 6 * s' + 1) k := fun s' hs' k hk => by rw [pu_ne (by omega), pu_cell (by omega), pu_cell (by omega), pu_cell (by omega), pu_cell (by omega)]
      obtain ⟨r1, r2, r3, r4⟩ := h.rd
      refine ⟨⟨r1, by rw [c0 1 (by omega)]; exact r2, fun k hk => by rw [c0 2 (by omega)]; exact r3 k hk, r4⟩, by rw [c0 1 (by omega)]; exact h.at_, by rw [c0 1 (by omega)]; exact h.fk, by rw [c0 1 (by omega)]; exact h.fp, by rw [c0 1 (by omega)]; exact h.tz, fun s' hs' => ?_, fun s' hs' => by rw [cs s' hs' 6 (by omega)]; exact h.plc s' hs', fun a h1 h2 => by rw [c0 a h2]; exact h.fr a h1 h2⟩
      by_cases q : s' = s
      · rw [q]; exact ⟨m + 1, by omega, pu_eq⟩
      · rw [cs s' hs' 5 (by omega)]; exact h.size s' hs'
    · show some (hp_u (hp_u (hp_u (hp_u (hp_u I (ps_T2 t + 6 * s + (0 + 2)) m x) (ps_T2 t + 6 * s + (1 + 2)) m y) (ps_T2 t + 6 * s + (2 + 2)) m z) (ps_T2 t + 6 * s + (3 + 2)) m u) (ps_T2 t + 6 * s + 1) 5 (hp_u (hp_u (hp_u (hp_u I (ps_T2 t + 6 * s + (0 + 2)) m x) (ps_T2 t + 6 * s + (1 + 2)) m y) (ps_T2 t + 6 * s + (2 + 2)) m z) (ps_T2 t + 6 * s + (3 + 2)) m u (ps_T2 t + 6 * s + 1) 5 + 1), L, px_R t v w) = _
      rw [pu_cell (x := ps_T2 t + 6 * s + 1) (by omega), pu_cell (x := ps_T2 t + 6 * s + 1) (by omega), pu_cell (x := ps_T2 t + 6 * s + 1) (by omega), pu_cell (x := ps_T2 t + 6 * s + 1) (by omega), h5, nI_1]
end PSF47
