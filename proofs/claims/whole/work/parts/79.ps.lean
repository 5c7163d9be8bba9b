/-! ===== ways, row by row ===== -/
def ps_rw2 (c : Nat → Nat) (sv : Nat) (P : Nat → Nat → Int64) (q : Bool) : Nat → Nat → Int64
  | 0 => P 0
  | y + 1 => fun k => P (y + 1) k + (if q = true ∧ ps_cv sv k = 1 then ps_F2 c (ps_rw2 c sv P q y) k else 0)
def ps_P0 (y k : Nat) : Int64 := if y = 0 ∧ k = 0 then 1000000000000 else 0
def ps_ro (c : Nat → Nat) (sv X Y : Nat) : Nat → Nat → Nat → Int64
  | 0 => ps_rw2 c sv ps_P0 (decide (0 < X))
  | x + 1 => ps_rw2 c sv (fun y k => if y < Y ∧ ps_cv sv k = 0 then ps_F2 c (ps_ro c sv X Y x y) k else 0) (decide (x + 1 < X))
def ps_Pp (c : Nat → Nat) (sv X Y : Nat) : Nat → Nat → Nat → Int64
  | 0 => ps_P0
  | x + 1 => fun y k => if y < Y ∧ ps_cv sv k = 0 then ps_F2 c (ps_ro c sv X Y x y) k else 0
theorem ps_ro_0 (c : Nat → Nat) (sv X Y x : Nat) : ps_ro c sv X Y x 0 = ps_Pp c sv X Y x 0 := by cases x <;> rfl
theorem ps_ro_s (c : Nat → Nat) (sv X Y x y k : Nat) : ps_ro c sv X Y x (y + 1) k = ps_Pp c sv X Y x (y + 1) k + (if x < X ∧ ps_cv sv k = 1 then ps_F2 c (ps_ro c sv X Y x y) k else 0) := by
  have h : ∀ P q, ps_rw2 c sv P q (y + 1) k = P (y + 1) k + (if q = true ∧ ps_cv sv k = 1 then ps_F2 c (ps_rw2 c sv P q y) k else 0) := fun _ _ => rfl
  cases x with
  | zero => rw [show ps_ro c sv X Y 0 = ps_rw2 c sv ps_P0 (decide (0 < X)) from rfl, h]; simp only [decide_eq_true_eq]; rfl
  | succ x => rw [show ps_ro c sv X Y (x + 1) = ps_rw2 c sv (ps_Pp c sv X Y (x + 1)) (decide (x + 1 < X)) from rfl, h]; simp only [decide_eq_true_eq]
section PSF29
variable {t v w : Bool} {A : ps_A} {I : Nat → Nat → Int32} {L : Nat → Nat → Int64}
theorem cx_fillL312 {c : Nat} {z : Int64} (R : Nat → Nat → Nat) : ∃ H, ((∀ k, k < 312 → H c k = z) ∧ ∀ a, a ≠ c → H a = L a) ∧ fJ7_fill_d0a16_312 c z (I, L, R) = some (I, H, R) := by
  unfold fJ7_fill_d0a16_312
  refine pf_loop (S := Nat → Nat → Int64) (fun n i J => fJ7_fill_d0a16_312_6 n c z (nI i) 312 (I, J, R)) (fun J => some (I, J, R)) (fun i J => (∀ k, k < i → J c k = z) ∧ ∀ a, a ≠ c → J a = L a) 312 ?_ ?_ 312 0 fx_N L (by omega) (by unfold fx_N; omega) ⟨fun k hk => absurd hk (by omega), fun _ _ => rfl⟩
  · intro n J _
    show fJ7_fill_d0a16_312_6 (n + 1) _ _ (nI 312) _ _ = _
    rw [fJ7_fill_d0a16_312_6, if_pos (by decide)]
  · rintro n i J hi ⟨p1, p2⟩
    show ∃ s', _ ∧ fJ7_fill_d0a16_312_6 (n + 1) _ _ (nI i) _ _ = fJ7_fill_d0a16_312_6 n _ _ (nI (i + 1)) _ _
    rw [fJ7_fill_d0a16_312_6, if_neg (show ¬ (312 : Int32) ≤ nI i from nI_ge (b := 312) hi (by omega)), pg_pos (pi_in hi (by omega)), pl_let, pl_let, nI_1, pi_ix (by omega)]
    refine ⟨hp_u J c i z, ⟨fun k hk => ?_, fun a ha => ?_⟩, rfl⟩
    · by_cases q : k = i
      · subst q; exact pu_eq
      · rw [pu_place q]; exact p1 k (by omega)
    · rw [pu_cell ha]; exact p2 a ha
theorem cx_fillL676 {c : Nat} {z : Int64} (R : Nat → Nat → Nat) : ∃ H, ((∀ k, k < 676 → H c k = z) ∧ ∀ a, a ≠ c → H a = L a) ∧ fJ7_fill_d0a16_676 c z (I, L, R) = some (I, H, R) := by
  unfold fJ7_fill_d0a16_676
  refine pf_loop (S := Nat → Nat → Int64) (fun n i J => fJ7_fill_d0a16_676_6 n c z (nI i) 676 (I, J, R)) (fun J => some (I, J, R)) (fun i J => (∀ k, k < i → J c k = z) ∧ ∀ a, a ≠ c → J a = L a) 676 ?_ ?_ 676 0 fx_N L (by omega) (by unfold fx_N; omega) ⟨fun k hk => absurd hk (by omega), fun _ _ => rfl⟩
  · intro n J _
    show fJ7_fill_d0a16_676_6 (n + 1) _ _ (nI 676) _ _ = _
    rw [fJ7_fill_d0a16_676_6, if_pos (by decide)]
  · rintro n i J hi ⟨p1, p2⟩
    show ∃ s', _ ∧ fJ7_fill_d0a16_676_6 (n + 1) _ _ (nI i) _ _ = fJ7_fill_d0a16_676_6 n _ _ (nI (i + 1)) _ _
    rw [fJ7_fill_d0a16_676_6, if_neg (show ¬ (676 : Int32) ≤ nI i from nI_ge (b := 676) hi (by omega)), pg_pos (pi_in hi (by omega)), pl_let, pl_let, nI_1, pi_ix (by omega)]
    refine ⟨hp_u J c i z, ⟨fun k hk => ?_, fun a ha => ?_⟩, rfl⟩
    · by_cases q : k = i
      · subst q; exact pu_eq
      · rw [pu_place q]; exact p1 k (by omega)
    · rw [pu_cell ha]; exact p2 a ha
theorem cx_spreadCell {c : Nat → Nat} {sv p i j : Nat} {g : Nat → Int64} (hsv : sv < 2) (hc : ∀ k, k < 12 → c k ≤ 1000) (hp : p ≤ 25) (hi : i ≤ p) (hj : j ≤ p) (h8 : I 3 8 = nI p) (hcy : ∀ k, k < 12 → I 12 k = nI (c k)) (hg : ∀ k, k < 12 → L (ps_wc w) (12 * j + k) = g k) :
    ∃ H : Nat → Nat → Int64, ((∀ k, k < 12 → H (ps_wa w) (12 * j + k) = L (ps_wa w) (12 * j + k) + (if (i < p ∧ j < p) ∧ ps_cv sv k = 0 then ps_F2 c g k else 0)) ∧ (∀ k, (k < 12 * j ∨ 12 * j + 12 ≤ k) → H (ps_wa w) k = L (ps_wa w) k) ∧
      (∀ k, k < 12 → H (ps_wc w) (12 * (j + 1) + k) = L (ps_wc w) (12 * (j + 1) + k) + (if (i < p ∧ j < p) ∧ ps_cv sv k = 1 then ps_F2 c g k else 0)) ∧ (∀ k, (k < 12 * (j + 1) ∨ 12 * (j + 1) + 12 ≤ k) → H (ps_wc w) k = L (ps_wc w) k) ∧
      H 13 (26 * i + j) = ps_sm g 12 ∧ (∀ k, k ≠ 26 * i + j → H 13 k = L 13 k) ∧ ∀ a, a ≠ 13 → a ≠ 16 → a ≠ 17 → H a = L a) ∧
      fX4_spreadCell 3 (nI i) (nI j) (nI sv) (I, L, px_R t v w) = some (I, H, px_R t v w) := by
  obtain ⟨H, h1, h2⟩ := cx_sc35 (I := I) (L := L) (t := t) (v := v) (w := w) (c := c) (sv := sv) (i := i) (j := j) (q := decide (i < p ∧ j < p)) (g := g) hsv hc (by omega) (by omega) (fun h => by have := of_decide_eq_true h; omega) hcy hg
  simp only [decide_eq_true_eq] at h1
  refine ⟨H, h1, ?_⟩
  unfold fX4_spreadCell fX4_spreadCell_22 fX4_spreadCell_27
  rw [pl_let, show (I, L, px_R t v w).1 3 8 = nI p from h8, show (12 : Int32) = nI 12 from rfl, pk_mul, Nat.mul_comm, ← h2]
  by_cases c1 : i < p
  · rw [if_neg (nI_ge c1 (by omega))]
    by_cases c2 : j < p
    · rw [if_pos (nI_lt c2 (by omega)), decide_eq_true (show i < p ∧ j < p from ⟨c1, c2⟩)]; rfl
    · rw [if_neg (nI_nlt (by omega) (by omega)), decide_eq_false (fun q => c2 q.2)]; rfl
  · rw [if_pos (nI_le (by omega) (by omega)), decide_eq_false (fun q => c1 q.1)]; rfl
theorem cx_sp58 {c : Nat → Nat} {sv p a0 b0 x : Nat} (hsv : sv < 2) (hc : ∀ k, k < 12 → c k ≤ 1000) (hp : p ≤ 25) (hx : a0 + x ≤ p) (hb : b0 ≤ p) (h8 : I 3 8 = nI p) (hcy : ∀ k, k < 12 → I 12 k = nI (c k))
    (h1 : ∀ y, y ≤ p - b0 → ∀ k, k < 12 → L (ps_wc w) (12 * (b0 + y) + k) = ps_Pp c sv (p - a0) (p - b0) x y k) (h2 : ∀ y, y ≤ p - b0 → ∀ k, k < 12 → L (ps_wa w) (12 * (b0 + y) + k) = 0) (k38 : Nat → Int32 → Int32 → Int32 → hp_T → Option hp_T) :
    ∃ H : Nat → Nat → Int64, ((x < p - a0 → ∀ y, y ≤ p - b0 → ∀ k, k < 12 → H (ps_wa w) (12 * (b0 + y) + k) = ps_Pp c sv (p - a0) (p - b0) (x + 1) y k) ∧ (∀ y, y ≤ p - b0 → H 13 (26 * (a0 + x) + (b0 + y)) = ps_sm (ps_ro c sv (p - a0) (p - b0) x y) 12) ∧ (∀ k, (k < 26 * (a0 + x) + b0 ∨ 26 * (a0 + x) + p < k) → H 13 k = L 13 k) ∧ ∀ a, a ≠ 13 → a ≠ 16 → a ≠ 17 → H a = L a) ∧
      fX4_spread_58 k38 fx_N 3 (nI b0) (nI sv) (nI (a0 + x)) (nI b0) (I, L, px_R t v w) = k38 3 (nI b0) (nI sv) (nI (a0 + x + 1)) (I, H, px_R t v (!w)) := by
  have hw := ps_wc_ne w
  obtain ⟨H, ⟨q1, q2, q3, q4, q5⟩, e⟩ := pf_loop (S := Nat → Nat → Int64) (fun n l H => fX4_spread_58 k38 n 3 (nI b0) (nI sv) (nI (a0 + x)) (nI (b0 + l)) (I, H, px_R t v w)) (fun H => k38 3 (nI b0) (nI sv) (nI (a0 + x + 1)) (I, H, px_R t v (!w)))
    (fun l H => (∀ y, l ≤ y → y ≤ p - b0 → ∀ k, k < 12 → H (ps_wc w) (12 * (b0 + y) + k) = if y = l then ps_ro c sv (p - a0) (p - b0) x y k else ps_Pp c sv (p - a0) (p - b0) x y k) ∧ (∀ y, y ≤ p - b0 → ∀ k, k < 12 → H (ps_wa w) (12 * (b0 + y) + k) = if y < l ∧ x < p - a0 then ps_Pp c sv (p - a0) (p - b0) (x + 1) y k else 0) ∧
      (∀ y, y < l → H 13 (26 * (a0 + x) + (b0 + y)) = ps_sm (ps_ro c sv (p - a0) (p - b0) x y) 12) ∧ (∀ k, (k < 26 * (a0 + x) + b0 ∨ 26 * (a0 + x) + b0 + l ≤ k) → H 13 k = L 13 k) ∧ ∀ a, a ≠ 13 → a ≠ 16 → a ≠ 17 → H a = L a) (p - b0 + 1) (by
      intro n H _
      show fX4_spread_58 k38 (n + 1) _ _ _ _ _ _ = _
      rw [fX4_spread_58, show (I, H, px_R t v w).1 3 8 = nI p from h8, if_pos (nI_lt (by omega) (by omega)), pl_let, pl_let, pl_let, nI_1]
      show k38 _ _ _ _ (I, H, hp_u (hp_u (px_R t v w) 3 6 (px_R t v w 3 7)) 3 7 (px_R t v w 3 6)) = _
      rw [pr_3_6, pr_3_7, px_sww]) (by
      rintro n l H hl ⟨q1, q2, q3, q4, q5⟩
      show ∃ s', _ ∧ fX4_spread_58 k38 (n + 1) _ _ _ _ (nI (b0 + l)) _ = fX4_spread_58 k38 n _ _ _ _ (nI (b0 + (l + 1))) _
      obtain ⟨H2, ⟨u1, u2, u3, u4, u5, u6, u7⟩, u8⟩ := cx_spreadCell (I := I) (L := H) (t := t) (v := v) (w := w) (c := c) (sv := sv) (p := p) (i := a0 + x) (j := b0 + l) (g := ps_ro c sv (p - a0) (p - b0) x l) hsv hc hp hx (by omega) h8 hcy (fun k hk => by rw [q1 l (Nat.le_refl _) (by omega) k hk, if_pos rfl])
      refine ⟨H2, ⟨fun y y1 y2 k hk => ?_, fun y hy k hk => ?_, fun y hy => ?_, fun k hk => ?_, fun a p1 p2 p3 => (u7 a p1 p2 p3).trans (q5 a p1 p2 p3)⟩, ?_⟩
      · by_cases yy : y = l + 1
        · rw [if_pos yy, yy, show b0 + (l + 1) = b0 + l + 1 by omega, u3 k hk, show b0 + l + 1 = b0 + (l + 1) by omega, q1 (l + 1) (by omega) (by omega) k hk, if_neg (by omega), ps_ro_s]
          congr 1
          by_cases z : x < p - a0 ∧ ps_cv sv k = 1
          · rw [if_pos z, if_pos ⟨by omega, z.2⟩]
          · rw [if_neg z, if_neg (fun y => z ⟨by omega, y.2⟩)]
        · rw [if_neg yy, u4 _ (by omega), q1 y (by omega) y2 k hk, if_neg (by omega)]
      · by_cases yy : y = l
        · rw [yy, u1 k hk, q2 l (by omega) k hk, if_neg (by omega)]
          by_cases z : x < p - a0
          · rw [if_pos (show l < l + 1 ∧ x < p - a0 from ⟨by omega, z⟩)]
            show _ = if l < p - b0 ∧ ps_cv sv k = 0 then ps_F2 c (ps_ro c sv (p - a0) (p - b0) x l) k else 0
            by_cases z2 : l < p - b0 ∧ ps_cv sv k = 0
            · rw [if_pos z2, if_pos ⟨by omega, z2.2⟩]; grind
            · rw [if_neg z2, if_neg (fun y => z2 ⟨by omega, y.2⟩)]; grind
          · rw [if_neg (show ¬ (l < l + 1 ∧ x < p - a0) from fun y => z y.2), if_neg (show ¬ ((a0 + x < p ∧ b0 + l < p) ∧ ps_cv sv k = 0) from fun y => z (by omega))]; grind
        · rw [u2 _ (by omega), q2 y hy k hk]
          by_cases z : y < l ∧ x < p - a0
          · rw [if_pos z, if_pos ⟨by omega, z.2⟩]
          · rw [if_neg z, if_neg (by omega)]
      · by_cases yy : y = l
        · rw [yy]; exact u5
        · rw [u6 _ (by omega)]; exact q3 y (by omega)
      · rw [u6 _ (by omega)]; exact q4 k (by omega)
      · rw [fX4_spread_58, show (I, H, px_R t v w).1 3 8 = nI p from h8, if_neg (nI_nlt (by omega) (by omega)), u8, pb_1, pl_let, nI_1]; rfl) (p - b0 + 1) 0 fx_N L (by omega) (by unfold fx_N; omega)
    ⟨fun y _ y2 k hk => by
      rw [h1 y y2 k hk]
      by_cases z : y = 0
      · rw [if_pos z, z, ps_ro_0]
      · rw [if_neg z], fun y hy k hk => by rw [h2 y hy k hk, if_neg (by omega)], fun y hy => absurd hy (by omega), fun _ _ => rfl, fun _ _ _ _ => rfl⟩
  refine ⟨H, ⟨fun hxx y hy k hk => ?_, fun y hy => q3 y (by omega), fun k hk => q4 k (by omega), q5⟩, e⟩
  rw [q2 y hy k hk, if_pos ⟨by omega, hxx⟩]
def ps_rch (c : Nat → Nat) (sv p a0 b0 a b : Nat) : Int64 := if a0 ≤ a ∧ b0 ≤ b then ps_sm (ps_ro c sv (p - a0) (p - b0) (a - a0) (b - b0)) 12 else 0
theorem cx_spread {C : Nat → Nat → Nat → Nat} (hC : ps_Cok C) {sv p a0 b0 : Nat} (hsv : sv < 2) (hp : p ≤ 25) (ha : a0 ≤ p) (hb : b0 ≤ p) (h8 : I 3 8 = nI p) (hch : ∀ J, (∀ a, a ≠ 12 → J a = I a) → ∀ r s sv, r < 6 → s < 6 → sv < 2 → fX4_chanceOf 3 (nI r) (nI s) (nI sv) (J, L, px_R t v w) = some (nI (C r s sv), (J, L, px_R t v w))) :
    ∃ (w' : Bool) (J : Nat → Nat → Int32) (H : Nat → Nat → Int64), ((∀ a b, a ≤ p → b ≤ p → H 13 (26 * a + b) = ps_rch (ps_cc C 0 0 sv) sv p a0 b0 a b) ∧ ∀ a, a ≠ 12 → J a = I a) ∧ fX4_spread 3 (nI a0) (nI b0) (nI sv) (I, L, px_R t v w) = some (J, H, px_R t v w') := by
  have hw := ps_wc_ne w
  unfold fX4_spread
  obtain ⟨J, ⟨j1, j2⟩, j3⟩ := cx_fillCycle (I := I) (L := L) (t := t) (v := v) (w := w) (C := C) (r := 0) (s := 0) (by omega) (by omega) hsv hch
  rw [show nI 0 = 0 from rfl] at j3
  rw [j3, pb_1]
  show ∃ (w' : Bool) (J : Nat → Nat → Int32) (H : Nat → Nat → Int64), _ ∧ fx_b1 (fJ7_fill_d0a16_676 13 0 _) _ = _
  obtain ⟨H1, ⟨k1, k2⟩, k3⟩ := cx_fillL676 (I := J) (L := L) (c := 13) (z := 0) (px_R t v w)
  rw [k3, pb_1]
  show ∃ (w' : Bool) (J : Nat → Nat → Int32) (H : Nat → Nat → Int64), _ ∧ fx_b1 (fJ7_fill_d0a16_312 (px_R t v w 3 6) 0 _) _ = _
  rw [pr_3_6]
  obtain ⟨H2, ⟨l1, l2⟩, l3⟩ := cx_fillL312 (I := J) (L := H1) (c := ps_wc w) (z := 0) (px_R t v w)
  rw [l3, pb_1, show (12 : Int32) = nI 12 from rfl, pk_mul, pg_pos (pi_in (by omega) (by omega)), pl_let, pi_ix (by omega)]
  show ∃ (w' : Bool) (J2 : Nat → Nat → Int32) (H : Nat → Nat → Int64), _ ∧ fX4_spread_38 fx_N 3 _ _ _ (J, hp_u H2 (px_R t v w 3 6) (b0 * 12) 1000000000000, px_R t v w) = _
  rw [pr_3_6]
  have hc : ∀ k, k < 12 → ps_cc C 0 0 sv k ≤ 1000 := fun k _ => hC _ _ _
  have h8J : J 3 8 = nI p := by rw [j2 3 (by omega)]; exact h8
  obtain ⟨⟨w', H⟩, ⟨q1, q2, q3⟩, e⟩ := pf_loop (S := Bool × (Nat → Nat → Int64)) (fun n x z => fX4_spread_38 n 3 (nI b0) (nI sv) (nI (a0 + x)) (J, z.2, px_R t v z.1)) (fun z => some (J, z.2, px_R t v z.1))
    (fun x z => (x ≤ p - a0 → ∀ y, y ≤ p - b0 → ∀ k, k < 12 → z.2 (ps_wc z.1) (12 * (b0 + y) + k) = ps_Pp (ps_cc C 0 0 sv) sv (p - a0) (p - b0) x y k) ∧ (∀ x', x' < x → ∀ y, y ≤ p - b0 → z.2 13 (26 * (a0 + x') + (b0 + y)) = ps_sm (ps_ro (ps_cc C 0 0 sv) sv (p - a0) (p - b0) x' y) 12) ∧ ∀ a b, a ≤ p → b ≤ p → (a < a0 ∨ b < b0 ∨ a0 + x ≤ a) → z.2 13 (26 * a + b) = 0) (p - a0 + 1) (by
      intro n z _
      show fX4_spread_38 (n + 1) _ _ _ _ _ = _
      rw [fX4_spread_38, show (J, z.2, px_R t v z.1).1 3 8 = nI p from h8J, if_pos (nI_lt (by omega) (by omega))]) (by
      rintro n x ⟨w1, H⟩ hx ⟨q1, q2, q3⟩
      dsimp only at q1 q2 q3
      have hw1 := ps_wc_ne w1
      show ∃ s' : Bool × (Nat → Nat → Int64), _ ∧ fX4_spread_38 (n + 1) _ _ _ (nI (a0 + x)) _ = fX4_spread_38 n _ _ _ (nI (a0 + (x + 1))) _
      rw [fX4_spread_38, show (J, H, px_R t v w1).1 3 8 = nI p from h8J, if_neg (nI_nlt (by omega) (by omega))]
      show ∃ s' : Bool × (Nat → Nat → Int64), _ ∧ fx_b1 (fJ7_fill_d0a16_312 (px_R t v w1 3 7) 0 _) _ = _
      rw [pr_3_7]
      obtain ⟨H3, ⟨m1, m2⟩, m3⟩ := cx_fillL312 (I := J) (L := H) (c := ps_wa w1) (z := 0) (px_R t v w1)
      rw [m3, pb_1]
      obtain ⟨H4, ⟨n1, n2, n3, n4⟩, n5⟩ := cx_sp58 (I := J) (L := H3) (t := t) (v := v) (w := w1) (c := ps_cc C 0 0 sv) (sv := sv) (p := p) (a0 := a0) (b0 := b0) (x := x) hsv hc hp (by omega) hb h8J j1 (fun y hy k hk => by rw [m2 _ (by omega)]; exact q1 (by omega) y hy k hk) (fun y hy k hk => m1 _ (by omega)) (fX4_spread_38 n)
      rw [n5]
      refine ⟨(!w1, H4), ⟨fun hx2 y hy k hk => ?_, fun x' hx' y hy => ?_, fun a b ha hb hab => ?_⟩, rfl⟩
      · have : ps_wc (!w1) = ps_wa w1 := by cases w1 <;> rfl
        show H4 (ps_wc (!w1)) _ = _
        rw [this]; exact n1 (by omega) y hy k hk
      · show H4 13 _ = _
        by_cases z : x' = x
        · rw [z]; exact n2 y hy
        · rw [n3 _ (by omega), m2 13 (by omega)]; exact q2 x' (by omega) y hy
      · show H4 13 _ = _
        rw [n3 _ (by omega), m2 13 (by omega)]; exact q3 a b ha hb (by omega)) (p - a0 + 1) 0 fx_N (w, hp_u H2 (ps_wc w) (b0 * 12) 1000000000000) (by omega) (by unfold fx_N; omega)
    ⟨fun _ y hy k hk => by
      show hp_u H2 (ps_wc w) (b0 * 12) 1000000000000 (ps_wc w) _ = ps_P0 y k
      unfold ps_P0
      by_cases z : y = 0 ∧ k = 0
      · rw [if_pos z, z.1, z.2, show 12 * (b0 + 0) + 0 = b0 * 12 by omega, pu_eq]
      · rw [if_neg z, pu_place (by omega)]; exact l1 _ (by omega), fun x' hx' => absurd hx' (by omega), fun a b ha hb _ => by
      show hp_u H2 (ps_wc w) (b0 * 12) 1000000000000 13 _ = 0
      rw [pu_cell (by omega), l2 13 (by omega)]; exact k1 _ (by omega)⟩
  dsimp only at q1 q2 q3
  refine ⟨w', J, H, ⟨fun a b ha' hb' => ?_, j2⟩, e⟩
  unfold ps_rch
  by_cases z : a0 ≤ a ∧ b0 ≤ b
  · rw [if_pos z, ← q2 (a - a0) (by omega) (b - b0) (by omega), show 26 * (a0 + (a - a0)) + (b0 + (b - b0)) = 26 * a + b by omega]
  · rw [if_neg z]; exact q3 a b ha' hb' (by omega)
end PSF29
