/-! ===== weighing ===== -/
def ps_F (I : Nat → Nat → Int32) (W : ps_W) (q : Nat → Nat → Nat) : Prop :=
  (I 3 8 = nI W.pts) ∧
  (I 3 9 = nI W.edg) ∧
  (∀ s, s < 2 → ∀ r, r < 6 → I (5 + 4 * s) r = nI (W.sk s (q s r) 0)) ∧
  (∀ s, s < 2 → ∀ r, r < 6 → I (6 + 4 * s) r = nI (ps_fs W s (q s) r 6)) ∧
  (∀ s, s < 2 → ∀ r, r < 6 → I (7 + 4 * s) r = nI (ps_rs W s (q s) r 6))
theorem ps_F.pts {I : Nat → Nat → Int32} {W : ps_W} {q : Nat → Nat → Nat} (h : ps_F I W q) : I 3 8 = nI W.pts := h.1
theorem ps_F.edg {I : Nat → Nat → Int32} {W : ps_W} {q : Nat → Nat → Nat} (h : ps_F I W q) : I 3 9 = nI W.edg := h.2.1
theorem ps_F.sv {I : Nat → Nat → Int32} {W : ps_W} {q : Nat → Nat → Nat} (h : ps_F I W q) : ∀ s, s < 2 → ∀ r, r < 6 → I (5 + 4 * s) r = nI (W.sk s (q s r) 0) := h.2.2.1
theorem ps_F.fr {I : Nat → Nat → Int32} {W : ps_W} {q : Nat → Nat → Nat} (h : ps_F I W q) : ∀ s, s < 2 → ∀ r, r < 6 → I (6 + 4 * s) r = nI (ps_fs W s (q s) r 6) := h.2.2.2.1
theorem ps_F.re {I : Nat → Nat → Int32} {W : ps_W} {q : Nat → Nat → Nat} (h : ps_F I W q) : ∀ s, s < 2 → ∀ r, r < 6 → I (7 + 4 * s) r = nI (ps_rs W s (q s) r 6) := h.2.2.2.2
section PSF7
variable {t v w : Bool} {A : ps_A} {I : Nat → Nat → Int32} {L : Nat → Nat → Int64}
theorem cx_weigh1 (w1 : ps_wfW A.W) (hW : ps_RW I (ps_T t) A.W) {s z : Nat} {q : Nat → Nat} (hs : s < 2) (hq : ps_six A.W s q) (hz : ∀ k, k < 6 → I z k = nI (q k)) (hz2 : z ≠ 5 + 4 * s ∧ z ≠ 6 + 4 * s ∧ z ≠ 7 + 4 * s) :
    ∃ J, ((∀ r, r < 6 → J (5 + 4 * s) r = nI (A.W.sk s (q r) 0) ∧ J (6 + 4 * s) r = nI (ps_fs A.W s q r 6) ∧ J (7 + 4 * s) r = nI (ps_rs A.W s q r 6)) ∧ ∀ a, a ≠ 5 + 4 * s → a ≠ 6 + 4 * s → a ≠ 7 + 4 * s → J a = I a) ∧
      fX2_weigh (4 + 4 * s) (ps_T t + 6 * s + 1) z (I, L, px_R t v w) = some (J, L, px_R t v w) := by
  have hz12 := w1.size s hs
  have hT := ps_T_le t
  unfold fX2_weigh
  refine pf_loop (S := Nat → Nat → Int32) (fun n i J => fX2_weigh_2 n (4 + 4 * s) (ps_T t + 6 * s + 1) z (nI i) (J, L, px_R t v w))
    (fun J => some (J, L, px_R t v w))
    (fun i J => (∀ r, r < i → J (5 + 4 * s) r = nI (A.W.sk s (q r) 0) ∧ J (6 + 4 * s) r = nI (ps_fs A.W s q r 6) ∧ J (7 + 4 * s) r = nI (ps_rs A.W s q r 6)) ∧ ∀ a, a ≠ 5 + 4 * s → a ≠ 6 + 4 * s → a ≠ 7 + 4 * s → J a = I a) 6 ?_ ?_ 6 0 fx_N I (by omega) (by unfold fx_N; omega) ⟨fun r hr => absurd hr (by omega), fun _ _ _ _ => rfl⟩
  · intro n J _
    show fX2_weigh_2 (n + 1) _ _ _ (nI 6) _ = _
    rw [fX2_weigh_2]
    rw [if_pos (by decide)]
  · rintro n i J hi ⟨p1, p2⟩
    show ∃ s', _ ∧ fX2_weigh_2 (n + 1) _ _ _ (nI i) _ = fX2_weigh_2 n _ _ _ (nI (i + 1)) _
    have hqq := hq i hi
    have zz : J z i = nI (q i) := by rw [p2 _ hz2.1 hz2.2.1 hz2.2.2]; exact hz _ hi
    rw [fX2_weigh_2]
    rw [if_neg (show ¬ (6 : Int32) ≤ nI i from nI_ge (b := 6) hi (by omega)), pg_pos (pi_in hi (by omega)), pi_ix (n := i) (by omega), show (J, L, px_R t v w).1 z i = nI (q i) from zz, pg_pos (pi_in (n := q i) (by omega) (by omega)), pg_pos (pi_in hi (by omega)), pl_let, pg_pos (pi_in hi (by omega)), pl_let, pg_pos (pi_in hi (by omega)), pl_let, pi_ix (n := q i) (by omega)]
    have er0 : px_R t v w (4 + 4 * s) 0 = 5 + 4 * s := pr_f0 t v w s hs 0 (by omega)
    have er2 : px_R t v w (4 + 4 * s) 2 = 7 + 4 * s := by rw [pr_f0 t v w s hs 2 (by omega)]; omega
    have er1 : px_R t v w (4 + 4 * s) 1 = 6 + 4 * s := by rw [pr_f0 t v w s hs 1 (by omega)]; omega
    have es1 : px_R t v w (ps_T t + 6 * s + 1) 1 = ps_T t + 6 * s + 3 := pr_q hs (by omega)
    have k0 : J (ps_T t + 6 * s + 3) (q i) = nI (A.W.sk s (q i) 0) := by
      rw [p2 _ (by omega) (by omega) (by omega)]; exact hW.sk s hs 0 (by omega) _ hqq
    show ∃ s', _ ∧ fX2_weigh_39 _ fx_N _ _ _ _ _ (hp_u (hp_u (hp_u J (px_R t v w (4 + 4 * s) 0) i (J (px_R t v w (ps_T t + 6 * s + 1) 1) (q i))) (px_R t v w (4 + 4 * s) 1) i 0) (px_R t v w (4 + 4 * s) 2) i 0, L, px_R t v w) = _
    rw [er0, er1, er2, es1, k0]
    have eq1 : ∀ a, a ≠ 5 + 4 * s → a ≠ 6 + 4 * s → a ≠ 7 + 4 * s → hp_u (hp_u (hp_u J (5 + 4 * s) i (nI (A.W.sk s (q i) 0))) (6 + 4 * s) i 0) (7 + 4 * s) i 0 a = I a := fun a h5 h6 h7 => by
      rw [pu_cell (by omega), pu_cell (by omega), pu_cell (by omega)]; exact p2 a h5 h6 h7
    obtain ⟨J2, ⟨j1, j2, j3⟩, j4⟩ := cx_weigh39 (I := hp_u (hp_u (hp_u J (5 + 4 * s) i (nI (A.W.sk s (q i) 0))) (6 + 4 * s) i 0) (7 + 4 * s) i 0) (L := L) (t := t) (v := v) (w := w) w1 (hW.near (fun a h1 h2 => eq1 a (by omega) (by omega) (by omega))) (z := z) hs hi hq (fun k hk => by rw [eq1 z hz2.1 hz2.2.1 hz2.2.2]; exact hz k hk) hz2.2 (by rw [pu_ne (by omega), pu_eq]) pu_eq (fX2_weigh_2 n)
    refine ⟨J2, ⟨fun r hr => ?_, fun a h5 h6 h7 => ?_⟩, j4⟩
    · by_cases c : r = i
      · subst c
        refine ⟨?_, j1, j2⟩
        rw [j3 _ _ (by omega), pu_ne (by omega), pu_ne (by omega), pu_eq]
      · rw [j3 _ _ (by omega), j3 _ _ (by omega), j3 _ _ (by omega), pu_place c, pu_place c, pu_place c, pu_place c, pu_place c, pu_place c, pu_place c, pu_place c, pu_place c]
        exact p1 r (by omega)
    · funext k
      rw [j3 _ _ (by omega), eq1 a h5 h6 h7]
theorem cx_weigh (w1 : ps_wfW A.W) (hW : ps_RW I (ps_T t) A.W) {z0 z1 : Nat} {q : Nat → Nat → Nat} (hq : ∀ s, s < 2 → ps_six A.W s (q s)) (hz0 : ∀ k, k < 6 → I z0 k = nI (q 0 k)) (hz1 : ∀ k, k < 6 → I z1 k = nI (q 1 k)) (d0 : 17 < z0) (d1 : 17 < z1) :
    ∃ J, ps_F J A.W q ∧ (∀ a, (a < 3 ∨ 11 < a) → J a = I a) ∧ fX4_weigh 3 (ps_T t) z0 z1 (I, L, px_R t v w) = some (J, L, px_R t v w) := by
  have hT := ps_T_le t
  unfold fX4_weigh
  rw [pl_let, pl_let]
  show ∃ J, _ ∧ _ ∧ fx_b1 (fX2_weigh (px_R t v w 3 0) (px_R t v w (ps_T t) 0) z0 (hp_u (hp_u I 3 8 (I (ps_T t) 2)) 3 9 (hp_u I 3 8 (I (ps_T t) 2) (ps_T t) 4), L, px_R t v w)) _ = _
  rw [show px_R t v w 3 0 = 4 + 4 * 0 from rfl, pr_T_0, pu_cell (x := ps_T t) (by omega), hW.pts, hW.edg]
  have e1 : ∀ a, a ≠ 3 → hp_u (hp_u I 3 8 (nI A.W.pts)) 3 9 (nI A.W.edg) a = I a := fun a h => by rw [pu_cell (by omega), pu_cell (by omega)]
  have f1 : hp_u (hp_u I 3 8 (nI A.W.pts)) 3 9 (nI A.W.edg) 3 8 = nI A.W.pts := by rw [pu_ne (by omega), pu_eq]
  have f2 : hp_u (hp_u I 3 8 (nI A.W.pts)) 3 9 (nI A.W.edg) 3 9 = nI A.W.edg := pu_eq
  generalize hp_u (hp_u I 3 8 (nI A.W.pts)) 3 9 (nI A.W.edg) = H at e1 f1 f2 ⊢
  obtain ⟨J, ⟨j1, j2⟩, j3⟩ := cx_weigh1 (I := H) (L := L) (t := t) (v := v) (w := w) (s := 0) (z := z0) w1 (hW.near (fun a h1 h2 => e1 a (by omega))) (by omega) (hq 0 (by omega)) (fun k hk => by rw [e1 _ (by omega)]; exact hz0 k hk) (by omega)
  rw [show ps_T t + 1 = ps_T t + 6 * 0 + 1 from rfl, j3, pb_1]
  show ∃ J, _ ∧ _ ∧ fx_b1 (fX2_weigh (px_R t v w 3 1) (px_R t v w (ps_T t) 1) z1 _) _ = _
  rw [show px_R t v w 3 1 = 4 + 4 * 1 from rfl, pr_T_1]
  have e2 : ∀ a, a ≠ 3 → a ≠ 5 → a ≠ 6 → a ≠ 7 → J a = I a := fun a h3 h5 h6 h7 => by rw [j2 a (by omega) (by omega) (by omega)]; exact e1 a h3
  obtain ⟨J2, ⟨k1, k2⟩, k3⟩ := cx_weigh1 (I := J) (L := L) (t := t) (v := v) (w := w) (s := 1) (z := z1) w1 (hW.near (fun a h1 h2 => e2 a (by omega) (by omega) (by omega) (by omega))) (by omega) (hq 1 (by omega)) (fun k hk => by rw [e2 _ (by omega) (by omega) (by omega) (by omega)]; exact hz1 k hk) (by omega)
  rw [show ps_T t + 7 = ps_T t + 6 * 1 + 1 from rfl, k3, pb_1]
  refine ⟨J2, ⟨?_, ?_, ?_, ?_, ?_⟩, ?_, rfl⟩
  · rw [k2 3 (by omega) (by omega) (by omega), j2 3 (by omega) (by omega) (by omega)]; exact f1
  · rw [k2 3 (by omega) (by omega) (by omega), j2 3 (by omega) (by omega) (by omega)]; exact f2
  · intro s hs r hr
    rcases (show s = 0 ∨ s = 1 by omega) with rfl | rfl
    · rw [k2 _ (by omega) (by omega) (by omega)]; exact (j1 r hr).1
    · exact (k1 r hr).1
  · intro s hs r hr
    rcases (show s = 0 ∨ s = 1 by omega) with rfl | rfl
    · rw [k2 _ (by omega) (by omega) (by omega)]; exact (j1 r hr).2.1
    · exact (k1 r hr).2.1
  · intro s hs r hr
    rcases (show s = 0 ∨ s = 1 by omega) with rfl | rfl
    · rw [k2 _ (by omega) (by omega) (by omega)]; exact (j1 r hr).2.2
    · exact (k1 r hr).2.2
  · intro a ha
    rw [k2 a (by omega) (by omega) (by omega)]
    exact e2 a (by omega) (by omega) (by omega) (by omega)
/-- the chance of who serves -/
def ps_wo (W : ps_W) (q : Nat → Nat → Nat) (s r : Nat) : Nat := ps_fs W s (q s) r 6 + ps_rs W s (q s) r 6
def ps_cl (X Y : Nat) : Nat := if X < Y + 50 then 50 else if Y + 950 < X then 950 else X - Y
def ps_ch (W : ps_W) (q : Nat → Nat → Nat) (r s sv : Nat) : Nat :=
  if sv = 0 then ps_cl (500 + W.sk 0 (q 0 r) 0 + ps_wo W q 0 r) (ps_wo W q 1 s + W.edg) else ps_cl (500 + W.sk 1 (q 1 s) 0 + ps_wo W q 1 s) (ps_wo W q 0 r + W.edg)
theorem ps_cl_le (X Y : Nat) : 50 ≤ ps_cl X Y ∧ ps_cl X Y ≤ 950 := by
  unfold ps_cl; split
  · omega
  · split <;> omega
theorem ps_ch_le (W : ps_W) (q : Nat → Nat → Nat) (r s sv : Nat) : 50 ≤ ps_ch W q r s sv ∧ ps_ch W q r s sv ≤ 950 := by
  unfold ps_ch; split <;> exact ps_cl_le _ _
theorem ps_clx {X Y : Nat} (hX : X < 2 ^ 29) (hY : Y < 2 ^ 29) : fx_max 50 (fx_min 950 (nI X - nI Y)) = nI (ps_cl X Y) := by
  have e := pk_sub_toInt (a := X) (b := Y) (by omega) (by omega)
  unfold fx_max fx_min ps_cl
  have h1 : (nI X - nI Y < 950) ↔ X < Y + 950 := by
    rw [Int32.lt_iff_toInt_lt, e, show (950 : Int32).toInt = 950 from rfl]; omega
  have h2 : ((50 : Int32) < nI X - nI Y) ↔ Y + 50 < X := by
    rw [Int32.lt_iff_toInt_lt, e, show (50 : Int32).toInt = 50 from rfl]; omega
  simp only [h1]
  by_cases c1 : X < Y + 950
  · rw [if_pos c1]
    simp only [h2]
    by_cases c2 : Y + 50 < X
    · rw [if_pos c2, if_neg (by omega), if_neg (by omega), pk_sub (by omega)]
    · rw [if_neg c2]
      by_cases c3 : X < Y + 50
      · rw [if_pos c3]; rfl
      · rw [if_neg c3, if_neg (by omega), show X - Y = 50 by omega]; rfl
  · rw [if_neg c1, if_pos (by decide), if_neg (by omega)]
    by_cases c3 : Y + 950 < X
    · rw [if_pos c3]; rfl
    · rw [if_neg c3, show X - Y = 950 by omega]; rfl
theorem ps_clm {X Y : Nat} (hX : X < 2 ^ 29) (hY : Y < 2 ^ 29) {β : Type} (h : β) : (if (50 : Int32) ≤ nI X - nI Y then (if nI X - nI Y ≤ (950 : Int32) then some (nI X - nI Y, h) else some ((950 : Int32), h)) else some ((50 : Int32), h)) = some (nI (ps_cl X Y), h) := by
  have e := pk_sub_toInt (a := X) (b := Y) (by omega) (by omega)
  unfold ps_cl
  have h1 : (nI X - nI Y ≤ 950) ↔ X ≤ Y + 950 := by
    rw [Int32.le_iff_toInt_le, e, show (950 : Int32).toInt = 950 from rfl]; omega
  have h2 : ((50 : Int32) ≤ nI X - nI Y) ↔ Y + 50 ≤ X := by
    rw [Int32.le_iff_toInt_le, e, show (50 : Int32).toInt = 50 from rfl]; omega
  simp only [h1, h2]
  by_cases c2 : Y + 50 ≤ X
  · rw [if_pos c2, if_neg (show ¬ X < Y + 50 by omega)]
    by_cases c1 : X ≤ Y + 950
    · rw [if_pos c1, if_neg (show ¬ Y + 950 < X by omega), pk_sub (by omega)]
    · rw [if_neg c1, if_pos (show Y + 950 < X by omega)]; rfl
  · rw [if_neg c2, if_pos (show X < Y + 50 by omega)]; rfl
theorem ps_wo_le {W : ps_W} (w1 : ps_wfW W) {s : Nat} {q : Nat → Nat → Nat} (hs : s < 2) (hq : ps_six W s (q s)) (r : Nat) : ps_wo W q s r ≤ 1188 := by
  have h1 := ps_fs_le w1 hs hq r 6
  have h2 := ps_rs_le w1 hs hq r 6
  unfold ps_wo; omega
theorem ps_alg0 (a b c d e f : Int32) : 500 + (a + b - c - d) + e - f = (500 + e + (a + b)) - ((c + d) + f) := by grind
theorem ps_alg1 (a b c d e f : Int32) : 500 - (a + b - c - d) + e - f = (500 + e + (c + d)) - ((a + b) + f) := by grind
theorem cx_chanceOf {W : ps_W} (w1 : ps_wfW W) {q : Nat → Nat → Nat} (hq : ∀ s, s < 2 → ps_six W s (q s)) (hF : ps_F I W q) {r s sv : Nat} (hr : r < 6) (hs : s < 6) (hsv : sv < 2) :
    fX4_chanceOf 3 (nI r) (nI s) (nI sv) (I, L, px_R t v w) = some (nI (ps_ch W q r s sv), (I, L, px_R t v w)) := by
  unfold fX4_chanceOf fX4_chanceOf_80
  rw [pg_pos (pi_in hr (by omega)), pg_pos (pi_in hr (by omega)), pg_pos (pi_in hs (by omega)), pg_pos (pi_in hs (by omega)), pl_let, pi_ix (n := r) (by omega), pi_ix (n := s) (by omega), pg_pos (pi_in hr (by omega)), pg_pos (pi_in hs (by omega))]
  show (if nI sv = 0 then some (fx_max 50 (fx_min 950 (500 + (I 6 r + I 7 r - I 10 s - I 11 s) + I 5 r - I 3 9)), _) else some (fx_max 50 (fx_min 950 (500 - (I 6 r + I 7 r - I 10 s - I 11 s) + I 9 s - I 3 9)), _)) = _
  have a0 := hF.fr 0 (by omega) r hr
  have a1 := hF.re 0 (by omega) r hr
  have a2 := hF.sv 0 (by omega) r hr
  have b0 := hF.fr 1 (by omega) s hs
  have b1 := hF.re 1 (by omega) s hs
  have b2 := hF.sv 1 (by omega) s hs
  rw [show I 6 r = _ from a0, show I 7 r = _ from a1, show I 5 r = _ from a2, show I 10 s = _ from b0, show I 11 s = _ from b1, show I 9 s = _ from b2, hF.edg]
  have l0 := ps_wo_le w1 (by omega) (hq 0 (by omega)) r
  have l1 := ps_wo_le w1 (by omega) (hq 1 (by omega)) s
  have l2 := w1.sk 0 (by omega) _ (hq 0 (by omega) r hr) 0 (by omega)
  have l3 := w1.sk 1 (by omega) _ (hq 1 (by omega) s hs) 0 (by omega)
  have l4 := w1.edg
  unfold ps_ch
  rcases (show sv = 0 ∨ sv = 1 by omega) with rfl | rfl
  · rw [if_pos (show nI 0 = 0 from rfl), if_pos rfl, ps_alg0, show (500 : Int32) = nI 500 from rfl]
    simp only [nI_add]
    rw [← ps_clx (by omega) (by omega)]; rfl
  · rw [if_neg (show ¬ nI 1 = 0 by decide), if_neg (by decide), ps_alg1, show (500 : Int32) = nI 500 from rfl]
    simp only [nI_add]
    rw [← ps_clx (by omega) (by omega)]; rfl
end PSF7
