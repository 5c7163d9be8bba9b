/-! ===== a set begins (the class's side) ===== -/
def ps_C0 (W : ps_W) : ps_C := ps_C.mk W.start (fun _ _ => none) (fun _ k => (hp_zt 0 k).toNatClampNeg) (fun _ k => (hp_zt 1 k).toNatClampNeg) (fun _ => 0) (fun _ => 0) (fun _ => W.sbs) (fun _ => 0) (fun _ => 0) W.fst 0
def ps_begin (A : ps_A) (W : ps_W) : ps_A := ps_A.mk 0 A.tb 0 (-1) true W (ps_C0 W) 0 A.P A.had A.svd A.svr
def ps_failA (A : ps_A) (k g : Nat) : ps_A := ps_A.mk 0 A.tb k (nI g) A.on A.W A.C A.u A.P A.had A.svd A.svr
theorem px_swt (t v w : Bool) : hp_u (hp_u (px_R t v w) 0 11 (ps_T2 t)) 0 12 (ps_T t) = px_R (!t) v w := by
  funext a k
  by_cases h4 : a = 0 ∧ k = 12
  · obtain ⟨rfl, rfl⟩ := h4; rw [pu_eq]; cases t <;> rfl
  · rw [pu_ne h4]
    by_cases h5 : a = 0 ∧ k = 11
    · obtain ⟨rfl, rfl⟩ := h5; rw [pu_eq]; cases t <;> rfl
    · rw [pu_ne h5]; unfold px_R; simp only [if_neg h4, if_neg h5]
section PSF56
variable {t v w : Bool} {I I0 : Nat → Nat → Int32} {L : Nat → Nat → Int64} {b : Nat → Nat} {n p : Nat} {Q : ps_Q} {A : ps_A}
theorem cx_fill12 (c : Nat) (x : Int32) (R : Nat → Nat → Nat) : ∃ J, (∀ a, a ≠ c → J a = I a) ∧ (∀ p, p < 12 → J c p = x) ∧ fJ7_fill_53178_12 c x (I, L, R) = some (J, L, R) := by
  have key : ∀ m i f I, i + m = 12 → m < f → ∃ J, (∀ a, a ≠ c → J a = I a) ∧ (∀ p, p < i → J c p = I c p) ∧ (∀ p, i ≤ p → p < 12 → J c p = x) ∧ fJ7_fill_53178_12_5 f c x (nI i) 12 (I, L, R) = some (J, L, R) := by
    intro m
    induction m with
    | zero =>
      intro i f I h1 h2
      obtain ⟨f, rfl⟩ : ∃ f', f = f' + 1 := ⟨f - 1, by omega⟩
      refine ⟨I, fun a _ => rfl, fun p _ => rfl, fun p q1 q2 => by omega, ?_⟩
      rw [fJ7_fill_53178_12_5, if_pos (show (12 : Int32) ≤ nI i from nI_le (a := 12) (by omega) (by omega))]
    | succ m ih =>
      intro i f I h1 h2
      obtain ⟨f, rfl⟩ : ∃ f', f = f' + 1 := ⟨f - 1, by omega⟩
      obtain ⟨J, j1, j2, j3, j4⟩ := ih (i + 1) f (hp_u I c i x) (by omega) (by omega)
      refine ⟨J, fun a ha => by rw [j1 a ha, pu_cell ha], fun p hp => by rw [j2 p (by omega), pu_place (by omega)], fun p q1 q2 => ?_, ?_⟩
      · by_cases e : p = i
        · rw [j2 p (by omega), e, pu_eq]
        · exact j3 p (by omega) q2
      · rw [fJ7_fill_53178_12_5, if_neg (show ¬ (12 : Int32) ≤ nI i from nI_ge (b := 12) (by omega) (by omega)), pg_pos (pi_in (by omega) (by omega)), pl_let, pl_let, pi_ix (by omega), nI_1]
        exact j4
  obtain ⟨J, j1, -, j3, j4⟩ := key 12 0 fx_N I (by omega) (by unfold fx_N; omega)
  exact ⟨J, j1, fun p hp => j3 p (by omega) hp, j4⟩
theorem cx_begin6 {e q r : Nat} (hr : px_R t v w q 4 = r) (h0 : px_R t v w e 0 = e + 1) (h1 : px_R t v w e 1 = e + 2) (h2 : px_R t v w e 2 = e + 3) (h3 : px_R t v w e 3 = e + 4) (x : Int32) : ∃ J, fX6_begin e q x (I, L, px_R t v w) = some (J, L, px_R t v w) ∧ (∀ a, (a < e ∨ e + 4 < a) → J a = I a) ∧ J (e + 1) = I r ∧ (∀ p, p < 12 → J (e + 2) p = -1) ∧ J (e + 3) = hp_zt 0 ∧ J (e + 4) = hp_zt 1 ∧ J e 4 = 0 ∧ J e 5 = 0 ∧ J e 6 = x ∧ J e 7 = 0 ∧ J e 8 = 0 := by
  unfold fX6_begin
  simp only [pl_let]
  show ∃ J, fx_b1 (fJ7_fill_53178_12 (px_R t v w e 1) (-1) (hp_w (hp_w (hp_w I (px_R t v w e 0) (I (px_R t v w q 4))) (px_R t v w e 2) (hp_zt 0)) (px_R t v w e 3) (hp_zt 1), L, px_R t v w)) _ = _ ∧ _
  rw [hr, h0, h1, h2, h3]
  obtain ⟨J, j1, j2, j3⟩ := cx_fill12 (I := hp_w (hp_w (hp_w I (e + 1) (I r)) (e + 3) (hp_zt 0)) (e + 4) (hp_zt 1)) (L := L) (e + 2) (-1) (px_R t v w)
  rw [j3, pb_1]
  refine ⟨hp_u (hp_u (hp_u (hp_u (hp_u J e 4 0) e 5 0) e 6 x) e 7 0) e 8 0, rfl, ?_⟩
  have c : ∀ a, a ≠ e → hp_u (hp_u (hp_u (hp_u (hp_u J e 4 0) e 5 0) e 6 x) e 7 0) e 8 0 a = J a := fun a ha => by rw [pu_cell ha, pu_cell ha, pu_cell ha, pu_cell ha, pu_cell ha]
  refine ⟨fun a ha => by rw [c a (by omega), j1 a (by omega), pw_cell (by omega), pw_cell (by omega), pw_cell (by omega)], by rw [c _ (by omega), j1 _ (by omega), pw_cell (by omega), pw_cell (by omega), pw_eq], fun p hp => by rw [c _ (by omega)]; exact j2 p hp, by rw [c _ (by omega), j1 _ (by omega), pw_cell (by omega), pw_eq], by rw [c _ (by omega), j1 _ (by omega), pw_eq], ?_, ?_, ?_, ?_, pu_eq⟩
  · rw [pu_place (by decide), pu_place (by decide), pu_place (by decide), pu_place (by decide), pu_eq]
  · rw [pu_place (by decide), pu_place (by decide), pu_place (by decide), pu_eq]
  · rw [pu_place (by decide), pu_place (by decide), pu_eq]
  · rw [pu_place (by decide), pu_eq]
theorem ps_z01 : ∀ k, k < 6 → hp_zt 0 k = nI (hp_zt 0 k).toNatClampNeg ∧ hp_zt 1 k = nI (hp_zt 1 k).toNatClampNeg ∧ (hp_zt 0 k).toNatClampNeg ≤ 90 ∧ (hp_zt 1 k).toNatClampNeg ≤ 90 := by decide +kernel
theorem cx_begin1 {W : ps_W} (hW : ps_RW I (ps_T t) W) : ∃ J, fX1_begin 22 (ps_T t) (I, L, px_R t v w) = some (J, L, px_R t v w) ∧ (∀ a, (a < 22 ∨ 32 < a) → J a = I a) ∧ ps_RC J 22 (ps_C0 W) := by
  have hT := ps_T_le t
  unfold fX1_begin
  rw [show (I, L, px_R t v w).2.2 22 0 = 23 from rfl, show (I, L, px_R t v w).2.2 (ps_T t) 0 = ps_T t + 1 by cases t <;> rfl, show (I, L, px_R t v w).1 (ps_T t) 3 = nI W.sbs from hW.sbs]
  obtain ⟨J, j0, j1, j2, j3, j4, j5, j6, j7, j8, j9, j10⟩ := cx_begin6 (I := I) (L := L) (t := t) (v := v) (w := w) (e := 23) (q := ps_T t + 1) (r := ps_T t + 6) (by cases t <;> rfl) rfl rfl rfl rfl (nI W.sbs)
  rw [j0, pb_1, show (J, L, px_R t v w).2.2 22 1 = 28 from rfl, show (J, L, px_R t v w).2.2 (ps_T t) 1 = ps_T t + 7 by cases t <;> rfl, show (J, L, px_R t v w).1 (ps_T t) 3 = nI W.sbs from (congrFun (j1 _ (by omega)) 3).trans hW.sbs]
  obtain ⟨H, k0, k1, k2, k3, k4, k5, k6, k7, k8, k9, k10⟩ := cx_begin6 (I := J) (L := L) (t := t) (v := v) (w := w) (e := 28) (q := ps_T t + 7) (r := ps_T t + 12) (by cases t <;> rfl) rfl rfl rfl rfl (nI W.sbs)
  rw [k0, pb_1, pl_let, pl_let]
  show ∃ J', some (hp_u (hp_u H 22 2 (H (ps_T t) 5)) 22 3 0, L, px_R t v w) = _ ∧ _
  rw [show H (ps_T t) 5 = nI W.fst from (congrFun (k1 _ (by omega)) 5).trans ((congrFun (j1 _ (by omega)) 5).trans hW.fst)]
  have c : ∀ a, a ≠ 22 → hp_u (hp_u H 22 2 (nI W.fst)) 22 3 0 a = H a := fun a ha => by rw [pu_cell ha, pu_cell ha]
  refine ⟨_, rfl, fun a ha => by rw [c a (by omega), k1 a (by omega), j1 a (by omega)], ?_⟩
  have sp : ∀ s, s < 2 → s = 0 ∨ s = 1 := fun s hs => by omega
  refine ⟨fun s hs k hk => ?_, fun s hs p hp => ?_, fun s hs k hk => ?_, fun s hs k hk => ?_, fun s hs => ?_, fun s hs => ?_, fun s hs => ?_, fun s hs => ?_, fun s hs => ?_, ?_, pu_eq⟩
  · rcases sp s hs with rfl | rfl
    · rw [c _ (by omega), k1 _ (by omega)]; exact (congrFun j2 k).trans (hW.st 0 hs k hk)
    · rw [c _ (by omega)]; exact (congrFun k2 k).trans ((congrFun (j1 _ (by omega)) k).trans (hW.st 1 hs k hk))
  · rcases sp s hs with rfl | rfl
    · rw [c _ (by omega), k1 _ (by omega)]; exact j3 p hp
    · rw [c _ (by omega)]; exact k3 p hp
  · rcases sp s hs with rfl | rfl
    · rw [c _ (by omega), k1 _ (by omega)]; exact (congrFun j4 k).trans (ps_z01 k hk).1
    · rw [c _ (by omega)]; exact (congrFun k4 k).trans (ps_z01 k hk).1
  · rcases sp s hs with rfl | rfl
    · rw [c _ (by omega), k1 _ (by omega)]; exact (congrFun j5 k).trans (ps_z01 k hk).2.1
    · rw [c _ (by omega)]; exact (congrFun k5 k).trans (ps_z01 k hk).2.1
  · rcases sp s hs with rfl | rfl
    · rw [c _ (by omega), k1 _ (by omega)]; exact j6
    · rw [c _ (by omega)]; exact k6
  · rcases sp s hs with rfl | rfl
    · rw [c _ (by omega), k1 _ (by omega)]; exact j7
    · rw [c _ (by omega)]; exact k7
  · rcases sp s hs with rfl | rfl
    · rw [c _ (by omega), k1 _ (by omega)]; exact j8
    · rw [c _ (by omega)]; exact k8
  · rcases sp s hs with rfl | rfl
    · rw [c _ (by omega), k1 _ (by omega)]; exact j9
    · rw [c _ (by omega)]; exact k9
  · rcases sp s hs with rfl | rfl
    · rw [c _ (by omega), k1 _ (by omega)]; exact j10
    · rw [c _ (by omega)]; exact k10
  · rw [pu_place (by decide), pu_eq]; rfl
/-- what a new set leaves of the class's cells -/
theorem cx_beginSet {W : ps_W} (hW : ps_RW I (ps_T t) W) (h1 : I 1 1 = 0) (h2 : I 1 2 = 0) (h3 : I 1 3 = -1) : ∃ J, fX9_beginSet 0 (I, L, px_R t v w) = some (J, L, px_R t v w) ∧ ps_RX t (ps_begin A W) J ∧ (∀ a, 290 ≤ a → J a = I a) ∧ J 0 14 = 0 ∧ (∀ i, i < 4 → J (286 + i) 0 = 0) ∧ J (ps_T t) 6 = nI W.lns := by
  have hT := ps_T_le t
  unfold fX9_beginSet
  simp only [pl_let]
  show ∃ J, fx_b1 (fX1_begin 22 (ps_T t) (hp_u (hp_u (hp_u (hp_u (hp_u (hp_u I 0 13 1) 0 15 0) 0 16 0) 0 14 0) 287 0 0) 289 0 0, L, px_R t v w)) _ = _ ∧ _
  obtain ⟨H, hH⟩ : ∃ H, H = hp_u (hp_u (hp_u (hp_u (hp_u (hp_u I 0 13 1) 0 15 0) 0 16 0) 0 14 0) 287 0 0) 289 0 0 := ⟨_, rfl⟩
  rw [← hH]
  have c : ∀ a, a ≠ 0 → a ≠ 287 → a ≠ 289 → H a = I a := fun a q1 q2 q3 => by rw [hH, pu_cell q3, pu_cell q2, pu_cell q1, pu_cell q1, pu_cell q1, pu_cell q1]
  have z13 : H 0 13 = 1 := by rw [hH, pu_cell (by decide), pu_cell (by decide), pu_place (by decide), pu_place (by decide), pu_place (by decide), pu_eq]
  have z15 : H 0 15 = 0 := by rw [hH, pu_cell (by decide), pu_cell (by decide), pu_place (by decide), pu_place (by decide), pu_eq]
  have z16 : H 0 16 = 0 := by rw [hH, pu_cell (by decide), pu_cell (by decide), pu_place (by decide), pu_eq]
  have z14 : H 0 14 = 0 := by rw [hH, pu_cell (by decide), pu_cell (by decide), pu_eq]
  have z287 : H 287 0 = 0 := by rw [hH, pu_cell (by decide), pu_eq]
  have z289 : H 289 0 = 0 := by rw [hH, pu_eq]
  have hWH : ps_RW H (ps_T t) W := by
    obtain ⟨w1, w2, w3, w4, w5, w6, w7, w8, w9, w10, w11⟩ := hW
    exact ⟨by rw [c _ (by omega) (by omega) (by omega)]; exact w1, by rw [c _ (by omega) (by omega) (by omega)]; exact w2, by rw [c _ (by omega) (by omega) (by omega)]; exact w3, by rw [c _ (by omega) (by omega) (by omega)]; exact w4, by rw [c _ (by omega) (by omega) (by omega)]; exact w5, fun s hs => by rw [c _ (by omega) (by omega) (by omega)]; exact w6 s hs, fun s hs => by rw [c _ (by omega) (by omega) (by omega)]; exact w7 s hs, fun s hs => by rw [c _ (by omega) (by omega) (by omega)]; exact w8 s hs, fun s hs p hp => by rw [c _ (by omega) (by omega) (by omega)]; exact w9 s hs p hp, fun s hs i hi p hp => by rw [c _ (by omega) (by omega) (by omega)]; exact w10 s hs i hi p hp, fun s hs k hk => by rw [c _ (by omega) (by omega) (by omega)]; exact w11 s hs k hk⟩
  obtain ⟨J, j0, j1, j2⟩ := cx_begin1 (L := L) (v := v) (w := w) hWH
  rw [j0, pb_1, cx_forget, pb_1]
  have d : ∀ a, a ≠ 286 → a ≠ 288 → hp_u (hp_u J 286 0 0) 288 0 0 a = J a := fun a q1 q2 => by rw [pu_cell q2, pu_cell q1]
  have y286 : hp_u (hp_u J 286 0 0) 288 0 0 286 0 = 0 := by rw [pu_cell (by decide), pu_eq]
  have y288 : hp_u (hp_u J 286 0 0) 288 0 0 288 0 = 0 := pu_eq
  generalize hp_u (hp_u J 286 0 0) 288 0 0 = G at d y286 y288 ⊢
  have e : ∀ a, a ≠ 286 → a ≠ 288 → (a < 22 ∨ 32 < a) → G a = H a := fun a q1 q2 q3 => by rw [d a q1 q2, j1 a q3]
  have g0 : G 0 = H 0 := e 0 (by omega) (by omega) (by omega)
  have g1 : G 1 = I 1 := (e 1 (by omega) (by omega) (by omega)).trans (c 1 (by omega) (by omega) (by omega))
  have ei : ∀ a, 33 ≤ a → a < 286 → G a = H a := fun a q1 q2 => e a (by omega) (by omega) (by omega)
  refine ⟨G, rfl, ⟨by rw [g1]; exact h1, fun k hk => absurd hk (by show ¬ k < 0; omega), by rw [g1]; exact h2, by rw [g1]; exact h3, by rw [g0]; exact z13, fun _ => ?_, fun _ => ?_, fun _ k hk => absurd hk (by show ¬ k < 0; omega), fun _ k hk => absurd hk (by show ¬ k < 0; omega), fun _ k hk => absurd hk (by show ¬ k < 0; omega), by rw [g0]; exact z15, fun _ => ⟨0, by omega, by rw [g0]; exact z16, fun i hi => absurd hi (by show ¬ i < 0; omega)⟩⟩, fun a ha => by rw [e a (by omega) (by omega) (by omega), c a (by omega) (by omega) (by omega)], by rw [g0]; exact z14, fun i hi => ?_, by rw [ei _ (by omega) (by omega)]; exact hWH.lns⟩
  · obtain ⟨w1, w2, w3, w4, w5, w6, w7, w8, w9, w10, w11⟩ := hWH
    exact ⟨by rw [ei _ (by omega) (by omega)]; exact w1, by rw [ei _ (by omega) (by omega)]; exact w2, by rw [ei _ (by omega) (by omega)]; exact w3, by rw [ei _ (by omega) (by omega)]; exact w4, by rw [ei _ (by omega) (by omega)]; exact w5, fun s hs => by rw [ei _ (by omega) (by omega)]; exact w6 s hs, fun s hs => by rw [ei _ (by omega) (by omega)]; exact w7 s hs, fun s hs => by rw [ei _ (by omega) (by omega)]; exact w8 s hs, fun s hs p hp => by rw [ei _ (by omega) (by omega)]; exact w9 s hs p hp, fun s hs i hi p hp => by rw [ei _ (by omega) (by omega)]; exact w10 s hs i hi p hp, fun s hs k hk => by rw [ei _ (by omega) (by omega)]; exact w11 s hs k hk⟩
  · obtain ⟨w1, w2, w3, w4, w5, w6, w7, w8, w9, w10, w11⟩ := j2
    have dd : ∀ a, a < 286 → G a = J a := fun a q => d a (by omega) (by omega)
    exact ⟨fun s hs k hk => by rw [dd _ (by omega)]; exact w1 s hs k hk, fun s hs k hk => by rw [dd _ (by omega)]; exact w2 s hs k hk, fun s hs k hk => by rw [dd _ (by omega)]; exact w3 s hs k hk, fun s hs k hk => by rw [dd _ (by omega)]; exact w4 s hs k hk, fun s hs => by rw [dd _ (by omega)]; exact w5 s hs, fun s hs => by rw [dd _ (by omega)]; exact w6 s hs, fun s hs => by rw [dd _ (by omega)]; exact w7 s hs, fun s hs => by rw [dd _ (by omega)]; exact w8 s hs, fun s hs => by rw [dd _ (by omega)]; exact w9 s hs, by rw [dd _ (by omega)]; exact w10, by rw [dd _ (by omega)]; exact w11⟩
  · rcases (show i = 0 ∨ i = 1 ∨ i = 2 ∨ i = 3 by omega) with rfl | rfl | rfl | rfl
    · exact y286
    · rw [e _ (by omega) (by omega) (by omega)]; exact z287
    · exact y288
    · rw [e _ (by omega) (by omega) (by omega)]; exact z289
end PSF56
