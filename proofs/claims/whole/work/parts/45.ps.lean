/-! ===== copies of courts ===== -/
theorem pw_cell {α : Type} {f : Nat → Nat → α} {a x : Nat} {r : Nat → α} (h : ¬ x = a) : hp_w f a r x = f x := if_neg h
theorem pw_eq {α : Type} {f : Nat → Nat → α} {a : Nat} {r : Nat → α} : hp_w f a r a = r := if_pos rfl
section PSP
variable {t v w : Bool} {A : ps_A} {I : Nat → Nat → Int32} {L : Nat → Nat → Int64}
theorem cx_sideCopy {d e : Nat} (rd : ∀ j, j < 4 → px_R t v w d j = d + 1 + j) (re : ∀ j, j < 4 → px_R t v w e j = e + 1 + j) (hne : d + 4 < e ∨ e + 4 < d) (hm : I e 5 = 0 ∨ I e 5 = 1) :
    ∃ J, fX6_copyFrom d e (I, L, px_R t v w) = some (J, L, px_R t v w) ∧ (∀ a, (a < d ∨ d + 4 < a) → J a = I a) ∧ (∀ j, 1 ≤ j → j ≤ 4 → J (d + j) = I (e + j)) ∧ (∀ k, 4 ≤ k → k ≤ 8 → J d k = I e k) := by
  have g0 := rd 0 (by omega)
  have g1 := rd 1 (by omega)
  have g2 := rd 2 (by omega)
  have g3 := rd 3 (by omega)
  have e0 := re 0 (by omega)
  have e1 := re 1 (by omega)
  have e2 := re 2 (by omega)
  have e3 := re 3 (by omega)
  unfold fX6_copyFrom
  simp only [pl_let, hp_wI, hp_sI, g0, g1, g2, g3, e0, e1, e2, e3]
  have r1 : ∀ x, (x = e ∨ x = e + 1 + 0 ∨ x = e + 1 + 1 ∨ x = e + 1 + 2 ∨ x = e + 1 + 3) → ∀ (f : Nat → Nat → Int32) (r : Nat → Int32) (j : Nat), j < 4 → hp_w f (d + 1 + j) r x = f x := fun x hx f r j hj => pw_cell (by omega)
  have r2 : ∀ (f : Nat → Nat → Int32) (k : Nat) (z : Int32), hp_u f d k z e = f e := fun f k z => pu_cell (by omega)
  simp only [r1 e (by simp) _ _ _ (show 0 < 4 by decide), r1 e (by simp) _ _ _ (show 1 < 4 by decide), r1 e (by simp) _ _ _ (show 2 < 4 by decide), r1 e (by simp) _ _ _ (show 3 < 4 by decide), r1 (e + 1 + 1) (by simp) _ _ _ (show 0 < 4 by decide), r1 (e + 1 + 2) (by simp) _ _ _ (show 0 < 4 by decide), r1 (e + 1 + 2) (by simp) _ _ _ (show 1 < 4 by decide), r1 (e + 1 + 3) (by simp) _ _ _ (show 0 < 4 by decide), r1 (e + 1 + 3) (by simp) _ _ _ (show 1 < 4 by decide), r1 (e + 1 + 3) (by simp) _ _ _ (show 2 < 4 by decide), r2]
  rw [pg_pos hm]
  refine ⟨_, rfl, fun a ha => ?_, fun j h1 h2 => ?_, fun k h1 h2 => ?_⟩
  · rw [pu_cell (by omega), pu_cell (by omega), pu_cell (by omega), pu_cell (by omega), pu_cell (by omega), pw_cell (by omega), pw_cell (by omega), pw_cell (by omega), pw_cell (by omega)]
  · rw [pu_cell (by omega), pu_cell (by omega), pu_cell (by omega), pu_cell (by omega), pu_cell (by omega)]
    rcases (show j = 1 ∨ j = 2 ∨ j = 3 ∨ j = 4 by omega) with rfl | rfl | rfl | rfl
    · rw [pw_cell (by omega), pw_cell (by omega), pw_cell (by omega), show d + 1 = d + 1 + 0 from rfl, pw_eq]
    · rw [pw_cell (by omega), pw_cell (by omega), show d + 2 = d + 1 + 1 from rfl, pw_eq]
    · rw [pw_cell (by omega), show d + 3 = d + 1 + 2 from rfl, pw_eq]
    · rw [show d + 4 = d + 1 + 3 from rfl, pw_eq]
  · rcases (show k = 4 ∨ k = 5 ∨ k = 6 ∨ k = 7 ∨ k = 8 by omega) with rfl | rfl | rfl | rfl | rfl
    · rw [pu_place (by decide), pu_place (by decide), pu_place (by decide), pu_place (by decide), pu_eq]
    · rw [pu_place (by decide), pu_place (by decide), pu_place (by decide), pu_eq]
    · rw [pu_place (by decide), pu_place (by decide), pu_eq]
    · rw [pu_place (by decide), pu_eq]
    · rw [pu_eq]
def ps_ct (c : Nat) : Prop := c = 22 ∨ ∃ k, k < 20 ∧ c = 66 + 11 * k
theorem pr_ct0 : ∀ t v w : Bool, ∀ k, k < 20 → px_R t v w (66 + 11 * k) 0 = 66 + 11 * k + 1 ∧ px_R t v w (66 + 11 * k) 1 = 66 + 11 * k + 6 ∧ (∀ j, j < 4 → px_R t v w (66 + 11 * k + 1) j = 66 + 11 * k + 1 + 1 + j) ∧ (∀ j, j < 4 → px_R t v w (66 + 11 * k + 6) j = 66 + 11 * k + 6 + 1 + j) := by decide +kernel
theorem pr_ct1 : ∀ t v w : Bool, px_R t v w 22 0 = 22 + 1 ∧ px_R t v w 22 1 = 22 + 6 ∧ (∀ j, j < 4 → px_R t v w (22 + 1) j = 22 + 1 + 1 + j) ∧ (∀ j, j < 4 → px_R t v w (22 + 6) j = 22 + 6 + 1 + j) := by decide +kernel
theorem pr_ct {c : Nat} (h : ps_ct c) : px_R t v w c 0 = c + 1 ∧ px_R t v w c 1 = c + 6 ∧ (∀ j, j < 4 → px_R t v w (c + 1) j = c + 1 + 1 + j) ∧ (∀ j, j < 4 → px_R t v w (c + 6) j = c + 6 + 1 + j) := by
  rcases h with rfl | ⟨k, hk, rfl⟩
  · exact pr_ct1 t v w
  · exact pr_ct0 t v w k hk
theorem ps_ct_ne {c d : Nat} (hc : ps_ct c) (hd : ps_ct d) (hn : c ≠ d) : c + 10 < d ∨ d + 10 < c := by
  rcases hc with rfl | ⟨k, hk, rfl⟩ <;> rcases hd with rfl | ⟨j, hj, rfl⟩ <;> omega
theorem nI_01 {n : Nat} (h : n ≤ 1) : nI n = 0 ∨ nI n = 1 := by
  rcases (show n = 0 ∨ n = 1 by omega) with rfl | rfl
  · exact Or.inl rfl
  · exact Or.inr rfl
theorem cx_copy {c d : Nat} {C : ps_C} (hc : ps_ct c) (hd : ps_ct d) (hn : c ≠ d) (hC : ps_RC I d C) (hm : ∀ s, s < 2 → C.mv s ≤ 1) :
    ∃ J, fX1_copyFrom c d (I, L, px_R t v w) = some (J, L, px_R t v w) ∧ (∀ a, (a < c ∨ c + 10 < a) → J a = I a) ∧ ps_RC J c C := by
  obtain ⟨c0, c1, c2, c3⟩ := pr_ct (t := t) (v := v) (w := w) hc
  obtain ⟨d0, d1, d2, d3⟩ := pr_ct (t := t) (v := v) (w := w) hd
  have hne := ps_ct_ne hc hd hn
  obtain ⟨J1, e1, f1, g1, k1⟩ := cx_sideCopy (I := I) (L := L) (d := c + 1) (e := d + 1) c2 d2 (by omega) (by rw [show I (d + 1) 5 = nI (C.mv 0) from hC.mv 0 (by decide)]; exact nI_01 (hm 0 (by decide)))
  obtain ⟨J2, e2, f2, g2, k2⟩ := cx_sideCopy (I := J1) (L := L) (d := c + 6) (e := d + 6) c3 d3 (by omega) (by rw [f1 (d + 6) (by omega), show I (d + 6) 5 = nI (C.mv 1) from hC.mv 1 (by decide)]; exact nI_01 (hm 1 (by decide)))
  unfold fX1_copyFrom
  show ∃ J, fx_b1 (fX6_copyFrom (px_R t v w c 0) (px_R t v w d 0) (I, L, px_R t v w)) _ = _ ∧ _
  rw [c0, d0, e1, pb_1]
  show ∃ J, fx_b1 (fX6_copyFrom (px_R t v w c 1) (px_R t v w d 1) (J1, L, px_R t v w)) _ = _ ∧ _
  rw [c1, d1, e2, pb_1]
  simp only [pl_let, hp_sI]
  refine ⟨_, rfl, fun a ha => ?_, ?_⟩
  · rw [pu_cell (by omega), pu_cell (by omega), f2 a (by omega), f1 a (by omega)]
  · have q : ∀ a, a ≠ c → ∀ z y : Int32, hp_u (hp_u J2 c 2 z) c 3 y a = J2 a := fun a ha z y => by rw [pu_cell ha, pu_cell ha]
    have h0 : ∀ j, 1 ≤ j → j ≤ 4 → J2 (c + 1 + j) = I (d + 1 + j) := fun j h1 h2 => by rw [f2 (c + 1 + j) (by omega), g1 j h1 h2]
    have h1 : ∀ j, 1 ≤ j → j ≤ 4 → J2 (c + 6 + j) = I (d + 6 + j) := fun j h1 h2 => by rw [g2 j h1 h2, f1 _ (by omega)]
    have h2 : ∀ k, 4 ≤ k → k ≤ 8 → J2 (c + 1) k = I (d + 1) k := fun k h1 h2 => by rw [f2 (c + 1) (by omega), k1 k h1 h2]
    have h3 : ∀ k, 4 ≤ k → k ≤ 8 → J2 (c + 6) k = I (d + 6) k := fun k h1 h2 => by rw [k2 k h1 h2, f1 _ (by omega)]
    have h4 : ∀ s, s < 2 → ∀ j, 1 ≤ j → j ≤ 4 → J2 (c + 5 * s + 1 + j) = I (d + 5 * s + 1 + j) := fun s hs j q1 q2 => by
      rcases (show s = 0 ∨ s = 1 by omega) with rfl | rfl
      · exact h0 j q1 q2
      · exact h1 j q1 q2
    have h5 : ∀ s, s < 2 → ∀ k, 4 ≤ k → k ≤ 8 → J2 (c + 5 * s + 1) k = I (d + 5 * s + 1) k := fun s hs k q1 q2 => by
      rcases (show s = 0 ∨ s = 1 by omega) with rfl | rfl
      · exact h2 k q1 q2
      · exact h3 k q1 q2
    refine ⟨fun s hs k hk => ?_, fun s hs k hk => ?_, fun s hs k hk => ?_, fun s hs k hk => ?_, fun s hs => ?_, fun s hs => ?_, fun s hs => ?_, fun s hs => ?_, fun s hs => ?_, ?_, ?_⟩
    · rw [q _ (by omega)]; exact (congrFun (h4 s hs 1 (by omega) (by omega)) k).trans (hC.six s hs k hk)
    · rw [q _ (by omega)]; exact (congrFun (h4 s hs 2 (by omega) (by omega)) k).trans (hC.mate s hs k hk)
    · rw [q _ (by omega)]; exact (congrFun (h4 s hs 3 (by omega) (by omega)) k).trans (hC.x s hs k hk)
    · rw [q _ (by omega)]; exact (congrFun (h4 s hs 4 (by omega) (by omega)) k).trans (hC.y s hs k hk)
    · rw [q _ (by omega)]; exact (h5 s hs 4 (by omega) (by omega)).trans (hC.fs s hs)
    · rw [q _ (by omega)]; exact (h5 s hs 5 (by omega) (by omega)).trans (hC.mv s hs)
    · rw [q _ (by omega)]; exact (h5 s hs 6 (by omega) (by omega)).trans (hC.lf s hs)
    · rw [q _ (by omega)]; exact (h5 s hs 7 (by omega) (by omega)).trans (hC.tn s hs)
    · rw [q _ (by omega)]; exact (h5 s hs 8 (by omega) (by omega)).trans (hC.sc s hs)
    · rw [pu_place (by decide), pu_eq, f2 d (by omega), f1 d (by omega)]; exact hC.sv
    · rw [pu_eq, pu_place (by decide), f2 d (by omega), f1 d (by omega)]; exact hC.pl
end PSP
