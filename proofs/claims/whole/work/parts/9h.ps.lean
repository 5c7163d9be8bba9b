/-! ===== a text (the class's side) ===== -/
def ps_text (A : ps_A) (n : Nat) : Int32 × ps_A := match ps_read A.tb n with | .ok Q => (nI Q.lns, ps_begin A Q.W) | .error e => (-1, ps_failA A e.1 e.2)
/-- what a text leaves of the class's cells that no one sees -/
def ps_TX (A : ps_A) (n : Nat) (t t' : Bool) (I J : Nat → Nat → Int32) : Prop := match ps_read A.tb n with
  | .ok Q => t' = !t ∧ J 0 14 = 0 ∧ (∀ i, i < 4 → J (286 + i) 0 = 0) ∧ ps_wfW Q.W
  | .error e => t' = t ∧ (∀ a, (a = 0 ∨ 14 ≤ a) → (a < 40 ∨ 65 < a) → J a = I a) ∧ 0 < e.1 ∧ e.1 < 5
section PSF57
variable {t v w : Bool} {I I0 : Nat → Nat → Int32} {L : Nat → Nat → Int64} {b : Nat → Nat} {n p : Nat} {Q : ps_Q} {A : ps_A}
theorem ps_RW.nearT {J : Nat → Nat → Int32} {T : Nat} {W : ps_W} (e : ∀ a, T ≤ a → a ≤ T + 12 → J a = I a) (h : ps_RW I T W) : ps_RW J T W := by
  obtain ⟨w1, w2, w3, w4, w5, w6, w7, w8, w9, w10, w11⟩ := h
  exact ⟨by rw [e _ (by omega) (by omega)]; exact w1, by rw [e _ (by omega) (by omega)]; exact w2, by rw [e _ (by omega) (by omega)]; exact w3, by rw [e _ (by omega) (by omega)]; exact w4, by rw [e _ (by omega) (by omega)]; exact w5, fun s hs => by rw [e _ (by omega) (by omega)]; exact w6 s hs, fun s hs => by rw [e _ (by omega) (by omega)]; exact w7 s hs, fun s hs => by rw [e _ (by omega) (by omega)]; exact w8 s hs, fun s hs p hp => by rw [e _ (by omega) (by omega)]; exact w9 s hs p hp, fun s hs i hi p hp => by rw [e _ (by omega) (by omega)]; exact w10 s hs i hi p hp, fun s hs k hk => by rw [e _ (by omega) (by omega)]; exact w11 s hs k hk⟩
theorem ps_RC.nearT {J : Nat → Nat → Int32} {c : Nat} {C : ps_C} (e : ∀ a, c ≤ a → a ≤ c + 10 → J a = I a) (h : ps_RC I c C) : ps_RC J c C := by
  obtain ⟨w1, w2, w3, w4, w5, w6, w7, w8, w9, w10, w11⟩ := h
  exact ⟨fun s hs k hk => by rw [e _ (by omega) (by omega)]; exact w1 s hs k hk, fun s hs k hk => by rw [e _ (by omega) (by omega)]; exact w2 s hs k hk, fun s hs k hk => by rw [e _ (by omega) (by omega)]; exact w3 s hs k hk, fun s hs k hk => by rw [e _ (by omega) (by omega)]; exact w4 s hs k hk, fun s hs => by rw [e _ (by omega) (by omega)]; exact w5 s hs, fun s hs => by rw [e _ (by omega) (by omega)]; exact w6 s hs, fun s hs => by rw [e _ (by omega) (by omega)]; exact w7 s hs, fun s hs => by rw [e _ (by omega) (by omega)]; exact w8 s hs, fun s hs => by rw [e _ (by omega) (by omega)]; exact w9 s hs, by rw [e _ (by omega) (by omega)]; exact w10, by rw [e _ (by omega) (by omega)]; exact w11⟩
theorem ps_T2_ne (t : Bool) : (ps_T t = 40 ∧ ps_T2 t = 53) ∨ (ps_T t = 53 ∧ ps_T2 t = 40) := by
  cases t
  · exact Or.inl ⟨rfl, rfl⟩
  · exact Or.inr ⟨rfl, rfl⟩
theorem cx_text (h0 : ps_wf A) (hX : ps_RX t A I) (hn : n ≤ A.tz) : ∃ J t', ps_RX t' (ps_text A n).2 J ∧ (∀ a, 290 ≤ a → J a = I a) ∧ ps_TX A n t t' I J ∧ fX9_text 0 (nI n) (I, L, px_R t v w) = some ((ps_text A n).1, (J, L, px_R t' v w)) := by
  have htz := h0.tz
  have hT := ps_T2_ne t
  unfold fX9_text
  rw [if_neg (show ¬ nI n < 0 from nI_nlt (b := 0) (by omega) (by omega)), show (I, L, px_R t v w).2.2 0 0 = 1 from rfl, show (I, L, px_R t v w).1 1 1 = nI A.tz from hX.tz, if_pos (nI_le hn (by omega)), show (I, L, px_R t v w).2.2 0 12 = ps_T2 t by cases t <;> rfl]
  obtain ⟨x, J, ⟨j1, j2, j3⟩, j4⟩ := cx_readInto (I := I) (L := L) (t := t) (v := v) (w := w) (b := A.tb) (n := n) (by omega) (fun k hk => hX.tb k (by omega)) h0.tb
  rw [j4, pb_2]
  unfold ps_text ps_TX
  cases e : ps_read A.tb n with
  | error q =>
    rw [e] at j3
    obtain ⟨rfl, k1, k2, k3, k4⟩ := j3
    rw [if_pos rfl]
    have f : ∀ a, a ≠ 1 → (a < ps_T2 t ∨ ps_T2 t + 12 < a) → J a = I a := j2
    refine ⟨J, t, ⟨j1, fun k hk => absurd hk (by show ¬ k < 0; omega), k1, k2, by rw [f 0 (by omega) (by omega)]; exact hX.on, fun ho => (hX.W ho).nearT (fun a q1 q2 => f a (by omega) (by omega)), fun ho => (hX.C ho).nearT (fun a q1 q2 => f a (by omega) (by omega)), fun ho k hk => by rw [f _ (by omega) (by omega)]; exact hX.had ho k hk, fun ho k hk => by rw [f _ (by omega) (by omega)]; exact hX.svd ho k hk, fun ho k hk => by rw [f _ (by omega) (by omega)]; exact hX.svr ho k hk, by rw [f 0 (by omega) (by omega)]; exact hX.u, fun ho => ?_⟩, fun a ha => f a (by omega) (by omega), ⟨rfl, fun a q1 q2 => f a (by omega) (by omega), k3, k4⟩, rfl⟩
    obtain ⟨np, p1, p2, p3⟩ := hX.P ho
    exact ⟨np, p1, by rw [f 0 (by omega) (by omega)]; exact p2, fun i hi => (p3 i hi).nearT (fun a q1 q2 => f a (by omega) (by omega))⟩
  | ok Q =>
    rw [e] at j3
    obtain ⟨rfl, k1, k2, k3, k4⟩ := j3
    rw [if_neg (show ¬ (1 : Int32) = 0 by decide), pl_let, pl_let]
    show ∃ J' t', _ ∧ _ ∧ _ ∧ fx_b1 (fX9_beginSet 0 (J, L, hp_u (hp_u (px_R t v w) 0 11 (px_R t v w 0 12)) 0 12 (px_R t v w 0 11))) _ = _
    rw [show px_R t v w 0 12 = ps_T2 t by cases t <;> rfl, show px_R t v w 0 11 = ps_T t from rfl, px_swt]
    obtain ⟨H, g0, g1, g2, g3, g4, g5⟩ := cx_beginSet (I := J) (L := L) (t := !t) (v := v) (w := w) (A := A) (W := Q.W) k1 j1 k3 k4
    rw [g0, pb_1]
    refine ⟨H, !t, g1, fun a ha => by rw [g2 a ha, j2 a (by omega) (by omega)], ⟨rfl, g3, g4, k2⟩, ?_⟩
    show some (H (ps_T (!t)) 6, _) = _
    rw [g5]; rfl
theorem cx_text0 (h0 : ps_wf A) (hX : ps_RX t A I) {x : Int32} (hx : ∀ n, x = nI n → n ≤ A.tz → False) : fX9_text 0 x (I, L, px_R t v w) = some (-2, (I, L, px_R t v w)) := by
  have htz := h0.tz
  unfold fX9_text
  by_cases c : x < 0
  · rw [if_pos c]
  · rw [if_neg c, show (I, L, px_R t v w).2.2 0 0 = 1 from rfl, show (I, L, px_R t v w).1 1 1 = nI A.tz from hX.tz, if_neg (fun z => ?_)]
    have h1 : 0 ≤ x.toInt := by
      rw [Int32.lt_iff_toInt_lt] at c
      have : (0 : Int32).toInt = 0 := rfl
      omega
    have h2 := Int32.le_iff_toInt_le.mp z
    rw [nI_toInt (by omega)] at h2
    refine hx x.toInt.toNat ?_ (by omega)
    apply Int32.toInt_inj.mp
    rw [nI_toInt (by omega)]; omega
end PSF57
