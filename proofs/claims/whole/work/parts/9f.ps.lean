/-! ===== a text is read (the class's side) ===== -/
def ps_Q0 : ps_Q := ps_Q.mk none none none none 0 (fun _ => 0) (fun _ => none) (fun _ => false) (fun _ _ => 0) (fun _ _ _ => 0) (fun _ _ => 0)
def ps_Q.W (Q : ps_Q) : ps_W := ps_W.mk (Q.pts.getD 25) (Q.sbs.getD 6) (Q.edg.getD 100) (Q.fst.getD 0) Q.lns Q.size Q.free Q.start Q.sk Q.nm
def ps_read (b : Nat → Nat) (n : Nat) : Except (Nat × Nat) ps_Q := match ps_Lall b n (n + 1) ps_Q0 (ps_tp b n 0) with | .error e => .error e | .ok Q => if Q.stt 0 = true ∧ Q.stt 1 = true then .ok Q else .error (4, n)
theorem ps_Qw0 : ps_Qw ps_Q0 := ⟨fun s hs => Nat.zero_le _, fun x e => (by cases e), fun x e => (by cases e), fun x e => (by cases e), fun x e => (by cases e), fun s hs q e => (by cases e), fun s hs p hp => absurd hp (by show ¬ p < 0; omega), fun s hs e => (by cases e), fun s hs e => (by cases e), fun s hs e => (by cases e)⟩
theorem ps_getD_lt {o : Option Nat} {d N : Nat} (h : ∀ x, o = some x → x ≤ N) (hd : d ≤ N) : o.getD d ≤ N := by
  cases o with
  | none => exact hd
  | some x => exact h x rfl
theorem ps_Qw.W {Q : ps_Q} (h : ps_Qw Q) (h0 : Q.stt 0 = true) (h1 : Q.stt 1 = true) (hn : Q.lns ≤ 900) : ps_wfW Q.W := by
  have hs : ∀ s, s < 2 → Q.stt s = true := fun s hs => by
    rcases (show s = 0 ∨ s = 1 by omega) with rfl | rfl
    · exact h0
    · exact h1
  refine ⟨?_, ps_getD_lt (fun x e => (h.pts x e).2) (by omega), ps_getD_lt h.sbs (by omega), ps_getD_lt h.edg (by omega), Nat.lt_of_le_of_lt (ps_getD_lt (N := 1) (fun x e => by have := h.fst x e; omega) (by omega)) (by omega), hn, h.l, h.free, fun s q => h.st s q (hs s q), fun s q => h.inj s q (hs s q), fun s q k hk e => h.fs s q (hs s q) _ e k hk rfl, h.sk⟩
  show 3 ≤ Q.pts.getD 25
  cases e : Q.pts with
  | none => show 3 ≤ 25; omega
  | some x => exact (h.pts x e).1
section PSF55
variable {t v w : Bool} {I I0 : Nat → Nat → Int32} {L : Nat → Nat → Int64} {b : Nat → Nat} {n p : Nat} {Q : ps_Q}
def ps_fv (I : Nat → Nat → Int32) (T k : Nat) (d : Int32) : Int32 := if I T k = -1 then d else I T k
theorem cx_fill (T : Nat) : fX8_fillUntold T (I, L, px_R t v w) = some (hp_u (hp_u (hp_u (hp_u I T 2 (ps_fv I T 2 25)) T 3 (ps_fv I T 3 6)) T 4 (ps_fv I T 4 100)) T 5 (ps_fv I T 5 0), L, px_R t v w) := by
  have e60 : ∀ (J : Nat → Nat → Int32) (x : Int32), fX8_fillUntold_60 T T x (J, L, px_R t v w) = some (hp_u (hp_u J T 4 x) T 5 (ps_fv J T 5 0), L, px_R t v w) := fun J x => by
    unfold fX8_fillUntold_60 ps_fv
    rw [pl_let, pl_let, pl_let]
    show (if hp_u J T 4 x T 5 = -1 then some (hp_u (hp_u J T 4 x) T 5 0, L, px_R t v w) else some (hp_u (hp_u J T 4 x) T 5 (hp_u J T 4 x T 5), L, px_R t v w)) = _
    rw [pu_place (by decide)]
    split <;> rfl
  have e39 : ∀ (J : Nat → Nat → Int32) (x : Int32), fX8_fillUntold_39 T T x (J, L, px_R t v w) = some (hp_u (hp_u (hp_u J T 3 x) T 4 (ps_fv J T 4 100)) T 5 (ps_fv J T 5 0), L, px_R t v w) := fun J x => by
    unfold fX8_fillUntold_39
    rw [pl_let]
    show (if hp_u J T 3 x T 4 = -1 then fX8_fillUntold_60 T T 100 (hp_u J T 3 x, L, px_R t v w) else fX8_fillUntold_60 T T (hp_u J T 3 x T 4) (hp_u J T 3 x, L, px_R t v w)) = _
    rw [e60, e60]
    unfold ps_fv
    rw [pu_place (by decide), pu_place (by decide)]
    split <;> rfl
  have e18 : ∀ (J : Nat → Nat → Int32) (x : Int32), fX8_fillUntold_18 T T x (J, L, px_R t v w) = some (hp_u (hp_u (hp_u (hp_u J T 2 x) T 3 (ps_fv J T 3 6)) T 4 (ps_fv J T 4 100)) T 5 (ps_fv J T 5 0), L, px_R t v w) := fun J x => by
    unfold fX8_fillUntold_18
    rw [pl_let]
    show (if hp_u J T 2 x T 3 = -1 then fX8_fillUntold_39 T T 6 (hp_u J T 2 x, L, px_R t v w) else fX8_fillUntold_39 T T (hp_u J T 2 x T 3) (hp_u J T 2 x, L, px_R t v w)) = _
    rw [e39, e39]
    unfold ps_fv
    rw [pu_place (by decide), pu_place (by decide), pu_place (by decide)]
    split <;> rfl
  unfold fX8_fillUntold
  rw [e18, e18]
  show (if I T 2 = -1 then _ else _) = _
  unfold ps_fv
  split <;> rfl
theorem ps_fv_e1 {T k : Nat} {o : Option Nat} {d : Nat} (h : I T k = ps_e1 o) (ho : ∀ x, o = some x → x < 2 ^ 31) : ps_fv I T k (nI d) = nI (o.getD d) := by
  unfold ps_fv
  rw [h]
  cases o with
  | none => rfl
  | some x => rw [if_neg (show ¬ ps_e1 (some x) = -1 from nI_ne_m1 (ho x rfl))]; rfl
/-- what a reading leaves -/
def ps_RO (I0 : Nat → Nat → Int32) (t : Bool) (n : Nat) (r : Except (Nat × Nat) ps_Q) (x : Int32) (J : Nat → Nat → Int32) : Prop :=
  J 1 1 = 0 ∧ (∀ a, a ≠ 1 → (a < ps_T2 t ∨ ps_T2 t + 12 < a) → J a = I0 a) ∧ match r with | .ok Q => x = 1 ∧ ps_RW J (ps_T2 t) Q.W ∧ ps_wfW Q.W ∧ J 1 2 = 0 ∧ J 1 3 = -1 | .error e => x = 0 ∧ J 1 2 = nI e.1 ∧ J 1 3 = nI e.2 ∧ 0 < e.1 ∧ e.1 < 5
theorem ps_WK.into {k : Nat} (h : ps_WK I0 (ps_T2 t) b n p k I) (h0 : 0 < p) (h1 : p < 5) : ∃ J, ps_RO I0 t n (.error (p, k)) 0 J ∧ fX5_readInto_107 1 (ps_T2 t) (I, L, px_R t v w) = some (0, (J, L, px_R t v w)) := by
  have hT := ps_T2_le t
  unfold fX5_readInto_107
  rw [cx_fill, pb_1]
  have g1 := h.set (a := ps_T2 t) (k := 2) (x := ps_fv I (ps_T2 t) 2 25) hT (by omega) (by omega) (fun s hs => by omega)
  have g2 := g1.set (a := ps_T2 t) (k := 3) (x := ps_fv I (ps_T2 t) 3 6) hT (by omega) (by omega) (fun s hs => by omega)
  have g3 := g2.set (a := ps_T2 t) (k := 4) (x := ps_fv I (ps_T2 t) 4 100) hT (by omega) (by omega) (fun s hs => by omega)
  have g4 := g3.set (a := ps_T2 t) (k := 5) (x := ps_fv I (ps_T2 t) 5 0) hT (by omega) (by omega) (fun s hs => by omega)
  refine ⟨_, ⟨g4.tz, g4.fr, rfl, g4.fk, g4.fp, h0, h1⟩, ?_⟩
  rw [if_neg (show ¬ (hp_u (hp_u (hp_u (hp_u I (ps_T2 t) 2 (ps_fv I (ps_T2 t) 2 25)) (ps_T2 t) 3 (ps_fv I (ps_T2 t) 3 6)) (ps_T2 t) 4 (ps_fv I (ps_T2 t) 4 100)) (ps_T2 t) 5 (ps_fv I (ps_T2 t) 5 0), L, px_R t v w).1 1 2 = 0 from fun z => nI_ne0 (by omega) (by omega) (g4.fk.symm.trans z))]
theorem ps_WK.into78 {k : Nat} (h : ps_WK I0 (ps_T2 t) b n p k I) (h0 : 0 < p) (h1 : p < 5) : ∃ J, ps_RO I0 t n (.error (p, k)) 0 J ∧ fX5_readInto_78 1 (ps_T2 t) (I, L, px_R t v w) = some (0, (J, L, px_R t v w)) := by
  obtain ⟨J, j1, j2⟩ := h.into (L := L) (v := v) (w := w) h0 h1
  refine ⟨J, j1, ?_⟩
  unfold fX5_readInto_78 fX5_readInto_102
  rw [h.fail (by omega) h1, pb_1, j2]
  split
  · rfl
  · split <;> rfl
theorem ps_OK.into (hn9 : n ≤ 900) (h : ps_OK I0 (ps_T2 t) b n Q n I) (hw : ps_Qw Q) (hln : Q.lns ≤ n) : ∃ x J, ps_RO I0 t n (if Q.stt 0 = true ∧ Q.stt 1 = true then .ok Q else .error (4, n)) x J ∧ fX5_readInto_78 1 (ps_T2 t) (I, L, px_R t v w) = some (x, (J, L, px_R t v w)) := by
  have hT := ps_T2_le t
  unfold fX5_readInto_78 fX5_readInto_102
  have bad : ∃ x J, ps_RO I0 t n (.error (4, n)) x J ∧ (fx_b1 (fX5_fail 1 4 (I, L, px_R t v w)) fun h104 => fX5_readInto_107 1 (ps_T2 t) h104) = some (x, (J, L, px_R t v w)) := by
    obtain ⟨J, j1, j2⟩ := h.fail (L := L) (v := v) (w := w) hw.l 4
    obtain ⟨H, k1, k2⟩ := j1.into (L := L) (v := v) (w := w) (by omega) (by omega)
    rw [show (4 : Int32) = nI 4 from rfl, j2, pb_1, k2]
    exact ⟨0, H, k1, rfl⟩
  rw [show (I, L, px_R t v w).2.2 (ps_T2 t) 0 = ps_T2 t + 6 * 0 + 1 from pr_T2_0, show (I, L, px_R t v w).2.2 (ps_T2 t) 1 = ps_T2 t + 6 * 1 + 1 from pr_T2_1, show (I, L, px_R t v w).1 (ps_T2 t + 6 * 0 + 1) 6 = nI (if Q.stt 0 then 6 else 0) from h.Q.plc 0 (by omega), show (I, L, px_R t v w).1 (ps_T2 t + 6 * 1 + 1) 6 = nI (if Q.stt 1 then 6 else 0) from h.Q.plc 1 (by omega)]
  cases s0 : Q.stt 0 with
  | false =>
    rw [if_neg (fun z => absurd z.1 (by decide)), if_pos (show nI (if false = true then 6 else 0) < 6 by decide)]
    exact bad
  | true =>
    rw [if_neg (show ¬ nI (if true = true then 6 else 0) < 6 by decide)]
    cases s1 : Q.stt 1 with
    | false =>
      rw [if_neg (fun z => absurd z.2 (by decide)), if_neg (show ¬ 6 ≤ nI (if false = true then 6 else 0) by decide)]
      exact bad
    | true =>
      rw [if_pos ⟨rfl, rfl⟩, if_pos (show 6 ≤ nI (if true = true then 6 else 0) by decide)]
      unfold fX5_readInto_107
      rw [cx_fill, pb_1]
      have f2 := ps_fv_e1 (d := 25) h.Q.pts (fun x e => by have := hw.pts x e; omega)
      have f3 := ps_fv_e1 (d := 6) h.Q.sbs (fun x e => by have := hw.sbs x e; omega)
      have f4 := ps_fv_e1 (d := 100) h.Q.edg (fun x e => by have := hw.edg x e; omega)
      have f5 := ps_fv_e1 (d := 0) h.Q.fst (fun x e => by have := hw.fst x e; omega)
      rw [show (25 : Int32) = nI 25 from rfl, show (6 : Int32) = nI 6 from rfl, show (100 : Int32) = nI 100 from rfl, show (0 : Int32) = nI 0 from rfl, f2, f3, f4, f5]
      have cell : ∀ a, a ≠ ps_T2 t → hp_u (hp_u (hp_u (hp_u I (ps_T2 t) 2 (nI (Q.pts.getD 25))) (ps_T2 t) 3 (nI (Q.sbs.getD 6))) (ps_T2 t) 4 (nI (Q.edg.getD 100))) (ps_T2 t) 5 (nI (Q.fst.getD 0)) a = I a := fun a ha => by rw [pu_cell ha, pu_cell ha, pu_cell ha, pu_cell ha]
      have c2 : hp_u (hp_u (hp_u (hp_u I (ps_T2 t) 2 (nI (Q.pts.getD 25))) (ps_T2 t) 3 (nI (Q.sbs.getD 6))) (ps_T2 t) 4 (nI (Q.edg.getD 100))) (ps_T2 t) 5 (nI (Q.fst.getD 0)) (ps_T2 t) 2 = nI (Q.pts.getD 25) := by rw [pu_place (by decide), pu_place (by decide), pu_place (by decide), pu_eq]
      have c3 : hp_u (hp_u (hp_u (hp_u I (ps_T2 t) 2 (nI (Q.pts.getD 25))) (ps_T2 t) 3 (nI (Q.sbs.getD 6))) (ps_T2 t) 4 (nI (Q.edg.getD 100))) (ps_T2 t) 5 (nI (Q.fst.getD 0)) (ps_T2 t) 3 = nI (Q.sbs.getD 6) := by rw [pu_place (by decide), pu_place (by decide), pu_eq]
      have c4 : hp_u (hp_u (hp_u (hp_u I (ps_T2 t) 2 (nI (Q.pts.getD 25))) (ps_T2 t) 3 (nI (Q.sbs.getD 6))) (ps_T2 t) 4 (nI (Q.edg.getD 100))) (ps_T2 t) 5 (nI (Q.fst.getD 0)) (ps_T2 t) 4 = nI (Q.edg.getD 100) := by rw [pu_place (by decide), pu_eq]
      have c5 : hp_u (hp_u (hp_u (hp_u I (ps_T2 t) 2 (nI (Q.pts.getD 25))) (ps_T2 t) 3 (nI (Q.sbs.getD 6))) (ps_T2 t) 4 (nI (Q.edg.getD 100))) (ps_T2 t) 5 (nI (Q.fst.getD 0)) (ps_T2 t) 5 = nI (Q.fst.getD 0) := pu_eq
      have c6 : hp_u (hp_u (hp_u (hp_u I (ps_T2 t) 2 (nI (Q.pts.getD 25))) (ps_T2 t) 3 (nI (Q.sbs.getD 6))) (ps_T2 t) 4 (nI (Q.edg.getD 100))) (ps_T2 t) 5 (nI (Q.fst.getD 0)) (ps_T2 t) 6 = nI Q.lns := by rw [pu_place (by decide), pu_place (by decide), pu_place (by decide), pu_place (by decide)]; exact h.Q.lns
      generalize hp_u (hp_u (hp_u (hp_u I (ps_T2 t) 2 (nI (Q.pts.getD 25))) (ps_T2 t) 3 (nI (Q.sbs.getD 6))) (ps_T2 t) 4 (nI (Q.edg.getD 100))) (ps_T2 t) 5 (nI (Q.fst.getD 0)) = H at cell c2 c3 c4 c5 c6 ⊢
      have hs : ∀ s, s < 2 → Q.stt s = true := fun s hs => by
        rcases (show s = 0 ∨ s = 1 by omega) with rfl | rfl
        · exact s0
        · exact s1
      have e1 := cell 1 (by omega)
      refine ⟨1, H, ⟨by rw [e1]; exact h.tz, fun a q1 q2 => by rw [cell a (by omega)]; exact h.fr a q1 q2, rfl, ⟨c2, c3, c4, c5, c6, fun s q => by rw [cell _ (by omega)]; exact h.Q.size s q, fun s q => by rw [cell _ (by omega)]; exact (h.Q.plc s q).trans (by rw [hs s q]; rfl), fun s q => by rw [cell _ (by omega)]; exact h.Q.free s q, fun s q k hk => by rw [cell _ (by omega)]; exact h.Q.nm s q k hk, fun s q i hi k hk => by rw [cell _ (by omega)]; exact h.Q.sk s q i hi k hk, fun s q k hk => by rw [cell _ (by omega)]; exact h.Q.st s q (hs s q) k hk⟩, hw.W s0 s1 (by omega), by rw [e1]; exact h.fk, by rw [e1]; exact h.fp⟩, ?_⟩
      rw [if_pos (show (H, L, px_R t v w).1 1 2 = nI 0 from (congrFun e1 2).trans h.fk)]
theorem cx_readInto (hn : n ≤ 900) (hb : ∀ k, k < n → I 2 k = nI (b k)) (hb2 : ∀ k, b k < 256) : ∃ x J, ps_RO I t n (ps_read b n) x J ∧ fX5_readInto 1 (ps_T2 t) (nI n) (I, L, px_R t v w) = some (x, (J, L, px_R t v w)) := by
  have hT := ps_T2_le t
  unfold fX5_readInto fX8_clear fX7_clear
  simp only [pl_let]
  show ∃ x J, _ ∧ (fx_b1 (fx_b1 (some (hp_u (hp_u (hp_u (hp_u (hp_u (hp_u (hp_u (hp_u I 1 4 (nI n)) 1 1 0) 1 5 0) 1 2 0) 1 3 (-1)) (px_R t v w (ps_T2 t) 0) 5 0) (px_R t v w (ps_T2 t) 0) 6 0) (px_R t v w (ps_T2 t) 0) 7 (-1), L, px_R t v w)) _) _) = _
  rw [pr_T2_0, pb_1]
  show ∃ x J, _ ∧ (fx_b1 (fx_b1 (some (hp_u (hp_u (hp_u (hp_u (hp_u (hp_u (hp_u (hp_u (hp_u (hp_u (hp_u I 1 4 (nI n)) 1 1 0) 1 5 0) 1 2 0) 1 3 (-1)) (ps_T2 t + 1) 5 0) (ps_T2 t + 1) 6 0) (ps_T2 t + 1) 7 (-1)) (px_R t v w (ps_T2 t) 1) 5 0) (px_R t v w (ps_T2 t) 1) 6 0) (px_R t v w (ps_T2 t) 1) 7 (-1), L, px_R t v w)) _) _) = _
  rw [pr_T2_1, pb_1]
  show ∃ x J, _ ∧ (fx_b1 (some (hp_u (hp_u (hp_u (hp_u (hp_u (hp_u (hp_u (hp_u (hp_u (hp_u (hp_u (hp_u (hp_u (hp_u (hp_u (hp_u I 1 4 (nI n)) 1 1 0) 1 5 0) 1 2 0) 1 3 (-1)) (ps_T2 t + 1) 5 0) (ps_T2 t + 1) 6 0) (ps_T2 t + 1) 7 (-1)) (ps_T2 t + 7) 5 0) (ps_T2 t + 7) 6 0) (ps_T2 t + 7) 7 (-1)) (ps_T2 t) 2 (-1)) (ps_T2 t) 3 (-1)) (ps_T2 t) 4 (-1)) (ps_T2 t) 5 (-1)) (ps_T2 t) 6 0, L, px_R t v w)) _) = _
  rw [pb_1]
  obtain ⟨H0, hH0⟩ : ∃ H0, H0 = hp_u (hp_u (hp_u (hp_u (hp_u I 1 4 (nI n)) 1 1 0) 1 5 0) 1 2 0) 1 3 (-1) := ⟨_, rfl⟩
  obtain ⟨H1, hH1⟩ : ∃ H1, H1 = hp_u (hp_u (hp_u H0 (ps_T2 t + 1) 5 0) (ps_T2 t + 1) 6 0) (ps_T2 t + 1) 7 (-1) := ⟨_, rfl⟩
  obtain ⟨H2, hH2⟩ : ∃ H2, H2 = hp_u (hp_u (hp_u H1 (ps_T2 t + 7) 5 0) (ps_T2 t + 7) 6 0) (ps_T2 t + 7) 7 (-1) := ⟨_, rfl⟩
  obtain ⟨H, hH⟩ : ∃ H, H = hp_u (hp_u (hp_u (hp_u (hp_u H2 (ps_T2 t) 2 (-1)) (ps_T2 t) 3 (-1)) (ps_T2 t) 4 (-1)) (ps_T2 t) 5 (-1)) (ps_T2 t) 6 0 := ⟨_, rfl⟩
  rw [← hH0, ← hH1, ← hH2, ← hH]
  have a0 : ∀ a, a ≠ 1 → H0 a = I a := fun a ha => by rw [hH0, pu_cell ha, pu_cell ha, pu_cell ha, pu_cell ha, pu_cell ha]
  have a1 : ∀ a, a ≠ ps_T2 t + 1 → H1 a = H0 a := fun a ha => by rw [hH1, pu_cell ha, pu_cell ha, pu_cell ha]
  have a2 : ∀ a, a ≠ ps_T2 t + 7 → H2 a = H1 a := fun a ha => by rw [hH2, pu_cell ha, pu_cell ha, pu_cell ha]
  have a3 : ∀ a, a ≠ ps_T2 t → H a = H2 a := fun a ha => by rw [hH, pu_cell ha, pu_cell ha, pu_cell ha, pu_cell ha, pu_cell ha]
  have e1 : H 1 = H0 1 := by rw [a3 1 (by omega), a2 1 (by omega), a1 1 (by omega)]
  have i4 : H 1 4 = nI n := by rw [e1, hH0, pu_place (by decide), pu_place (by decide), pu_place (by decide), pu_place (by decide), pu_eq]
  have i1 : H 1 1 = 0 := by rw [e1, hH0, pu_place (by decide), pu_place (by decide), pu_place (by decide), pu_eq]
  have i5 : H 1 5 = nI 0 := by rw [e1, hH0, pu_place (by decide), pu_place (by decide), pu_eq]; rfl
  have i2 : H 1 2 = 0 := by rw [e1, hH0, pu_place (by decide), pu_eq]
  have i3 : H 1 3 = -1 := by rw [e1, hH0, pu_eq]
  have fr : ∀ a, a ≠ 1 → (a < ps_T2 t ∨ ps_T2 t + 12 < a) → H a = I a := fun a q1 q2 => by rw [a3 a (by omega), a2 a (by omega), a1 a (by omega), a0 a q1]
  have hr : ps_rd H b n := ⟨hn, i4, fun k hk => by rw [fr 2 (by omega) (by omega)]; exact hb k hk, hb2⟩
  have sq : ∀ s, s < 2 → H (ps_T2 t + 6 * s + 1) 5 = 0 ∧ H (ps_T2 t + 6 * s + 1) 6 = 0 ∧ H (ps_T2 t + 6 * s + 1) 7 = -1 := fun s hs => by
    rcases (show s = 0 ∨ s = 1 by omega) with rfl | rfl
    · rw [a3 _ (by omega), a2 _ (by omega)]
      refine ⟨?_, ?_, ?_⟩
      · rw [hH1, pu_place (by decide), pu_place (by decide)]; exact pu_eq
      · rw [hH1, pu_place (by decide)]; exact pu_eq
      · rw [hH1]; exact pu_eq
    · rw [a3 _ (by omega)]
      refine ⟨?_, ?_, ?_⟩
      · rw [hH2, pu_place (by decide), pu_place (by decide)]; exact pu_eq
      · rw [hH2, pu_place (by decide)]; exact pu_eq
      · rw [hH2]; exact pu_eq
  have t2 : H (ps_T2 t) 2 = -1 := by rw [hH, pu_place (by decide), pu_place (by decide), pu_place (by decide), pu_place (by decide), pu_eq]
  have t3 : H (ps_T2 t) 3 = -1 := by rw [hH, pu_place (by decide), pu_place (by decide), pu_place (by decide), pu_eq]
  have t4 : H (ps_T2 t) 4 = -1 := by rw [hH, pu_place (by decide), pu_place (by decide), pu_eq]
  have t5 : H (ps_T2 t) 5 = -1 := by rw [hH, pu_place (by decide), pu_eq]
  have t6 : H (ps_T2 t) 6 = 0 := by rw [hH, pu_eq]
  obtain ⟨J, ⟨j1, j2, j3, j4, j5, j6⟩, j7⟩ := cx_advance (L := L) (t := t) (v := v) (w := w) hr (Nat.zero_le n) i5
  rw [j7, pb_1]
  have hJ : ps_OK I (ps_T2 t) b n ps_Q0 (ps_tp b n 0) J := by
    obtain ⟨r1, r2, r3, r4⟩ := hr
    exact ⟨⟨r1, (j5 4 (by decide) (by decide) (by decide) (by decide)).trans r2, fun k hk => by rw [j6 2 (by omega)]; exact r3 k hk, r4⟩, (ps_tp_le (Nat.zero_le n)).2, j1, j2, j3, j4, by rw [j5 2 (by decide) (by decide) (by decide) (by decide)]; exact i2, by rw [j5 3 (by decide) (by decide) (by decide) (by decide)]; exact i3, by rw [j5 1 (by decide) (by decide) (by decide) (by decide)]; exact i1, ⟨by rw [j6 _ (by omega)]; exact t2, by rw [j6 _ (by omega)]; exact t3, by rw [j6 _ (by omega)]; exact t4, by rw [j6 _ (by omega)]; exact t5, by rw [j6 _ (by omega)]; exact t6, fun s hs => by rw [j6 _ (by omega)]; exact (sq s hs).1, fun s hs => by rw [j6 _ (by omega)]; exact (sq s hs).2.1, fun s hs => by rw [j6 _ (by omega)]; exact (sq s hs).2.2, fun s hs k hk => absurd hk (by show ¬ k < 0; omega), fun s hs i hi k hk => absurd hk (by show ¬ k < 0; omega), fun s hs e => by cases e⟩, fun a q1 q2 => by rw [j6 a q1]; exact fr a q1 q2⟩
  obtain ⟨G, g1, g2⟩ := cx_lines (L := L) (v := v) (w := w) hn (n + 1) ps_Q0 (ps_tp b n 0) fx_N J (by omega) (by unfold fx_N; omega) hJ ps_Qw0 (Nat.zero_le _)
  rw [show nI ps_Q0.lns = 0 from rfl] at g2
  rw [g2]
  unfold ps_read
  cases e : ps_Lall b n (n + 1) ps_Q0 (ps_tp b n 0) with
  | error x =>
    rw [e] at g1
    obtain ⟨k1, k2, k3⟩ := g1
    obtain ⟨K, m1, m2⟩ := k1.into78 (L := L) (v := v) (w := w) k2 k3
    exact ⟨0, K, m1, m2⟩
  | ok Q =>
    rw [e] at g1
    obtain ⟨k1, k2, k3⟩ := g1
    exact k1.into hn k2 k3
end PSF55
