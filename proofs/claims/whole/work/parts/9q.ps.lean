/-! ===== a text (the reference's side), whole ===== -/
section PSF66
variable {t v w : Bool} {I I0 : Nat → Nat → Int32} {L : Nat → Nat → Int64} {b : Nat → Nat} {n p f g : Nat} {Q Q' : ps_Q} {A : ps_A}
theorem ps_Lall_w : ∀ (f : Nat) (Q : ps_Q) (p : Nat), ps_Qw Q → p ≤ n → Q.lns ≤ p → ps_Lall b n f Q p = .ok Q' → ps_Qw Q' ∧ Q'.lns ≤ n := by
  intro f
  induction f with
  | zero =>
    intro Q p hw hp hl h
    rw [ps_Lall] at h
    injection h with h; subst h
    exact ⟨hw, by omega⟩
  | succ f ih =>
    intro Q p hw hp hl h
    rw [ps_Lall] at h
    by_cases c : ps_tk b n p = 0
    · rw [if_pos c] at h
      injection h with h; subst h
      exact ⟨hw, by omega⟩
    · rw [if_neg c] at h
      cases e : ps_Lend b n (ps_Lkw b n Q p (ps_kwAt b n p)) with
      | error q => rw [e] at h; cases h
      | ok q =>
        rw [e] at h
        obtain ⟨y, y1, y2, y3⟩ := ps_Lend_w e
        obtain ⟨z1, z2, z3, z4⟩ := ps_Lkw_w hw hp y1
        have y3 := y3 z3
        exact ih q.1.setl q.2 (by rw [y2]; exact z1.setl) (by omega) (by show q.1.lns + 1 ≤ q.2; rw [y2, z4]; omega) h
theorem ps_read_w (hn : n ≤ 900) (h : ps_read b n = .ok Q) : ps_wfW Q.W ∧ ∀ s, s < 2 → Q.stt s = true := by
  unfold ps_read at h
  cases e : ps_Lall b n (n + 1) ps_Q0 (ps_tp b n 0) with
  | error q => rw [e] at h; cases h
  | ok q =>
    rw [e] at h
    obtain ⟨z1, z2⟩ := ps_Lall_w (n + 1) ps_Q0 (ps_tp b n 0) ps_Qw0 (ps_tp_le (Nat.zero_le n)).2 (Nat.zero_le _) e
    have h : (if q.stt 0 = true ∧ q.stt 1 = true then Except.ok q else Except.error (4, n)) = Except.ok Q := h
    by_cases c : q.stt 0 = true ∧ q.stt 1 = true
    · rw [if_pos c] at h
      injection h with h; subst h
      refine ⟨z1.W c.1 c.2 (by omega), fun s hs => ?_⟩
      rcases (show s = 0 ∨ s = 1 by omega) with rfl | rfl
      · exact c.1
      · exact c.2
    · rw [if_neg c] at h; cases h
theorem cm_text (h0 : ps_wf A) (hM : ps_MX A I) (hn : n ≤ A.tz) : ∃ J, ps_MX (ps_text A n).2 J ∧ (∀ a, a < 290 → J a = I a) ∧ fX10_text 290 (nI n) (I, L, px_R t v w) = some ((ps_text A n).1, (J, L, px_R t v w)) := by
  have htz := h0.tz
  unfold fX10_text
  have hM := hM.flag (z := 0)
  have hI : ∀ a, a < 290 → hp_u I 290 0 0 a = I a := fun a ha => pu_cell (by omega)
  rw [pl_let]
  show ∃ J, _ ∧ _ ∧ (if nI n < 0 then _ else (if nI n ≤ hp_u I 290 0 0 290 2 then fx_b1 (fX10_begins 290 (hp_u I 290 0 0, L, px_R t v w)) _ else _)) = _
  generalize hp_u I 290 0 0 = K at hM hI ⊢
  rw [if_neg (show ¬ nI n < 0 from nI_nlt (b := 0) (by omega) (by omega)), hM.tz, if_pos (nI_le hn (by omega))]
  obtain ⟨J, j1, j2, j3⟩ := cm_begins (I := K) (L := L) (t := t) (v := v) (w := w)
  rw [j1, pb_1, pl_let, pl_let, pl_let]
  show ∃ J', _ ∧ _ ∧ fx_b1 (fX10_token 290 (hp_u (hp_u (hp_u J 290 8 (nI n)) 290 9 0) 290 14 0, L, px_R t v w)) _ = _
  have c : ∀ a, a ≠ 290 → hp_u (hp_u (hp_u J 290 8 (nI n)) 290 9 0) 290 14 0 a = J a := fun a ha => by rw [pu_cell ha, pu_cell ha, pu_cell ha]
  have k0 : ∀ k, k ≠ 8 → k ≠ 9 → k ≠ 14 → hp_u (hp_u (hp_u J 290 8 (nI n)) 290 9 0) 290 14 0 290 k = K 290 k := fun k q1 q2 q3 => by rw [pu_place q3, pu_place q2, pu_place q1, j3 _ (by decide) (by decide) (by decide)]
  have v8 : hp_u (hp_u (hp_u J 290 8 (nI n)) 290 9 0) 290 14 0 290 8 = nI n := by rw [pu_place (by decide), pu_place (by decide), pu_eq]
  have v9 : hp_u (hp_u (hp_u J 290 8 (nI n)) 290 9 0) 290 14 0 290 9 = nI 0 := by rw [pu_place (by decide), pu_eq]; rfl
  have v14 : hp_u (hp_u (hp_u J 290 8 (nI n)) 290 9 0) 290 14 0 290 14 = 0 := pu_eq
  generalize hp_u (hp_u (hp_u J 290 8 (nI n)) 290 9 0) 290 14 0 = H at c k0 v8 v9 v14 ⊢
  have hr : ps_mrd H A.tb n := ⟨by omega, v8, fun k hk => by rw [c 291 (by decide), j3 291 (by decide) (by decide) (by decide)]; exact hM.tb k (by omega), h0.tb⟩
  obtain ⟨G, ⟨g1, g2, g3⟩, g4⟩ := cm_token (L := L) (t := t) (v := v) (w := w) hr (Nat.zero_le n) v9
  rw [g4, pb_1]
  have hK : ps_MK K A.tb n ps_Q0 (ps_tp A.tb n 0) G := by
    obtain ⟨r1, r2, r3, r4⟩ := hr
    refine ⟨⟨r1, (g2 8 (by omega)).trans r2, fun k hk => by rw [g3 291 (by omega)]; exact r3 k hk, r4⟩, (ps_tp_le (Nat.zero_le n)).2, g1, (g2 14 (by omega)).trans v14, (j2.near c).near g3, fun a q1 q2 q3 q4 q5 => by rw [g3 a q1, c a q1, j3 a q2 q4 q5], fun k hk => by rw [g2 k (by omega), k0 k (by omega) (by omega) (by omega)]⟩
  obtain ⟨M, m1, m2⟩ := cm_lines (L := L) (t := t) (v := v) (w := w) (nI n) (n + 1) ps_Q0 (ps_tp A.tb n 0) fx_N G (by omega) (by unfold fx_N; omega) hK ps_Qw0
  obtain ⟨N, n1, n2⟩ := cm_text65 (L := L) (t := t) (v := v) (w := w) m1
  rw [m2, n2]
  unfold ps_text
  cases e : ps_read A.tb n with
  | error q =>
    rw [e] at n1
    obtain ⟨P, p1, p2, p3⟩ := cm_text100F (L := L) (t := t) (v := v) (w := w) hM n1
    exact ⟨P, p2, fun a ha => by rw [p3 a ha, hI a ha], p1⟩
  | ok Q =>
    rw [e] at n1
    obtain ⟨w1, w2⟩ := ps_read_w (by omega) e
    obtain ⟨P, p1, p2, p3⟩ := cm_text100K (L := L) (t := t) (v := v) (w := w) (A := A) w1 w2 n1
    exact ⟨P, p2, fun a ha => by rw [p3 a ha, hI a ha], p1⟩
theorem cm_text0 (h0 : ps_wf A) (hM : ps_MX A I) {x : Int32} (hx : ∀ n, x = nI n → n ≤ A.tz → False) : fX10_text 290 x (I, L, px_R t v w) = some (-2, (hp_u I 290 0 0, L, px_R t v w)) := by
  have htz := h0.tz
  unfold fX10_text
  have hM := hM.flag (z := 0)
  rw [pl_let]
  show (if x < 0 then some (-2, (hp_u I 290 0 0, L, px_R t v w)) else (if x ≤ hp_u I 290 0 0 290 2 then _ else some (-2, (hp_u I 290 0 0, L, px_R t v w)))) = _
  by_cases c : x < 0
  · rw [if_pos c]
  · rw [if_neg c, hM.tz, if_neg (fun z => ?_)]
    have h1 : 0 ≤ x.toInt := by
      rw [Int32.lt_iff_toInt_lt] at c
      have : (0 : Int32).toInt = 0 := rfl
      omega
    have h2 := Int32.le_iff_toInt_le.mp z
    rw [nI_toInt (by omega)] at h2
    refine hx x.toInt.toNat ?_ (by omega)
    apply Int32.toInt_inj.mp
    rw [nI_toInt (by omega)]; omega
theorem ps_wf_C0 {W : ps_W} (h : ps_wfW W) : ps_wfC W (ps_C0 W) := by
  refine ⟨h.st, h.stf, h.inj, fun s hs => Or.inl rfl, fun s hs => Nat.zero_le _, fun s hs => h.sbs, fun s hs => by show 0 < 6; omega, fun s hs => Nat.zero_le _, Or.inl (by have := h.p3; show 0 < W.pts; omega), h.fst, rfl, fun s hs k hk => (ps_z01 k hk).2.2.1, fun s hs k hk => (ps_z01 k hk).2.2.2, fun s hs p q e => (by cases e), fun s hs p q e => (by cases e), fun s hs p q e => (by cases e), fun s hs p hp e => rfl⟩
theorem ps_wf_text (h0 : ps_wf A) (hn : n ≤ A.tz) (he : ∀ e, ps_read A.tb n = .error e → e.1 < 5) : ps_wf (ps_text A n).2 := by
  have htz := h0.tz
  unfold ps_text
  cases e : ps_read A.tb n with
  | error q =>
    have := he q e
    exact ⟨by show 0 ≤ 900; omega, h0.tb, by show q.1 ≤ 4; omega, h0.u, h0.off, h0.W, h0.C, h0.P, h0.mono, h0.had, h0.svd, h0.svr⟩
  | ok Q =>
    obtain ⟨w1, w2⟩ := ps_read_w (by omega) e
    exact ⟨by show 0 ≤ 900; omega, h0.tb, by show 0 ≤ 4; omega, by show 0 ≤ 20; omega, fun q => (by cases q), fun _ => w1, fun _ => ps_wf_C0 w1, fun _ i hi => absurd hi (by show ¬ i < 0; omega), fun _ i j q1 q2 => absurd q2 (by show ¬ j < 0; omega), fun _ k hk => absurd hk (by show ¬ k < 0; omega), fun _ k hk => absurd hk (by show ¬ k < 0; omega), fun _ k hk => absurd hk (by show ¬ k < 0; omega)⟩
end PSF66
