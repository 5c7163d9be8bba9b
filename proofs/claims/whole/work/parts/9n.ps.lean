/-! ===== the lines (the reference's side) ===== -/
def ps_MOF (I0 : Nat → Nat → Int32) (b : Nat → Nat) (n : Nat) (r : Except (Nat × Nat) ps_Q) (J : Nat → Nat → Int32) : Prop := match r with | .ok Q => ps_MK I0 b n Q n J | .error e => ps_MF I0 e.1 e.2 J
section PSF63
variable {t v w : Bool} {I I0 : Nat → Nat → Int32} {L : Nat → Nat → Int64} {b : Nat → Nat} {n p f g : Nat} {Q Q' : ps_Q} {A : ps_A}
theorem ps_Qw.setl (h : ps_Qw Q) : ps_Qw Q.setl := ⟨h.l, h.pts, h.sbs, h.edg, h.fst, h.free, h.sk, h.st, h.inj, h.fs⟩
theorem cm_lines (x : Int32) : ∀ (f : Nat) (Q : ps_Q) (p g : Nat) (I : Nat → Nat → Int32), n - p < f → f < g → ps_MK I0 b n Q p I → ps_Qw Q → ∃ J, ps_MOF I0 b n (ps_Lall b n f Q p) J ∧ fX10_text_43 g 290 x (I, L, px_R t v w) = fX10_text_65 290 x (J, L, px_R t v w) := by
  intro f
  induction f with
  | zero => intro Q p g I h1; omega
  | succ f ih =>
    intro Q p g I h1 h2 h hw
    have hp := h.p
    have hms := ps_ms_tk (b := b) (n := n) (p := p)
    have htk := ps_tk_lt (b := b) (n := n) (p := p)
    obtain ⟨g, rfl⟩ : ∃ g', g = g' + 2 := ⟨g - 2, by omega⟩
    rw [fX10_text_43, ps_Lall, show (I, L, px_R t v w).1 290 14 = 0 from h.fk, if_pos (show (0 : Int32) = 0 from rfl), show (I, L, px_R t v w).1 290 11 = nI (ps_ms b n p) from h.tok.2.2.1]
    by_cases c : ps_tk b n p = 0
    · have e := (ps_tk0 hp).mp c
      rw [if_pos c, hms.2.2.1.mpr c, if_pos (show nI 3 = 3 from rfl)]
      refine ⟨I, ?_, rfl⟩
      show ps_MK I0 b n Q n I
      rw [e] at h; exact h
    · have hpn : p < n := by
        have : p ≠ n := fun z => c ((ps_tk0 (b := b) hp).mpr z)
        omega
      have c5 := hms.2.2.2.2.1
      rw [if_neg c, if_neg (show ¬ nI (ps_ms b n p) = 3 from fun q => c (hms.2.2.1.mp ((nI_eq (b := 3) (by omega) (by omega)).mp q)))]
      obtain ⟨J, j1, j2⟩ := cm_line (L := L) (t := t) (v := v) (w := w) h hw
      rw [j2, pb_1]
      cases e : ps_Lend b n (ps_Lkw b n Q p (ps_kwAt b n p)) with
      | error q =>
        rw [e] at j1
        have j1 : ps_MF I0 q.1 q.2 J := j1
        refine ⟨J, j1, ?_⟩
        rw [fX10_text_43, if_neg j1.ne]
      | ok q =>
        rw [e] at j1
        obtain ⟨y, y1, y2, y3⟩ := ps_Lend_w e
        obtain ⟨z1, z2, z3, z4⟩ := ps_Lkw_w hw hp y1
        have y3 := y3 z3
        exact ih q.1.setl q.2 (g + 1) J (by omega) (by omega) j1 (by rw [y2]; exact z1.setl)
/-- what stands when the reading is over -/
theorem cm_text65 (hb : ps_MOF I0 b n (ps_Lall b n (n + 1) ps_Q0 (ps_tp b n 0)) I) : ∃ J, ps_MOF I0 b n (ps_read b n) J ∧ fX10_text_65 290 (nI n) (I, L, px_R t v w) = fX10_text_100 290 (J, L, px_R t v w) := by
  unfold fX10_text_65 ps_read
  cases e : ps_Lall b n (n + 1) ps_Q0 (ps_tp b n 0) with
  | error q =>
    rw [e] at hb
    have hb : ps_MF I0 q.1 q.2 I := hb
    rw [if_neg hb.ne]
    exact ⟨I, hb, rfl⟩
  | ok Q =>
    rw [e] at hb
    have hb : ps_MK I0 b n Q n I := hb
    rw [show (I, L, px_R t v w).1 290 14 = 0 from hb.fk, if_pos (show (0 : Int32) = 0 from rfl), show (I, L, px_R t v w).1 ((I, L, px_R t v w).2.2 290 19) (fx_ix 0) = (if Q.stt 0 then 1 else 0) from hb.Q.stt 0 (by omega), show (I, L, px_R t v w).1 ((I, L, px_R t v w).2.2 290 19) (fx_ix 1) = (if Q.stt 1 then 1 else 0) from hb.Q.stt 1 (by omega)]
    have bad : ∃ J, ps_MOF I0 b n (.error (4, n)) J ∧ fX10_text_90 290 (nI n) (I, L, px_R t v w) = fX10_text_100 290 (J, L, px_R t v w) := by
      unfold fX10_text_90
      rw [pl_let]
      have e10 : hp_u I 290 10 (nI n) = I := by
        funext a k
        by_cases d : a = 290 ∧ k = 10
        · obtain ⟨rfl, rfl⟩ := d; rw [pu_eq, hb.tok.2.1]
        · rw [pu_ne d]
      show ∃ J, _ ∧ fx_b1 (fX10_wrong 290 4 (hp_u I 290 10 (nI n), L, px_R t v w)) _ = _
      rw [e10]
      obtain ⟨H, k1, k2⟩ := hb.wrong (L := L) (t := t) (v := v) (w := w) (k := 4) (by omega) (by omega)
      rw [show (4 : Int32) = nI 4 from rfl, k2, pb_1]
      exact ⟨H, k1, rfl⟩
    show ∃ J, ps_MOF I0 b n (if Q.stt 0 = true ∧ Q.stt 1 = true then Except.ok Q else Except.error (4, n)) J ∧ _
    cases s0 : Q.stt 0 with
    | false =>
      rw [if_neg (fun z => absurd z.1 (by decide)), if_pos (show (if false = true then (1 : Int32) else 0) = 0 by decide)]
      exact bad
    | true =>
      rw [if_neg (show ¬ (if true = true then (1 : Int32) else 0) = 0 by decide)]
      cases s1 : Q.stt 1 with
      | false =>
        rw [if_neg (fun z => absurd z.2 (by decide)), if_pos (show (if false = true then (1 : Int32) else 0) = 0 by decide)]
        exact bad
      | true =>
        rw [if_neg (show ¬ (if true = true then (1 : Int32) else 0) = 0 by decide), if_pos ⟨rfl, rfl⟩]
        exact ⟨I, hb, rfl⟩
theorem cm_begins : ∃ J, fX10_begins 290 (I, L, px_R t v w) = some (J, L, px_R t v w) ∧ ps_MQ J ps_Q0 ∧ ∀ a, a ≠ 293 → a ≠ 296 → a ≠ 297 → J a = I a := by
  have k2 : ∀ m i f I, i + m = 117 → m < f → ∃ J, (∀ a, a ≠ 293 → J a = I a) ∧ (∀ k, k < i → J 293 k = I 293 k) ∧ (∀ k, i ≤ k → k < 117 → J 293 k = 0) ∧ fX10_begins_2 f 290 (nI i) (I, L, px_R t v w) = fX10_begins_2 1 290 (nI 117) (J, L, px_R t v w) := by
    intro m
    induction m with
    | zero =>
      intro i f I h1 h2
      obtain ⟨f, rfl⟩ : ∃ f', f = f' + 1 := ⟨f - 1, by omega⟩
      obtain rfl : i = 117 := by omega
      refine ⟨I, fun a _ => rfl, fun k _ => rfl, fun k q1 q2 => by omega, ?_⟩
      rw [fX10_begins_2, fX10_begins_2, if_pos (show (117 : Int32) ≤ nI 117 by decide), if_pos (show (117 : Int32) ≤ nI 117 by decide)]
    | succ m ih =>
      intro i f I h1 h2
      obtain ⟨f, rfl⟩ : ∃ f', f = f' + 1 := ⟨f - 1, by omega⟩
      obtain ⟨J, j1, j2, j3, j4⟩ := ih (i + 1) f (hp_u I 293 i 0) (by omega) (by omega)
      refine ⟨J, fun a ha => by rw [j1 a ha, pu_cell ha], fun k hk => by rw [j2 k (by omega), pu_place (by omega)], fun k q1 q2 => ?_, ?_⟩
      · by_cases d : k = i
        · rw [j2 k (by omega), d, pu_eq]
        · exact j3 k (by omega) q2
      · rw [fX10_begins_2, if_neg (show ¬ (117 : Int32) ≤ nI i from nI_ge (b := 117) (by omega) (by omega)), pg_pos (pi_in (by omega) (by omega)), pl_let, pl_let, pi_ix (by omega), nI_1]
        exact j4
  have k3 : ∀ m i f I, i + m = 8 → m < f → ∃ J, (∀ a, a ≠ 296 → J a = I a) ∧ (∀ k, k < i → J 296 k = I 296 k) ∧ (∀ k, i ≤ k → k < 8 → J 296 k = 0) ∧ fX10_begins_63 f 290 (nI i) (I, L, px_R t v w) = fX10_begins_63 1 290 (nI 8) (J, L, px_R t v w) := by
    intro m
    induction m with
    | zero =>
      intro i f I h1 h2
      obtain ⟨f, rfl⟩ : ∃ f', f = f' + 1 := ⟨f - 1, by omega⟩
      obtain rfl : i = 8 := by omega
      refine ⟨I, fun a _ => rfl, fun k _ => rfl, fun k q1 q2 => by omega, ?_⟩
      rw [fX10_begins_63, fX10_begins_63, if_pos (show (8 : Int32) ≤ nI 8 by decide), if_pos (show (8 : Int32) ≤ nI 8 by decide)]
    | succ m ih =>
      intro i f I h1 h2
      obtain ⟨f, rfl⟩ : ∃ f', f = f' + 1 := ⟨f - 1, by omega⟩
      obtain ⟨J, j1, j2, j3, j4⟩ := ih (i + 1) f (hp_u I 296 i 0) (by omega) (by omega)
      refine ⟨J, fun a ha => by rw [j1 a ha, pu_cell ha], fun k hk => by rw [j2 k (by omega), pu_place (by omega)], fun k q1 q2 => ?_, ?_⟩
      · by_cases d : k = i
        · rw [j2 k (by omega), d, pu_eq]
        · exact j3 k (by omega) q2
      · rw [fX10_begins_63, if_neg (show ¬ (8 : Int32) ≤ nI i from nI_ge (b := 8) (by omega) (by omega)), pg_pos (pi_in (by omega) (by omega)), pl_let, pl_let, pi_ix (by omega), nI_1]
        exact j4
  obtain ⟨J, j1, -, j3, j4⟩ := k2 117 0 fx_N I (by omega) (by unfold fx_N; omega)
  unfold fX10_begins
  have j4 : fX10_begins_2 fx_N 290 0 (I, L, px_R t v w) = _ := j4
  rw [j4, fX10_begins_2, if_pos (show (117 : Int32) ≤ nI 117 by decide)]
  simp only [pl_let]
  show ∃ J', fX10_begins_63 fx_N 290 (nI 0) (hp_u (hp_u (hp_u (hp_u (hp_u J 293 0 25) 293 1 6) 293 2 100) 293 7 (-1)) 293 8 (-1), L, px_R t v w) = _ ∧ _
  obtain ⟨H, hH⟩ : ∃ H, H = hp_u (hp_u (hp_u (hp_u (hp_u J 293 0 25) 293 1 6) 293 2 100) 293 7 (-1)) 293 8 (-1) := ⟨_, rfl⟩
  rw [← hH]
  have e1 : ∀ a, a ≠ 293 → H a = I a := fun a ha => by rw [hH, pu_cell ha, pu_cell ha, pu_cell ha, pu_cell ha, pu_cell ha, j1 a ha]
  have v0 : H 293 0 = 25 := by rw [hH, pu_place (by decide), pu_place (by decide), pu_place (by decide), pu_place (by decide), pu_eq]
  have v1 : H 293 1 = 6 := by rw [hH, pu_place (by decide), pu_place (by decide), pu_place (by decide), pu_eq]
  have v2 : H 293 2 = 100 := by rw [hH, pu_place (by decide), pu_place (by decide), pu_eq]
  have v7 : H 293 7 = -1 := by rw [hH, pu_place (by decide), pu_eq]
  have v8 : H 293 8 = -1 := by rw [hH, pu_eq]
  have vo : ∀ k, k < 117 → k ≠ 0 → k ≠ 1 → k ≠ 2 → k ≠ 7 → k ≠ 8 → H 293 k = 0 := fun k q q0 q1 q2 q7 q8 => by rw [hH, pu_place q8, pu_place q7, pu_place q2, pu_place q1, pu_place q0]; exact j3 k (by omega) q
  obtain ⟨G, g1, -, g3, g4⟩ := k3 8 0 fx_N H (by omega) (by unfold fx_N; omega)
  rw [g4, fX10_begins_63, if_pos (show (8 : Int32) ≤ nI 8 by decide), pl_let, pl_let]
  refine ⟨hp_u (hp_u G 297 0 0) 297 1 0, rfl, ?_, fun a q1 q2 q3 => by rw [pu_cell q3, pu_cell q3, g1 a q2, e1 a q1]⟩
  have e3 : hp_u (hp_u G 297 0 0) 297 1 0 293 = H 293 := by rw [pu_cell (by decide), pu_cell (by decide), g1 _ (by decide)]
  have e6 : hp_u (hp_u G 297 0 0) 297 1 0 296 = G 296 := by rw [pu_cell (by decide), pu_cell (by decide)]
  refine ⟨by rw [e3]; exact v0, by rw [e3]; exact v1, by rw [e3]; exact v2, by rw [e3]; exact vo 3 (by omega) (by omega) (by omega) (by omega) (by omega) (by omega), by rw [e6]; exact g3 2 (by omega) (by omega), by rw [e6]; exact g3 3 (by omega) (by omega), by rw [e6]; exact g3 4 (by omega) (by omega), by rw [e6]; exact g3 7 (by omega) (by omega), by rw [e3]; exact vo 4 (by omega) (by omega) (by omega) (by omega) (by omega) (by omega), fun s hs => by rw [e3]; exact vo (5 + s) (by omega) (by omega) (by omega) (by omega) (by omega) (by omega), fun s hs => ?_, fun s hs => ?_, fun s hs e => (by cases e), fun s hs i hi k hk => absurd hk (by show ¬ k < 0; omega), fun s hs k hk => absurd hk (by show ¬ k < 0; omega)⟩
  · rw [e3]
    rcases (show s = 0 ∨ s = 1 by omega) with rfl | rfl
    · exact v7
    · exact v8
  · rcases (show s = 0 ∨ s = 1 by omega) with rfl | rfl
    · rw [pu_place (by decide), pu_eq]; rfl
    · rw [pu_eq]; rfl
end PSF63
