/-! ===== a start, a line (the reference's side) ===== -/
section PSF62
variable {t v w : Bool} {I I0 : Nat → Nat → Int32} {L : Nat → Nat → Int64} {b : Nat → Nat} {n p f g : Nat} {Q Q' : ps_Q}
theorem ps_MK.goOn2 (h : ps_MK I0 b n Q p I) : ∃ J, ps_MK I0 b n Q (ps_nx b n p) J ∧ (∀ a, a ≠ 290 → J a = I a) ∧ fX10_goOn 290 (I, L, px_R t v w) = some (J, L, px_R t v w) := by
  have hq := ps_tq_le (b := b) h.p
  obtain ⟨J, ⟨j1, j2, j3⟩, j4⟩ := cm_token (L := L) (t := t) (v := v) (w := w) h.rd hq.2.1 h.tok.1
  obtain ⟨r1, r2, r3, r4⟩ := h.rd
  refine ⟨J, ⟨⟨r1, (j2 8 (by omega)).trans r2, fun k hk => by rw [j3 291 (by omega)]; exact r3 k hk, r4⟩, ps_nx_le h.p, j1, (j2 14 (by omega)).trans h.fk, h.Q.near j3, fun a q1 q2 q3 q4 q5 => by rw [j3 a q1]; exact h.fr a q1 q2 q3 q4 q5, fun k hk => by rw [j2 k (by omega)]; exact h.fl k hk⟩, j3, ?_⟩
  unfold fX10_goOn
  rw [show (I, L, px_R t v w).1 290 14 = 0 from h.fk, if_pos rfl, j4, pb_1]
theorem cm_start107 {s q M : Nat} (hs : s < 2) (hM : M < 6) (hst : ∀ k, k < M → I 293 (9 + 6 * s + k) = nI (Q.start s k)) (k36 : Nat → Int32 → Int32 → hp_T → Option hp_T) : ∀ (m i f : Nat) (B : Bool), i + m = M → m < f → fX10_readStart_107 k36 f 290 (nI s) (nI M) (nI q) (if B then 1 else 0) (nI i) (I, L, px_R t v w) = fX10_readStart_107 k36 1 290 (nI s) (nI M) (nI q) (if (B || decide (ps_at (fun k => nI (Q.start s k)) (nI q) m i ≠ 0)) then 1 else 0) (nI M) (I, L, px_R t v w) := by
  intro m
  induction m with
  | zero =>
    intro i f B h1 h2
    obtain ⟨f, rfl⟩ : ∃ f', f = f' + 1 := ⟨f - 1, by omega⟩
    obtain rfl : i = M := by omega
    rw [show decide (ps_at (fun k => nI (Q.start s k)) (nI q) 0 i ≠ 0) = false by rfl, Bool.or_false, fX10_readStart_107, fX10_readStart_107, if_pos (nI_le (Nat.le_refl _) (by omega)), if_pos (nI_le (Nat.le_refl _) (by omega))]
  | succ m ih =>
    intro i f B h1 h2
    obtain ⟨f, rfl⟩ : ∃ f', f = f' + 1 := ⟨f - 1, by omega⟩
    rw [fX10_readStart_107, if_neg (show ¬ nI M ≤ nI i from nI_ge (by omega) (by omega))]
    unfold fX10_readStart_137 fX10_readStart_142
    rw [pl_let, pl_let, nI_1]
    have ht := ih (i + 1) f true (by omega) (by omega)
    have hf := ih (i + 1) f false (by omega) (by omega)
    rw [Bool.true_or] at ht
    rw [Bool.false_or] at hf
    have ht : fX10_readStart_107 k36 f 290 (nI s) (nI M) (nI q) 1 (nI (i + 1)) (I, L, px_R t v w) = _ := ht
    have hf : fX10_readStart_107 k36 f 290 (nI s) (nI M) (nI q) 0 (nI (i + 1)) (I, L, px_R t v w) = _ := hf
    rw [ht, hf]
    cases B with
    | true => rw [if_neg (show ¬ (if true = true then (1 : Int32) else 0) = 0 by decide), Bool.true_or]
    | false =>
      rw [if_pos (show (if false = true then (1 : Int32) else 0) = 0 by decide), Bool.false_or, show (9 : Int32) = nI 9 from rfl, show (6 : Int32) = nI 6 from rfl, pk_mul, nI_add, nI_add, pg_pos (pi_in (by omega) (by omega)), pi_ix (by omega), show (I, L, px_R t v w).1 ((I, L, px_R t v w).2.2 290 4) (9 + 6 * s + i) = nI (Q.start s i) from hst i (by omega), ps_at]
      by_cases c : nI (Q.start s i) = nI q
      · rw [if_pos c, if_pos c, show decide (i + 1 ≠ 0) = true by simp]
      · rw [if_neg c, if_neg c]
theorem ps_MK.puts (h : ps_MK I0 b n Q p I) {s m : Nat} (hs : s < 2) (hm : m < 6) (hn : Q.stt s = false) (q : Nat) : ps_MK I0 b n (Q.puts s m q) p (hp_u I 293 (9 + 6 * s + m) (nI q)) := by
  refine h.upd (Or.inl rfl) ?_
  have e3 : ∀ k, k ≠ 9 + 6 * s + m → hp_u I 293 (9 + 6 * s + m) (nI q) 293 k = I 293 k := fun k hk => pu_place hk
  have e : ∀ a, a ≠ 293 → hp_u I 293 (9 + 6 * s + m) (nI q) a = I a := fun a ha => pu_cell ha
  obtain ⟨q1, q2, q3, q4, q5, q6, q7, q8, q9, q10, q11, q12, q13, q14, q15⟩ := h.Q
  refine ⟨by rw [e3 _ (by omega)]; exact q1, by rw [e3 _ (by omega)]; exact q2, by rw [e3 _ (by omega)]; exact q3, by rw [e3 _ (by omega)]; exact q4, by rw [e _ (by omega)]; exact q5, by rw [e _ (by omega)]; exact q6, by rw [e _ (by omega)]; exact q7, by rw [e _ (by omega)]; exact q8, by rw [e3 _ (by omega)]; exact q9, fun s' hs' => by rw [e3 _ (by omega)]; exact q10 s' hs', fun s' hs' => by rw [e3 _ (by omega)]; exact q11 s' hs', fun s' hs' => by rw [e _ (by omega)]; exact q12 s' hs', fun s' hs' e' k hk => ?_, fun s' hs' i hi k hk => by rw [e3 _ (by omega)]; exact q14 s' hs' i hi k hk, fun s' hs' k hk => by rw [e _ (by omega)]; exact q15 s' hs' k hk⟩
  have hne : s' ≠ s := fun c => by rw [c] at e'; exact absurd (hn.symm.trans e') (by decide)
  show _ = nI (if s' = s ∧ k = m then q else Q.start s' k)
  rw [if_neg (fun z => hne z.1), e3 _ (by omega)]; exact q13 s' hs' e' k hk
theorem ps_MK.sett (h : ps_MK I0 b n Q p I) {s : Nat} (hs : s < 2) (hst : ∀ k, k < 6 → I 293 (9 + 6 * s + k) = nI (Q.start s k)) : ps_MK I0 b n (Q.sett s) p (hp_u I 297 s 1) := by
  refine h.upd (by omega) ?_
  have e : ∀ a, a ≠ 297 → hp_u I 297 s 1 a = I a := fun a ha => pu_cell ha
  obtain ⟨q1, q2, q3, q4, q5, q6, q7, q8, q9, q10, q11, q12, q13, q14, q15⟩ := h.Q
  refine ⟨by rw [e _ (by omega)]; exact q1, by rw [e _ (by omega)]; exact q2, by rw [e _ (by omega)]; exact q3, by rw [e _ (by omega)]; exact q4, by rw [e _ (by omega)]; exact q5, by rw [e _ (by omega)]; exact q6, by rw [e _ (by omega)]; exact q7, by rw [e _ (by omega)]; exact q8, by rw [e _ (by omega)]; exact q9, fun s' hs' => by rw [e _ (by omega)]; exact q10 s' hs', fun s' hs' => by rw [e _ (by omega)]; exact q11 s' hs', fun s' hs' => ?_, fun s' hs' e' k hk => ?_, fun s' hs' i hi k hk => by rw [e _ (by omega)]; exact q14 s' hs' i hi k hk, fun s' hs' k hk => by rw [e _ (by omega)]; exact q15 s' hs' k hk⟩
  · show _ = if (if s' = s then true else Q.stt s') = true then 1 else 0
    by_cases c : s' = s
    · rw [if_pos c, c]; exact pu_eq
    · rw [if_neg c, pu_place c]; exact q12 s' hs'
  · rw [e _ (by omega)]
    by_cases c : s' = s
    · rw [c]; exact hst k hk
    · have e' : (if s' = s then true else Q.stt s') = true := e'
      rw [if_neg c] at e'
      exact q13 s' hs' e' k hk
theorem ps_MF.start36 (h : ps_MF I0 f g I) {s : Nat} (hs : s < 2) (m : Nat) (i : Int32) : ∃ J, ps_MF I0 f g J ∧ fX10_readStart_36 (m + 1) 290 (nI s) i (I, L, px_R t v w) = some (J, L, px_R t v w) := by
  rw [fX10_readStart_36]
  by_cases c : (6 : Int32) ≤ i
  · rw [if_pos c, pg_pos (pi_in hs (by omega)), pl_let, pi_ix (by omega)]
    exact ⟨_, h.upd (a := 297) (k := s) (x := 1) (by omega), rfl⟩
  · rw [if_neg c, if_neg h.ne]
    unfold fX10_readStart_70
    rw [if_neg h.ne]
    exact ⟨I, h, rfl⟩
theorem cm_start36 {s : Nat} (hs : s < 2) : ∀ (r m f : Nat) (Q : ps_Q) (p : Nat) (I : Nat → Nat → Int32), m + r = 6 → r + 1 < f → ps_Ql Q → (∀ q, Q.free s = some q → q < 2 ^ 31) → Q.stt s = false → ps_MK I0 b n Q (ps_nx b n p) I → (∀ k, k < m → I 293 (9 + 6 * s + k) = nI (Q.start s k)) → ∃ J, ps_MO I0 b n (ps_Lplace b n s r m Q p) J ∧ fX10_readStart_36 f 290 (nI s) (nI m) (I, L, px_R t v w) = some (J, L, px_R t v w) := by
  intro r
  induction r with
  | zero =>
    intro m f Q p I hm hf hl _ hn h hst
    obtain ⟨f, rfl⟩ : ∃ f', f = f' + 1 := ⟨f - 1, by omega⟩
    obtain rfl : m = 6 := by omega
    rw [fX10_readStart_36, if_pos (show (6 : Int32) ≤ nI 6 by decide), pg_pos (pi_in hs (by omega)), pl_let, pi_ix (by omega), ps_Lplace]
    exact ⟨_, h.sett hs hst, rfl⟩
  | succ r ih =>
    intro m f Q p I hm hf hl hfr hn h hst
    obtain ⟨f, rfl⟩ : ∃ f', f = f' + 2 := ⟨f - 2, by omega⟩
    have hz := hl s hs
    rw [fX10_readStart_36, if_neg (show ¬ (6 : Int32) ≤ nI m from nI_ge (b := 6) (by omega) (by omega)), show (I, L, px_R t v w).1 290 14 = 0 from h.fk, if_pos (show (0 : Int32) = 0 from rfl), h.isOther, pb_2, ps_Lplace]
    have bad : ∃ J, ps_MO I0 b n (.error (1, ps_nx b n p)) J ∧ fX10_readStart_65 (fX10_readStart_36 (f + 1)) 290 (nI s) (nI m) (I, L, px_R t v w) = some (J, L, px_R t v w) := by
      unfold fX10_readStart_65 fX10_readStart_70
      obtain ⟨H, k1, k2⟩ := h.wrong (L := L) (t := t) (v := v) (w := w) (k := 1) (by omega) (by omega)
      rw [show (1 : Int32) = nI 1 from rfl, k2, pb_1, if_neg k1.ne]
      exact ⟨H, k1, rfl⟩
    by_cases c1 : ps_tk b n (ps_nx b n p) = 1
    · rw [if_neg (show ¬ ps_tk b n (ps_nx b n p) ≠ 1 from fun q => q c1), if_pos c1, if_neg (show ¬ (1 : Int32) = 0 by decide), h.named hl c1 hs, pb_2]
      cases e : ps_fd Q s (nI (ps_tw b n (ps_nx b n p))) with
      | none =>
        rw [if_pos (show ps_e1 none = -1 from rfl)]
        exact bad
      | some q =>
        have hq := ps_fd_lt e
        rw [if_neg (show ¬ ps_e1 (some q) = -1 from nI_ne_m1 (by omega))]
        unfold fX10_readStart_70 fX10_readStart_102
        rw [show (I, L, px_R t v w).1 290 14 = 0 from h.fk, if_pos (show (0 : Int32) = 0 from rfl), h.named hl c1 hs, pb_2, e, show ps_e1 (some q) = nI q from rfl, show (7 : Int32) = nI 7 from rfl, nI_add, pg_pos (pi_in (by omega) (by omega)), pi_ix (by omega), show (I, L, px_R t v w).1 ((I, L, px_R t v w).2.2 290 4) (7 + s) = ps_e1 (Q.free s) from h.Q.free s hs]
        have lt := cm_start107 (I := I) (Q := Q) (L := L) (t := t) (v := v) (w := w) (q := q) hs (M := m) (by omega) hst (fX10_readStart_36 (f + 1)) m 0 fx_N true (by omega) (by unfold fx_N; omega)
        have lf := cm_start107 (I := I) (Q := Q) (L := L) (t := t) (v := v) (w := w) (q := q) hs (M := m) (by omega) hst (fX10_readStart_36 (f + 1)) m 0 fx_N false (by omega) (by unfold fx_N; omega)
        rw [Bool.true_or] at lt
        rw [Bool.false_or] at lf
        have lt : fX10_readStart_107 (fX10_readStart_36 (f + 1)) fx_N 290 (nI s) (nI m) (nI q) 1 0 (I, L, px_R t v w) = _ := lt
        have lf : fX10_readStart_107 (fX10_readStart_36 (f + 1)) fx_N 290 (nI s) (nI m) (nI q) 0 0 (I, L, px_R t v w) = _ := lf
        rw [lt, lf, fX10_readStart_107, fX10_readStart_107, if_pos (nI_le (Nat.le_refl m) (by omega)), if_pos (nI_le (Nat.le_refl m) (by omega))]
        have bad3 : ∃ J, ps_MO I0 b n (.error (3, ps_nx b n p)) J ∧ (fx_b1 (fX10_wrong 290 3 (I, L, px_R t v w)) fun h157 => fX10_readStart_160 (fX10_readStart_36 (f + 1)) 290 (nI s) (nI m) (nI q) h157) = some (J, L, px_R t v w) := by
          obtain ⟨H, k1, k2⟩ := h.wrong (L := L) (t := t) (v := v) (w := w) (k := 3) (by omega) (by omega)
          rw [show (3 : Int32) = nI 3 from rfl, k2, pb_1]
          unfold fX10_readStart_160
          have k3 : ps_MF I0 3 (ps_nx b n p) (hp_u H 293 (9 + 6 * s + m) (nI q)) := k1.upd (by omega)
          obtain ⟨G, g1, g2⟩ := k3.start36 (L := L) (t := t) (v := v) (w := w) hs f (nI m + 1)
          rw [show (9 : Int32) = nI 9 from rfl, show (6 : Int32) = nI 6 from rfl, pk_mul, nI_add, nI_add, pg_pos (pi_in (by omega) (by omega)), pi_ix (by omega), pl_let]
          refine ⟨G, g1, ?_⟩
          show fx_b1 (fX10_goOn 290 (hp_u H 293 (9 + 6 * s + m) (nI q), L, px_R t v w)) _ = _
          rw [k3.goOn, pb_1, pl_let, g2]
        show ∃ J, ps_MO I0 b n (if Q.free s = some q ∨ ps_inB Q s q m = true then Except.error (3, ps_nx b n p) else ps_Lplace b n s r (m + 1) (Q.puts s m q) (ps_nx b n p)) J ∧ (if nI q = ps_e1 (Q.free s) then (if (if true = true then (1 : Int32) else 0) = 0 then _ else _) else (if (if ps_inB Q s q m = true then (1 : Int32) else 0) = 0 then _ else _)) = _
        by_cases c2 : Q.free s = some q
        · rw [if_pos (Or.inl c2), if_pos ((ps_e1_eq (by omega) hfr).mpr c2), if_neg (by decide)]
          exact bad3
        · rw [if_neg (show ¬ nI q = ps_e1 (Q.free s) from fun z => c2 ((ps_e1_eq (by omega) hfr).mp z))]
          by_cases c3 : ps_inB Q s q m = true
          · rw [if_pos (Or.inr c3), if_pos c3, if_neg (by decide)]
            exact bad3
          · rw [if_neg (show ¬ (Q.free s = some q ∨ ps_inB Q s q m = true) from fun z => z.elim c2 c3), if_neg c3, if_pos rfl]
            unfold fX10_readStart_160
            rw [show (9 : Int32) = nI 9 from rfl, show (6 : Int32) = nI 6 from rfl, pk_mul, nI_add, nI_add, pg_pos (pi_in (by omega) (by omega)), pi_ix (by omega), pl_let]
            have k3 := h.puts hs (by omega) hn (m := m) q
            obtain ⟨G, g1, g3, g2⟩ := k3.goOn2 (L := L) (t := t) (v := v) (w := w)
            show ∃ J, _ ∧ fx_b1 (fX10_goOn 290 (hp_u I 293 (9 + 6 * s + m) (nI q), L, px_R t v w)) _ = _
            rw [g2, pb_1, pl_let, nI_1]
            refine ih (m + 1) (f + 1) (Q.puts s m q) (ps_nx b n p) G (by omega) (by omega) hl hfr hn g1 (fun k hk => ?_)
            rw [g3 293 (by omega)]
            show _ = nI (if s = s ∧ k = m then q else Q.start s k)
            by_cases d : k = m
            · rw [if_pos ⟨rfl, d⟩, d, pu_eq]
            · rw [if_neg (fun z => d z.2), pu_place (by omega)]; exact hst k (by omega)
    · rw [if_pos c1, if_neg c1, if_pos (show (0 : Int32) = 0 from rfl)]
      exact bad
theorem ps_MF.start30 (h : ps_MF I0 f g I) {s : Nat} (hs : s < 2) : ∃ J, ps_MF I0 f g J ∧ fX10_readStart_30 290 (nI s) (I, L, px_R t v w) = some (J, L, px_R t v w) := by
  unfold fX10_readStart_30 fx_N
  rw [h.goOn, pb_1]
  exact h.start36 hs 99999 0
theorem cm_lstart (h : ps_MK I0 b n Q p I) (hw : ps_Qw Q) : ∃ J, ps_MO I0 b n (ps_Lstart b n Q p) J ∧ fX10_readStart 290 (I, L, px_R t v w) = some (J, L, px_R t v w) := by
  have hl := hw.l
  unfold fX10_readStart ps_Lstart
  obtain ⟨J, j1, j2⟩ := h.goOn (L := L) (t := t) (v := v) (w := w)
  rw [j2, pb_1]
  rcases j1.side (L := L) (t := t) (v := v) (w := w) with ⟨s, e, hs, k2⟩ | ⟨e, H, k1, k2⟩
  · rw [e, k2, pb_2, show (J, L, px_R t v w).1 290 14 = 0 from j1.fk, if_pos (show (0 : Int32) = 0 from rfl), pg_pos (pi_in hs (by omega)), pi_ix (by omega), show (J, L, px_R t v w).1 ((J, L, px_R t v w).2.2 290 19) s = (if Q.stt s then 1 else 0) from j1.Q.stt s hs]
    show ∃ J', ps_MO I0 b n (if Q.stt s = true then Except.error (3, ps_nx b n p) else ps_Lplace b n s 6 0 Q (ps_nx b n p)) J' ∧ _
    cases c : Q.stt s with
    | true =>
      rw [if_pos rfl, if_pos rfl, if_neg (by decide)]
      obtain ⟨H, k1, k2⟩ := j1.wrong (L := L) (t := t) (v := v) (w := w) (k := 3) (by omega) (by omega)
      obtain ⟨G, g1, g2⟩ := k1.start30 (L := L) (t := t) (v := v) (w := w) hs
      rw [show (3 : Int32) = nI 3 from rfl, k2, pb_1, g2]
      exact ⟨G, g1, rfl⟩
    | false =>
      rw [if_neg (show ¬ false = true by decide), if_pos (show (if false = true then (1 : Int32) else 0) = 0 by decide)]
      unfold fX10_readStart_30
      obtain ⟨G, g1, g2⟩ := j1.goOn (L := L) (t := t) (v := v) (w := w)
      rw [g2, pb_1]
      exact cm_start36 hs 6 0 fx_N Q (ps_nx b n p) G (by omega) (by unfold fx_N; omega) hl (hw.free_lt hs) c g1 (fun k hk => absurd hk (by omega))
  · rw [e, k2, pb_2, if_neg k1.ne]
    obtain ⟨G, g1, g2⟩ := k1.start30 (L := L) (t := t) (v := v) (w := w) (s := 0) (by omega)
    have g2 : fX10_readStart_30 290 0 (H, L, px_R t v w) = _ := g2
    rw [g2]
    exact ⟨G, g1, rfl⟩
theorem cm_bind {f : Option hp_T} {r : Except (Nat × Nat) (ps_Q × Nat)} (h : ∃ J, ps_MO I0 b n r J ∧ f = some (J, L, px_R t v w)) : ∃ J, ps_ME I0 b n (ps_Lend b n r) J ∧ (fx_b1 f fun h => fX10_readLine_162 290 h) = some (J, L, px_R t v w) := by
  obtain ⟨J, j1, rfl⟩ := h
  rw [pb_1]
  exact cm_line162 j1
theorem cm_bind2 {f : Option hp_T} {r : Except (Nat × Nat) (ps_Q × Nat)} (h : ∃ J, ps_MO I0 b n r J ∧ f = fX10_readLine_162 290 (J, L, px_R t v w)) : ∃ J, ps_ME I0 b n (ps_Lend b n r) J ∧ f = some (J, L, px_R t v w) := by
  obtain ⟨J, j1, rfl⟩ := h
  exact cm_line162 j1
theorem cm_line (h : ps_MK I0 b n Q p I) (hw : ps_Qw Q) : ∃ J, ps_ME I0 b n (ps_Lend b n (ps_Lkw b n Q p (ps_kwAt b n p))) J ∧ fX10_readLine 290 (I, L, px_R t v w) = some (J, L, px_R t v w) := by
  have hl := hw.l
  have hms := ps_ms_tk (b := b) (n := n) (p := p)
  obtain ⟨t1, t2, t3, t4, t5⟩ := h.tok
  have bad : ∃ J, ps_ME I0 b n (ps_Lend b n (.error (1, p))) J ∧ (fx_b1 (fX10_wrong 290 1 (I, L, px_R t v w)) fun h159 => fX10_readLine_162 290 h159) = some (J, L, px_R t v w) := by
    obtain ⟨H, k1, k2⟩ := h.wrong (L := L) (t := t) (v := v) (w := w) (k := 1) (by omega) (by omega)
    exact cm_bind ⟨H, k1, k2⟩
  unfold fX10_readLine ps_kwAt
  rw [show (I, L, px_R t v w).1 290 11 = nI (ps_ms b n p) from t3]
  by_cases c : ps_ms b n p = 0
  · rw [if_pos (show nI (ps_ms b n p) = 0 by rw [c]; rfl), show (I, L, px_R t v w).1 290 12 = ps_kwI (ps_kw (ps_tw b n p)) from (t4 c).1]
    have hk := hms.2.2.2.2.2 c
    have e2 : (if ps_tk b n p = 2 then ps_kw (ps_tw b n p) else none) = ps_kw (ps_tw b n p) := by
      by_cases d : ps_tk b n p = 2
      · rw [if_pos d]
      · rw [if_neg d]
        rcases hms.2.2.2.1.mp c with z | z
        · exact (hk.mp z).symm
        · exact absurd z d
    rw [e2]
    have hj : ∀ j, ps_kw (ps_tw b n p) = some j → j < 8 := fun j ek => by
      unfold ps_kw at ek
      repeat' split at ek
      all_goals first | (injection ek with ek; omega) | cases ek
    generalize ps_kw (ps_tw b n p) = k at hj ⊢
    unfold fX10_readLine_15 ps_Lkw fX10_readLine_25 fX10_readLine_48
    cases k with
    | none =>
      rw [if_neg (show ¬ ps_kwI none = 0 by decide), if_neg (show ¬ ps_kwI none = 1 by decide), if_neg (show ¬ ps_kwI none = 2 by decide), if_neg (show ¬ ps_kwI none = 3 by decide), if_neg (show ¬ ps_kwI none = 4 by decide), if_neg (show ¬ ps_kwI none = 5 by decide), if_neg (show ¬ ps_kwI none = 6 by decide), if_neg (show ¬ ps_kwI none = 7 by decide)]
      exact bad
    | some j =>
      have hj := hj j rfl
      rcases (show j = 0 ∨ j = 1 ∨ j = 2 ∨ j = 3 ∨ j = 4 ∨ j = 5 ∨ j = 6 ∨ j = 7 by omega) with rfl | rfl | rfl | rfl | rfl | rfl | rfl | rfl
      · exact cm_bind (cm_lplayer h hl (s := 0) (by omega))
      · exact cm_bind (cm_lplayer h hl (s := 1) (by omega))
      · exact cm_bind2 (cm_lset h (k := 0) (d := 25) (by omega) (cur := Q.pts) (fun x => Q.setp x) h.Q.h2 (fun c => h.Q.seth (by rw [c]; rfl) rfl rfl rfl pu_eq (by rw [pu_place (by decide)]; exact h.Q.h3) (by rw [pu_place (by decide)]; exact h.Q.h4) (by rw [pu_place (by decide)]; exact h.Q.h7) rfl rfl rfl rfl rfl rfl rfl) (fun x pp J j1 => j1.upd (Or.inl rfl) (j1.Q.setn (by omega) pu_eq (by rw [pu_place (by decide)]; exact j1.Q.sbs) (by rw [pu_place (by decide)]; exact j1.Q.edg) (by rw [pu_place (by decide)]; exact j1.Q.fst) (by rw [pu_place (by decide)]; exact j1.Q.lns) ⟨fun z => (by cases z), fun z => (by cases z)⟩ Iff.rfl Iff.rfl Iff.rfl rfl rfl rfl rfl rfl rfl)) (lo := 3) (hi := 25) (by omega) (by omega))
      · exact cm_bind2 (cm_lset h (k := 1) (d := 6) (by omega) (cur := Q.sbs) (fun x => Q.setb x) h.Q.h3 (fun c => h.Q.seth rfl (by rw [c]; rfl) rfl rfl (by rw [pu_place (by decide)]; exact h.Q.h2) pu_eq (by rw [pu_place (by decide)]; exact h.Q.h4) (by rw [pu_place (by decide)]; exact h.Q.h7) rfl rfl rfl rfl rfl rfl rfl) (fun x pp J j1 => j1.upd (Or.inl rfl) (j1.Q.setn (by omega) (by rw [pu_place (by decide)]; exact j1.Q.pts) pu_eq (by rw [pu_place (by decide)]; exact j1.Q.edg) (by rw [pu_place (by decide)]; exact j1.Q.fst) (by rw [pu_place (by decide)]; exact j1.Q.lns) Iff.rfl ⟨fun z => (by cases z), fun z => (by cases z)⟩ Iff.rfl Iff.rfl rfl rfl rfl rfl rfl rfl)) (lo := 0) (hi := 12) (by omega) (by omega))
      · exact cm_bind2 (cm_lset h (k := 2) (d := 100) (by omega) (cur := Q.edg) (fun x => Q.sete x) h.Q.h4 (fun c => h.Q.seth rfl rfl (by rw [c]; rfl) rfl (by rw [pu_place (by decide)]; exact h.Q.h2) (by rw [pu_place (by decide)]; exact h.Q.h3) pu_eq (by rw [pu_place (by decide)]; exact h.Q.h7) rfl rfl rfl rfl rfl rfl rfl) (fun x pp J j1 => j1.upd (Or.inl rfl) (j1.Q.setn (by omega) (by rw [pu_place (by decide)]; exact j1.Q.pts) (by rw [pu_place (by decide)]; exact j1.Q.sbs) pu_eq (by rw [pu_place (by decide)]; exact j1.Q.fst) (by rw [pu_place (by decide)]; exact j1.Q.lns) Iff.rfl Iff.rfl ⟨fun z => (by cases z), fun z => (by cases z)⟩ Iff.rfl rfl rfl rfl rfl rfl rfl)) (lo := 0) (hi := 300) (by omega) (by omega))
      · exact cm_bind (cm_lfree h hw)
      · exact cm_bind (cm_lstart h hw)
      · exact cm_bind2 (cm_lfirst h)
  · rw [if_neg (show ¬ nI (ps_ms b n p) = 0 from nI_ne0 (by omega) (by have := hms.2.2.2.2.1; omega)), if_neg (show ¬ ps_tk b n p = 2 from fun z => c (hms.2.2.2.1.mpr (Or.inr z)))]
    exact bad
end PSF62
