/-! ===== the one who is free, who serves first, the settings (the reference's side) ===== -/
section PSF60
variable {t v w : Bool} {I I0 : Nat → Nat → Int32} {L : Nat → Nat → Int64} {b : Nat → Nat} {n p f g : Nat} {Q Q' : ps_Q}
theorem cm_free75 (h : ps_MK I0 b n Q p I) {s q : Nat} (hs : s < 2) (hq : q < 2 ^ 31) : ∀ (m i f : Nat) (B : Bool), i + m = 6 → m < f → fX10_readFree_75 f 290 (nI s) (nI q) (if B then 1 else 0) (nI i) (I, L, px_R t v w) = fX10_readFree_75 1 290 (nI s) (nI q) (if (B || (Q.stt s && decide (ps_at (fun k => nI (Q.start s k)) (nI q) m i ≠ 0))) then 1 else 0) (nI 6) (I, L, px_R t v w) := by
  intro m
  induction m with
  | zero =>
    intro i f B h1 h2
    obtain ⟨f, rfl⟩ : ∃ f', f = f' + 1 := ⟨f - 1, by omega⟩
    obtain rfl : i = 6 := by omega
    rw [show (Q.stt s && decide (ps_at (fun k => nI (Q.start s k)) (nI q) 0 6 ≠ 0)) = false by cases Q.stt s <;> rfl, Bool.or_false, fX10_readFree_75, fX10_readFree_75, if_pos (show (6 : Int32) ≤ nI 6 by decide), if_pos (show (6 : Int32) ≤ nI 6 by decide)]
  | succ m ih =>
    intro i f B h1 h2
    obtain ⟨f, rfl⟩ : ∃ f', f = f' + 1 := ⟨f - 1, by omega⟩
    rw [fX10_readFree_75, if_neg (show ¬ (6 : Int32) ≤ nI i from nI_ge (b := 6) (by omega) (by omega))]
    unfold fX10_readFree_118 fX10_readFree_114 fX10_readFree_119
    rw [pl_let, pl_let, nI_1]
    have ht := ih (i + 1) f true (by omega) (by omega)
    have hf := ih (i + 1) f false (by omega) (by omega)
    rw [Bool.true_or] at ht
    rw [Bool.false_or] at hf
    have ht : fX10_readFree_75 f 290 (nI s) (nI q) 1 (nI (i + 1)) (I, L, px_R t v w) = _ := ht
    have hf : fX10_readFree_75 f 290 (nI s) (nI q) 0 (nI (i + 1)) (I, L, px_R t v w) = _ := hf
    rw [ht, hf]
    cases B with
    | true => rw [if_neg (show ¬ (if true = true then (1 : Int32) else 0) = 0 by decide), Bool.true_or]
    | false =>
      rw [if_pos (show (if false = true then (1 : Int32) else 0) = 0 by decide), Bool.false_or, pg_pos (pi_in (by omega) (by omega)), pi_ix (by omega), show (I, L, px_R t v w).1 ((I, L, px_R t v w).2.2 290 19) s = (if Q.stt s then 1 else 0) from h.Q.stt s hs]
      cases e : Q.stt s with
      | false => rw [if_pos (by decide)]; rfl
      | true =>
        rw [if_neg (by decide), show (9 : Int32) = nI 9 from rfl, show (6 : Int32) = nI 6 from rfl, pk_mul, nI_add, nI_add, pg_pos (pi_in (by omega) (by omega)), pi_ix (by omega), show (I, L, px_R t v w).1 ((I, L, px_R t v w).2.2 290 4) (9 + 6 * s + i) = nI (Q.start s i) from h.Q.st s hs e i (by omega), ps_at]
        by_cases c : nI (Q.start s i) = nI q
        · rw [if_pos c, if_pos c]
          rw [show (true && decide (i + 1 ≠ 0)) = true by simp]
        · rw [if_neg c, if_neg c]
theorem ps_MK.setf (h : ps_MK I0 b n Q p I) {s : Nat} (hs : s < 2) (q : Nat) : ps_MK I0 b n (Q.setf s q) p (hp_u I 293 (7 + s) (nI q)) := by
  refine h.upd (Or.inl rfl) ?_
  have e3 : ∀ k, k ≠ 7 + s → hp_u I 293 (7 + s) (nI q) 293 k = I 293 k := fun k hk => pu_place hk
  have e : ∀ a, a ≠ 293 → hp_u I 293 (7 + s) (nI q) a = I a := fun a ha => pu_cell ha
  obtain ⟨q1, q2, q3, q4, q5, q6, q7, q8, q9, q10, q11, q12, q13, q14, q15⟩ := h.Q
  refine ⟨by rw [e3 _ (by omega)]; exact q1, by rw [e3 _ (by omega)]; exact q2, by rw [e3 _ (by omega)]; exact q3, by rw [e3 _ (by omega)]; exact q4, by rw [e _ (by omega)]; exact q5, by rw [e _ (by omega)]; exact q6, by rw [e _ (by omega)]; exact q7, by rw [e _ (by omega)]; exact q8, by rw [e3 _ (by omega)]; exact q9, fun s' hs' => by rw [e3 _ (by omega)]; exact q10 s' hs', fun s' hs' => ?_, fun s' hs' => by rw [e _ (by omega)]; exact q12 s' hs', fun s' hs' e' k hk => by rw [e3 _ (by omega)]; exact q13 s' hs' e' k hk, fun s' hs' i hi k hk => by rw [e3 _ (by omega)]; exact q14 s' hs' i hi k hk, fun s' hs' k hk => by rw [e _ (by omega)]; exact q15 s' hs' k hk⟩
  show _ = ps_e1 (if s' = s then some q else Q.free s')
  by_cases c : s' = s
  · rw [if_pos c, c]; exact pu_eq
  · rw [if_neg c, e3 _ (by omega)]; exact q11 s' hs'
theorem cm_free63 (h : ps_MK I0 b n Q p I) (hw : ps_Qw Q) {s q : Nat} (hs : s < 2) (c1 : ps_tk b n p = 1) (e : ps_fd Q s (nI (ps_tw b n p)) = some q) : ∃ J, ps_MO I0 b n (ps_Lf30 Q s p (nI (ps_tw b n p))) J ∧ fX10_readFree_63 290 (nI s) (I, L, px_R t v w) = some (J, L, px_R t v w) := by
  have hq := ps_fd_lt e
  have hz := hw.l s hs
  unfold fX10_readFree_63 ps_Lf30
  rw [h.named hw.l c1 hs, pb_2, e]
  have k0 := cm_free75 (L := L) (t := t) (v := v) (w := w) h hs (q := q) (by omega) 6 0 fx_N false (by omega) (by unfold fx_N; omega)
  rw [Bool.false_or] at k0
  have k0 : fX10_readFree_75 fx_N 290 (nI s) (ps_e1 (some q)) 0 0 (I, L, px_R t v w) = _ := k0
  rw [k0, fX10_readFree_75, if_pos (show (6 : Int32) ≤ nI 6 by decide)]
  have bad : ∃ J', ps_MO I0 b n (.error (3, p)) J' ∧ fX10_readFree_143 290 (nI s) (nI q) (I, L, px_R t v w) = some (J', L, px_R t v w) := by
    unfold fX10_readFree_143 fX10_readFree_148
    obtain ⟨H, k1, k2⟩ := h.wrong (L := L) (t := t) (v := v) (w := w) (k := 3) (by omega) (by omega)
    rw [show (3 : Int32) = nI 3 from rfl, k2, pb_1, if_neg k1.ne, k1.goOn, pb_1]
    exact ⟨H, k1, rfl⟩
  show ∃ J, ps_MO I0 b n (if Q.free s ≠ none ∨ (Q.stt s && ps_inB Q s q 6) = true then Except.error (3, p) else Except.ok (Q.setf s q, p)) J ∧ (if (if (Q.stt s && ps_inB Q s q 6) = true then (1 : Int32) else 0) = 0 then _ else _) = _
  by_cases c : (Q.stt s && ps_inB Q s q 6) = true
  · rw [if_pos (Or.inr c), if_pos c, if_neg (by decide)]
    exact bad
  · rw [if_neg c, if_pos rfl, show (7 : Int32) = nI 7 from rfl, nI_add, pg_pos (pi_in (by omega) (by omega)), pi_ix (by omega), show (I, L, px_R t v w).1 ((I, L, px_R t v w).2.2 290 4) (7 + s) = ps_e1 (Q.free s) from h.Q.free s hs]
    by_cases f0 : Q.free s = none
    · rw [if_neg (show ¬ (Q.free s ≠ none ∨ (Q.stt s && ps_inB Q s q 6) = true) from fun z => z.elim (fun y => y f0) c), if_pos ((ps_e1_none (hw.free_lt hs)).mpr f0)]
      unfold fX10_readFree_148
      rw [show (I, L, px_R t v w).1 290 14 = 0 from h.fk, if_pos (show (0 : Int32) = 0 from rfl), show (7 : Int32) = nI 7 from rfl, nI_add, pg_pos (pi_in (by omega) (by omega)), pi_ix (by omega), pl_let]
      obtain ⟨J, j1, j2⟩ := (h.setf hs q).goOn (L := L) (t := t) (v := v) (w := w)
      refine ⟨J, j1, ?_⟩
      show fx_b1 (fX10_goOn 290 (hp_u I 293 (7 + s) (nI q), L, px_R t v w)) _ = _
      rw [j2, pb_1]
    · rw [if_pos (Or.inl f0), if_neg (fun z => f0 ((ps_e1_none (hw.free_lt hs)).mp z))]
      exact bad
theorem cm_lfree (h : ps_MK I0 b n Q p I) (hw : ps_Qw Q) : ∃ J, ps_MO I0 b n (ps_Lfree b n Q p) J ∧ fX10_readFree 290 (I, L, px_R t v w) = some (J, L, px_R t v w) := by
  have hl := hw.l
  rw [ps_Lfree_eq]
  unfold fX10_readFree
  obtain ⟨J, j1, j2⟩ := h.goOn (L := L) (t := t) (v := v) (w := w)
  have bad : ∃ J', ps_MO I0 b n (.error (1, ps_nx b n p)) J' ∧ fX10_readFree_36 290 (J, L, px_R t v w) = some (J', L, px_R t v w) := by
    unfold fX10_readFree_36 fX10_readFree_41
    obtain ⟨H, k1, k2⟩ := j1.wrong (L := L) (t := t) (v := v) (w := w) (k := 1) (by omega) (by omega)
    rw [show (1 : Int32) = nI 1 from rfl, k2, pb_1, if_neg k1.ne]
    exact ⟨H, k1, rfl⟩
  rw [j2, pb_1, show (J, L, px_R t v w).1 290 14 = 0 from j1.fk, if_pos (show (0 : Int32) = 0 from rfl), j1.isOther, pb_2]
  by_cases c1 : ps_tk b n (ps_nx b n p) = 1
  · rw [if_neg (show ¬ ps_tk b n (ps_nx b n p) ≠ 1 from fun q => q c1), if_pos c1, if_neg (show ¬ (1 : Int32) = 0 by decide)]
    have n0 : fX10_namedOf 290 0 (J, L, px_R t v w) = _ := j1.named (L := L) (t := t) (v := v) (w := w) hl c1 (s := 0) (by omega)
    have n1 : fX10_namedOf 290 1 (J, L, px_R t v w) = _ := j1.named (L := L) (t := t) (v := v) (w := w) hl c1 (s := 1) (by omega)
    unfold fX10_readFree_41
    rw [n0, pb_2, n1, pb_2, n0, pb_2, show (J, L, px_R t v w).1 290 14 = 0 from j1.fk, if_pos (show (0 : Int32) = 0 from rfl)]
    cases e0 : ps_fd Q 0 (nI (ps_tw b n (ps_nx b n p))) with
    | none =>
      rw [if_pos (show ps_e1 none = -1 from rfl), if_pos (show (none : Option Nat) = none from rfl), if_pos (show ps_e1 none = -1 from rfl)]
      cases e1 : ps_fd Q 1 (nI (ps_tw b n (ps_nx b n p))) with
      | none =>
        rw [if_pos (show ps_e1 none = -1 from rfl)]
        unfold ps_Lf30
        rw [e1]
        exact bad
      | some q =>
        have hq := ps_fd_lt e1
        have hz := hl 1 (by omega)
        rw [if_neg (show ¬ ps_e1 (some q) = -1 from nI_ne_m1 (by omega))]
        exact cm_free63 j1 hw (by omega) c1 e1
    | some q =>
      have hq := ps_fd_lt e0
      have hz := hl 0 (by omega)
      rw [if_neg (show ¬ ps_e1 (some q) = -1 from nI_ne_m1 (by omega)), if_neg (show ¬ some q = none from fun z => by cases z), if_neg (show ¬ ps_e1 (some q) = -1 from nI_ne_m1 (by omega))]
      exact cm_free63 j1 hw (by omega) c1 e0
  · rw [if_pos c1, if_neg c1, if_pos (show (0 : Int32) = 0 from rfl)]
    exact bad
theorem ps_MF.side (h : ps_MF I0 f g I) : fX10_sideHere 290 (I, L, px_R t v w) = some (0, (I, L, px_R t v w)) := by
  unfold fX10_sideHere fX10_sideHere_34
  rw [if_neg h.ne, if_neg h.ne]
theorem ps_MK.side (h : ps_MK I0 b n Q p I) : (∃ s, ps_sideAt b n p = some s ∧ s < 2 ∧ fX10_sideHere 290 (I, L, px_R t v w) = some (nI s, (I, L, px_R t v w))) ∨ (ps_sideAt b n p = none ∧ ∃ J, ps_MF I0 1 p J ∧ fX10_sideHere 290 (I, L, px_R t v w) = some (0, (J, L, px_R t v w))) := by
  have hms := ps_ms_tk (b := b) (n := n) (p := p)
  obtain ⟨t1, t2, t3, t4, t5⟩ := h.tok
  have bad : ∃ J, ps_MF I0 1 p J ∧ fX10_sideHere_29 290 (I, L, px_R t v w) = some (0, (J, L, px_R t v w)) := by
    unfold fX10_sideHere_29 fX10_sideHere_34
    obtain ⟨H, k1, k2⟩ := h.wrong (L := L) (t := t) (v := v) (w := w) (k := 1) (by omega) (by omega)
    rw [show (1 : Int32) = nI 1 from rfl, k2, pb_1, if_neg k1.ne]
    exact ⟨H, k1, rfl⟩
  unfold fX10_sideHere ps_sideAt
  rw [show (I, L, px_R t v w).1 290 14 = 0 from h.fk, if_pos (show (0 : Int32) = 0 from rfl), show (I, L, px_R t v w).1 290 11 = nI (ps_ms b n p) from t3]
  by_cases c : ps_ms b n p = 0
  · rw [if_pos (show nI (ps_ms b n p) = 0 by rw [c]; rfl), show (I, L, px_R t v w).1 290 12 = ps_kwI (ps_kw (ps_tw b n p)) from (t4 c).1]
    have hk := hms.2.2.2.2.2 c
    cases ek : ps_kw (ps_tw b n p) with
    | none =>
      rw [if_pos (show ps_kwI none < 0 by decide), if_neg (show ¬ ps_tk b n p = 2 by have := hk.mpr ek; omega)]
      exact Or.inr ⟨rfl, bad⟩
    | some j =>
      have hj : j < 8 := by
        unfold ps_kw at ek
        repeat' split at ek
        all_goals first | (injection ek with ek; omega) | cases ek
      have h2 : ps_tk b n p = 2 := by
        rcases hms.2.2.2.1.mp c with z | z
        · rw [hk.mp z] at ek; cases ek
        · exact z
      rw [if_pos h2, show ps_kwI (some j) = nI j from rfl, if_neg (show ¬ nI j < 0 from nI_nlt (b := 0) (by omega) (by omega))]
      by_cases d : j ≤ 1
      · rw [if_pos (show nI j ≤ 1 from nI_le (b := 1) d (by omega))]
        unfold fX10_sideHere_34
        rw [show (I, L, px_R t v w).1 290 14 = 0 from h.fk, if_pos (show (0 : Int32) = 0 from rfl)]
        refine Or.inl ⟨j, ?_, by omega, ?_⟩
        · rcases (show j = 0 ∨ j = 1 by omega) with rfl | rfl <;> rfl
        · show some (I 290 12, _) = _
          rw [(t4 c).1, ek]; rfl
      · rw [if_neg (show ¬ nI j ≤ 1 from nI_ge (a := 1) (by omega) (by omega)), if_neg (show ¬ some j = some 0 from fun z => by injection z with z; omega), if_neg (show ¬ some j = some 1 from fun z => by injection z with z; omega)]
        exact Or.inr ⟨rfl, bad⟩
  · rw [if_neg (show ¬ nI (ps_ms b n p) = 0 from nI_ne0 (by omega) (by have := hms.2.2.2.2.1; omega)), if_neg (show ¬ ps_tk b n p = 2 from fun z => c (hms.2.2.2.1.mpr (Or.inr z)))]
    exact Or.inr ⟨rfl, bad⟩
theorem ps_MF.once14 (h : ps_MF I0 f g I) {k : Nat} (hk : k < 8) : ∃ J, ps_MF I0 f g J ∧ fX10_once_14 290 (nI k) (I, L, px_R t v w) = some (J, L, px_R t v w) := by
  unfold fX10_once_14
  rw [pg_pos (pi_in hk (by omega)), pl_let, pi_ix (by omega)]
  have h2 : ps_MF I0 f g (hp_u I 296 k 1) := h.upd (by omega)
  refine ⟨_, h2, ?_⟩
  show fx_b1 (fX10_goOn 290 (hp_u I 296 k 1, L, px_R t v w)) _ = _
  rw [h2.goOn, pb_1]
/-- a word that may come once -/
theorem cm_once (h : ps_MK I0 b n Q p I) {k : Nat} (hk : k < 8) {cur : Option Nat} (hc : I 296 k = if cur = none then 0 else 1) (hq : cur = none → ps_MQ (hp_u I 296 k 1) Q') : (cur = none ∧ ∃ J, ps_MK I0 b n Q' (ps_nx b n p) J ∧ fX10_once 290 (nI k) (I, L, px_R t v w) = some (J, L, px_R t v w)) ∨ (cur ≠ none ∧ ∃ J, ps_MF I0 3 p J ∧ fX10_once 290 (nI k) (I, L, px_R t v w) = some (J, L, px_R t v w)) := by
  unfold fX10_once
  rw [pg_pos (pi_in hk (by omega)), pi_ix (by omega), show (I, L, px_R t v w).1 ((I, L, px_R t v w).2.2 290 18) k = (if cur = none then 0 else 1) from hc]
  by_cases c : cur = none
  · rw [if_pos c, if_pos rfl]
    unfold fX10_once_14
    rw [pg_pos (pi_in hk (by omega)), pl_let, pi_ix (by omega)]
    obtain ⟨J, j1, j2⟩ := (h.upd (by omega) (hq c)).goOn (L := L) (t := t) (v := v) (w := w)
    refine Or.inl ⟨c, J, j1, ?_⟩
    show fx_b1 (fX10_goOn 290 (hp_u I 296 k 1, L, px_R t v w)) _ = _
    rw [j2, pb_1]
  · rw [if_neg c, if_neg (by decide)]
    obtain ⟨H, k1, k2⟩ := h.wrong (L := L) (t := t) (v := v) (w := w) (k := 3) (by omega) (by omega)
    obtain ⟨G, g1, g2⟩ := k1.once14 (L := L) (t := t) (v := v) (w := w) hk
    rw [show (3 : Int32) = nI 3 from rfl, k2, pb_1, g2]
    exact Or.inr ⟨c, G, g1, rfl⟩
theorem cm_lset (h : ps_MK I0 b n Q p I) {k d : Nat} (hk : k < 3) {cur : Option Nat} (fs : Nat → ps_Q) (hc : I 296 (k + 2) = if cur = none then 0 else 1) (hq : cur = none → ps_MQ (hp_u I 296 (k + 2) 1) (fs d)) (hset : ∀ x pp J, ps_MK I0 b n (fs d) pp J → ps_MK I0 b n (fs x) pp (hp_u J 293 k (nI x))) {lo hi : Nat} (hh : hi < 1000) (hlo : lo ≤ hi) : ∃ J, ps_MO I0 b n (match ps_Lset b n cur p lo hi with | .error e => .error e | .ok x => .ok (fs x.1, x.2)) J ∧ (fx_b1 (fX10_once 290 (nI (k + 2)) (I, L, px_R t v w)) fun h50 => fx_b2 (fX10_number 290 (nI lo) (nI hi) h50) fun r h2 => fX10_readLine_91 290 (nI (k + 2)) r h2) = fX10_readLine_162 290 (J, L, px_R t v w) := by
  have e91 : ∀ (J : Nat → Nat → Int32) (x : Int32), fX10_readLine_91 290 (nI (k + 2)) x (J, L, px_R t v w) = fX10_readLine_162 290 (hp_u J 293 k x, L, px_R t v w) := fun J x => by
    unfold fX10_readLine_91
    rw [show (2 : Int32) = nI 2 from rfl, pk_sub (by omega), show k + 2 - 2 = k by omega, pg_pos (pi_in (by omega) (by omega)), pl_let, pi_ix (by omega)]
    rfl
  unfold ps_Lset
  rcases cm_once (L := L) (t := t) (v := v) (w := w) h (by omega) hc hq with ⟨c, J, j1, j2⟩ | ⟨c, J, j1, j2⟩
  · rw [if_neg (show ¬ cur ≠ none from fun z => z c), j2, pb_1]
    rcases j1.number (L := L) (t := t) (v := v) (w := w) hh hlo with ⟨x, H, e, k1, k2⟩ | ⟨f, H, e, k1, r, k2⟩
    · rw [e, k2, pb_2, e91]
      exact ⟨_, hset x _ H k1, rfl⟩
    · rw [e, k2, pb_2, e91]
      exact ⟨_, k1.upd (by omega), rfl⟩
  · rw [if_pos c, j2, pb_1, j1.number, pb_2, e91]
    exact ⟨_, j1.upd (by omega), rfl⟩
end PSF60
