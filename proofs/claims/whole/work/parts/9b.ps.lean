/-! ===== the lines of one who is free, and of who serves first (the class's side) ===== -/
def ps_Qw (Q : ps_Q) : Prop :=
  (ps_Ql Q) ∧
  (∀ x, Q.pts = some x → 3 ≤ x ∧ x ≤ 25) ∧
  (∀ x, Q.sbs = some x → x ≤ 12) ∧
  (∀ x, Q.edg = some x → x ≤ 300) ∧
  (∀ x, Q.fst = some x → x < 2) ∧
  (∀ s, s < 2 → ∀ q, Q.free s = some q → q < Q.size s) ∧
  (∀ s, s < 2 → ∀ p, p < Q.size s → ∀ w, w < 3 → Q.sk s p w ≤ 99) ∧
  (∀ s, s < 2 → Q.stt s = true → ∀ k, k < 6 → Q.start s k < Q.size s) ∧
  (∀ s, s < 2 → Q.stt s = true → ∀ j k, j < 6 → k < 6 → Q.start s j = Q.start s k → j = k) ∧
  (∀ s, s < 2 → Q.stt s = true → ∀ q, Q.free s = some q → ∀ k, k < 6 → Q.start s k ≠ q)
theorem ps_Qw.l {Q : ps_Q} (h : ps_Qw Q) : ps_Ql Q := h.1
theorem ps_Qw.pts {Q : ps_Q} (h : ps_Qw Q) : ∀ x, Q.pts = some x → 3 ≤ x ∧ x ≤ 25 := h.2.1
theorem ps_Qw.sbs {Q : ps_Q} (h : ps_Qw Q) : ∀ x, Q.sbs = some x → x ≤ 12 := h.2.2.1
theorem ps_Qw.edg {Q : ps_Q} (h : ps_Qw Q) : ∀ x, Q.edg = some x → x ≤ 300 := h.2.2.2.1
theorem ps_Qw.fst {Q : ps_Q} (h : ps_Qw Q) : ∀ x, Q.fst = some x → x < 2 := h.2.2.2.2.1
theorem ps_Qw.free {Q : ps_Q} (h : ps_Qw Q) : ∀ s, s < 2 → ∀ q, Q.free s = some q → q < Q.size s := h.2.2.2.2.2.1
theorem ps_Qw.sk {Q : ps_Q} (h : ps_Qw Q) : ∀ s, s < 2 → ∀ p, p < Q.size s → ∀ w, w < 3 → Q.sk s p w ≤ 99 := h.2.2.2.2.2.2.1
theorem ps_Qw.st {Q : ps_Q} (h : ps_Qw Q) : ∀ s, s < 2 → Q.stt s = true → ∀ k, k < 6 → Q.start s k < Q.size s := h.2.2.2.2.2.2.2.1
theorem ps_Qw.inj {Q : ps_Q} (h : ps_Qw Q) : ∀ s, s < 2 → Q.stt s = true → ∀ j k, j < 6 → k < 6 → Q.start s j = Q.start s k → j = k := h.2.2.2.2.2.2.2.2.1
theorem ps_Qw.fs {Q : ps_Q} (h : ps_Qw Q) : ∀ s, s < 2 → Q.stt s = true → ∀ q, Q.free s = some q → ∀ k, k < 6 → Q.start s k ≠ q := h.2.2.2.2.2.2.2.2.2
section PSF51
variable {t v w : Bool} {I I0 : Nat → Nat → Int32} {L : Nat → Nat → Int64} {b : Nat → Nat} {n p : Nat} {Q : ps_Q}
theorem ps_Qw.free_lt (hw : ps_Qw Q) {s : Nat} (hs : s < 2) : ∀ q, Q.free s = some q → q < 2 ^ 31 := fun q e => by
  have h1 := hw.free s hs q e
  have h2 := hw.l s hs
  omega
theorem cx_starter2 {s : Nat} (hs : s < 2) {m : Nat} (hm : m ≤ 6) (h6 : I (ps_T2 t + 6 * s + 1) 6 = nI m) {g : Nat → Nat} (hst : ∀ k, k < m → I (ps_T2 t + 6 * s + 6) k = nI (g k)) (x : Int32) : fX7_isStarter (ps_T2 t + 6 * s + 1) x (I, L, px_R t v w) = some (if decide (ps_at (fun k => nI (g k)) x m 0 ≠ 0) = true then 1 else 0, (I, L, px_R t v w)) := by
  have key : ∀ j i f, i + j = m → j < f → fX7_isStarter_2 f (ps_T2 t + 6 * s + 1) x (nI i) (I, L, px_R t v w) = some (if decide (ps_at (fun k => nI (g k)) x j i ≠ 0) = true then 1 else 0, (I, L, px_R t v w)) := by
    intro j
    induction j with
    | zero =>
      intro i f h1 h2
      obtain ⟨f, rfl⟩ : ∃ f', f = f' + 1 := ⟨f - 1, by omega⟩
      unfold fX7_isStarter_2
      show (if I (ps_T2 t + 6 * s + 1) 6 ≤ nI i then _ else _) = _
      rw [h6, if_pos (nI_le (by omega) (by omega))]; rfl
    | succ j ih =>
      intro i f h1 h2
      obtain ⟨f, rfl⟩ : ∃ f', f = f' + 1 := ⟨f - 1, by omega⟩
      unfold fX7_isStarter_2 ps_at
      show (if I (ps_T2 t + 6 * s + 1) 6 ≤ nI i then _ else _) = _
      rw [h6, if_neg (nI_ge (by omega) (by omega)), pg_pos (pi_in (by omega) (by omega)), pi_ix (by omega)]
      show (if I (px_R t v w (ps_T2 t + 6 * s + 1) 4) i = x then _ else _) = _
      rw [pr_q2 hs (by omega), hst i (by omega)]
      by_cases c : nI (g i) = x
      · rw [if_pos c, if_pos c]; simp
      · rw [if_neg c, if_neg c, pl_let, nI_1]
        exact ih (i + 1) f (by omega) (by omega)
  exact key m 0 fx_N (by omega) (by unfold fx_N; omega)
theorem ps_OK.setf (h : ps_OK I0 (ps_T2 t) b n Q p I) {s : Nat} (hs : s < 2) (q : Nat) : ps_OK I0 (ps_T2 t) b n (Q.setf s q) p (hp_u I (ps_T2 t + 6 * s + 1) 7 (nI q)) := by
  have hT := ps_T2_le t
  have cell : ∀ a, a ≠ ps_T2 t + 6 * s + 1 → hp_u I (ps_T2 t + 6 * s + 1) 7 (nI q) a = I a := fun a ha => pu_cell ha
  have fld : ∀ a k, k ≠ 7 → hp_u I (ps_T2 t + 6 * s + 1) 7 (nI q) a k = I a k := fun a k hk => pu_place hk
  obtain ⟨r1, r2, r3, r4⟩ := h.rd
  have e1 := cell 1 (by omega)
  refine ⟨⟨r1, by rw [e1]; exact r2, fun k hk => by rw [cell 2 (by omega)]; exact r3 k hk, r4⟩, h.p, by rw [e1]; exact h.q, by rw [e1]; exact h.pl, by rw [e1]; exact h.k, by rw [e1]; exact h.c, by rw [e1]; exact h.fk, by rw [e1]; exact h.fp, by rw [e1]; exact h.tz, ⟨by rw [fld _ _ (by decide)]; exact h.Q.pts, by rw [fld _ _ (by decide)]; exact h.Q.sbs, by rw [fld _ _ (by decide)]; exact h.Q.edg, by rw [fld _ _ (by decide)]; exact h.Q.fst, by rw [fld _ _ (by decide)]; exact h.Q.lns, fun s' hs' => by rw [fld _ _ (by decide)]; exact h.Q.size s' hs', fun s' hs' => by rw [fld _ _ (by decide)]; exact h.Q.plc s' hs', fun s' hs' => ?_, fun s' hs' k hk => by rw [cell _ (by omega)]; exact h.Q.nm s' hs' k hk, fun s' hs' i hi k hk => by rw [cell _ (by omega)]; exact h.Q.sk s' hs' i hi k hk, fun s' hs' e k hk => by rw [cell _ (by omega)]; exact h.Q.st s' hs' e k hk⟩, fun a q1 q2 => by rw [cell a (by omega)]; exact h.fr a q1 q2⟩
  show _ = ps_e1 (if s' = s then some q else Q.free s')
  by_cases c : s' = s
  · rw [if_pos c, c]; exact pu_eq
  · rw [if_neg c, cell _ (by omega)]; exact h.Q.free s' hs'
def ps_Lf30 (Q : ps_Q) (s p : Nat) (x : Int32) : Except (Nat × Nat) (ps_Q × Nat) := match ps_fd Q s x with
  | some q => if Q.free s ≠ none ∨ (Q.stt s && ps_inB Q s q 6) = true then .error (3, p) else .ok (Q.setf s q, p)
  | none => .error (1, p)
theorem cx_free30 (h : ps_OK I0 (ps_T2 t) b n Q p I) (hw : ps_Qw Q) {s : Nat} (hs : s < 2) (c1 : ps_tk b n p = 1) : ∃ J, ps_CO I0 t b n (ps_Lf30 Q s p (nI (ps_tw b n p))) J ∧ fX5_readFree_30 1 (ps_T2 t + 6 * s + 1) (I, L, px_R t v w) = some (J, L, px_R t v w) := by
  have hT := ps_T2_le t
  have hl := hw.l
  unfold fX5_readFree_30 ps_Lf30
  rw [show (I, L, px_R t v w).1 1 7 = nI (ps_tk b n p) from h.k, c1, if_pos (show nI 1 = 1 from rfl), show (I, L, px_R t v w).1 1 8 = nI (ps_tw b n p) from h.c.trans (by rw [(ps_tcd_w (Or.inl c1)).1]), h.find hl hs, pb_2]
  unfold fX5_readFree_51 fX5_readFree_81
  cases e : ps_fd Q s (nI (ps_tw b n p)) with
  | none =>
    rw [if_pos (show ps_e1 none = -1 from rfl), show (1 : Int32) = nI 1 from rfl]
    obtain ⟨J, j1, j2⟩ := h.fail (L := L) (v := v) (w := w) hl 1
    rw [j2, pb_1, pl_let]
    exact ⟨_, ⟨j1.set hT (by omega) (by omega) (fun s' hs' q => by omega), by show 0 < 1; omega, by show 1 < 5; omega⟩, rfl⟩
  | some q =>
    have hq := ps_fd_lt e
    have hz := hl s hs
    rw [if_neg (show ¬ ps_e1 (some q) = -1 from nI_ne_m1 (by omega)), show (3 : Int32) = nI 3 from rfl]
    obtain ⟨J, j1, j2⟩ := h.fail (L := L) (v := v) (w := w) hl 3
    have bad : ∃ J', ps_CO I0 t b n (.error (3, p)) J' ∧ (fx_b1 (fX5_fail 1 (nI 3) (I, L, px_R t v w)) fun h83 => fx_let (hp_sI h83 (ps_T2 t + 6 * s + 1) 7 (ps_e1 (some q))) fun h88 => some h88) = some (J', L, px_R t v w) := by
      rw [j2, pb_1, pl_let]
      exact ⟨_, ⟨j1.set hT (by omega) (by omega) (fun s' hs' q => by omega), by show 0 < 3; omega, by show 3 < 5; omega⟩, rfl⟩
    rw [show (I, L, px_R t v w).1 (ps_T2 t + 6 * s + 1) 7 = ps_e1 (Q.free s) from h.Q.free s hs]
    by_cases f0 : Q.free s = none
    · rw [if_pos ((ps_e1_none (hw.free_lt hs)).mpr f0)]
      have est : fX7_isStarter (ps_T2 t + 6 * s + 1) (ps_e1 (some q)) (I, L, px_R t v w) = some (if (Q.stt s && ps_inB Q s q 6) = true then 1 else 0, (I, L, px_R t v w)) := by
        cases es : Q.stt s with
        | true =>
          rw [cx_starter2 hs (m := 6) (g := Q.start s) (by omega) ((h.Q.plc s hs).trans (by rw [es]; rfl)) (fun k hk => h.Q.st s hs es k hk)]; rfl
        | false =>
          rw [cx_starter2 hs (m := 0) (g := Q.start s) (by omega) ((h.Q.plc s hs).trans (by rw [es]; rfl)) (fun k hk => absurd hk (by omega))]; rfl
      rw [est, pb_2]
      by_cases c : (Q.stt s && ps_inB Q s q 6) = true
      · rw [if_pos c, if_neg (show ¬ (1 : Int32) = 0 by decide)]
        show ∃ J', ps_CO I0 t b n (if Q.free s ≠ none ∨ (Q.stt s && ps_inB Q s q 6) = true then Except.error (3, p) else Except.ok (Q.setf s q, p)) J' ∧ _
        rw [if_pos (Or.inr c)]
        exact bad
      · rw [if_neg c, if_pos rfl, pl_let]
        show ∃ J', ps_CO I0 t b n (if Q.free s ≠ none ∨ (Q.stt s && ps_inB Q s q 6) = true then Except.error (3, p) else Except.ok (Q.setf s q, p)) J' ∧ _
        rw [if_neg (show ¬ (Q.free s ≠ none ∨ (Q.stt s && ps_inB Q s q 6) = true) from fun z => z.elim (fun y => y f0) c)]
        exact ⟨_, ⟨h.setf hs q, hl⟩, rfl⟩
    · rw [if_neg (fun z => f0 ((ps_e1_none (hw.free_lt hs)).mp z))]
      show ∃ J', ps_CO I0 t b n (if Q.free s ≠ none ∨ (Q.stt s && ps_inB Q s q 6) = true then Except.error (3, p) else Except.ok (Q.setf s q, p)) J' ∧ _
      rw [if_pos (Or.inl f0)]
      exact bad
theorem cx_lfree (h : ps_OK I0 (ps_T2 t) b n Q p I) (hw : ps_Qw Q) : ∃ J, ps_CO I0 t b n (ps_Lfree b n Q p) J ∧ fX5_readFree 1 (ps_T2 t) (I, L, px_R t v w) = some (J, L, px_R t v w) := by
  have hT := ps_T2_le t
  have hl := hw.l
  unfold fX5_readFree ps_Lfree
  obtain ⟨J, j1, j2⟩ := h.adv (L := L) (v := v) (w := w)
  have htk := ps_tk_lt (b := b) (n := n) (p := ps_nx b n p)
  rw [j2, pb_1, show (J, L, px_R t v w).2.2 (ps_T2 t) 0 = ps_T2 t + 6 * 0 + 1 from pr_T2_0, j1.find hl (s := 0) (by omega), pb_2, show (J, L, px_R t v w).2.2 (ps_T2 t) 1 = ps_T2 t + 6 * 1 + 1 from pr_T2_1, show (J, L, px_R t v w).2.2 (ps_T2 t) 0 = ps_T2 t + 6 * 0 + 1 from pr_T2_0]
  by_cases c1 : ps_tk b n (ps_nx b n p) = 1
  · rw [if_neg (show ¬ ps_tk b n (ps_nx b n p) ≠ 1 from fun q => q c1), show (J, L, px_R t v w).1 1 8 = nI (ps_tw b n (ps_nx b n p)) from j1.c.trans (by rw [(ps_tcd_w (Or.inl c1)).1])]
    cases e : ps_fd Q 0 (nI (ps_tw b n (ps_nx b n p))) with
    | none =>
      rw [if_pos (show ps_e1 none = -1 from rfl)]
      obtain ⟨H, k1, k2⟩ := cx_free30 (L := L) (v := v) (w := w) j1 hw (s := 1) (by omega) c1
      exact ⟨H, k1, k2⟩
    | some q =>
      have hq := ps_fd_lt e
      have hz := hl 0 (by omega)
      rw [if_neg (show ¬ ps_e1 (some q) = -1 from nI_ne_m1 (by omega))]
      obtain ⟨H, k1, k2⟩ := cx_free30 (L := L) (v := v) (w := w) j1 hw (s := 0) (by omega) c1
      refine ⟨H, ?_, k2⟩
      unfold ps_Lf30 at k1
      rw [e] at k1
      exact k1
  · rw [if_pos c1]
    have bad : ∀ s, s < 2 → ∃ J', ps_CO I0 t b n (.error (1, ps_nx b n p)) J' ∧ fX5_readFree_30 1 (ps_T2 t + 6 * s + 1) (J, L, px_R t v w) = some (J', L, px_R t v w) := fun s hs => by
      unfold fX5_readFree_30
      rw [show (J, L, px_R t v w).1 1 7 = nI (ps_tk b n (ps_nx b n p)) from j1.k, if_neg (show ¬ nI (ps_tk b n (ps_nx b n p)) = 1 from fun q => c1 ((nI_eq (b := 1) (by omega) (by omega)).mp q))]
      unfold fX5_readFree_51
      rw [if_pos rfl, show (1 : Int32) = nI 1 from rfl]
      obtain ⟨H, k1, k2⟩ := j1.fail (L := L) (v := v) (w := w) hl 1
      rw [k2, pb_1, pl_let]
      exact ⟨_, ⟨k1.set hT (by omega) (by omega) (fun s' hs' q => by omega), by show 0 < 1; omega, by show 1 < 5; omega⟩, rfl⟩
    split
    · exact bad 1 (by omega)
    · exact bad 0 (by omega)
theorem ps_kw_side {c : Nat} (hc : c < 2 ^ 30) : (nI c = 513619 ↔ ps_kw c = some 0) ∧ (nI c = 679650899 ↔ ps_kw c = some 1) := by
  rw [show (513619 : Int32) = nI 513619 from rfl, show (679650899 : Int32) = nI 679650899 from rfl, nI_eq (by omega) (by omega), nI_eq (by omega) (by omega)]
  unfold ps_kw
  constructor
  · by_cases e : c = 513619
    · rw [if_pos e]; exact ⟨fun _ => rfl, fun _ => e⟩
    · rw [if_neg e]
      refine ⟨fun z => absurd z e, fun z => ?_⟩
      repeat' split at z
      all_goals cases z
  · by_cases e0 : c = 513619
    · rw [if_pos e0]; exact ⟨fun z => by omega, fun z => by cases z⟩
    rw [if_neg e0]
    by_cases e : c = 679650899
    · rw [if_pos e]; exact ⟨fun _ => rfl, fun _ => e⟩
    · rw [if_neg e]
      refine ⟨fun z => absurd z e, fun z => ?_⟩
      repeat' split at z
      all_goals cases z
theorem cx_sideHere (h : ps_OK I0 (ps_T2 t) b n Q p I) : fX5_sideHere 1 (I, L, px_R t v w) = some (ps_e1 (ps_sideAt b n p), (I, L, px_R t v w)) := by
  have htk := ps_tk_lt (b := b) (n := n) (p := p)
  unfold fX5_sideHere ps_sideAt
  rw [show (I, L, px_R t v w).1 1 7 = nI (ps_tk b n p) from h.k]
  by_cases c : ps_tk b n p = 2
  · rw [if_pos c, c, if_pos (show nI 2 = 2 from rfl), show (I, L, px_R t v w).1 1 8 = nI (ps_tw b n p) from h.c.trans (by rw [(ps_tcd_w (Or.inr c)).1])]
    have hk := ps_kw_side (ps_tw_lt (b := b) h.p)
    by_cases k0 : ps_kw (ps_tw b n p) = some 0
    · rw [if_pos (hk.1.mpr k0), if_pos k0]; rfl
    · rw [if_neg (fun z => k0 (hk.1.mp z)), if_neg k0]
      by_cases k1 : ps_kw (ps_tw b n p) = some 1
      · rw [if_pos (hk.2.mpr k1), if_pos k1]; rfl
      · rw [if_neg (fun z => k1 (hk.2.mp z)), if_neg k1]; rfl
  · rw [if_neg c, if_neg (show ¬ nI (ps_tk b n p) = 2 from fun q => c ((nI_eq (b := 2) (by omega) (by omega)).mp q))]; rfl
theorem ps_sideAt_lt {q : Nat} (h : ps_sideAt b n p = some q) : q < 2 := by
  unfold ps_sideAt at h
  split at h
  · split at h
    · injection h with e; omega
    · split at h
      · injection h with e; omega
      · exact absurd h (by simp)
  · exact absurd h (by simp)
/-- one number of the told is set -/
theorem ps_OK.setT (h : ps_OK I0 (ps_T2 t) b n Q p I) {k : Nat} {x : Int32} {Q' : ps_Q} (h1 : (hp_u I (ps_T2 t) k x) (ps_T2 t) 2 = ps_e1 Q'.pts) (h2 : (hp_u I (ps_T2 t) k x) (ps_T2 t) 3 = ps_e1 Q'.sbs) (h3 : (hp_u I (ps_T2 t) k x) (ps_T2 t) 4 = ps_e1 Q'.edg) (h4 : (hp_u I (ps_T2 t) k x) (ps_T2 t) 5 = ps_e1 Q'.fst) (h5 : (hp_u I (ps_T2 t) k x) (ps_T2 t) 6 = nI Q'.lns) (e1 : Q'.size = Q.size) (e2 : Q'.stt = Q.stt) (e3 : Q'.free = Q.free) (e4 : Q'.nm = Q.nm) (e5 : Q'.sk = Q.sk) (e6 : Q'.start = Q.start) : ps_OK I0 (ps_T2 t) b n Q' p (hp_u I (ps_T2 t) k x) := by
  have hT := ps_T2_le t
  have cell : ∀ a, a ≠ ps_T2 t → hp_u I (ps_T2 t) k x a = I a := fun a ha => pu_cell ha
  obtain ⟨r1, r2, r3, r4⟩ := h.rd
  have e1' := cell 1 (by omega)
  exact ⟨⟨r1, by rw [e1']; exact r2, fun k hk => by rw [cell 2 (by omega)]; exact r3 k hk, r4⟩, h.p, by rw [e1']; exact h.q, by rw [e1']; exact h.pl, by rw [e1']; exact h.k, by rw [e1']; exact h.c, by rw [e1']; exact h.fk, by rw [e1']; exact h.fp, by rw [e1']; exact h.tz, ⟨h1, h2, h3, h4, h5, fun s hs => by rw [cell _ (by omega), e1]; exact h.Q.size s hs, fun s hs => by rw [cell _ (by omega), e2]; exact h.Q.plc s hs, fun s hs => by rw [cell _ (by omega), e3]; exact h.Q.free s hs, fun s hs k hk => by rw [cell _ (by omega), e4]; rw [e1] at hk; exact h.Q.nm s hs k hk, fun s hs i hi k hk => by rw [cell _ (by omega), e5]; rw [e1] at hk; exact h.Q.sk s hs i hi k hk, fun s hs e k hk => by rw [cell _ (by omega), e6]; rw [e2] at e; exact h.Q.st s hs e k hk⟩, fun a q1 q2 => by rw [cell a (by omega)]; exact h.fr a q1 q2⟩
theorem cx_lfirst (h : ps_OK I0 (ps_T2 t) b n Q p I) (hw : ps_Qw Q) : ∃ J, ps_CO I0 t b n (ps_Lfirst b n Q p) J ∧ fX5_readFirst 1 (ps_T2 t) (I, L, px_R t v w) = some (J, L, px_R t v w) := by
  have hT := ps_T2_le t
  have hl := hw.l
  unfold fX5_readFirst ps_Lfirst
  rw [show (I, L, px_R t v w).1 (ps_T2 t) 5 = ps_e1 Q.fst from h.Q.fst]
  have hf : ∀ q, Q.fst = some q → q < 2 ^ 31 := fun q e => by have := hw.fst q e; omega
  by_cases c : Q.fst = none
  · rw [if_neg (show ¬ Q.fst ≠ none from fun z => z c), if_pos ((ps_e1_none hf).mpr c)]
    unfold fX5_readFirst_13
    obtain ⟨J, j1, j2⟩ := h.adv (L := L) (v := v) (w := w)
    rw [j2, pb_1, cx_sideHere j1, pb_2, pl_let]
    show ∃ J', _ ∧ (if hp_u J (ps_T2 t) 5 _ (ps_T2 t) 5 = -1 then _ else _) = _
    rw [pu_eq]
    cases e : ps_sideAt b n (ps_nx b n p) with
    | none =>
      rw [if_pos (show ps_e1 none = -1 from rfl)]
      have k0 : ps_OK I0 (ps_T2 t) b n Q (ps_nx b n p) (hp_u J (ps_T2 t) 5 (ps_e1 none)) := j1.setT (by rw [pu_place (by decide)]; exact j1.Q.pts) (by rw [pu_place (by decide)]; exact j1.Q.sbs) (by rw [pu_place (by decide)]; exact j1.Q.edg) (by rw [pu_eq, c]) (by rw [pu_place (by decide)]; exact j1.Q.lns) rfl rfl rfl rfl rfl rfl
      obtain ⟨H, k1, k2⟩ := k0.fail (L := L) (v := v) (w := w) hl 1
      show ∃ J', _ ∧ (fx_b1 (fX5_fail 1 (nI 1) (hp_u J (ps_T2 t) 5 (ps_e1 none), L, px_R t v w)) _) = _
      rw [k2, pb_1]
      exact ⟨H, ⟨k1, by show 0 < 1; omega, by show 1 < 5; omega⟩, rfl⟩
    | some q =>
      have hq := ps_sideAt_lt e
      rw [if_neg (show ¬ ps_e1 (some q) = -1 from nI_ne_m1 (by omega))]
      have k0 : ps_OK I0 (ps_T2 t) b n (Q.setfst q) (ps_nx b n p) (hp_u J (ps_T2 t) 5 (ps_e1 (some q))) := j1.setT (by rw [pu_place (by decide)]; exact j1.Q.pts) (by rw [pu_place (by decide)]; exact j1.Q.sbs) (by rw [pu_place (by decide)]; exact j1.Q.edg) pu_eq (by rw [pu_place (by decide)]; exact j1.Q.lns) rfl rfl rfl rfl rfl rfl
      exact ⟨_, ⟨k0, hl⟩, rfl⟩
  · rw [if_pos c, if_neg (fun z => c ((ps_e1_none hf).mp z)), show (3 : Int32) = nI 3 from rfl]
    obtain ⟨J, j1, j2⟩ := h.fail (L := L) (v := v) (w := w) hl 3
    obtain ⟨H, k1, k2⟩ := j1.first13 (L := L) (v := v) (w := w) (by omega) (by omega)
    rw [j2, pb_1, k2]
    exact ⟨H, ⟨k1, by show 0 < 3; omega, by show 3 < 5; omega⟩, rfl⟩
end PSF51
