/-! ===== a line, and the lines (the class's side) ===== -/
theorem ps_disp {α : Type} {c : Nat} (hc : c < 2 ^ 30) (x0 x1 x2 x3 x4 x5 x6 x7 x8 : α) : (if nI c = 168165 then x4 else if nI c = 215205 then x5 else if nI c = 513619 then x0 else if nI c = 644179 then x3 else if nI c = 6605428 then x7 else if nI c = 20579924 then x6 else if nI c = 552909459 then x2 else if nI c = 679650899 then x1 else x8) = (if ps_kw c = some 0 then x0 else if ps_kw c = some 1 then x1 else if ps_kw c = some 2 then x2 else if ps_kw c = some 3 then x3 else if ps_kw c = some 4 then x4 else if ps_kw c = some 5 then x5 else if ps_kw c = some 6 then x6 else if ps_kw c = some 7 then x7 else x8) := by
  have e : ∀ k : Nat, k < 2 ^ 31 → (nI c = nI k ↔ c = k) := fun k hk => nI_eq (by omega) hk
  have e1 := e 552909459 (by decide)
  have e2 := e 644179 (by decide)
  have e3 := e 168165 (by decide)
  have e4 := e 513619 (by decide)
  have e5 := e 679650899 (by decide)
  have e6 := e 215205 (by decide)
  have e7 := e 20579924 (by decide)
  have e8 := e 6605428 (by decide)
  rw [show (552909459 : Int32) = nI 552909459 from rfl, show (644179 : Int32) = nI 644179 from rfl, show (168165 : Int32) = nI 168165 from rfl, show (513619 : Int32) = nI 513619 from rfl, show (679650899 : Int32) = nI 679650899 from rfl, show (215205 : Int32) = nI 215205 from rfl, show (20579924 : Int32) = nI 20579924 from rfl, show (6605428 : Int32) = nI 6605428 from rfl]
  simp only [e1, e2, e3, e4, e5, e6, e7, e8]
  unfold ps_kw
  by_cases c1 : c = 513619
  · simp [c1]
  by_cases c2 : c = 679650899
  · simp [c2]
  by_cases c3 : c = 552909459
  · simp [c3]
  by_cases c4 : c = 644179
  · simp [c4]
  by_cases c5 : c = 168165
  · simp [c5]
  by_cases c6 : c = 215205
  · simp [c6]
  by_cases c7 : c = 20579924
  · simp [c7]
  by_cases c8 : c = 6605428
  · simp [c8]
  simp [c1, c2, c3, c4, c5, c6, c7, c8]
/-- the lines from here on -/
def ps_Lall (b : Nat → Nat) (n : Nat) : Nat → ps_Q → Nat → Except (Nat × Nat) ps_Q
  | 0, Q, _ => .ok Q
  | f + 1, Q, p => if ps_tk b n p = 0 then .ok Q else match ps_Lend b n (ps_Lkw b n Q p (ps_kwAt b n p)) with | .error e => .error e | .ok x => ps_Lall b n f x.1.setl x.2
def ps_COF (I0 : Nat → Nat → Int32) (t : Bool) (b : Nat → Nat) (n : Nat) (r : Except (Nat × Nat) ps_Q) (J : Nat → Nat → Int32) : Prop := match r with | .ok Q => ps_OK I0 (ps_T2 t) b n Q n J ∧ ps_Qw Q ∧ Q.lns ≤ n | .error e => ps_WK I0 (ps_T2 t) b n e.1 e.2 J ∧ 0 < e.1 ∧ e.1 < 5
section PSF54
variable {t v w : Bool} {I I0 : Nat → Nat → Int32} {L : Nat → Nat → Int64} {b : Nat → Nat} {n p : Nat} {Q : ps_Q}
theorem cx_line200 {r : Except (Nat × Nat) (ps_Q × Nat)} (h : ps_CO I0 t b n r I) : ∃ J, ps_CO I0 t b n (ps_Lend b n r) J ∧ fX5_readLine_200 1 (I, L, px_R t v w) = some (J, L, px_R t v w) := by
  cases r with
  | error e =>
    obtain ⟨h1, h2, h3⟩ := h
    obtain ⟨J, j1, j2⟩ := h1.line200 (L := L) (v := v) (w := w) (by omega) h3
    exact ⟨J, ⟨j1, h2, h3⟩, j2⟩
  | ok x =>
    obtain ⟨h1, hl⟩ := h
    unfold fX5_readLine_200
    obtain ⟨J, j1, j2⟩ := h1.adv (L := L) (v := v) (w := w)
    have htk := ps_tk_lt (b := b) (n := n) (p := ps_nx b n x.2)
    rw [j2, pb_1, show (J, L, px_R t v w).1 1 7 = nI (ps_tk b n (ps_nx b n x.2)) from j1.k]
    show ∃ J', ps_CO I0 t b n (if ps_tk b n (ps_nx b n x.2) ≠ 4 then Except.error (1, ps_nx b n x.2) else Except.ok (x.1, ps_nx b n (ps_nx b n x.2))) J' ∧ _
    by_cases c : ps_tk b n (ps_nx b n x.2) = 4
    · rw [if_neg (show ¬ ps_tk b n (ps_nx b n x.2) ≠ 4 from fun z => z c), if_pos (show nI (ps_tk b n (ps_nx b n x.2)) = 4 by rw [c]; rfl)]
      obtain ⟨H, k1, k2⟩ := j1.adv (L := L) (v := v) (w := w)
      rw [k2, pb_1]
      exact ⟨H, ⟨k1, hl⟩, rfl⟩
    · rw [if_pos c, if_neg (show ¬ nI (ps_tk b n (ps_nx b n x.2)) = 4 from fun q => c ((nI_eq (b := 4) (by omega) (by omega)).mp q)), show (1 : Int32) = nI 1 from rfl]
      obtain ⟨H, k1, k2⟩ := j1.fail (L := L) (v := v) (w := w) hl 1
      obtain ⟨G, g1, g2⟩ := k1.adv (L := L) (t := t) (v := v) (w := w) (ps_T2_le t)
      rw [k2, pb_1, g2, pb_1]
      exact ⟨G, ⟨g1, by show 0 < 1; omega, by show 1 < 5; omega⟩, rfl⟩
theorem cx_lset (h : ps_OK I0 (ps_T2 t) b n Q p I) (hw : ps_Qw Q) {cur : Option Nat} {k : Nat} (f : Nat → ps_Q) (hk : I (ps_T2 t) k = ps_e1 cur) (hcur : ∀ q, cur = some q → q < 2 ^ 31) {lo hi : Nat} (hh : hi < 1000) (hlo : lo ≤ hi) (hset : ∀ x J, ps_OK I0 (ps_T2 t) b n Q (ps_nx b n p) J → ps_OK I0 (ps_T2 t) b n (f x) (ps_nx b n p) (hp_u J (ps_T2 t) k (nI x)) ∧ ps_Ql (f x)) : ∃ J, ps_CO I0 t b n (match ps_Lset b n cur p lo hi with | .error e => .error e | .ok x => .ok (f x.1, x.2)) J ∧ (fx_b2 (fX5_readSetting 1 (I (ps_T2 t) k) (nI lo) (nI hi) (I, L, px_R t v w)) fun r hh => fx_let (hp_sI hh (ps_T2 t) k r) fun h2 => some h2) = some (J, L, px_R t v w) := by
  have hT := ps_T2_le t
  rw [hk]
  rcases h.setting (L := L) (v := v) (w := w) hw.l hcur hh hlo with ⟨x, J, e1, q1, q2, j1, j2⟩ | ⟨e, g, J, q1, q2, e1, j1, r, j2⟩
  · rw [e1, j2, pb_2, pl_let]
    exact ⟨_, hset x J j1, rfl⟩
  · rw [e1, j2, pb_2, pl_let]
    exact ⟨_, ⟨j1.set hT (by omega) (by omega) (fun s hs => by omega), q1, q2⟩, rfl⟩
theorem cx_bind {f : Option hp_T} {g : hp_T → Option hp_T} {r : Except (Nat × Nat) (ps_Q × Nat)} (h : ∃ J, ps_CO I0 t b n r J ∧ f = some (J, L, px_R t v w)) : ∃ J, ps_CO I0 t b n (ps_Lend b n r) J ∧ (fx_b1 f fun h => fX5_readLine_200 1 h) = some (J, L, px_R t v w) := by
  obtain ⟨J, j1, rfl⟩ := h
  rw [pb_1]
  exact cx_line200 j1
theorem cx_bind2 {f : Option (Int32 × hp_T)} {k : Nat} {r : Except (Nat × Nat) (ps_Q × Nat)} (h : ∃ J, ps_CO I0 t b n r J ∧ (fx_b2 f fun r hh => fx_let (hp_sI hh (ps_T2 t) k r) fun h2 => some h2) = some (J, L, px_R t v w)) : ∃ J, ps_CO I0 t b n (ps_Lend b n r) J ∧ (fx_b2 f fun r hh => fx_let (hp_sI hh (ps_T2 t) k r) fun h2 => fX5_readLine_200 1 h2) = some (J, L, px_R t v w) := by
  obtain ⟨J, j1, j2⟩ := h
  cases f with
  | none => cases j2
  | some y =>
    obtain ⟨r, hh⟩ := y
    rw [pb_2, pl_let] at j2 ⊢
    injection j2 with j2
    rw [j2]
    exact cx_line200 j1
theorem cx_line (h : ps_OK I0 (ps_T2 t) b n Q p I) (hw : ps_Qw Q) : ∃ J, ps_CO I0 t b n (ps_Lend b n (ps_Lkw b n Q p (ps_kwAt b n p))) J ∧ fX5_readLine 1 (ps_T2 t) (I, L, px_R t v w) = some (J, L, px_R t v w) := by
  have hT := ps_T2_le t
  have hl := hw.l
  have htk := ps_tk_lt (b := b) (n := n) (p := p)
  unfold fX5_readLine ps_kwAt
  rw [show (I, L, px_R t v w).1 1 7 = nI (ps_tk b n p) from h.k]
  have bad : ∃ J, ps_CO I0 t b n (ps_Lend b n (.error (1, p))) J ∧ (fx_b1 (fX5_fail 1 1 (I, L, px_R t v w)) fun h197 => fX5_readLine_200 1 h197) = some (J, L, px_R t v w) := by
    obtain ⟨J, j1, j2⟩ := h.fail (L := L) (v := v) (w := w) hl 1
    exact cx_bind (g := fun _ => none) ⟨J, ⟨j1, by show 0 < 1; omega, by show 1 < 5; omega⟩, j2⟩
  by_cases c : ps_tk b n p = 2
  · rw [if_pos c, if_pos (show nI (ps_tk b n p) = 2 by rw [c]; rfl), show (I, L, px_R t v w).1 1 8 = nI (ps_tw b n p) from h.c.trans (by rw [(ps_tcd_w (Or.inr c)).1])]
    unfold fX5_readLine_16
    rw [ps_disp (ps_tw_lt h.p), show (I, L, px_R t v w).2.2 (ps_T2 t) 0 = ps_T2 t + 6 * 0 + 1 from pr_T2_0, show (I, L, px_R t v w).2.2 (ps_T2 t) 1 = ps_T2 t + 6 * 1 + 1 from pr_T2_1]
    generalize ps_kw (ps_tw b n p) = k
    unfold ps_Lkw
    by_cases c0 : k = some 0
    · rw [if_pos c0, if_pos c0]; exact cx_bind (g := fun _ => none) (cx_lplayer h hl (by omega))
    rw [if_neg c0, if_neg c0]
    by_cases c1 : k = some 1
    · rw [if_pos c1, if_pos c1]; exact cx_bind (g := fun _ => none) (cx_lplayer h hl (by omega))
    rw [if_neg c1, if_neg c1]
    by_cases c2 : k = some 2
    · rw [if_pos c2, if_pos c2]
      exact cx_bind2 (k := 2) (cx_lset (k := 2) h hw (fun x => Q.setp x) h.Q.pts (fun q e => by have := hw.pts q e; omega) (by omega) (by omega) (fun x J j1 => ⟨j1.setT pu_eq (by rw [pu_place (by decide)]; exact j1.Q.sbs) (by rw [pu_place (by decide)]; exact j1.Q.edg) (by rw [pu_place (by decide)]; exact j1.Q.fst) (by rw [pu_place (by decide)]; exact j1.Q.lns) rfl rfl rfl rfl rfl rfl, hl⟩))
    rw [if_neg c2, if_neg c2]
    by_cases c3 : k = some 3
    · rw [if_pos c3, if_pos c3]
      exact cx_bind2 (k := 3) (cx_lset (k := 3) h hw (fun x => Q.setb x) h.Q.sbs (fun q e => by have := hw.sbs q e; omega) (by omega) (by omega) (fun x J j1 => ⟨j1.setT (by rw [pu_place (by decide)]; exact j1.Q.pts) pu_eq (by rw [pu_place (by decide)]; exact j1.Q.edg) (by rw [pu_place (by decide)]; exact j1.Q.fst) (by rw [pu_place (by decide)]; exact j1.Q.lns) rfl rfl rfl rfl rfl rfl, hl⟩))
    rw [if_neg c3, if_neg c3]
    by_cases c4 : k = some 4
    · rw [if_pos c4, if_pos c4]
      exact cx_bind2 (k := 4) (cx_lset (k := 4) h hw (fun x => Q.sete x) h.Q.edg (fun q e => by have := hw.edg q e; omega) (by omega) (by omega) (fun x J j1 => ⟨j1.setT (by rw [pu_place (by decide)]; exact j1.Q.pts) (by rw [pu_place (by decide)]; exact j1.Q.sbs) pu_eq (by rw [pu_place (by decide)]; exact j1.Q.fst) (by rw [pu_place (by decide)]; exact j1.Q.lns) rfl rfl rfl rfl rfl rfl, hl⟩))
    rw [if_neg c4, if_neg c4]
    by_cases c5 : k = some 5
    · rw [if_pos c5, if_pos c5]; exact cx_bind (g := fun _ => none) (cx_lfree h hw)
    rw [if_neg c5, if_neg c5]
    by_cases c6 : k = some 6
    · rw [if_pos c6, if_pos c6]; exact cx_bind (g := fun _ => none) (cx_lstart h hw)
    rw [if_neg c6, if_neg c6]
    by_cases c7 : k = some 7
    · rw [if_pos c7, if_pos c7]; exact cx_bind (g := fun _ => none) (cx_lfirst h hw)
    rw [if_neg c7, if_neg c7]
    exact bad
  · rw [if_neg c, if_neg (show ¬ nI (ps_tk b n p) = 2 from fun q => c ((nI_eq (b := 2) (by omega) (by omega)).mp q))]
    exact bad
theorem ps_tk0 (hp : p ≤ n) : ps_tk b n p = 0 ↔ p = n := by
  unfold ps_tk
  constructor
  · intro h
    by_cases c : n ≤ p
    · omega
    · rw [if_neg c] at h
      split at h
      · split at h
        · split at h <;> omega
        · omega
      · split at h
        · omega
        · split at h <;> omega
  · intro h
    rw [if_pos (by omega)]
theorem ps_WK.lines {k : Nat} (h : ps_WK I0 (ps_T2 t) b n p k I) (h0 : 0 < p) (h1 : p < 5) (f : Nat) (x : Int32) : fX5_readInto_35 (f + 1) 1 (ps_T2 t) x (I, L, px_R t v w) = fX5_readInto_78 1 (ps_T2 t) (I, L, px_R t v w) := by
  rw [fX5_readInto_35, show (I, L, px_R t v w).1 1 2 = nI p from h.fk, if_neg (show ¬ nI p = 0 from nI_ne0 (by omega) (by omega))]
  split
  · rfl
  · split <;> rfl
theorem cx_lines (hn9 : n ≤ 900) : ∀ (f : Nat) (Q : ps_Q) (p g : Nat) (I : Nat → Nat → Int32), n - p < f → f < g → ps_OK I0 (ps_T2 t) b n Q p I → ps_Qw Q → Q.lns ≤ p → ∃ J, ps_COF I0 t b n (ps_Lall b n f Q p) J ∧ fX5_readInto_35 g 1 (ps_T2 t) (nI Q.lns) (I, L, px_R t v w) = fX5_readInto_78 1 (ps_T2 t) (J, L, px_R t v w) := by
  intro f
  induction f with
  | zero => intro Q p g I h1; omega
  | succ f ih =>
    intro Q p g I h1 h2 h hw hlp
    have hT := ps_T2_le t
    have hp := h.p
    have htk := ps_tk_lt (b := b) (n := n) (p := p)
    obtain ⟨g, rfl⟩ : ∃ g', g = g' + 2 := ⟨g - 2, by omega⟩
    rw [fX5_readInto_35, ps_Lall, show (I, L, px_R t v w).1 1 4 = nI n from h.rd.2.1, show (I, L, px_R t v w).1 1 7 = nI (ps_tk b n p) from h.k, show (I, L, px_R t v w).1 1 2 = 0 from h.fk, if_pos (show (0 : Int32) = 0 from rfl)]
    by_cases c : ps_tk b n p = 0
    · have e := (ps_tk0 hp).mp c
      rw [if_pos c, if_pos (show nI (ps_tk b n p) = 0 by rw [c]; rfl)]
      refine ⟨I, ⟨?_, hw, by omega⟩, by split <;> rfl⟩
      rw [← e]; rw [← e] at h; exact h
    · have hpn : p < n := by
        have : p ≠ n := fun z => c ((ps_tk0 (b := b) hp).mpr z)
        omega
      rw [if_neg c, if_neg (show ¬ nI n ≤ nI Q.lns from nI_ge (by omega) (by omega)), if_neg (show ¬ nI (ps_tk b n p) = 0 from nI_ne0 (by omega) (by omega))]
      obtain ⟨J, j1, j2⟩ := cx_line (L := L) (v := v) (w := w) h hw
      rw [j2, pb_1, pl_let, pl_let]
      cases e : ps_Lend b n (ps_Lkw b n Q p (ps_kwAt b n p)) with
      | error x =>
        rw [e] at j1
        obtain ⟨k1, k2, k3⟩ := j1
        have k4 := k1.set (a := ps_T2 t) (k := 6) (x := J (ps_T2 t) 6 + 1) hT (by omega) (by omega) (fun s hs => by omega)
        exact ⟨_, ⟨k4, k2, k3⟩, k4.lines k2 k3 g _⟩
      | ok x =>
        rw [e] at j1
        obtain ⟨k1, k2⟩ := j1
        obtain ⟨y, y1, y2, y3⟩ := ps_Lend_w e
        obtain ⟨z1, z2, z3, z4⟩ := ps_Lkw_w hw hp y1
        have y3 := y3 z3
        have e6 : J (ps_T2 t) 6 + 1 = nI (Q.lns + 1) := by rw [k1.Q.lns, nI_1, y2, z4]
        have k3 : ps_OK I0 (ps_T2 t) b n x.1.setl x.2 (hp_u J (ps_T2 t) 6 (J (ps_T2 t) 6 + 1)) := k1.setT (by rw [pu_place (by decide)]; exact k1.Q.pts) (by rw [pu_place (by decide)]; exact k1.Q.sbs) (by rw [pu_place (by decide)]; exact k1.Q.edg) (by rw [pu_place (by decide)]; exact k1.Q.fst) (by rw [pu_eq, k1.Q.lns, nI_1]; rfl) rfl rfl rfl rfl rfl rfl
        have el : x.1.setl.lns = Q.lns + 1 := by show x.1.lns + 1 = _; rw [y2, z4]
        have hw2 : ps_Qw x.1.setl := by
          rw [y2]
          exact ⟨z1.l, z1.pts, z1.sbs, z1.edg, z1.fst, z1.free, z1.sk, z1.st, z1.inj, z1.fs⟩
        obtain ⟨H, g1, g2⟩ := ih x.1.setl x.2 (g + 1) _ (by omega) (by omega) k3 hw2 (by omega)
        refine ⟨H, g1, ?_⟩
        rw [el] at g2
        rw [nI_1]
        exact g2
end PSF54
