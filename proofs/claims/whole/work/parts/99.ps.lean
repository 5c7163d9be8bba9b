/-! ===== how a line is read ===== -/
def ps_nx (b : Nat → Nat) (n p : Nat) : Nat := ps_tp b n (ps_tq b n p)
def ps_num (b : Nat → Nat) (n p lo hi : Nat) : Except (Nat × Nat) Nat := if ps_tk b n p ≠ 3 then .error (1, p) else if ps_tn2 b n p < lo ∨ hi < ps_tn2 b n p then .error (2, p) else .ok (ps_tn2 b n p)
def ps_fd (Q : ps_Q) (s : Nat) (c : Int32) : Option Nat := ps_nf (Q.nm s) c (Q.size s) 0
def ps_Lset (b : Nat → Nat) (n : Nat) (cur : Option Nat) (p lo hi : Nat) : Except (Nat × Nat) (Nat × Nat) :=
  if cur ≠ none then .error (3, p) else match ps_num b n (ps_nx b n p) lo hi with | .error e => .error e | .ok x => .ok (x, ps_nx b n p)
def ps_Q.add (Q : ps_Q) (s : Nat) (c : Int32) (x y z : Nat) : ps_Q := ps_Q.mk Q.pts Q.sbs Q.edg Q.fst Q.lns (fun s' => if s' = s then Q.size s' + 1 else Q.size s') Q.free Q.stt Q.start (fun s' p w => if s' = s ∧ p = Q.size s then (if w = 0 then x else if w = 1 then y else z) else Q.sk s' p w) (fun s' p => if s' = s ∧ p = Q.size s then c else Q.nm s' p)
def ps_Lplayer (b : Nat → Nat) (n : Nat) (Q : ps_Q) (s p : Nat) : Except (Nat × Nat) (ps_Q × Nat) :=
  if 12 ≤ Q.size s then .error (2, p) else if ps_tk b n (ps_nx b n p) ≠ 1 then .error (1, ps_nx b n p)
  else if ps_fd Q 0 (nI (ps_tw b n (ps_nx b n p))) ≠ none ∨ ps_fd Q 1 (nI (ps_tw b n (ps_nx b n p))) ≠ none then .error (3, ps_nx b n p)
  else match ps_num b n (ps_nx b n (ps_nx b n p)) 0 99 with
    | .error e => .error e
    | .ok x => match ps_num b n (ps_nx b n (ps_nx b n (ps_nx b n p))) 0 99 with
      | .error e => .error e
      | .ok y => match ps_num b n (ps_nx b n (ps_nx b n (ps_nx b n (ps_nx b n p)))) 0 99 with
        | .error e => .error e
        | .ok z => .ok (Q.add s (nI (ps_tw b n (ps_nx b n p))) x y z, ps_nx b n (ps_nx b n (ps_nx b n (ps_nx b n p))))
def ps_inB (Q : ps_Q) (s q m : Nat) : Bool := decide (ps_at (fun k => nI (Q.start s k)) (nI q) m 0 ≠ 0)
def ps_Q.setf (Q : ps_Q) (s q : Nat) : ps_Q := ps_Q.mk Q.pts Q.sbs Q.edg Q.fst Q.lns Q.size (fun s' => if s' = s then some q else Q.free s') Q.stt Q.start Q.sk Q.nm
def ps_Q.setfst (Q : ps_Q) (x : Nat) : ps_Q := ps_Q.mk Q.pts Q.sbs Q.edg (some x) Q.lns Q.size Q.free Q.stt Q.start Q.sk Q.nm
def ps_Q.setl (Q : ps_Q) : ps_Q := ps_Q.mk Q.pts Q.sbs Q.edg Q.fst (Q.lns + 1) Q.size Q.free Q.stt Q.start Q.sk Q.nm
def ps_Q.setp (Q : ps_Q) (x : Nat) : ps_Q := ps_Q.mk (some x) Q.sbs Q.edg Q.fst Q.lns Q.size Q.free Q.stt Q.start Q.sk Q.nm
def ps_Q.setb (Q : ps_Q) (x : Nat) : ps_Q := ps_Q.mk Q.pts (some x) Q.edg Q.fst Q.lns Q.size Q.free Q.stt Q.start Q.sk Q.nm
def ps_Q.sete (Q : ps_Q) (x : Nat) : ps_Q := ps_Q.mk Q.pts Q.sbs (some x) Q.fst Q.lns Q.size Q.free Q.stt Q.start Q.sk Q.nm
def ps_Q.puts (Q : ps_Q) (s m q : Nat) : ps_Q := ps_Q.mk Q.pts Q.sbs Q.edg Q.fst Q.lns Q.size Q.free Q.stt (fun s' k => if s' = s ∧ k = m then q else Q.start s' k) Q.sk Q.nm
def ps_Q.sett (Q : ps_Q) (s : Nat) : ps_Q := ps_Q.mk Q.pts Q.sbs Q.edg Q.fst Q.lns Q.size Q.free (fun s' => if s' = s then true else Q.stt s') Q.start Q.sk Q.nm
def ps_Lfree (b : Nat → Nat) (n : Nat) (Q : ps_Q) (p : Nat) : Except (Nat × Nat) (ps_Q × Nat) :=
  if ps_tk b n (ps_nx b n p) ≠ 1 then .error (1, ps_nx b n p) else match ps_fd Q 0 (nI (ps_tw b n (ps_nx b n p))) with
    | some q => if Q.free 0 ≠ none ∨ (Q.stt 0 && ps_inB Q 0 q 6) = true then .error (3, ps_nx b n p) else .ok (Q.setf 0 q, ps_nx b n p)
    | none => match ps_fd Q 1 (nI (ps_tw b n (ps_nx b n p))) with
      | some q => if Q.free 1 ≠ none ∨ (Q.stt 1 && ps_inB Q 1 q 6) = true then .error (3, ps_nx b n p) else .ok (Q.setf 1 q, ps_nx b n p)
      | none => .error (1, ps_nx b n p)
/-- the side that a token names -/
def ps_sideAt (b : Nat → Nat) (n p : Nat) : Option Nat := if ps_tk b n p = 2 then (if ps_kw (ps_tw b n p) = some 0 then some 0 else if ps_kw (ps_tw b n p) = some 1 then some 1 else none) else none
def ps_Lplace (b : Nat → Nat) (n s : Nat) : Nat → Nat → ps_Q → Nat → Except (Nat × Nat) (ps_Q × Nat)
  | 0, _, Q, p => .ok (Q.sett s, p)
  | r + 1, m, Q, p => if ps_tk b n (ps_nx b n p) ≠ 1 then .error (1, ps_nx b n p) else match ps_fd Q s (nI (ps_tw b n (ps_nx b n p))) with
    | none => .error (1, ps_nx b n p)
    | some q => if Q.free s = some q ∨ ps_inB Q s q m = true then .error (3, ps_nx b n p) else ps_Lplace b n s r (m + 1) (Q.puts s m q) (ps_nx b n p)
def ps_Lstart (b : Nat → Nat) (n : Nat) (Q : ps_Q) (p : Nat) : Except (Nat × Nat) (ps_Q × Nat) :=
  match ps_sideAt b n (ps_nx b n p) with
  | none => .error (1, ps_nx b n p)
  | some s => if Q.stt s = true then .error (3, ps_nx b n p) else ps_Lplace b n s 6 0 Q (ps_nx b n p)
def ps_Lfirst (b : Nat → Nat) (n : Nat) (Q : ps_Q) (p : Nat) : Except (Nat × Nat) (ps_Q × Nat) :=
  if Q.fst ≠ none then .error (3, p) else match ps_sideAt b n (ps_nx b n p) with | none => .error (1, ps_nx b n p) | some s => .ok (Q.setfst s, ps_nx b n p)
def ps_kwAt (b : Nat → Nat) (n p : Nat) : Option Nat := if ps_tk b n p = 2 then ps_kw (ps_tw b n p) else none
def ps_Lkw (b : Nat → Nat) (n : Nat) (Q : ps_Q) (p : Nat) (k : Option Nat) : Except (Nat × Nat) (ps_Q × Nat) :=
  if k = some 0 then ps_Lplayer b n Q 0 p else if k = some 1 then ps_Lplayer b n Q 1 p
  else if k = some 2 then (match ps_Lset b n Q.pts p 3 25 with | .error e => .error e | .ok x => .ok (Q.setp x.1, x.2))
  else if k = some 3 then (match ps_Lset b n Q.sbs p 0 12 with | .error e => .error e | .ok x => .ok (Q.setb x.1, x.2))
  else if k = some 4 then (match ps_Lset b n Q.edg p 0 300 with | .error e => .error e | .ok x => .ok (Q.sete x.1, x.2))
  else if k = some 5 then ps_Lfree b n Q p else if k = some 6 then ps_Lstart b n Q p else if k = some 7 then ps_Lfirst b n Q p else .error (1, p)
def ps_Lend (b : Nat → Nat) (n : Nat) (r : Except (Nat × Nat) (ps_Q × Nat)) : Except (Nat × Nat) (ps_Q × Nat) :=
  match r with | .error e => .error e | .ok x => if ps_tk b n (ps_nx b n x.2) ≠ 4 then .error (1, ps_nx b n x.2) else .ok (x.1, ps_nx b n (ps_nx b n x.2))
def ps_Ql (Q : ps_Q) : Prop := (∀ s, s < 2 → Q.size s ≤ 12)
/-- no fault so far, a token before us -/
def ps_OK (I0 : Nat → Nat → Int32) (T : Nat) (b : Nat → Nat) (n : Nat) (Q : ps_Q) (p : Nat) (I : Nat → Nat → Int32) : Prop :=
  (ps_rd I b n) ∧
  (p ≤ n) ∧
  (I 1 5 = nI (ps_tq b n p)) ∧
  (I 1 6 = nI p) ∧
  (I 1 7 = nI (ps_tk b n p)) ∧
  (I 1 8 = nI (ps_tcd b n p)) ∧
  (I 1 2 = 0) ∧
  (I 1 3 = -1) ∧
  (I 1 1 = 0) ∧
  (ps_QX I T Q) ∧
  (∀ a, a ≠ 1 → (a < T ∨ T + 12 < a) → I a = I0 a)
theorem ps_OK.rd {I0 : Nat → Nat → Int32} {T : Nat} {b : Nat → Nat} {n : Nat} {Q : ps_Q} {p : Nat} {I : Nat → Nat → Int32} (h : ps_OK I0 T b n Q p I) : ps_rd I b n := h.1
theorem ps_OK.p {I0 : Nat → Nat → Int32} {T : Nat} {b : Nat → Nat} {n : Nat} {Q : ps_Q} {p : Nat} {I : Nat → Nat → Int32} (h : ps_OK I0 T b n Q p I) : p ≤ n := h.2.1
theorem ps_OK.q {I0 : Nat → Nat → Int32} {T : Nat} {b : Nat → Nat} {n : Nat} {Q : ps_Q} {p : Nat} {I : Nat → Nat → Int32} (h : ps_OK I0 T b n Q p I) : I 1 5 = nI (ps_tq b n p) := h.2.2.1
theorem ps_OK.pl {I0 : Nat → Nat → Int32} {T : Nat} {b : Nat → Nat} {n : Nat} {Q : ps_Q} {p : Nat} {I : Nat → Nat → Int32} (h : ps_OK I0 T b n Q p I) : I 1 6 = nI p := h.2.2.2.1
theorem ps_OK.k {I0 : Nat → Nat → Int32} {T : Nat} {b : Nat → Nat} {n : Nat} {Q : ps_Q} {p : Nat} {I : Nat → Nat → Int32} (h : ps_OK I0 T b n Q p I) : I 1 7 = nI (ps_tk b n p) := h.2.2.2.2.1
theorem ps_OK.c {I0 : Nat → Nat → Int32} {T : Nat} {b : Nat → Nat} {n : Nat} {Q : ps_Q} {p : Nat} {I : Nat → Nat → Int32} (h : ps_OK I0 T b n Q p I) : I 1 8 = nI (ps_tcd b n p) := h.2.2.2.2.2.1
theorem ps_OK.fk {I0 : Nat → Nat → Int32} {T : Nat} {b : Nat → Nat} {n : Nat} {Q : ps_Q} {p : Nat} {I : Nat → Nat → Int32} (h : ps_OK I0 T b n Q p I) : I 1 2 = 0 := h.2.2.2.2.2.2.1
theorem ps_OK.fp {I0 : Nat → Nat → Int32} {T : Nat} {b : Nat → Nat} {n : Nat} {Q : ps_Q} {p : Nat} {I : Nat → Nat → Int32} (h : ps_OK I0 T b n Q p I) : I 1 3 = -1 := h.2.2.2.2.2.2.2.1
theorem ps_OK.tz {I0 : Nat → Nat → Int32} {T : Nat} {b : Nat → Nat} {n : Nat} {Q : ps_Q} {p : Nat} {I : Nat → Nat → Int32} (h : ps_OK I0 T b n Q p I) : I 1 1 = 0 := h.2.2.2.2.2.2.2.2.1
theorem ps_OK.Q {I0 : Nat → Nat → Int32} {T : Nat} {b : Nat → Nat} {n : Nat} {Q : ps_Q} {p : Nat} {I : Nat → Nat → Int32} (h : ps_OK I0 T b n Q p I) : ps_QX I T Q := h.2.2.2.2.2.2.2.2.2.1
theorem ps_OK.fr {I0 : Nat → Nat → Int32} {T : Nat} {b : Nat → Nat} {n : Nat} {Q : ps_Q} {p : Nat} {I : Nat → Nat → Int32} (h : ps_OK I0 T b n Q p I) : ∀ a, a ≠ 1 → (a < T ∨ T + 12 < a) → I a = I0 a := h.2.2.2.2.2.2.2.2.2.2
section PSF49
variable {t v w : Bool} {I I0 : Nat → Nat → Int32} {L : Nat → Nat → Int64} {b : Nat → Nat} {n p : Nat} {Q : ps_Q}
theorem ps_QX.near {J : Nat → Nat → Int32} {T : Nat} (e : ∀ a, T ≤ a → a ≤ T + 12 → J a = I a) (h : ps_QX I T Q) : ps_QX J T Q := by
  obtain ⟨h1, h2, h3, h4, h5, h6, h7, h8, h9, h10, h11⟩ := h
  exact ⟨by rw [e _ (by omega) (by omega)]; exact h1, by rw [e _ (by omega) (by omega)]; exact h2, by rw [e _ (by omega) (by omega)]; exact h3, by rw [e _ (by omega) (by omega)]; exact h4, by rw [e _ (by omega) (by omega)]; exact h5, fun s hs => by rw [e _ (by omega) (by omega)]; exact h6 s hs, fun s hs => by rw [e _ (by omega) (by omega)]; exact h7 s hs, fun s hs => by rw [e _ (by omega) (by omega)]; exact h8 s hs, fun s hs p hp => by rw [e _ (by omega) (by omega)]; exact h9 s hs p hp, fun s hs w hw p hp => by rw [e _ (by omega) (by omega)]; exact h10 s hs w hw p hp, fun s hs q k hk => by rw [e _ (by omega) (by omega)]; exact h11 s hs q k hk⟩
theorem ps_nx_le (hp : p ≤ n) : ps_nx b n p ≤ n := (ps_tp_le (ps_tq_le hp).2.1).2
theorem ps_OK.adv (h : ps_OK I0 (ps_T2 t) b n Q p I) : ∃ J, ps_OK I0 (ps_T2 t) b n Q (ps_nx b n p) J ∧ fX5_advance 1 (I, L, px_R t v w) = some (J, L, px_R t v w) := by
  have hT := ps_T2_le t
  have hq := ps_tq_le (b := b) h.p
  obtain ⟨J, ⟨j1, j2, j3, j4, j5, j6⟩, j7⟩ := cx_advance (L := L) (t := t) (v := v) (w := w) h.rd hq.2.1 h.q
  obtain ⟨r1, r2, r3, r4⟩ := h.rd
  exact ⟨J, ⟨⟨r1, (j5 4 (by decide) (by decide) (by decide) (by decide)).trans r2, fun k hk => by rw [j6 2 (by omega)]; exact r3 k hk, r4⟩, ps_nx_le h.p, j1, j2, j3, j4, by rw [j5 2 (by decide) (by decide) (by decide) (by decide)]; exact h.fk, by rw [j5 3 (by decide) (by decide) (by decide) (by decide)]; exact h.fp, by rw [j5 1 (by decide) (by decide) (by decide) (by decide)]; exact h.tz, h.Q.near (fun a q1 q2 => j6 a (by omega)), fun a q1 q2 => by rw [j6 a q1]; exact h.fr a q1 q2⟩, j7⟩
theorem ps_OK.fail (h : ps_OK I0 (ps_T2 t) b n Q p I) (hl : ps_Ql Q) (k : Nat) : ∃ J, ps_WK I0 (ps_T2 t) b n k p J ∧ fX5_fail 1 (nI k) (I, L, px_R t v w) = some (J, L, px_R t v w) := by
  have hT := ps_T2_le t
  unfold fX5_fail
  rw [show (I, L, px_R t v w).1 1 2 = 0 from h.fk, if_pos rfl, pl_let, pl_let]
  obtain ⟨r1, r2, r3, r4⟩ := h.rd
  have c0 : ∀ a, a ≠ 1 → hp_u (hp_u I 1 2 (nI k)) 1 3 (nI p) a = I a := fun a ha => by rw [pu_cell ha, pu_cell ha]
  have c1 : ∀ j, j ≠ 2 → j ≠ 3 → hp_u (hp_u I 1 2 (nI k)) 1 3 (nI p) 1 j = I 1 j := fun j q1 q2 => by rw [pu_place q2, pu_place q1]
  refine ⟨hp_u (hp_u I 1 2 (nI k)) 1 3 (nI p), ⟨⟨r1, by rw [c1 4 (by decide) (by decide)]; exact r2, fun j hj => by rw [c0 2 (by omega)]; exact r3 j hj, r4⟩, ⟨_, (ps_tq_le h.p).2.1, by rw [c1 5 (by decide) (by decide)]; exact h.q⟩, by rw [pu_place (by decide), pu_eq], pu_eq, by rw [c1 1 (by decide) (by decide)]; exact h.tz, fun s hs => ⟨Q.size s, hl s hs, by rw [c0 _ (by omega)]; exact h.Q.size s hs⟩, fun s hs => ⟨if Q.stt s then 6 else 0, by split <;> omega, by rw [c0 _ (by omega)]; exact h.Q.plc s hs⟩, fun a q1 q2 => by rw [c0 a q1]; exact h.fr a q1 q2⟩, ?_⟩
  show some (hp_u (hp_u I 1 2 (nI k)) 1 3 (hp_u I 1 2 (nI k) 1 6), L, px_R t v w) = _
  rw [pu_place (by decide), h.pl]
theorem ps_OK.num (h : ps_OK I0 (ps_T2 t) b n Q p I) (hl : ps_Ql Q) {lo hi : Nat} (hh : hi < 1000) (hlo : lo ≤ hi) :
    (∃ x, ps_num b n p lo hi = .ok x ∧ x ≤ hi ∧ lo ≤ x ∧ fX5_numberHere 1 (nI lo) (nI hi) (I, L, px_R t v w) = some (nI x, (I, L, px_R t v w))) ∨ (∃ k J, 0 < k ∧ k < 5 ∧ ps_num b n p lo hi = .error (k, p) ∧ ps_WK I0 (ps_T2 t) b n k p J ∧ ∃ r : Int32, fX5_numberHere 1 (nI lo) (nI hi) (I, L, px_R t v w) = some (r, (J, L, px_R t v w))) := by
  have htk : ps_tk b n p ≤ 5 := by
    unfold ps_tk
    split
    · omega
    · split
      · split
        · split <;> omega
        · omega
      · split
        · omega
        · split <;> omega
  unfold fX5_numberHere fX5_numberHere_32 ps_num
  obtain ⟨J1, a1, e1⟩ := h.fail (L := L) (v := v) (w := w) hl 1
  obtain ⟨J2, a2, e2⟩ := h.fail (L := L) (v := v) (w := w) hl 2
  rw [show (1 : Int32) = nI 1 from rfl, show (2 : Int32) = nI 2 from rfl, e1, pb_1, e2, pb_1, show (I, L, px_R t v w).1 1 7 = nI (ps_tk b n p) from h.k]
  by_cases c3 : ps_tk b n p = 3
  · have hpn : ¬ n ≤ p ∧ ps_isL (b p) = false ∧ ps_isD (b p) = true := by
      unfold ps_tk at c3
      by_cases y1 : n ≤ p
      · rw [if_pos y1] at c3; exact absurd c3 (by decide)
      rw [if_neg y1] at c3
      cases eL : ps_isL (b p) with
      | true =>
        rw [eL, if_pos rfl] at c3
        split at c3
        · split at c3 <;> exact absurd c3 (by decide)
        · exact absurd c3 (by decide)
      | false =>
        rw [eL, if_neg (by decide)] at c3
        cases eD : ps_isD (b p) with
        | true => exact ⟨y1, rfl, rfl⟩
        | false =>
          rw [eD, if_neg (by decide)] at c3
          split at c3 <;> exact absurd c3 (by decide)
    have ec : ps_tcd b n p = min 1000 (ps_tn2 b n p) := by
      unfold ps_tcd
      rw [if_neg hpn.1, hpn.2.1, if_neg (by decide), hpn.2.2, if_pos rfl]
    rw [if_pos (show nI (ps_tk b n p) = 3 by rw [c3]; rfl), if_neg (show ¬ ps_tk b n p ≠ 3 from fun q => q c3), show (I, L, px_R t v w).1 1 8 = nI (min 1000 (ps_tn2 b n p)) from h.c.trans (by rw [ec])]
    by_cases c4 : ps_tn2 b n p < lo
    · rw [if_pos (nI_lt (by omega) (by omega)), if_pos (Or.inl c4)]
      exact Or.inr ⟨2, J2, by omega, by omega, rfl, a2, _, rfl⟩
    · rw [if_neg (nI_nlt (by omega) (by omega))]
      by_cases c5 : hi < ps_tn2 b n p
      · rw [if_neg (nI_ge (by omega) (by omega)), if_pos (Or.inr c5)]
        exact Or.inr ⟨2, J2, by omega, by omega, rfl, a2, _, rfl⟩
      · rw [if_pos (nI_le (by omega) (by omega)), if_neg (show ¬ (ps_tn2 b n p < lo ∨ hi < ps_tn2 b n p) by omega), show min 1000 (ps_tn2 b n p) = ps_tn2 b n p by omega]
        exact Or.inl ⟨_, rfl, by omega, by omega, rfl⟩
  · rw [if_neg (show ¬ nI (ps_tk b n p) = 3 from fun q => c3 ((nI_eq (b := 3) (by omega) (by omega)).mp q)), if_pos c3]
    exact Or.inr ⟨1, J1, by omega, by omega, rfl, a1, _, rfl⟩
theorem ps_OK.setting (h : ps_OK I0 (ps_T2 t) b n Q p I) (hl : ps_Ql Q) {cur : Option Nat} (hcur : ∀ q, cur = some q → q < 2 ^ 31) {lo hi : Nat} (hh : hi < 1000) (hlo : lo ≤ hi) :
    (∃ x J, ps_Lset b n cur p lo hi = .ok (x, ps_nx b n p) ∧ lo ≤ x ∧ x ≤ hi ∧ ps_OK I0 (ps_T2 t) b n Q (ps_nx b n p) J ∧ fX5_readSetting 1 (ps_e1 cur) (nI lo) (nI hi) (I, L, px_R t v w) = some (nI x, (J, L, px_R t v w))) ∨ (∃ k g J, 0 < k ∧ k < 5 ∧ ps_Lset b n cur p lo hi = .error (k, g) ∧ ps_WK I0 (ps_T2 t) b n k g J ∧ ∃ r : Int32, fX5_readSetting 1 (ps_e1 cur) (nI lo) (nI hi) (I, L, px_R t v w) = some (r, (J, L, px_R t v w))) := by
  unfold fX5_readSetting ps_Lset
  by_cases c : cur = none
  · rw [if_pos ((ps_e1_none hcur).mpr c), if_neg (show ¬ cur ≠ none from fun q => q c)]
    unfold fX5_readSetting_10
    obtain ⟨J, j1, j2⟩ := h.adv (L := L) (v := v) (w := w)
    rw [j2, pb_1]
    rcases j1.num (L := L) (v := v) (w := w) hl hh hlo with ⟨x, e1, e2, e3, e4⟩ | ⟨k, H, k1, k2, e1, e2, r, e3⟩
    · rw [e1, e4, pb_2]
      exact Or.inl ⟨x, J, rfl, e3, e2, j1, rfl⟩
    · rw [e1, e3, pb_2]
      exact Or.inr ⟨k, _, H, k1, k2, rfl, e2, r, rfl⟩
  · rw [if_neg (fun q => c ((ps_e1_none hcur).mp q)), if_pos c, show (3 : Int32) = nI 3 from rfl]
    obtain ⟨J, j1, j2⟩ := h.fail (L := L) (v := v) (w := w) hl 3
    obtain ⟨r, H, k1, k2⟩ := j1.setting10 (L := L) (v := v) (w := w) (by omega) (by omega) (nI lo) (nI hi)
    rw [j2, pb_1, k2]
    exact Or.inr ⟨3, p, H, by omega, by omega, rfl, k1, r, rfl⟩
end PSF49
