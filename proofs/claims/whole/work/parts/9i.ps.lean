/-! ===== the reference's reader ===== -/
def ps_MQ (I : Nat → Nat → Int32) (Q : ps_Q) : Prop :=
  (I 293 0 = nI (Q.pts.getD 25)) ∧
  (I 293 1 = nI (Q.sbs.getD 6)) ∧
  (I 293 2 = nI (Q.edg.getD 100)) ∧
  (I 293 3 = nI (Q.fst.getD 0)) ∧
  (I 296 2 = if Q.pts = none then 0 else 1) ∧
  (I 296 3 = if Q.sbs = none then 0 else 1) ∧
  (I 296 4 = if Q.edg = none then 0 else 1) ∧
  (I 296 7 = if Q.fst = none then 0 else 1) ∧
  (I 293 4 = nI Q.lns) ∧
  (∀ s, s < 2 → I 293 (5 + s) = nI (Q.size s)) ∧
  (∀ s, s < 2 → I 293 (7 + s) = ps_e1 (Q.free s)) ∧
  (∀ s, s < 2 → I 297 s = if Q.stt s then 1 else 0) ∧
  (∀ s, s < 2 → Q.stt s = true → ∀ k, k < 6 → I 293 (9 + 6 * s + k) = nI (Q.start s k)) ∧
  (∀ s, s < 2 → ∀ w, w < 3 → ∀ p, p < Q.size s → I 293 (21 + 48 * s + 4 * p + w) = nI (Q.sk s p w)) ∧
  (∀ s, s < 2 → ∀ p, p < Q.size s → I 294 (12 * s + p) = Q.nm s p)
theorem ps_MQ.pts {I : Nat → Nat → Int32} {Q : ps_Q} (h : ps_MQ I Q) : I 293 0 = nI (Q.pts.getD 25) := h.1
theorem ps_MQ.sbs {I : Nat → Nat → Int32} {Q : ps_Q} (h : ps_MQ I Q) : I 293 1 = nI (Q.sbs.getD 6) := h.2.1
theorem ps_MQ.edg {I : Nat → Nat → Int32} {Q : ps_Q} (h : ps_MQ I Q) : I 293 2 = nI (Q.edg.getD 100) := h.2.2.1
theorem ps_MQ.fst {I : Nat → Nat → Int32} {Q : ps_Q} (h : ps_MQ I Q) : I 293 3 = nI (Q.fst.getD 0) := h.2.2.2.1
theorem ps_MQ.h2 {I : Nat → Nat → Int32} {Q : ps_Q} (h : ps_MQ I Q) : I 296 2 = if Q.pts = none then 0 else 1 := h.2.2.2.2.1
theorem ps_MQ.h3 {I : Nat → Nat → Int32} {Q : ps_Q} (h : ps_MQ I Q) : I 296 3 = if Q.sbs = none then 0 else 1 := h.2.2.2.2.2.1
theorem ps_MQ.h4 {I : Nat → Nat → Int32} {Q : ps_Q} (h : ps_MQ I Q) : I 296 4 = if Q.edg = none then 0 else 1 := h.2.2.2.2.2.2.1
theorem ps_MQ.h7 {I : Nat → Nat → Int32} {Q : ps_Q} (h : ps_MQ I Q) : I 296 7 = if Q.fst = none then 0 else 1 := h.2.2.2.2.2.2.2.1
theorem ps_MQ.lns {I : Nat → Nat → Int32} {Q : ps_Q} (h : ps_MQ I Q) : I 293 4 = nI Q.lns := h.2.2.2.2.2.2.2.2.1
theorem ps_MQ.size {I : Nat → Nat → Int32} {Q : ps_Q} (h : ps_MQ I Q) : ∀ s, s < 2 → I 293 (5 + s) = nI (Q.size s) := h.2.2.2.2.2.2.2.2.2.1
theorem ps_MQ.free {I : Nat → Nat → Int32} {Q : ps_Q} (h : ps_MQ I Q) : ∀ s, s < 2 → I 293 (7 + s) = ps_e1 (Q.free s) := h.2.2.2.2.2.2.2.2.2.2.1
theorem ps_MQ.stt {I : Nat → Nat → Int32} {Q : ps_Q} (h : ps_MQ I Q) : ∀ s, s < 2 → I 297 s = if Q.stt s then 1 else 0 := h.2.2.2.2.2.2.2.2.2.2.2.1
theorem ps_MQ.st {I : Nat → Nat → Int32} {Q : ps_Q} (h : ps_MQ I Q) : ∀ s, s < 2 → Q.stt s = true → ∀ k, k < 6 → I 293 (9 + 6 * s + k) = nI (Q.start s k) := h.2.2.2.2.2.2.2.2.2.2.2.2.1
theorem ps_MQ.sk {I : Nat → Nat → Int32} {Q : ps_Q} (h : ps_MQ I Q) : ∀ s, s < 2 → ∀ w, w < 3 → ∀ p, p < Q.size s → I 293 (21 + 48 * s + 4 * p + w) = nI (Q.sk s p w) := h.2.2.2.2.2.2.2.2.2.2.2.2.2.1
theorem ps_MQ.nm {I : Nat → Nat → Int32} {Q : ps_Q} (h : ps_MQ I Q) : ∀ s, s < 2 → ∀ p, p < Q.size s → I 294 (12 * s + p) = Q.nm s p := h.2.2.2.2.2.2.2.2.2.2.2.2.2.2
/-- no fault so far, a token before us -/
def ps_MK (I0 : Nat → Nat → Int32) (b : Nat → Nat) (n : Nat) (Q : ps_Q) (p : Nat) (I : Nat → Nat → Int32) : Prop :=
  (ps_mrd I b n) ∧
  (p ≤ n) ∧
  (ps_MT I b n p) ∧
  (I 290 14 = 0) ∧
  (ps_MQ I Q) ∧
  (∀ a, a ≠ 290 → a ≠ 293 → a ≠ 294 → a ≠ 296 → a ≠ 297 → I a = I0 a) ∧
  (∀ k, (k < 8 ∨ 15 < k) → I 290 k = I0 290 k)
theorem ps_MK.rd {I0 : Nat → Nat → Int32} {b : Nat → Nat} {n : Nat} {Q : ps_Q} {p : Nat} {I : Nat → Nat → Int32} (h : ps_MK I0 b n Q p I) : ps_mrd I b n := h.1
theorem ps_MK.p {I0 : Nat → Nat → Int32} {b : Nat → Nat} {n : Nat} {Q : ps_Q} {p : Nat} {I : Nat → Nat → Int32} (h : ps_MK I0 b n Q p I) : p ≤ n := h.2.1
theorem ps_MK.tok {I0 : Nat → Nat → Int32} {b : Nat → Nat} {n : Nat} {Q : ps_Q} {p : Nat} {I : Nat → Nat → Int32} (h : ps_MK I0 b n Q p I) : ps_MT I b n p := h.2.2.1
theorem ps_MK.fk {I0 : Nat → Nat → Int32} {b : Nat → Nat} {n : Nat} {Q : ps_Q} {p : Nat} {I : Nat → Nat → Int32} (h : ps_MK I0 b n Q p I) : I 290 14 = 0 := h.2.2.2.1
theorem ps_MK.Q {I0 : Nat → Nat → Int32} {b : Nat → Nat} {n : Nat} {Q : ps_Q} {p : Nat} {I : Nat → Nat → Int32} (h : ps_MK I0 b n Q p I) : ps_MQ I Q := h.2.2.2.2.1
theorem ps_MK.fr {I0 : Nat → Nat → Int32} {b : Nat → Nat} {n : Nat} {Q : ps_Q} {p : Nat} {I : Nat → Nat → Int32} (h : ps_MK I0 b n Q p I) : ∀ a, a ≠ 290 → a ≠ 293 → a ≠ 294 → a ≠ 296 → a ≠ 297 → I a = I0 a := h.2.2.2.2.2.1
theorem ps_MK.fl {I0 : Nat → Nat → Int32} {b : Nat → Nat} {n : Nat} {Q : ps_Q} {p : Nat} {I : Nat → Nat → Int32} (h : ps_MK I0 b n Q p I) : ∀ k, (k < 8 ∨ 15 < k) → I 290 k = I0 290 k := h.2.2.2.2.2.2
/-- behind a fault -/
def ps_MF (I0 : Nat → Nat → Int32) (f g : Nat) (I : Nat → Nat → Int32) : Prop :=
  (I 290 14 = nI f) ∧
  (I 290 15 = nI g) ∧
  (0 < f) ∧
  (f < 5) ∧
  (∀ a, a ≠ 290 → a ≠ 293 → a ≠ 294 → a ≠ 296 → a ≠ 297 → I a = I0 a) ∧
  (∀ k, (k < 8 ∨ 15 < k) → I 290 k = I0 290 k)
theorem ps_MF.fk {I0 : Nat → Nat → Int32} {f g : Nat} {I : Nat → Nat → Int32} (h : ps_MF I0 f g I) : I 290 14 = nI f := h.1
theorem ps_MF.fp {I0 : Nat → Nat → Int32} {f g : Nat} {I : Nat → Nat → Int32} (h : ps_MF I0 f g I) : I 290 15 = nI g := h.2.1
theorem ps_MF.f0 {I0 : Nat → Nat → Int32} {f g : Nat} {I : Nat → Nat → Int32} (h : ps_MF I0 f g I) : 0 < f := h.2.2.1
theorem ps_MF.f5 {I0 : Nat → Nat → Int32} {f g : Nat} {I : Nat → Nat → Int32} (h : ps_MF I0 f g I) : f < 5 := h.2.2.2.1
theorem ps_MF.fr {I0 : Nat → Nat → Int32} {f g : Nat} {I : Nat → Nat → Int32} (h : ps_MF I0 f g I) : ∀ a, a ≠ 290 → a ≠ 293 → a ≠ 294 → a ≠ 296 → a ≠ 297 → I a = I0 a := h.2.2.2.2.1
theorem ps_MF.fl {I0 : Nat → Nat → Int32} {f g : Nat} {I : Nat → Nat → Int32} (h : ps_MF I0 f g I) : ∀ k, (k < 8 ∨ 15 < k) → I 290 k = I0 290 k := h.2.2.2.2.2
section PSF58
variable {t v w : Bool} {I I0 : Nat → Nat → Int32} {L : Nat → Nat → Int64} {b : Nat → Nat} {n p f g : Nat} {Q Q' : ps_Q}
theorem ps_MQ.near {J : Nat → Nat → Int32} (e : ∀ a, a ≠ 290 → J a = I a) (h : ps_MQ I Q) : ps_MQ J Q := by
  obtain ⟨h1, h2, h3, h4, h5, h6, h7, h8, h9, h10, h11, h12, h13, h14, h15⟩ := h
  have e3 := e 293 (by omega)
  have e4 := e 294 (by omega)
  have e6 := e 296 (by omega)
  have e7 := e 297 (by omega)
  exact ⟨by rw [e3]; exact h1, by rw [e3]; exact h2, by rw [e3]; exact h3, by rw [e3]; exact h4, by rw [e6]; exact h5, by rw [e6]; exact h6, by rw [e6]; exact h7, by rw [e6]; exact h8, by rw [e3]; exact h9, fun s hs => by rw [e3]; exact h10 s hs, fun s hs => by rw [e3]; exact h11 s hs, fun s hs => by rw [e7]; exact h12 s hs, fun s hs q k hk => by rw [e3]; exact h13 s hs q k hk, fun s hs w hw p hp => by rw [e3]; exact h14 s hs w hw p hp, fun s hs p hp => by rw [e4]; exact h15 s hs p hp⟩
theorem ps_MK.upd (h : ps_MK I0 b n Q p I) {a k : Nat} {x : Int32} (ha : a = 293 ∨ a = 294 ∨ a = 296 ∨ a = 297) (hq : ps_MQ (hp_u I a k x) Q') : ps_MK I0 b n Q' p (hp_u I a k x) := by
  have e : ∀ c, c ≠ a → hp_u I a k x c = I c := fun c hc => pu_cell hc
  have e290 := e 290 (by omega)
  have e291 := e 291 (by omega)
  obtain ⟨r1, r2, r3, r4⟩ := h.rd
  obtain ⟨t1, t2, t3, t4, t5⟩ := h.tok
  exact ⟨⟨r1, by rw [e290]; exact r2, fun k hk => by rw [e291]; exact r3 k hk, r4⟩, h.p, ⟨by rw [e290]; exact t1, by rw [e290]; exact t2, by rw [e290]; exact t3, fun q => by rw [e290]; exact t4 q, fun q => by rw [e290]; exact t5 q⟩, by rw [e290]; exact h.fk, hq, fun c q1 q2 q3 q4 q5 => by rw [e c (by omega)]; exact h.fr c q1 q2 q3 q4 q5, fun k hk => by rw [e290]; exact h.fl k hk⟩
theorem ps_MF.upd (h : ps_MF I0 f g I) {a k : Nat} {x : Int32} (ha : a = 293 ∨ a = 294 ∨ a = 296 ∨ a = 297) : ps_MF I0 f g (hp_u I a k x) := by
  have e : ∀ c, c ≠ a → hp_u I a k x c = I c := fun c hc => pu_cell hc
  have e290 := e 290 (by omega)
  exact ⟨by rw [e290]; exact h.fk, by rw [e290]; exact h.fp, h.f0, h.f5, fun c q1 q2 q3 q4 q5 => by rw [e c (by omega)]; exact h.fr c q1 q2 q3 q4 q5, fun k hk => by rw [e290]; exact h.fl k hk⟩
theorem ps_MF.ne (h : ps_MF I0 f g I) : ¬ (I, L, px_R t v w).1 290 14 = 0 := fun q => nI_ne0 (n := f) h.f0 (by have := h.f5; omega) (h.fk.symm.trans q)
theorem ps_MK.token (h : ps_MK I0 b n Q p I) : ∃ J, ps_MK I0 b n Q (ps_nx b n p) J ∧ fX10_token 290 (I, L, px_R t v w) = some (J, L, px_R t v w) := by
  have hq := ps_tq_le (b := b) h.p
  obtain ⟨J, ⟨j1, j2, j3⟩, j4⟩ := cm_token (L := L) (t := t) (v := v) (w := w) h.rd hq.2.1 h.tok.1
  obtain ⟨r1, r2, r3, r4⟩ := h.rd
  exact ⟨J, ⟨⟨r1, (j2 8 (by omega)).trans r2, fun k hk => by rw [j3 291 (by omega)]; exact r3 k hk, r4⟩, ps_nx_le h.p, j1, (j2 14 (by omega)).trans h.fk, h.Q.near j3, fun a q1 q2 q3 q4 q5 => by rw [j3 a q1]; exact h.fr a q1 q2 q3 q4 q5, fun k hk => by rw [j2 k (by omega)]; exact h.fl k hk⟩, j4⟩
theorem ps_MK.goOn (h : ps_MK I0 b n Q p I) : ∃ J, ps_MK I0 b n Q (ps_nx b n p) J ∧ fX10_goOn 290 (I, L, px_R t v w) = some (J, L, px_R t v w) := by
  obtain ⟨J, j1, j2⟩ := h.token (L := L) (t := t) (v := v) (w := w)
  refine ⟨J, j1, ?_⟩
  unfold fX10_goOn
  rw [show (I, L, px_R t v w).1 290 14 = 0 from h.fk, if_pos rfl, j2, pb_1]
theorem ps_MF.goOn (h : ps_MF I0 f g I) : fX10_goOn 290 (I, L, px_R t v w) = some (I, L, px_R t v w) := by
  unfold fX10_goOn
  rw [if_neg h.ne]
theorem ps_MK.wrong (h : ps_MK I0 b n Q p I) {k : Nat} (k0 : 0 < k) (k5 : k < 5) : ∃ J, ps_MF I0 k p J ∧ fX10_wrong 290 (nI k) (I, L, px_R t v w) = some (J, L, px_R t v w) := by
  unfold fX10_wrong
  rw [show (I, L, px_R t v w).1 290 14 = 0 from h.fk, if_pos rfl, pl_let, pl_let]
  refine ⟨hp_u (hp_u I 290 14 (nI k)) 290 15 (nI p), ⟨by rw [pu_place (by decide), pu_eq], pu_eq, k0, k5, fun a q1 q2 q3 q4 q5 => by rw [pu_cell q1, pu_cell q1]; exact h.fr a q1 q2 q3 q4 q5, fun k hk => by rw [pu_place (by omega), pu_place (by omega)]; exact h.fl k hk⟩, ?_⟩
  show some (hp_u (hp_u I 290 14 (nI k)) 290 15 (hp_u I 290 14 (nI k) 290 10), L, px_R t v w) = _
  rw [pu_place (by decide), h.tok.2.1]
theorem ps_MF.wrong (h : ps_MF I0 f g I) (x : Int32) : fX10_wrong 290 x (I, L, px_R t v w) = some (I, L, px_R t v w) := by
  unfold fX10_wrong
  rw [if_neg h.ne]
theorem ps_MF.number (h : ps_MF I0 f g I) (x y : Int32) : fX10_number 290 x y (I, L, px_R t v w) = some (x, (I, L, px_R t v w)) := by
  unfold fX10_number fX10_number_20 fX10_number_48 fX10_number_63
  rw [if_neg h.ne, if_neg h.ne, if_neg h.ne, h.goOn, pb_1]
theorem ps_ms_tk : (ps_ms b n p = 1 ↔ ps_tk b n p = 3) ∧ (ps_ms b n p = 2 ↔ ps_tk b n p = 4) ∧ (ps_ms b n p = 3 ↔ ps_tk b n p = 0) ∧ (ps_ms b n p = 0 ↔ (ps_tk b n p = 1 ∨ ps_tk b n p = 2)) ∧ ps_ms b n p < 5 ∧ (ps_ms b n p = 0 → (ps_tk b n p = 1 ↔ ps_kw (ps_tw b n p) = none)) := by
  unfold ps_ms ps_tk
  by_cases c1 : n ≤ p
  · simp [c1]
  · simp only [if_neg c1]
    cases e1 : ps_isL (b p) with
    | true =>
      by_cases c2 : ps_spn ps_isL b n p - p ≤ 6
      · by_cases c3 : ps_kw (ps_tw b n p) = none
        · simp [c2, c3]
        · simp [c2, c3]
      · simp [c2]
    | false =>
      cases e2 : ps_isD (b p) with
      | true => simp
      | false =>
        by_cases c3 : b p = 59
        · simp [c3]
        · simp [c3]
theorem ps_MK.number (h : ps_MK I0 b n Q p I) {lo hi : Nat} (hh : hi < 1000) (hlo : lo ≤ hi) :
    (∃ x J, ps_num b n p lo hi = .ok x ∧ ps_MK I0 b n Q (ps_nx b n p) J ∧ fX10_number 290 (nI lo) (nI hi) (I, L, px_R t v w) = some (nI x, (J, L, px_R t v w))) ∨ (∃ k J, ps_num b n p lo hi = .error (k, p) ∧ ps_MF I0 k p J ∧ ∃ r : Int32, fX10_number 290 (nI lo) (nI hi) (I, L, px_R t v w) = some (r, (J, L, px_R t v w))) := by
  have hms := ps_ms_tk (b := b) (n := n) (p := p)
  obtain ⟨t1, t2, t3, t4, t5⟩ := h.tok
  unfold fX10_number ps_num
  rw [show (I, L, px_R t v w).1 290 14 = 0 from h.fk, if_pos (show (0 : Int32) = 0 from rfl), show (I, L, px_R t v w).1 290 11 = nI (ps_ms b n p) from t3]
  by_cases c3 : ps_tk b n p = 3
  · have c1 := hms.1.mpr c3
    obtain ⟨y, ⟨m1, m2, m3⟩, m4⟩ := t5 c1
    rw [c1, if_pos (show nI 1 = 1 from rfl), if_neg (show ¬ ps_tk b n p ≠ 3 from fun z => z c3)]
    unfold fX10_number_20 fX10_number_43
    rw [show (I, L, px_R t v w).1 290 14 = 0 from h.fk, if_pos (show (0 : Int32) = 0 from rfl), show (I, L, px_R t v w).1 290 12 = nI y from m4]
    have bad : ∃ J, ps_MF I0 2 p J ∧ ∃ r : Int32, (fx_b1 (fX10_wrong 290 2 (I, L, px_R t v w)) fun h45 => fX10_number_48 290 (nI lo) h45) = some (r, (J, L, px_R t v w)) := by
      obtain ⟨J, j1, j2⟩ := h.wrong (L := L) (t := t) (v := v) (w := w) (k := 2) (by omega) (by omega)
      rw [show (2 : Int32) = nI 2 from rfl, j2, pb_1]
      unfold fX10_number_48 fX10_number_63
      rw [if_neg j1.ne, j1.goOn, pb_1]
      exact ⟨J, j1, _, rfl⟩
    by_cases d1 : y < lo
    · rw [if_pos (nI_lt d1 (by omega)), if_pos (Or.inl (by omega))]
      obtain ⟨J, j1, j2⟩ := bad
      exact Or.inr ⟨2, J, rfl, j1, j2⟩
    · rw [if_neg (nI_nlt (by omega) (by omega))]
      by_cases d2 : y ≤ hi
      · rw [if_pos (nI_le d2 (by omega)), if_neg (by omega)]
        unfold fX10_number_48 fX10_number_63
        rw [show (I, L, px_R t v w).1 290 14 = 0 from h.fk, if_pos (show (0 : Int32) = 0 from rfl)]
        obtain ⟨J, j1, j2⟩ := h.goOn (L := L) (t := t) (v := v) (w := w)
        rw [j2, pb_1]
        refine Or.inl ⟨_, J, rfl, j1, ?_⟩
        show some (I 290 12, _) = _
        rw [m4, m2 (by omega)]
      · rw [if_neg (nI_ge (by omega) (by omega)), if_pos (Or.inr (by omega))]
        obtain ⟨J, j1, j2⟩ := bad
        exact Or.inr ⟨2, J, rfl, j1, j2⟩
  · have c1 : ¬ ps_ms b n p = 1 := fun z => c3 (hms.1.mp z)
    have c5 := hms.2.2.2.2.1
    rw [if_neg (show ¬ nI (ps_ms b n p) = 1 from fun q => c1 ((nI_eq (b := 1) (by omega) (by omega)).mp q)), if_pos c3]
    obtain ⟨J, j1, j2⟩ := h.wrong (L := L) (t := t) (v := v) (w := w) (k := 1) (by omega) (by omega)
    rw [show (1 : Int32) = nI 1 from rfl, j2, pb_1]
    unfold fX10_number_20 fX10_number_48 fX10_number_63
    rw [if_neg j1.ne, if_neg j1.ne, j1.goOn, pb_1]
    exact Or.inr ⟨1, J, rfl, j1, _, rfl⟩
theorem ps_MK.isOther (h : ps_MK I0 b n Q p I) : fX10_isOther 290 (I, L, px_R t v w) = some (if ps_tk b n p = 1 then 1 else 0, (I, L, px_R t v w)) := by
  have hms := ps_ms_tk (b := b) (n := n) (p := p)
  obtain ⟨t1, t2, t3, t4, t5⟩ := h.tok
  unfold fX10_isOther
  rw [show (I, L, px_R t v w).1 290 14 = 0 from h.fk, if_pos (show (0 : Int32) = 0 from rfl), show (I, L, px_R t v w).1 290 11 = nI (ps_ms b n p) from t3]
  by_cases c : ps_ms b n p = 0
  · have e := t4 c
    rw [if_pos (show nI (ps_ms b n p) = 0 by rw [c]; rfl), show (I, L, px_R t v w).1 290 12 = ps_kwI (ps_kw (ps_tw b n p)) from e.1]
    have hk := hms.2.2.2.2.2 c
    cases ek : ps_kw (ps_tw b n p) with
    | none => rw [if_pos (show ps_kwI none = -1 from rfl), if_pos (hk.mpr ek)]
    | some j =>
      have hj : j < 8 := by
        unfold ps_kw at ek
        repeat' split at ek
        all_goals first | (injection ek with ek; omega) | cases ek
      rw [if_neg (show ¬ ps_kwI (some j) = -1 from nI_ne_m1 (by omega)), if_neg (show ¬ ps_tk b n p = 1 from fun z => by rw [hk.mp z] at ek; cases ek)]
  · rw [if_neg (show ¬ nI (ps_ms b n p) = 0 from nI_ne0 (by omega) (by have := hms.2.2.2.2.1; omega)), if_neg (show ¬ ps_tk b n p = 1 from fun z => c (hms.2.2.2.1.mpr (Or.inl z)))]
theorem ps_MK.named (h : ps_MK I0 b n Q p I) (hl : ps_Ql Q) (c1 : ps_tk b n p = 1) {s : Nat} (hs : s < 2) : fX10_namedOf 290 (nI s) (I, L, px_R t v w) = some (ps_e1 (ps_fd Q s (nI (ps_tw b n p))), (I, L, px_R t v w)) := by
  have hms := ps_ms_tk (b := b) (n := n) (p := p)
  have e13 : I 290 13 = nI (ps_tw b n p) := (h.tok.2.2.2.1 (hms.2.2.2.1.mpr (Or.inl c1))).2
  have hz := hl s hs
  unfold fX10_namedOf ps_fd
  have key : ∀ m i f, i + m = Q.size s → m < f → fX10_namedOf_2 f 290 (nI s) (nI i) (I, L, px_R t v w) = some (ps_e1 (ps_nf (Q.nm s) (nI (ps_tw b n p)) m i), (I, L, px_R t v w)) := by
    intro m
    induction m with
    | zero =>
      intro i f h1 h2
      obtain ⟨f, rfl⟩ : ∃ f', f = f' + 1 := ⟨f - 1, by omega⟩
      rw [fX10_namedOf_2, show (5 : Int32) = nI 5 from rfl, nI_add, pg_pos (pi_in (by omega) (by omega)), pi_ix (by omega), show (I, L, px_R t v w).1 ((I, L, px_R t v w).2.2 290 4) (5 + s) = nI (Q.size s) from h.Q.size s hs, if_pos (nI_le (by omega) (by omega))]; rfl
    | succ m ih =>
      intro i f h1 h2
      obtain ⟨f, rfl⟩ : ∃ f', f = f' + 1 := ⟨f - 1, by omega⟩
      rw [fX10_namedOf_2, show (5 : Int32) = nI 5 from rfl, nI_add, pg_pos (pi_in (by omega) (by omega)), pi_ix (by omega), show (I, L, px_R t v w).1 ((I, L, px_R t v w).2.2 290 4) (5 + s) = nI (Q.size s) from h.Q.size s hs, if_neg (nI_ge (by omega) (by omega)), show (12 : Int32) = nI 12 from rfl, pk_mul, nI_add, pg_pos (pi_in (by omega) (by omega)), pi_ix (by omega), show (I, L, px_R t v w).1 ((I, L, px_R t v w).2.2 290 5) (12 * s + i) = Q.nm s i from h.Q.nm s hs i (by omega), show (I, L, px_R t v w).1 290 13 = nI (ps_tw b n p) from e13, ps_nf]
      by_cases c : Q.nm s i = nI (ps_tw b n p)
      · rw [if_pos c, if_pos c]; rfl
      · rw [if_neg c, if_neg c, pl_let, nI_1]
        exact ih (i + 1) f (by omega) (by omega)
  exact key (Q.size s) 0 fx_N (by omega) (by unfold fx_N; omega)
end PSF58
