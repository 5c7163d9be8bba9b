/-! ===== who serves first, a start (the reference's side) ===== -/
section PSF61
variable {t v w : Bool} {I I0 : Nat → Nat → Int32} {L : Nat → Nat → Int64} {b : Nat → Nat} {n p f g : Nat} {Q Q' : ps_Q}
theorem ps_MQ.setfst (h : ps_MQ I Q) (x : Nat) (h3 : I 293 3 = nI x) (h7 : I 296 7 = 1) : ps_MQ I (Q.setfst x) := by
  obtain ⟨q1, q2, q3, q4, q5, q6, q7, q8, q9, q10, q11, q12, q13, q14, q15⟩ := h
  exact ⟨q1, q2, q3, h3, q5, q6, q7, h7, q9, q10, q11, q12, q13, q14, q15⟩
theorem ps_MQ.set3 (h : ps_MQ I Q) {k : Nat} {x : Int32} (hk : k = 3) : ps_MQ (hp_u I 293 k x) Q ↔ x = nI (Q.fst.getD 0) := by
  subst hk
  have e3 : ∀ k, k ≠ 3 → hp_u I 293 3 x 293 k = I 293 k := fun k hk => pu_place hk
  have e : ∀ a, a ≠ 293 → hp_u I 293 3 x a = I a := fun a ha => pu_cell ha
  obtain ⟨q1, q2, q3, q4, q5, q6, q7, q8, q9, q10, q11, q12, q13, q14, q15⟩ := h
  constructor
  · intro z
    have := z.fst
    rw [pu_eq] at this
    exact this
  · intro z
    exact ⟨by rw [e3 _ (by omega)]; exact q1, by rw [e3 _ (by omega)]; exact q2, by rw [e3 _ (by omega)]; exact q3, by rw [pu_eq]; exact z, by rw [e _ (by omega)]; exact q5, by rw [e _ (by omega)]; exact q6, by rw [e _ (by omega)]; exact q7, by rw [e _ (by omega)]; exact q8, by rw [e3 _ (by omega)]; exact q9, fun s' hs' => by rw [e3 _ (by omega)]; exact q10 s' hs', fun s' hs' => by rw [e3 _ (by omega)]; exact q11 s' hs', fun s' hs' => by rw [e _ (by omega)]; exact q12 s' hs', fun s' hs' e' k hk => by rw [e3 _ (by omega)]; exact q13 s' hs' e' k hk, fun s' hs' i hi k hk => by rw [e3 _ (by omega)]; exact q14 s' hs' i hi k hk, fun s' hs' k hk => by rw [e _ (by omega)]; exact q15 s' hs' k hk⟩
/-- a number of the told is set -/
theorem ps_MQ.setn (h : ps_MQ I Q) {k : Nat} {x : Int32} (hk : k < 5) (h0 : hp_u I 293 k x 293 0 = nI (Q'.pts.getD 25)) (h1 : hp_u I 293 k x 293 1 = nI (Q'.sbs.getD 6)) (h2 : hp_u I 293 k x 293 2 = nI (Q'.edg.getD 100)) (h3 : hp_u I 293 k x 293 3 = nI (Q'.fst.getD 0)) (h4 : hp_u I 293 k x 293 4 = nI Q'.lns) (g2 : Q'.pts = none ↔ Q.pts = none) (g3 : Q'.sbs = none ↔ Q.sbs = none) (g4 : Q'.edg = none ↔ Q.edg = none) (g7 : Q'.fst = none ↔ Q.fst = none) (e1 : Q'.size = Q.size) (e2 : Q'.stt = Q.stt) (e3 : Q'.free = Q.free) (e4 : Q'.nm = Q.nm) (e5 : Q'.sk = Q.sk) (e6 : Q'.start = Q.start) : ps_MQ (hp_u I 293 k x) Q' := by
  have f3 : ∀ j, 5 ≤ j → hp_u I 293 k x 293 j = I 293 j := fun j hj => pu_place (by omega)
  have e : ∀ a, a ≠ 293 → hp_u I 293 k x a = I a := fun a ha => pu_cell ha
  obtain ⟨q1, q2, q3, q4, q5, q6, q7, q8, q9, q10, q11, q12, q13, q14, q15⟩ := h
  refine ⟨h0, h1, h2, h3, ?_, ?_, ?_, ?_, h4, fun s hs => by rw [f3 _ (by omega), e1]; exact q10 s hs, fun s hs => by rw [f3 _ (by omega), e3]; exact q11 s hs, fun s hs => by rw [e _ (by omega), e2]; exact q12 s hs, fun s hs z j hj => by rw [f3 _ (by omega), e6]; rw [e2] at z; exact q13 s hs z j hj, fun s hs i hi j hj => by rw [f3 _ (by omega), e5]; rw [e1] at hj; exact q14 s hs i hi j hj, fun s hs j hj => by rw [e _ (by omega), e4]; rw [e1] at hj; exact q15 s hs j hj⟩
  · rw [e _ (by omega), q5]; simp only [g2]
  · rw [e _ (by omega), q6]; simp only [g3]
  · rw [e _ (by omega), q7]; simp only [g4]
  · rw [e _ (by omega), q8]; simp only [g7]
/-- a word has come -/
theorem ps_MQ.seth (h : ps_MQ I Q) {k : Nat} (h0 : Q'.pts.getD 25 = Q.pts.getD 25) (h1 : Q'.sbs.getD 6 = Q.sbs.getD 6) (h2 : Q'.edg.getD 100 = Q.edg.getD 100) (h3 : Q'.fst.getD 0 = Q.fst.getD 0) (g2 : hp_u I 296 k 1 296 2 = if Q'.pts = none then 0 else 1) (g3 : hp_u I 296 k 1 296 3 = if Q'.sbs = none then 0 else 1) (g4 : hp_u I 296 k 1 296 4 = if Q'.edg = none then 0 else 1) (g7 : hp_u I 296 k 1 296 7 = if Q'.fst = none then 0 else 1) (h4 : Q'.lns = Q.lns) (e1 : Q'.size = Q.size) (e2 : Q'.stt = Q.stt) (e3 : Q'.free = Q.free) (e4 : Q'.nm = Q.nm) (e5 : Q'.sk = Q.sk) (e6 : Q'.start = Q.start) : ps_MQ (hp_u I 296 k 1) Q' := by
  have e : ∀ a, a ≠ 296 → hp_u I 296 k 1 a = I a := fun a ha => pu_cell ha
  obtain ⟨q1, q2, q3, q4, q5, q6, q7, q8, q9, q10, q11, q12, q13, q14, q15⟩ := h
  exact ⟨by rw [e _ (by omega), h0]; exact q1, by rw [e _ (by omega), h1]; exact q2, by rw [e _ (by omega), h2]; exact q3, by rw [e _ (by omega), h3]; exact q4, g2, g3, g4, g7, by rw [e _ (by omega), h4]; exact q9, fun s hs => by rw [e _ (by omega), e1]; exact q10 s hs, fun s hs => by rw [e _ (by omega), e3]; exact q11 s hs, fun s hs => by rw [e _ (by omega), e2]; exact q12 s hs, fun s hs z j hj => by rw [e _ (by omega), e6]; rw [e2] at z; exact q13 s hs z j hj, fun s hs i hi j hj => by rw [e _ (by omega), e5]; rw [e1] at hj; exact q14 s hs i hi j hj, fun s hs j hj => by rw [e _ (by omega), e4]; rw [e1] at hj; exact q15 s hs j hj⟩
theorem cm_lfirst (h : ps_MK I0 b n Q p I) : ∃ J, ps_MO I0 b n (ps_Lfirst b n Q p) J ∧ (fx_b1 (fX10_once 290 (nI 7) (I, L, px_R t v w)) fun h137 => fx_b2 (fX10_sideHere 290 h137) fun r146 h146 => fx_let (hp_sI h146 (h137.2.2 290 4) (fx_ix (3 : Int32)) r146) fun h149 => fx_b1 (fX10_goOn 290 h149) fun h151 => fX10_readLine_162 290 h151) = fX10_readLine_162 290 (J, L, px_R t v w) := by
  unfold ps_Lfirst
  rcases cm_once (L := L) (t := t) (v := v) (w := w) h (k := 7) (by omega) (cur := Q.fst) (Q' := Q.setfst 0) h.Q.h7 (fun c => h.Q.seth rfl rfl rfl (by rw [c]; rfl) (by rw [pu_place (by decide)]; exact h.Q.h2) (by rw [pu_place (by decide)]; exact h.Q.h3) (by rw [pu_place (by decide)]; exact h.Q.h4) pu_eq rfl rfl rfl rfl rfl rfl rfl) with ⟨c, J, j1, j2⟩ | ⟨c, J, j1, j2⟩
  · rw [if_neg (show ¬ Q.fst ≠ none from fun z => z c), j2, pb_1]
    rcases j1.side (L := L) (t := t) (v := v) (w := w) with ⟨s, e, hs, k2⟩ | ⟨e, H, k1, k2⟩
    · rw [e, k2, pb_2, pl_let]
      have m1 : ps_MK I0 b n (Q.setfst s) (ps_nx b n p) (hp_u J 293 3 (nI s)) := j1.upd (Or.inl rfl) (j1.Q.setn (by omega) (by rw [pu_place (by decide)]; exact j1.Q.pts) (by rw [pu_place (by decide)]; exact j1.Q.sbs) (by rw [pu_place (by decide)]; exact j1.Q.edg) pu_eq (by rw [pu_place (by decide)]; exact j1.Q.lns) Iff.rfl Iff.rfl Iff.rfl ⟨fun z => (by cases z), fun z => (by cases z)⟩ rfl rfl rfl rfl rfl rfl)
      obtain ⟨G, g1, g2⟩ := m1.goOn (L := L) (t := t) (v := v) (w := w)
      refine ⟨G, g1, ?_⟩
      show fx_b1 (fX10_goOn 290 (hp_u J 293 3 (nI s), L, px_R t v w)) _ = _
      rw [g2, pb_1]
    · rw [e, k2, pb_2, pl_let]
      have m1 : ps_MF I0 1 (ps_nx b n p) (hp_u H 293 3 0) := k1.upd (by omega)
      refine ⟨_, m1, ?_⟩
      show fx_b1 (fX10_goOn 290 (hp_u H 293 3 0, L, px_R t v w)) _ = _
      rw [m1.goOn, pb_1]
  · rw [if_pos c, j2, pb_1, j1.side, pb_2, pl_let]
    have m1 : ps_MF I0 3 p (hp_u J 293 3 0) := j1.upd (by omega)
    refine ⟨_, m1, ?_⟩
    show fx_b1 (fX10_goOn 290 (hp_u J 293 3 0, L, px_R t v w)) _ = _
    rw [m1.goOn, pb_1]
/-- a line's end -/
def ps_ME (I0 : Nat → Nat → Int32) (b : Nat → Nat) (n : Nat) (r : Except (Nat × Nat) (ps_Q × Nat)) (J : Nat → Nat → Int32) : Prop := match r with | .ok x => ps_MK I0 b n x.1.setl x.2 J | .error e => ps_MF I0 e.1 e.2 J
theorem cm_line182 (h : ps_MF I0 f g I) : ∃ J, ps_MF I0 f g J ∧ fX10_readLine_182 290 (I, L, px_R t v w) = some (J, L, px_R t v w) := by
  unfold fX10_readLine_182
  rw [h.goOn, pb_1, pl_let]
  exact ⟨_, h.upd (a := 293) (k := 4) (x := I 293 4 + 1) (by omega), rfl⟩
theorem cm_line162 {r : Except (Nat × Nat) (ps_Q × Nat)} (h : ps_MO I0 b n r I) : ∃ J, ps_ME I0 b n (ps_Lend b n r) J ∧ fX10_readLine_162 290 (I, L, px_R t v w) = some (J, L, px_R t v w) := by
  unfold fX10_readLine_162
  cases r with
  | error e =>
    have h : ps_MF I0 e.1 e.2 I := h
    obtain ⟨J, j1, j2⟩ := cm_line182 (L := L) (t := t) (v := v) (w := w) h
    rw [if_neg h.ne, j2]
    exact ⟨J, j1, rfl⟩
  | ok x =>
    have h : ps_MK I0 b n x.1 (ps_nx b n x.2) I := h
    have hms := ps_ms_tk (b := b) (n := n) (p := ps_nx b n x.2)
    rw [show (I, L, px_R t v w).1 290 14 = 0 from h.fk, if_pos (show (0 : Int32) = 0 from rfl), show (I, L, px_R t v w).1 290 11 = nI (ps_ms b n (ps_nx b n x.2)) from h.tok.2.2.1]
    show ∃ J', ps_ME I0 b n (if ps_tk b n (ps_nx b n x.2) ≠ 4 then Except.error (1, ps_nx b n x.2) else Except.ok (x.1, ps_nx b n (ps_nx b n x.2))) J' ∧ _
    by_cases c : ps_tk b n (ps_nx b n x.2) = 4
    · rw [if_neg (show ¬ ps_tk b n (ps_nx b n x.2) ≠ 4 from fun z => z c), hms.2.1.mpr c, if_pos (show nI 2 = 2 from rfl)]
      unfold fX10_readLine_182
      obtain ⟨J, j1, j2⟩ := h.goOn (L := L) (t := t) (v := v) (w := w)
      rw [j2, pb_1, pl_let]
      refine ⟨hp_u J 293 4 (J 293 4 + 1), ?_, rfl⟩
      refine j1.upd (Or.inl rfl) (j1.Q.setn (by omega) (by rw [pu_place (by decide)]; exact j1.Q.pts) (by rw [pu_place (by decide)]; exact j1.Q.sbs) (by rw [pu_place (by decide)]; exact j1.Q.edg) (by rw [pu_place (by decide)]; exact j1.Q.fst) (by rw [pu_eq, j1.Q.lns, nI_1]; rfl) Iff.rfl Iff.rfl Iff.rfl Iff.rfl rfl rfl rfl rfl rfl rfl)
    · have c5 := hms.2.2.2.2.1
      rw [if_pos c, if_neg (show ¬ nI (ps_ms b n (ps_nx b n x.2)) = 2 from fun q => c (hms.2.1.mp ((nI_eq (b := 2) (by omega) (by omega)).mp q)))]
      obtain ⟨H, k1, k2⟩ := h.wrong (L := L) (t := t) (v := v) (w := w) (k := 1) (by omega) (by omega)
      obtain ⟨G, g1, g2⟩ := cm_line182 (L := L) (t := t) (v := v) (w := w) k1
      rw [show (1 : Int32) = nI 1 from rfl, k2, pb_1, g2]
      exact ⟨G, g1, rfl⟩
end PSF61
