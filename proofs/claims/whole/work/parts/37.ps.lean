/-! ===== who may go and come ===== -/
theorem ps_at_uniq {f : Nat → Int32} {p : Int32} {k : Nat} (hk : k < 6) (h : ∀ j, j < 6 → (f j = p ↔ j = k)) : ps_at f p 6 0 = k + 1 := by
  by_cases z : ps_at f p 6 0 = 0
  · exact absurd ((h k hk).mpr rfl) (ps_at_none z k (by omega) (by omega))
  · obtain ⟨i, -, h1, h2, h3⟩ := ps_at_some z
    rw [h2, (h i (by omega)).mp h3]
theorem ps_at_zero {f : Nat → Int32} {p : Int32} (h : ∀ j, j < 6 → f j ≠ p) : ps_at f p 6 0 = 0 := by
  by_cases z : ps_at f p 6 0 = 0
  · exact z
  · obtain ⟨i, -, h1, h2, h3⟩ := ps_at_some z
    exact absurd h3 (h i (by omega))
theorem ps_st_iff {W : ps_W} (w1 : ps_wfW W) {s : Nat} (hs : s < 2) {p : Nat} (hp : p < 2 ^ 31) : ps_start W s (nI p) = ps_st W s p := by
  have hz := w1.size s hs
  rw [Bool.eq_iff_iff]
  simp only [ps_start, ps_st, decide_eq_true_eq, List.any_eq_true, List.mem_range, beq_iff_eq]
  constructor
  · intro z
    obtain ⟨i, -, h1, h2, h3⟩ := ps_at_some z
    have := w1.st s hs i (by omega)
    exact ⟨i, by omega, (nI_eq (by omega) hp).mp h3⟩
  · rintro ⟨i, h1, h2⟩ z
    exact ps_at_none z i (by omega) (by omega) (by rw [h2])
theorem ps_in_iff {W : ps_W} {C : ps_C} (w1 : ps_wfW W) (w0 : ps_wfC W C) {s : Nat} (hs : s < 2) {p : Nat} (hp : p < 2 ^ 31) : ps_in C s p = decide (ps_spot C s (nI p) ≠ 0) := by
  have hz := w1.size s hs
  rw [Bool.eq_iff_iff, decide_eq_true_eq]
  unfold ps_spot
  simp only [ps_in, List.any_eq_true, List.mem_range, beq_iff_eq]
  constructor
  · rintro ⟨i, h1, h2⟩ z
    exact ps_at_none z i (by omega) (by omega) (by rw [h2])
  · intro z
    obtain ⟨i, -, h1, h2, h3⟩ := ps_at_some z
    have := w0.six s hs i (by omega)
    exact ⟨i, by omega, (nI_eq (by omega) hp).mp h3⟩
/-- the place on the court -/
def ps_onc (W : ps_W) (C : ps_C) (s p : Nat) : Nat := if W.free s = some p then C.fs s else if ps_spot C s (nI p) = C.fs s then 0 else ps_spot C s (nI p)
theorem ps_onc_eq {W : ps_W} {C : ps_C} (w1 : ps_wfW W) (w0 : ps_wfC W C) {s : Nat} (hs : s < 2) {p : Nat} (hp : p < 2 ^ 31) : ps_at (ps_on W C s) (nI p) 6 0 = ps_onc W C s p := by
  have hz := w1.size s hs
  have hfs := w0.fs s hs
  unfold ps_onc
  by_cases c : W.free s = some p
  · rw [if_pos c]
    have key : ∀ j, j < 6 → (ps_on W C s j = nI p ↔ C.fs s = j + 1) := by
      intro j hj
      unfold ps_on
      by_cases d : C.fs s = j + 1
      · rw [if_pos d, c]; simp [d, ps_e1]
      · rw [if_neg d]
        have h1 := w0.six s hs j hj
        have h2 := w0.sixf s hs j hj
        rw [nI_eq (by omega) hp]
        exact ⟨fun q => absurd (by rw [c, q]) h2, fun q => absurd q d⟩
    by_cases z : C.fs s = 0
    · rw [z]; exact ps_at_zero (fun j hj q => by have := (key j hj).mp q; omega)
    · have h6 : C.fs s ≤ 6 := by omega
      have := ps_at_uniq (f := ps_on W C s) (p := nI p) (k := C.fs s - 1) (by omega) (fun j hj => by rw [key j hj]; omega)
      rw [this]; omega
  · rw [if_neg c]
    have key : ∀ j, j < 6 → (ps_on W C s j = nI p ↔ C.six s j = p ∧ C.fs s ≠ j + 1) := by
      intro j hj
      unfold ps_on
      by_cases d : C.fs s = j + 1
      · rw [if_pos d]
        refine ⟨fun q => absurd ?_ c, fun q => absurd d q.2⟩
        cases e : W.free s with
        | none => rw [e] at q; exact absurd q.symm (nI_ne_m1 hp)
        | some r =>
          rw [e] at q
          have := w1.free s hs r e
          rw [(nI_eq (by omega) hp).mp q]
      · rw [if_neg d]
        have h1 := w0.six s hs j hj
        rw [nI_eq (by omega) hp]
        simp [d]
    by_cases z : ps_spot C s (nI p) = 0
    · rw [z]
      have : ps_at (ps_on W C s) (nI p) 6 0 = 0 := ps_at_zero (fun j hj q => ps_at_none z j (by omega) (by omega) (by rw [((key j hj).mp q).1]))
      rw [this]; split <;> rfl
    · obtain ⟨i, -, h1, h2, h3⟩ := ps_at_some z
      have h4 := w0.six s hs i (by omega)
      have h3 := (nI_eq (by omega) hp).mp h3
      rw [show ps_spot C s (nI p) = i + 1 from h2]
      by_cases d : C.fs s = i + 1
      · rw [if_pos d.symm]
        refine ps_at_zero (fun j hj q => ?_)
        obtain ⟨q1, q2⟩ := (key j hj).mp q
        have := w0.inj s hs j i hj (by omega) (by rw [q1, h3])
        omega
      · rw [if_neg (fun q => d q.symm)]
        refine ps_at_uniq (by omega) (fun j hj => ?_)
        rw [key j hj]
        constructor
        · rintro ⟨q1, q2⟩
          exact w0.inj s hs j i hj (by omega) (by rw [q1, h3])
        · rintro rfl; exact ⟨h3, d⟩
def ps_fit (A : ps_A) (s g c : Nat) : Bool := if ps_role A s g = 1 then decide (A.C.mate s g = some c) else decide (ps_role A s g = 0 ∧ A.C.mate s g = none ∧ ps_role A s c = 2)
def ps_judge (A : ps_A) (s g c : Nat) : Int32 :=
  if ps_over A then -2 else if A.C.lf s = 0 then -3 else if A.W.free s = some g ∨ ps_onc A.W A.C s g = 0 then -4 else if A.W.free s = some c ∨ ps_spot A.C s (nI c) ≠ 0 then -5 else if ps_fit A s g c then 0 else -6
def sp_maySub (A : ps_A) (a b c : Int32) : Int32 := if ps_pl A a b && ps_pl A a c then ps_judge A a.toNatClampNeg b.toNatClampNeg c.toNatClampNeg else -1
theorem ps_e1_eq {o : Option Nat} {p : Nat} (hp : p < 2 ^ 31) (h : ∀ q, o = some q → q < 2 ^ 31) : nI p = ps_e1 o ↔ o = some p := by
  cases o with
  | none => simp [ps_e1, nI_ne_m1 hp]
  | some q =>
    simp only [ps_e1, Option.some.injEq]
    rw [nI_eq hp (h q rfl)]
    exact eq_comm
theorem ps_free_lt {W : ps_W} (w1 : ps_wfW W) {s : Nat} (hs : s < 2) : ∀ q, W.free s = some q → q < 2 ^ 31 := fun q e => by
  have h1 := w1.free s hs q e
  have h2 := w1.size s hs
  omega
section PSH
variable {t v w : Bool} {A : ps_A} {I : Nat → Nat → Int32} {L : Nat → Nat → Int64}
theorem ps_spot_le (C : ps_C) (s : Nat) (p : Int32) : ps_spot C s p ≤ 6 := by
  have := ps_at_le (fun k => nI (C.six s k)) p 6 0
  unfold ps_spot; omega
theorem cx_onc (h0 : ps_wf A) (ho : A.on = true) (hX : ps_RX t A I) {s p : Nat} (hs : s < 2) (hp : p < 12) : fX9_spotOnCourt 0 (nI s) (nI p) (I, L, px_R t v w) = some (nI (ps_onc A.W A.C s p), (I, L, px_R t v w)) := by
  have w0 := h0.C ho
  have hf : A.C.fs s ≤ 6 := by rcases w0.fs s hs with h | ⟨h | h | h, -⟩ <;> omega
  have hl := ps_spot_le A.C s (nI p)
  unfold fX9_spotOnCourt ps_onc
  rw [show (I, L, px_R t v w).2.2 0 3 = 22 from rfl, cx_team hs, pb_2, show (I, L, px_R t v w).2.2 0 11 = ps_T t from rfl, cx_squad hs, pb_2, cx_spotOf (hX.C ho) hs, pb_2]
  show (if nI p = I (ps_T t + 6 * s + 1) 7 then some (I (22 + 5 * s + 1) 4, _) else if nI (ps_spot A.C s (nI p)) = I (22 + 5 * s + 1) 4 then _ else _) = _
  rw [(hX.W ho).free s hs, (hX.C ho).fs s hs]
  by_cases c : A.W.free s = some p
  · rw [if_pos ((ps_e1_eq (by omega) (ps_free_lt (h0.W ho) hs)).mpr c), if_pos c]
  · rw [if_neg (fun q => c ((ps_e1_eq (by omega) (ps_free_lt (h0.W ho) hs)).mp q)), if_neg c]
    by_cases d : ps_spot A.C s (nI p) = A.C.fs s
    · rw [if_pos (by rw [d]), if_pos d]; rfl
    · rw [if_neg (fun q => d ((nI_eq (by omega) (by omega)).mp q)), if_neg d]
theorem cx_fit (h0 : ps_wf A) (ho : A.on = true) (hX : ps_RX t A I) {s g c : Nat} (hs : s < 2) (hg : g < 12) (hc : c < 12) : fX9_areFit 0 (nI s) (nI g) (nI c) (I, L, px_R t v w) = some (if ps_fit A s g c then 1 else 0, (I, L, px_R t v w)) := by
  unfold fX9_areFit ps_fit
  rw [show (I, L, px_R t v w).2.2 0 3 = 22 from rfl, cx_team hs, pb_2, cx_role h0 ho hX hs hg, pb_2, pg_pos (pi_in hg (by omega)), pg_pos (pi_in hg (by omega)), pi_ix (by omega), cx_role h0 ho hX hs hc, pb_2]
  show (if nI (ps_role A s g) = 1 then (if I (px_R t v w (22 + 5 * s + 1) 1) g = nI c then _ else _) else if nI (ps_role A s g) = 0 then (if I (px_R t v w (22 + 5 * s + 1) 1) g = -1 then _ else _) else _) = _
  rw [pr_s hs (by omega), (hX.C ho).mate s hs g hg]
  have r1 : ∀ p, ps_role A s p = 0 ∨ ps_role A s p = 1 ∨ ps_role A s p = 2 := fun p => by unfold ps_role; split; simp; split <;> simp
  have hm := ps_mate_lt h0 ho hs g
  have m1 : ps_e1 (A.C.mate s g) = nI c ↔ A.C.mate s g = some c := by rw [eq_comm, ps_e1_eq (by omega) hm]
  have m2 := ps_e1_none hm
  rcases r1 g with e | e | e <;> rw [e]
  · rw [if_neg (show ¬ nI 0 = 1 by decide), if_pos (show nI 0 = 0 by decide), if_neg (show ¬ (0 : Nat) = 1 by decide)]
    by_cases d : A.C.mate s g = none
    · rw [if_pos (m2.mpr d)]
      rcases r1 c with e2 | e2 | e2 <;> rw [e2] <;> simp [d] <;> decide
    · rw [if_neg (fun q => d (m2.mp q))]; simp [d]
  · rw [if_pos (show nI 1 = 1 by decide), if_pos (show (1 : Nat) = 1 from rfl)]
    by_cases d : A.C.mate s g = some c
    · rw [if_pos (m1.mpr d)]; simp [d]
    · rw [if_neg (fun q => d (m1.mp q))]; simp [d]
  · rw [if_neg (show ¬ nI 2 = 1 by decide), if_neg (show ¬ nI 2 = 0 by decide), if_neg (show ¬ (2 : Nat) = 1 by decide)]; simp
theorem cx_judge (h0 : ps_wf A) (hX : ps_RX t A I) (a b c : Int32) : fX9_judgeSub 0 a b c (I, L, px_R t v w) = some (sp_maySub A a b c, (I, L, px_R t v w)) := by
  unfold fX9_judgeSub sp_maySub
  rw [cx_player h0 hX, pb_2]
  cases e : ps_pl A a b with
  | false => rfl
  | true =>
    rw [if_neg (by decide), cx_player h0 hX, pb_2]
    cases e2 : ps_pl A a c with
    | false => rfl
    | true =>
      obtain ⟨ho, s, hs, rfl, g, hg, hg2, rfl⟩ := ps_pl_of h0 e
      obtain ⟨-, s', hs', es, p, hp, hp2, rfl⟩ := ps_pl_of h0 e2
      obtain rfl := (nI_eq (by omega) (by omega)).mp es
      have w0 := h0.C ho
      have hlf := w0.lf s hs
      have hfr := ps_free_lt (h0.W ho) hs
      have hon : ps_onc A.W A.C s g ≤ 6 := by
        have := ps_spot_le A.C s (nI g)
        have := w0.fs s hs
        unfold ps_onc; split; omega; split <;> omega
      have hsp := ps_spot_le A.C s (nI p)
      rw [if_neg (by decide), cx_over w0 (h0.W ho) (hX.C ho) (hX.W ho), pb_2, nI_clamp (by omega), nI_clamp (by omega), nI_clamp (by omega), if_pos (show (true && true) = true from rfl)]
      unfold ps_judge
      cases ps_over A with
      | true => rfl
      | false =>
        rw [if_pos (by rfl), show (I, L, px_R t v w).2.2 0 3 = 22 from rfl, cx_team hs, pb_2, show (I, L, px_R t v w).2.2 0 11 = ps_T t from rfl, cx_squad hs, pb_2, cx_onc h0 ho hX hs hg2, pb_2, cx_spotOf (hX.C ho) hs, pb_2, cx_fit h0 ho hX hs hg2 hp2, pb_2, if_neg (show ¬ (false = true) by decide)]
        show (if 0 < I (22 + 5 * s + 1) 6 then (if nI g = I (ps_T t + 6 * s + 1) 7 then _ else if nI (ps_onc A.W A.C s g) = 0 then _ else if nI p = I (ps_T t + 6 * s + 1) 7 then _ else _) else _) = _
        rw [(hX.C ho).lf s hs, (hX.W ho).free s hs]
        by_cases c1 : A.C.lf s = 0
        · rw [c1, if_neg (by decide), if_pos rfl]
        · rw [if_pos (show (0 : Int32) < nI (A.C.lf s) from nI_lt (a := 0) (by omega) (by omega)), if_neg c1]
          by_cases c2 : A.W.free s = some g
          · rw [if_pos ((ps_e1_eq (by omega) hfr).mpr c2), if_pos (Or.inl c2)]
          · rw [if_neg (fun q => c2 ((ps_e1_eq (by omega) hfr).mp q))]
            by_cases c3 : ps_onc A.W A.C s g = 0
            · rw [if_pos (by rw [c3]; rfl), if_pos (Or.inr c3)]
            · rw [if_neg (nI_ne0 (by omega) (by omega)), if_neg (show ¬ (A.W.free s = some g ∨ ps_onc A.W A.C s g = 0) from fun q => q.elim c2 c3)]
              by_cases c4 : A.W.free s = some p
              · rw [if_pos ((ps_e1_eq (by omega) hfr).mpr c4), if_pos (Or.inl c4)]
              · rw [if_neg (fun q => c4 ((ps_e1_eq (by omega) hfr).mp q))]
                by_cases c5 : ps_spot A.C s (nI p) = 0
                · rw [if_pos (by rw [c5]; rfl), if_neg (show ¬ (A.W.free s = some p ∨ ps_spot A.C s (nI p) ≠ 0) from fun q => q.elim c4 (fun z => z c5))]
                  cases ps_fit A s g p <;> rfl
                · rw [if_neg (nI_ne0 (by omega) (by omega)), if_pos (Or.inr c5)]
end PSH
