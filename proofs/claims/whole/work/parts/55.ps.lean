/-! ===== one goes, one comes: what stays well-formed ===== -/
section PSZ
variable {A : ps_A}
theorem ps_in_of {C : ps_C} {s p : Nat} : ps_in C s p = true ↔ ∃ k, k < 6 ∧ C.six s k = p := by
  simp only [ps_in, List.any_eq_true, List.mem_range, beq_iff_eq]
theorem ps_wf_sub (h0 : ps_wf A) (ho : A.on = true) {s g c : Nat} (hs : s < 2) (hg : g < A.W.size s) (hc : c < A.W.size s) (hj : ps_judge A s g c = 0) : ps_wf (ps_sub A s g c) := by
  refine (ps_wf_push h0 ho).setC (fun _ => ?_) rfl
  have w0 := h0.C ho
  have w1 := h0.W ho
  have hz := w1.size s hs
  obtain ⟨j1, j2, j3, j4, j5, j6, j7⟩ := ps_judge0 hj
  have hcn : ∀ k, k < 6 → A.C.six s k ≠ c := fun k hk q => ps_at_none j6 k (by omega) (by omega) (by rw [q])
  have hgs := ps_onc_spot j3 j4
  obtain ⟨i, -, hi, hi2, hi3⟩ := ps_at_some hgs
  have hi5 : A.C.six s i = g := (nI_eq (by have := w0.six s hs i (by omega); omega) (by omega)).mp hi3
  have hgc : g ≠ c := fun q => hcn i (by omega) (by rw [hi5, q])
  have six' : ∀ s' k', (A.C.setsub s g c).six s' k' = if s' = s ∧ A.C.six s' k' = g then c else A.C.six s' k' := fun _ _ => rfl
  have mate' : ∀ s' p, (A.C.setsub s g c).mate s' p = if s' = s ∧ p = c then some g else if s' = s ∧ p = g then some c else A.C.mate s' p := fun _ _ => rfl
  have inx : ∀ s', s' ≠ s → ∀ p, ps_in (A.C.setsub s g c) s' p = ps_in A.C s' p := fun s' hne p => by
    rw [Bool.eq_iff_iff, ps_in_of, ps_in_of]
    refine exists_congr fun k => and_congr_right fun _ => ?_
    rw [six', if_neg (fun z => hne z.1)]
  have ins : ∀ p, ps_in (A.C.setsub s g c) s p = true ↔ (p = c ∨ (p ≠ g ∧ ps_in A.C s p = true)) := fun p => by
    rw [ps_in_of, ps_in_of]
    constructor
    · rintro ⟨k, hk, e⟩
      rw [six'] at e
      by_cases z : A.C.six s k = g
      · rw [if_pos ⟨rfl, z⟩] at e; exact Or.inl e.symm
      · rw [if_neg (fun q => z q.2)] at e
        exact Or.inr ⟨fun q => z (by rw [e, q]), k, hk, e⟩
    · rintro (rfl | ⟨h1, k, hk, e⟩)
      · exact ⟨i, by omega, by rw [six', if_pos ⟨rfl, hi5⟩]⟩
      · exact ⟨k, hk, by rw [six', if_neg (fun q => h1 (by rw [← e, q.2])), e]⟩
  have ing : ps_in A.C s g = true := ps_in_of.mpr ⟨i, by omega, hi5⟩
  have inc : ps_in A.C s c = false := by
    cases e : ps_in A.C s c with
    | false => rfl
    | true => obtain ⟨k, hk, q⟩ := ps_in_of.mp e; exact absurd q (hcn k hk)
  -- how the two stand to each other: the pair is old, or neither had one
  have pair : (A.C.mate s g = some c ∧ A.C.mate s c = some g) ∨ (A.C.mate s g = none ∧ A.C.mate s c = none ∧ ps_st A.W s g = true ∧ ps_st A.W s c = false) := by
    unfold ps_fit at j7
    by_cases r : ps_role A s g = 1
    · rw [if_pos r, decide_eq_true_eq] at j7
      exact Or.inl ⟨j7, (w0.mate s hs g c j7).2.2.1⟩
    · rw [if_neg r, decide_eq_true_eq] at j7
      obtain ⟨q1, q2, q3⟩ := j7
      refine Or.inr ⟨q2, ?_, ?_, ?_⟩
      · unfold ps_role at q3
        split at q3
        · omega
        · split at q3
          · assumption
          · omega
      · rw [← ps_st_iff w1 hs (by omega)]
        unfold ps_role at q1
        split at q1
        · assumption
        · first | omega | (split at q1 <;> omega)
      · rw [← ps_st_iff w1 hs (by omega)]
        unfold ps_role at q3
        split at q3
        · omega
        · rename_i z; simpa using z
  have inc' : ps_in (A.C.setsub s g c) s c = true := (ins c).mpr (Or.inl rfl)
  have ing' : ps_in (A.C.setsub s g c) s g = false := by
    cases e : ps_in (A.C.setsub s g c) s g with
    | false => rfl
    | true => exact ((ins g).mp e).elim (fun q => absurd q hgc) (fun q => absurd rfl q.1)
  have ino : ∀ p, p ≠ c → p ≠ g → ps_in (A.C.setsub s g c) s p = ps_in A.C s p := fun p h1 h2 => by
    rw [Bool.eq_iff_iff, ins]
    exact ⟨fun q => q.elim (fun e => absurd e h1) (fun e => e.2), fun q => Or.inr ⟨h2, q⟩⟩
  have oth : ∀ p q, A.C.mate s p = some q → p ≠ c → p ≠ g → q ≠ c ∧ q ≠ g := by
    intro p q e h1 h2
    have m3 := (w0.mate s hs p q e).2.2.1
    refine ⟨fun z => ?_, fun z => ?_⟩
    · rw [z] at m3
      rcases pair with ⟨p1, p2⟩ | ⟨p1, p2, p3, p4⟩
      · rw [p2] at m3; exact h2 (Option.some.inj m3).symm
      · rw [p2] at m3; cases m3
    · rw [z] at m3
      rcases pair with ⟨p1, p2⟩ | ⟨p1, p2, p3, p4⟩
      · rw [p1] at m3; exact h1 (Option.some.inj m3).symm
      · rw [p1] at m3; cases m3
  refine ⟨fun s' hs' k hk => ?_, fun s' hs' k hk => ?_, fun s' hs' a b ha hb e => ?_, w0.fs, w0.mv, fun s' hs' => ?_, w0.tn, w0.sc, w0.sc2, w0.sv, w0.pl, w0.x, w0.y, fun s' hs' p q e => ?_, fun s' hs' p q e hp => ?_, fun s' hs' p q e hp => ?_, fun s' hs' p hp e => ?_⟩
  · rw [six']; split
    · rename_i z; rw [z.1]; exact hc
    · exact w0.six s' hs' k hk
  · rw [six']; split
    · rename_i z; rw [z.1]; exact j5
    · exact w0.sixf s' hs' k hk
  · rw [six', six'] at e
    by_cases z : s' = s
    · subst z
      by_cases y1 : A.C.six s' a = g <;> by_cases y2 : A.C.six s' b = g
      · exact w0.inj s' hs' a b ha hb (by rw [y1, y2])
      · rw [if_pos ⟨rfl, y1⟩, if_neg (fun q => y2 q.2)] at e; exact absurd e.symm (hcn b hb)
      · rw [if_neg (fun q => y1 q.2), if_pos ⟨rfl, y2⟩] at e; exact absurd e (hcn a ha)
      · rw [if_neg (fun q => y1 q.2), if_neg (fun q => y2 q.2)] at e; exact w0.inj s' hs' a b ha hb e
    · rw [if_neg (fun q => z q.1), if_neg (fun q => z q.1)] at e; exact w0.inj s' hs' a b ha hb e
  · show (if s' = s then A.C.lf s' - 1 else A.C.lf s') ≤ 12
    have := w0.lf s' hs'
    split <;> omega
  · rw [mate'] at e
    by_cases z : s' = s
    · subst z
      by_cases y1 : p = c
      · rw [if_pos ⟨rfl, y1⟩] at e
        cases e
        rw [y1]
        exact ⟨hc, hg, by rw [mate', if_neg (fun q => hgc q.2), if_pos ⟨rfl, rfl⟩], j5⟩
      · rw [if_neg (fun q => y1 q.2)] at e
        by_cases y2 : p = g
        · rw [if_pos ⟨rfl, y2⟩] at e
          cases e
          rw [y2]
          exact ⟨hg, hc, by rw [mate', if_pos ⟨rfl, rfl⟩], j3⟩
        · rw [if_neg (fun q => y2 q.2)] at e
          obtain ⟨m1, m2, m3, m4⟩ := w0.mate s' hs' p q e
          obtain ⟨n1, n2⟩ := oth p q e y1 y2
          exact ⟨m1, m2, by rw [mate', if_neg (fun z => n1 z.2), if_neg (fun z => n2 z.2)]; exact m3, m4⟩
    · rw [if_neg (fun q => z q.1), if_neg (fun q => z q.1)] at e
      obtain ⟨m1, m2, m3, m4⟩ := w0.mate s' hs' p q e
      exact ⟨m1, m2, by rw [mate', if_neg (fun q => z q.1), if_neg (fun q => z q.1)]; exact m3, m4⟩
  · rw [mate'] at e
    by_cases z : s' = s
    · subst z
      by_cases y1 : p = c
      · rw [if_pos ⟨rfl, y1⟩] at e
        cases e
        rw [y1] at hp ⊢
        refine ⟨?_, by rw [inc', ing']; rfl⟩
        rcases pair with ⟨p1, p2⟩ | ⟨p1, p2, p3, p4⟩
        · exact (w0.role s' hs' c g p2 hp).1
        · exact absurd (show ps_st A.W s' c = true from hp) (by rw [p4]; decide)
      · rw [if_neg (fun q => y1 q.2)] at e
        by_cases y2 : p = g
        · rw [if_pos ⟨rfl, y2⟩] at e
          cases e
          rw [y2] at hp ⊢
          refine ⟨?_, by rw [inc', ing']; rfl⟩
          rcases pair with ⟨p1, p2⟩ | ⟨p1, p2, p3, p4⟩
          · exact (w0.role s' hs' g c p1 hp).1
          · exact p4
        · rw [if_neg (fun q => y2 q.2)] at e
          obtain ⟨n1, n2⟩ := oth p q e y1 y2
          rw [ino p y1 y2, ino q n1 n2]
          exact w0.role s' hs' p q e hp
    · rw [if_neg (fun q => z q.1), if_neg (fun q => z q.1)] at e
      rw [inx s' z, inx s' z]
      exact w0.role s' hs' p q e hp
  · rw [mate'] at e
    by_cases z : s' = s
    · subst z
      by_cases y1 : p = c
      · rw [if_pos ⟨rfl, y1⟩] at e
        cases e
        rw [y1] at hp
        rcases pair with ⟨p1, p2⟩ | ⟨p1, p2, p3, p4⟩
        · exact w0.role2 s' hs' c g p2 hp
        · exact p3
      · rw [if_neg (fun q => y1 q.2)] at e
        by_cases y2 : p = g
        · rw [if_pos ⟨rfl, y2⟩] at e
          cases e
          rw [y2] at hp
          rcases pair with ⟨p1, p2⟩ | ⟨p1, p2, p3, p4⟩
          · exact w0.role2 s' hs' g c p1 hp
          · exact absurd (show ps_st A.W s' g = false from hp) (by rw [p3]; decide)
        · rw [if_neg (fun q => y2 q.2)] at e
          exact w0.role2 s' hs' p q e hp
    · rw [if_neg (fun q => z q.1), if_neg (fun q => z q.1)] at e
      exact w0.role2 s' hs' p q e hp
  · rw [mate'] at e
    by_cases z : s' = s
    · subst z
      by_cases y1 : p = c
      · rw [if_pos ⟨rfl, y1⟩] at e; cases e
      · rw [if_neg (fun q => y1 q.2)] at e
        by_cases y2 : p = g
        · rw [if_pos ⟨rfl, y2⟩] at e; cases e
        · rw [if_neg (fun q => y2 q.2)] at e
          rw [ino p y1 y2]
          exact w0.nomate s' hs' p hp e
    · rw [if_neg (fun q => z q.1), if_neg (fun q => z q.1)] at e
      rw [inx s' z]
      exact w0.nomate s' hs' p hp e
end PSZ
