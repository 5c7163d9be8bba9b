/-! ===== what a line keeps ===== -/
section PSF53
variable {b : Nat → Nat} {n p : Nat} {Q : ps_Q}
theorem ps_num_ok {lo hi x : Nat} (h : ps_num b n p lo hi = .ok x) : lo ≤ x ∧ x ≤ hi := by
  unfold ps_num at h
  by_cases c : ps_tk b n p ≠ 3
  · rw [if_pos c] at h; cases h
  rw [if_neg c] at h
  by_cases d : ps_tn2 b n p < lo ∨ hi < ps_tn2 b n p
  · rw [if_pos d] at h; cases h
  rw [if_neg d] at h
  injection h with e
  omega
theorem ps_nx_ge (hp : p ≤ n) : p ≤ ps_nx b n p ∧ ps_nx b n p ≤ n := by
  have h1 := ps_tq_le (b := b) hp
  have h2 := ps_tp_le (b := b) h1.2.1
  unfold ps_nx
  omega
theorem ps_Qw.add (hw : ps_Qw Q) {s : Nat} (hs : s < 2) (hz : Q.size s < 12) (c : Int32) {x y z : Nat} (hx : x ≤ 99) (hy : y ≤ 99) (hz' : z ≤ 99) : ps_Qw (Q.add s c x y z) := by
  have hm : ∀ s', Q.size s' ≤ (if s' = s then Q.size s' + 1 else Q.size s') := fun s' => by split <;> omega
  refine ⟨fun s' hs' => ?_, hw.pts, hw.sbs, hw.edg, hw.fst, fun s' hs' q e => Nat.lt_of_lt_of_le (hw.free s' hs' q e) (hm s'), fun s' hs' p hp i hi => ?_, fun s' hs' e k hk => Nat.lt_of_lt_of_le (hw.st s' hs' e k hk) (hm s'), hw.inj, hw.fs⟩
  · show (if s' = s then Q.size s' + 1 else Q.size s') ≤ 12
    by_cases d : s' = s
    · rw [if_pos d, d]; omega
    · rw [if_neg d]; exact hw.l s' hs'
  · show (if s' = s ∧ p = Q.size s then (if i = 0 then x else if i = 1 then y else z) else Q.sk s' p i) ≤ 99
    have hp : p < (if s' = s then Q.size s' + 1 else Q.size s') := hp
    by_cases d : s' = s ∧ p = Q.size s
    · rw [if_pos d]
      split
      · exact hx
      · split
        · exact hy
        · exact hz'
    · rw [if_neg d]
      refine hw.sk s' hs' p ?_ i hi
      by_cases e : s' = s
      · rw [if_pos e] at hp
        have : p ≠ Q.size s' := fun z => d ⟨e, by rw [z, e]⟩
        omega
      · rw [if_neg e] at hp; exact hp
theorem ps_inB_no {s q m : Nat} (h : ¬ ps_inB Q s q m = true) : ∀ k, k < m → Q.start s k ≠ q := fun k hk e => by
  unfold ps_inB at h
  have h0 : ps_at (fun k => nI (Q.start s k)) (nI q) m 0 = 0 := by
    by_cases c : ps_at (fun k => nI (Q.start s k)) (nI q) m 0 = 0
    · exact c
    · exact absurd (decide_eq_true c) h
  exact ps_at_none h0 k (by omega) (by omega) (by rw [e])
theorem ps_Qw.setf (hw : ps_Qw Q) {s q : Nat} (hs : s < 2) (hq : q < Q.size s) (hn : ¬ (Q.free s ≠ none ∨ (Q.stt s && ps_inB Q s q 6) = true)) : ps_Qw (Q.setf s q) := by
  refine ⟨hw.l, hw.pts, hw.sbs, hw.edg, hw.fst, fun s' hs' r e => ?_, hw.sk, hw.st, hw.inj, fun s' hs' e r er k hk => ?_⟩
  · have e : (if s' = s then some q else Q.free s') = some r := e
    by_cases d : s' = s
    · rw [if_pos d] at e; injection e with e; subst e; rw [d]; exact hq
    · rw [if_neg d] at e; exact hw.free s' hs' r e
  · have er : (if s' = s then some q else Q.free s') = some r := er
    have e : Q.stt s' = true := e
    by_cases d : s' = s
    · rw [if_pos d] at er; injection er with er; subst er
      rw [d] at e ⊢
      exact ps_inB_no (Q := Q) (m := 6) (fun z => hn (Or.inr (by rw [e, z]; rfl))) k hk
    · rw [if_neg d] at er; exact hw.fs s' hs' e r er k hk
theorem ps_Lf30_w (hw : ps_Qw Q) {s : Nat} (hs : s < 2) {x : Int32} {r : ps_Q × Nat} (h : ps_Lf30 Q s p x = .ok r) : ps_Qw r.1 ∧ r.2 = p ∧ r.1.lns = Q.lns := by
  unfold ps_Lf30 at h
  cases e : ps_fd Q s x with
  | none => rw [e] at h; cases h
  | some q =>
    rw [e] at h
    have h : (if Q.free s ≠ none ∨ (Q.stt s && ps_inB Q s q 6) = true then Except.error (3, p) else Except.ok (Q.setf s q, p)) = Except.ok r := h
    by_cases c : Q.free s ≠ none ∨ (Q.stt s && ps_inB Q s q 6) = true
    · rw [if_pos c] at h; cases h
    · rw [if_neg c] at h
      injection h with h; subst h
      exact ⟨hw.setf hs (ps_fd_lt e) c, rfl, rfl⟩
theorem ps_Lfree_eq : ps_Lfree b n Q p = if ps_tk b n (ps_nx b n p) ≠ 1 then .error (1, ps_nx b n p) else if ps_fd Q 0 (nI (ps_tw b n (ps_nx b n p))) = none then ps_Lf30 Q 1 (ps_nx b n p) (nI (ps_tw b n (ps_nx b n p))) else ps_Lf30 Q 0 (ps_nx b n p) (nI (ps_tw b n (ps_nx b n p))) := by
  unfold ps_Lfree
  split
  · rfl
  · cases e : ps_fd Q 0 (nI (ps_tw b n (ps_nx b n p))) with
    | none => rw [if_pos rfl]; rfl
    | some q =>
      rw [if_neg (fun z => by cases z)]
      unfold ps_Lf30
      rw [e]
theorem ps_Lplace_w {s : Nat} (hs : s < 2) : ∀ (r m : Nat) (Q : ps_Q) (p : Nat) (x : ps_Q × Nat), m + r = 6 → p ≤ n → ps_Qw Q → Q.stt s = false → (∀ k, k < m → Q.start s k < Q.size s) → (∀ j k, j < m → k < m → Q.start s j = Q.start s k → j = k) → (∀ k, k < m → ∀ q, Q.free s = some q → Q.start s k ≠ q) → ps_Lplace b n s r m Q p = .ok x → ps_Qw x.1 ∧ p ≤ x.2 ∧ x.2 ≤ n ∧ x.1.lns = Q.lns := by
  intro r
  induction r with
  | zero =>
    intro m Q p x hm hp hw hn h1 h2 h3 h
    obtain rfl : m = 6 := by omega
    rw [ps_Lplace] at h
    injection h with h; subst h
    refine ⟨⟨hw.l, hw.pts, hw.sbs, hw.edg, hw.fst, hw.free, hw.sk, fun s' hs' e k hk => ?_, fun s' hs' e j k hj hk q => ?_, fun s' hs' e q eq k hk => ?_⟩, Nat.le_refl _, hp, rfl⟩
    · by_cases d : s' = s
      · rw [d]; exact h1 k hk
      · have e : (if s' = s then true else Q.stt s') = true := e
        rw [if_neg d] at e; exact hw.st s' hs' e k hk
    · by_cases d : s' = s
      · rw [d] at q; exact h2 j k hj hk q
      · have e : (if s' = s then true else Q.stt s') = true := e
        rw [if_neg d] at e; exact hw.inj s' hs' e j k hj hk q
    · by_cases d : s' = s
      · rw [d] at eq ⊢; exact h3 k hk q eq
      · have e : (if s' = s then true else Q.stt s') = true := e
        rw [if_neg d] at e; exact hw.fs s' hs' e q eq k hk
  | succ r ih =>
    intro m Q p x hm hp hw hn h1 h2 h3 h
    rw [ps_Lplace] at h
    have hge := ps_nx_ge (b := b) hp
    by_cases c1 : ps_tk b n (ps_nx b n p) ≠ 1
    · rw [if_pos c1] at h; cases h
    rw [if_neg c1] at h
    cases e : ps_fd Q s (nI (ps_tw b n (ps_nx b n p))) with
    | none => rw [e] at h; cases h
    | some q =>
      rw [e] at h
      have h : (if Q.free s = some q ∨ ps_inB Q s q m = true then Except.error (3, ps_nx b n p) else ps_Lplace b n s r (m + 1) (Q.puts s m q) (ps_nx b n p)) = Except.ok x := h
      have hq := ps_fd_lt e
      by_cases c : Q.free s = some q ∨ ps_inB Q s q m = true
      · rw [if_pos c] at h; cases h
      · rw [if_neg c] at h
        have hno := ps_inB_no (fun z => c (Or.inr z))
        have hne : ∀ s', Q.stt s' = true → s' ≠ s := fun s' e' d => by rw [d] at e'; exact absurd (hn.symm.trans e') (by decide)
        have pk : ∀ k, k ≠ m → (Q.puts s m q).start s k = Q.start s k := fun k hk => if_neg (fun z => hk z.2)
        have pm : (Q.puts s m q).start s m = q := if_pos ⟨rfl, rfl⟩
        have po : ∀ s' k, s' ≠ s → (Q.puts s m q).start s' k = Q.start s' k := fun s' k hk => if_neg (fun z => hk z.1)
        have hw2 : ps_Qw (Q.puts s m q) := ⟨hw.l, hw.pts, hw.sbs, hw.edg, hw.fst, hw.free, hw.sk, fun s' hs' e' k hk => by rw [po s' k (hne s' e')]; exact hw.st s' hs' e' k hk, fun s' hs' e' j k hj hk g => by rw [po s' j (hne s' e'), po s' k (hne s' e')] at g; exact hw.inj s' hs' e' j k hj hk g, fun s' hs' e' g eg k hk => by rw [po s' k (hne s' e')]; exact hw.fs s' hs' e' g eg k hk⟩
        obtain ⟨g1, g2, g3, g4⟩ := ih (m + 1) (Q.puts s m q) (ps_nx b n p) x (by omega) hge.2 hw2 hn (fun k hk => by
            by_cases d : k = m
            · rw [d, pm]; exact hq
            · rw [pk k d]; exact h1 k (by omega)) (fun j k hj hk g => by
            by_cases d : k = m
            · by_cases d' : j = m
              · omega
              · rw [d, pm, pk j d'] at g; exact absurd g (hno j (by omega))
            · by_cases d' : j = m
              · rw [d', pm, pk k d] at g; exact absurd g.symm (hno k (by omega))
              · rw [pk j d', pk k d] at g; exact h2 j k (by omega) (by omega) g) (fun k hk g eg => by
            by_cases d : k = m
            · rw [d, pm]; intro z; rw [z] at c; exact c (Or.inl eg)
            · rw [pk k d]; exact h3 k (by omega) g eg) h
        exact ⟨g1, by omega, g3, g4⟩
theorem ps_Lset_w {cur : Option Nat} {lo hi : Nat} {x : Nat × Nat} (h : ps_Lset b n cur p lo hi = .ok x) : lo ≤ x.1 ∧ x.1 ≤ hi ∧ x.2 = ps_nx b n p := by
  unfold ps_Lset at h
  by_cases c : cur ≠ none
  · rw [if_pos c] at h; cases h
  rw [if_neg c] at h
  cases e : ps_num b n (ps_nx b n p) lo hi with
  | error e' => rw [e] at h; cases h
  | ok y =>
    rw [e] at h
    injection h with h; subst h
    exact ⟨(ps_num_ok e).1, (ps_num_ok e).2, rfl⟩
theorem ps_Lplayer_w (hw : ps_Qw Q) (hp : p ≤ n) {s : Nat} (hs : s < 2) {x : ps_Q × Nat} (h : ps_Lplayer b n Q s p = .ok x) : ps_Qw x.1 ∧ p ≤ x.2 ∧ x.2 ≤ n ∧ x.1.lns = Q.lns := by
  have g1 := ps_nx_ge (b := b) hp
  have g2 := ps_nx_ge (b := b) g1.2
  have g3 := ps_nx_ge (b := b) g2.2
  have g4 := ps_nx_ge (b := b) g3.2
  unfold ps_Lplayer at h
  by_cases c1 : 12 ≤ Q.size s
  · rw [if_pos c1] at h; cases h
  rw [if_neg c1] at h
  by_cases c2 : ps_tk b n (ps_nx b n p) ≠ 1
  · rw [if_pos c2] at h; cases h
  rw [if_neg c2] at h
  by_cases c3 : ps_fd Q 0 (nI (ps_tw b n (ps_nx b n p))) ≠ none ∨ ps_fd Q 1 (nI (ps_tw b n (ps_nx b n p))) ≠ none
  · rw [if_pos c3] at h; cases h
  rw [if_neg c3] at h
  cases e1 : ps_num b n (ps_nx b n (ps_nx b n p)) 0 99 with
  | error e => rw [e1] at h; cases h
  | ok y1 =>
    rw [e1] at h
    cases e2 : ps_num b n (ps_nx b n (ps_nx b n (ps_nx b n p))) 0 99 with
    | error e => rw [e2] at h; cases h
    | ok y2 =>
      rw [e2] at h
      cases e3 : ps_num b n (ps_nx b n (ps_nx b n (ps_nx b n (ps_nx b n p)))) 0 99 with
      | error e => rw [e3] at h; cases h
      | ok y3 =>
        rw [e3] at h
        injection h with h; subst h
        exact ⟨hw.add hs (by omega) _ (ps_num_ok e1).2 (ps_num_ok e2).2 (ps_num_ok e3).2, by show p ≤ ps_nx b n (ps_nx b n (ps_nx b n (ps_nx b n p))); omega, g4.2, rfl⟩
theorem ps_Lkw_w (hw : ps_Qw Q) (hp : p ≤ n) {k : Option Nat} {x : ps_Q × Nat} (h : ps_Lkw b n Q p k = .ok x) : ps_Qw x.1 ∧ p ≤ x.2 ∧ x.2 ≤ n ∧ x.1.lns = Q.lns := by
  have hge := ps_nx_ge (b := b) hp
  unfold ps_Lkw at h
  by_cases c0 : k = some 0
  · rw [if_pos c0] at h; exact ps_Lplayer_w hw hp (by omega) h
  rw [if_neg c0] at h
  by_cases c1 : k = some 1
  · rw [if_pos c1] at h; exact ps_Lplayer_w hw hp (by omega) h
  rw [if_neg c1] at h
  by_cases c2 : k = some 2
  · rw [if_pos c2] at h
    cases e : ps_Lset b n Q.pts p 3 25 with
    | error e' => rw [e] at h; cases h
    | ok y =>
      rw [e] at h; injection h with h; subst h
      obtain ⟨q1, q2, q3⟩ := ps_Lset_w e
      exact ⟨⟨hw.l, fun z ez => by injection ez with ez; omega, hw.sbs, hw.edg, hw.fst, hw.free, hw.sk, hw.st, hw.inj, hw.fs⟩, by show p ≤ y.2; omega, by show y.2 ≤ n; omega, rfl⟩
  rw [if_neg c2] at h
  by_cases c3 : k = some 3
  · rw [if_pos c3] at h
    cases e : ps_Lset b n Q.sbs p 0 12 with
    | error e' => rw [e] at h; cases h
    | ok y =>
      rw [e] at h; injection h with h; subst h
      obtain ⟨q1, q2, q3⟩ := ps_Lset_w e
      exact ⟨⟨hw.l, hw.pts, fun z ez => by injection ez with ez; omega, hw.edg, hw.fst, hw.free, hw.sk, hw.st, hw.inj, hw.fs⟩, by show p ≤ y.2; omega, by show y.2 ≤ n; omega, rfl⟩
  rw [if_neg c3] at h
  by_cases c4 : k = some 4
  · rw [if_pos c4] at h
    cases e : ps_Lset b n Q.edg p 0 300 with
    | error e' => rw [e] at h; cases h
    | ok y =>
      rw [e] at h; injection h with h; subst h
      obtain ⟨q1, q2, q3⟩ := ps_Lset_w e
      exact ⟨⟨hw.l, hw.pts, hw.sbs, fun z ez => by injection ez with ez; omega, hw.fst, hw.free, hw.sk, hw.st, hw.inj, hw.fs⟩, by show p ≤ y.2; omega, by show y.2 ≤ n; omega, rfl⟩
  rw [if_neg c4] at h
  by_cases c5 : k = some 5
  · rw [if_pos c5, ps_Lfree_eq] at h
    by_cases d1 : ps_tk b n (ps_nx b n p) ≠ 1
    · rw [if_pos d1] at h; cases h
    rw [if_neg d1] at h
    split at h
    · obtain ⟨z1, z2, z3⟩ := ps_Lf30_w hw (by omega) h
      exact ⟨z1, by omega, by omega, z3⟩
    · obtain ⟨z1, z2, z3⟩ := ps_Lf30_w hw (by omega) h
      exact ⟨z1, by omega, by omega, z3⟩
  rw [if_neg c5] at h
  by_cases c6 : k = some 6
  · rw [if_pos c6] at h
    unfold ps_Lstart at h
    cases e : ps_sideAt b n (ps_nx b n p) with
    | none => rw [e] at h; cases h
    | some s =>
      rw [e] at h
      have h : (if Q.stt s = true then Except.error (3, ps_nx b n p) else ps_Lplace b n s 6 0 Q (ps_nx b n p)) = Except.ok x := h
      cases d : Q.stt s with
      | true => rw [d, if_pos rfl] at h; cases h
      | false =>
        rw [d, if_neg (by decide)] at h
        obtain ⟨z1, z2, z3, z4⟩ := ps_Lplace_w (ps_sideAt_lt e) 6 0 Q (ps_nx b n p) x (by omega) hge.2 hw d (fun k hk => absurd hk (by omega)) (fun j k hj => absurd hj (by omega)) (fun k hk => absurd hk (by omega)) h
        exact ⟨z1, by omega, z3, z4⟩
  rw [if_neg c6] at h
  by_cases c7 : k = some 7
  · rw [if_pos c7] at h
    unfold ps_Lfirst at h
    by_cases d1 : Q.fst ≠ none
    · rw [if_pos d1] at h; cases h
    rw [if_neg d1] at h
    cases e : ps_sideAt b n (ps_nx b n p) with
    | none => rw [e] at h; cases h
    | some s =>
      rw [e] at h; injection h with h; subst h
      exact ⟨⟨hw.l, hw.pts, hw.sbs, hw.edg, fun z ez => by injection ez with ez; have := ps_sideAt_lt e; omega, hw.free, hw.sk, hw.st, hw.inj, hw.fs⟩, hge.1, hge.2, rfl⟩
  rw [if_neg c7] at h
  cases h
theorem ps_Lend_w {r : Except (Nat × Nat) (ps_Q × Nat)} {x : ps_Q × Nat} (h : ps_Lend b n r = .ok x) : ∃ y, r = .ok y ∧ x.1 = y.1 ∧ (y.2 ≤ n → y.2 < x.2 ∧ x.2 ≤ n) := by
  unfold ps_Lend at h
  cases r with
  | error e => cases h
  | ok y =>
    refine ⟨y, rfl, ?_⟩
    have h : (if ps_tk b n (ps_nx b n y.2) ≠ 4 then Except.error (1, ps_nx b n y.2) else Except.ok (y.1, ps_nx b n (ps_nx b n y.2))) = Except.ok x := h
    by_cases c : ps_tk b n (ps_nx b n y.2) ≠ 4
    · rw [if_pos c] at h; cases h
    · rw [if_neg c] at h; injection h with h; subst h
      refine ⟨rfl, fun hy => ?_⟩
      have g1 := ps_nx_ge (b := b) hy
      have h1 : ps_nx b n y.2 < n := by
        rcases Nat.lt_or_ge (ps_nx b n y.2) n with q | q
        · exact q
        · exfalso; apply c; unfold ps_tk; rw [if_pos q]; decide
      have h2 := ps_tq_le (b := b) g1.2
      have h3 := ps_tp_le (b := b) h2.2.1
      show y.2 < ps_tp b n (ps_tq b n (ps_nx b n y.2)) ∧ ps_tp b n (ps_tq b n (ps_nx b n y.2)) ≤ n
      have := h2.2.2 h1
      omega
end PSF53
