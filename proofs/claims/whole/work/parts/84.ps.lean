/-! ===== runs ===== -/
def ps_ru (A : ps_A) (s p : Nat) : Nat → Nat
  | 0 => 0
  | n + 1 => if A.had n = s ∧ A.svd n = s ∧ A.svr n = p then ps_ru A s p n + 1 else 0
def ps_rk2 (A : ps_A) (k : Nat) : Nat := ps_ru A (A.svd k) (A.svr k) (k + 1)
def ps_rb (A : ps_A) : Nat → Nat × Option Nat
  | 0 => (0, none)
  | k + 1 => if (ps_rb A k).1 < ps_rk2 A k then (ps_rk2 A k, some k) else ps_rb A k
theorem ps_ru_le (A : ps_A) (s p : Nat) : ∀ n, ps_ru A s p n ≤ n
  | 0 => Nat.le_refl _
  | n + 1 => by
    rw [ps_ru]
    have := ps_ru_le A s p n
    split <;> omega
theorem ps_rb_pos (A : ps_A) : ∀ k, ((ps_rb A k).2 = none → (ps_rb A k).1 = 0) ∧ (∀ i, (ps_rb A k).2 = some i → 0 < (ps_rb A k).1 ∧ i < k) ∧ (ps_rb A k).1 ≤ k
  | 0 => ⟨fun _ => rfl, fun i h => (nomatch h), Nat.le_refl _⟩
  | k + 1 => by
    obtain ⟨h1, h2, h3⟩ := ps_rb_pos A k
    have h4 := ps_ru_le A (A.svd k) (A.svr k) (k + 1)
    rw [ps_rb]
    by_cases c : (ps_rb A k).1 < ps_rk2 A k
    · rw [if_pos c]
      refine ⟨fun h => (nomatch h), fun i h => ?_, h4⟩
      obtain rfl : k = i := Option.some.inj h
      exact ⟨by show 0 < ps_rk2 A k; omega, by omega⟩
    · rw [if_neg c]
      exact ⟨h1, fun i h => ⟨(h2 i h).1, by have := (h2 i h).2; omega⟩, by omega⟩
def ps_own (A : ps_A) (k : Nat) : Bool := decide (A.had k = A.svd k)
def ps_gr (A : ps_A) (k : Nat) : Bool := decide (0 < k) && (ps_own A (k - 1) && (decide (A.svd k = A.svd (k - 1)) && decide (A.svr k = A.svr (k - 1))))
theorem ps_rk2_eq (A : ps_A) (k : Nat) : ps_rk2 A k = if ps_own A k = false then 0 else if ps_gr A k = true then ps_rk2 A (k - 1) + 1 else 1 := by
  unfold ps_rk2
  rw [ps_ru]
  by_cases c : A.had k = A.svd k
  · rw [if_pos ⟨c, rfl, rfl⟩, if_neg (show ¬ ps_own A k = false by unfold ps_own; rw [decide_eq_true c]; decide)]
    cases k with
    | zero => rw [if_neg (show ¬ ps_gr A 0 = true by unfold ps_gr; simp)]; rfl
    | succ k =>
      rw [show k + 1 - 1 = k from rfl, ps_ru]
      by_cases g : ps_gr A (k + 1) = true
      · rw [if_pos g]
        unfold ps_gr ps_own at g
        simp only [Bool.and_eq_true, decide_eq_true_eq, show k + 1 - 1 = k from rfl] at g
        obtain ⟨-, g1, g2, g3⟩ := g
        rw [g2, g3, ps_ru]
      · rw [if_neg g, if_neg]
        intro q
        refine g ?_
        unfold ps_gr ps_own
        simp only [Bool.and_eq_true, decide_eq_true_eq, show k + 1 - 1 = k from rfl]
        exact ⟨by omega, by rw [q.1, q.2.1], q.2.1.symm, q.2.2.symm⟩
  · rw [if_neg (fun q => c q.1), if_pos (show ps_own A k = false by unfold ps_own; rw [decide_eq_false c])]
def sp_run (A : ps_A) (a : Int32) : Int32 := if A.on = false ∨ a < 0 ∨ ¬ a ≤ 4 then -1 else if a = 0 then nI (ps_ru A A.C.sv (ps_onN A.W A.C A.C.sv 0) A.C.pl) else if a = 1 then nI (ps_onN A.W A.C A.C.sv 0) else if a = 2 then nI (ps_rb A A.C.pl).1 else match (ps_rb A A.C.pl).2 with | none => -2 | some i => if a = 3 then nI (A.svr i) else nI (A.svd i)
section PSF34
variable {t v w : Bool} {A : ps_A} {I : Nat → Nat → Int32} {L : Nat → Nat → Int64}
theorem cx_ptOf (h0 : ps_wf A) (ho : A.on = true) (hX : ps_RX t A I) {k s p : Nat} (hk : k < A.C.pl) (hs : s < 2 ^ 31) (hp : p < 2 ^ 31) : fX3_isPointOf 18 (nI k) (nI s) (nI p) (I, L, px_R t v w) = some (if A.had k = s ∧ A.svd k = s ∧ A.svr k = p then 1 else 0, (I, L, px_R t v w)) := by
  have hpl := ps_pl_le h0 ho
  have b1 := h0.had ho k hk
  have b2 := h0.svd ho k hk
  have b3 := h0.svr ho k hk
  unfold fX3_isPointOf
  rw [pg_pos (pi_in (by omega) (by omega)), pg_pos (pi_in (by omega) (by omega)), pg_pos (pi_in (by omega) (by omega)), pi_ix (by omega)]
  show (if I 19 k = nI s then (if I 20 k = nI s then (if I 21 k = nI p then _ else _) else _) else _) = _
  rw [hX.had ho k hk, hX.svd ho k hk, hX.svr ho k hk]
  by_cases c1 : A.had k = s
  · rw [if_pos (by rw [c1])]
    by_cases c2 : A.svd k = s
    · rw [if_pos (by rw [c2])]
      by_cases c3 : A.svr k = p
      · rw [if_pos (by rw [c3]), if_pos ⟨c1, c2, c3⟩]
      · rw [if_neg (fun q => c3 ((nI_eq (by omega) (by omega)).mp q)), if_neg (fun q => c3 q.2.2)]
    · rw [if_neg (fun q => c2 ((nI_eq (by omega) (by omega)).mp q)), if_neg (fun q => c2 q.2.1)]
  · rw [if_neg (fun q => c1 ((nI_eq (by omega) (by omega)).mp q)), if_neg (fun q => c1 q.1)]
theorem cx_runUpTo (h0 : ps_wf A) (ho : A.on = true) (hX : ps_RX t A I) {n s p : Nat} (hn : n ≤ A.C.pl) (hs : s < 2 ^ 31) (hp : p < 2 ^ 31) : fX3_runUpTo 18 (nI n) (nI s) (nI p) (I, L, px_R t v w) = some (nI (ps_ru A s p n), (I, L, px_R t v w)) := by
  have hpl := ps_pl_le h0 ho
  have key : ∀ n, n ≤ A.C.pl → ∀ f x, n < f → fX3_runUpTo_13 f 18 (nI s) (nI p) (nI x) (nI n - 1) (I, L, px_R t v w) = some (nI (x + ps_ru A s p n), (I, L, px_R t v w)) := by
    intro n
    induction n with
    | zero =>
      intro _ f x hf
      obtain ⟨f, rfl⟩ : ∃ f', f = f' + 1 := ⟨f - 1, by omega⟩
      rw [fX3_runUpTo_13, if_pos (by decide)]; rfl
    | succ n ih =>
      intro hn f x hf
      obtain ⟨f, rfl⟩ : ∃ f', f = f' + 1 := ⟨f - 1, by omega⟩
      rw [fX3_runUpTo_13, nI_pred, if_neg (nI_pos (by omega)), cx_ptOf h0 ho hX (by omega) hs hp, pb_2, ps_ru]
      by_cases c : A.had n = s ∧ A.svd n = s ∧ A.svr n = p
      · rw [if_pos c, if_pos c, if_neg (by decide), pl_let, pl_let, nI_1, ← Int32.sub_eq_add_neg, ih (by omega) f (x + 1) (by omega)]
        congr 3; omega
      · rw [if_neg c, if_neg c, if_pos rfl]; rfl
  unfold fX3_runUpTo
  rw [pl_let]
  have e : fx_min (nI n) 49 = nI n := by
    unfold fx_min
    rw [if_neg (show ¬ (49 : Int32) < nI n from nI_nlt (a := 49) (by omega) (by omega))]
  rw [e]
  have := key n hn fx_N 0 (by unfold fx_N; omega)
  rw [Nat.zero_add] at this
  exact this
def ps_rc (A : ps_A) (b : Nat × Option Nat) : Option (Int32 × Int32 × Int32) := match b.2 with | none => none | some i => some (nI (A.svr i), nI (A.svd i), nI b.1)
theorem cx_offerRuns (h0 : ps_wf A) (ho : A.on = true) (hX : ps_RX t A I) (hb : ps_BC I 37 none) : ∃ J, (ps_BC J 37 (ps_rc A (ps_rb A A.C.pl)) ∧ ∀ a, a ≠ 37 → J a = I a) ∧ fX3_offerRuns 18 (nI A.C.pl) 37 (I, L, px_R t v w) = some (J, L, px_R t v w) := by
  have hpl := ps_pl_le h0 ho
  unfold fX3_offerRuns
  refine pf_loop (S := Nat → Nat → Int32) (fun n i J => fX3_offerRuns_2 n 18 (nI A.C.pl) 37 (nI i) (J, L, px_R t v w)) (fun J => some (J, L, px_R t v w)) (fun i J => ps_BC J 37 (ps_rc A (ps_rb A i)) ∧ ∀ a, a ≠ 37 → J a = I a) A.C.pl ?_ ?_ A.C.pl 0 fx_N I (by omega) (by unfold fx_N; omega) ⟨hb, fun _ _ => rfl⟩
  · intro n J _
    show fX3_offerRuns_2 (n + 1) _ _ _ _ _ = _
    rw [fX3_offerRuns_2, if_pos (nI_le (Nat.le_refl _) (by omega))]
  · rintro n i J hi ⟨p1, p2⟩
    have hXJ := hX.fx (fun a ha => p2 a (by unfold ps_sc at ha; omega))
    have b2 := h0.svd ho i hi
    have b3 := h0.svr ho i hi
    obtain ⟨r1, r2, r3⟩ := ps_rb_pos A i
    have hle := ps_ru_le A (A.svd i) (A.svr i) (i + 1)
    show ∃ s', _ ∧ fX3_offerRuns_2 (n + 1) _ _ _ (nI i) _ = fX3_offerRuns_2 n _ _ _ (nI (i + 1)) _
    rw [fX3_offerRuns_2, if_neg (nI_ge hi (by omega)), if_neg (show ¬ (49 : Int32) ≤ nI i from nI_ge (b := 49) (by omega) (by omega)), pg_pos (pi_in (by omega) (by omega)), pg_pos (pi_in (by omega) (by omega)), pi_ix (n := i) (by omega), show (J, L, px_R t v w).1 ((J, L, px_R t v w).2.2 18 1) i = nI (A.svd i) from hXJ.svd ho i hi, show (J, L, px_R t v w).1 ((J, L, px_R t v w).2.2 18 2) i = nI (A.svr i) from hXJ.svr ho i hi, nI_1, cx_runUpTo h0 ho hXJ (by omega) (by omega) (by omega), pb_2]
    unfold fX3_offerRuns_58
    simp only [pl_let, nI_1]
    have em : ps_ru A (A.svd i) (A.svr i) (i + 1) = ps_rk2 A i := rfl
    rw [em] at hle ⊢
    have esv : J (px_R t v w 18 1) i = nI (A.svd i) := hXJ.svd ho i hi
    have esr : J (px_R t v w 18 2) i = nI (A.svr i) := hXJ.svr ho i hi
    rw [ps_rb]
    by_cases c0 : ps_rk2 A i = 0
    · rw [if_pos (show nI (ps_rk2 A i) ≤ 0 by rw [c0]; decide), if_neg (show ¬ (ps_rb A i).1 < ps_rk2 A i by omega)]
      exact ⟨J, ⟨p1, p2⟩, rfl⟩
    · rw [if_neg (nI_nle (by omega) (by omega)), pg_pos (pi_in (by omega) (by omega)), pg_pos (pi_in (by omega) (by omega))]
      obtain ⟨H, k1, k2, k3⟩ := cx_offer p1 (L := L) (nI (A.svr i)) (nI (A.svd i)) (nI (ps_rk2 A i)) true (px_R t v w)
      rw [if_pos (show true = true from rfl)] at k3
      refine ⟨H, ⟨?_, fun a ha => (k2 a ha).trans (p2 a ha)⟩, ?_⟩
      · have eb : ps_bo (ps_rc A (ps_rb A i)) (nI (A.svr i)) (nI (A.svd i)) (nI (ps_rk2 A i)) true = ps_rc A (if (ps_rb A i).1 < ps_rk2 A i then (ps_rk2 A i, some i) else ps_rb A i) := by
          cases ek : (ps_rb A i).2 with
          | none =>
            rw [if_pos (by have := r1 ek; omega)]
            unfold ps_rc
            rw [ek]; rfl
          | some j =>
            have e1 : ps_rc A (ps_rb A i) = some (nI (A.svr j), nI (A.svd j), nI (ps_rb A i).1) := by unfold ps_rc; rw [ek]
            rw [e1]
            show (if (if true = true then nI (ps_rb A i).1 < nI (ps_rk2 A i) else nI (ps_rk2 A i) < nI (ps_rb A i).1) then _ else _) = _
            simp only [if_true, nI_ltI (show (ps_rb A i).1 < 2 ^ 31 by omega) (show ps_rk2 A i < 2 ^ 31 by omega)]
            by_cases c : (ps_rb A i).1 < ps_rk2 A i
            · rw [if_pos c, if_pos c]; rfl
            · rw [if_neg c, if_neg c, e1]
        rw [← eb]; exact k1
      · rw [esv, esr, k3, pb_1]
theorem cx_run (h0 : ps_wf A) (hX : ps_RX t A I) (a : Int32) : ∃ J, ps_fx I J ∧ fX9_run 0 a (I, L, px_R t v w) = some (sp_run A a, (J, L, px_R t v w)) := by
  unfold fX9_run sp_run
  show ∃ J, _ ∧ (if I 0 13 = 0 then _ else _) = _
  rw [hX.on]
  cases ho : A.on with
  | false => exact ⟨I, ps_fx.refl I, by simp⟩
  | true =>
    rw [if_neg (by decide)]
    by_cases c1 : a < 0
    · rw [if_pos c1, if_pos (Or.inr (Or.inl c1))]; exact ⟨I, ps_fx.refl I, rfl⟩
    rw [if_neg c1]
    by_cases c2 : a ≤ 4
    · rw [if_pos c2, if_neg (show ¬ (true = false ∨ a < 0 ∨ ¬ a ≤ 4) from fun q => q.elim (fun z => nomatch z) (fun z => z.elim c1 (fun y => y c2)))]
      have w0 := h0.C ho
      have hsv := w0.sv
      have hon := ps_onN_six (h0.W ho) w0 hsv 0 (by omega)
      have hz := (h0.W ho).size _ hsv
      have hpl := ps_pl_le h0 ho
      have who := cx_who (L := L) (v := v) (w := w) (A := A) (hX.C ho) (hX.W ho) w0 hsv (k := 0) (by omega)
      rw [show (I, L, px_R t v w).1 ((I, L, px_R t v w).2.2 0 3) 2 = nI A.C.sv from (hX.C ho).sv, show (1 : Int32) = nI (0 + 1) from rfl, who, pb_2, ps_onN_eq w0 hsv]
      by_cases d0 : a = 0
      · rw [if_pos d0, if_pos d0]
        refine ⟨I, ps_fx.refl I, ?_⟩
        show fx_b2 (fX3_runUpTo 18 (I 22 3) (I 22 2) _ _) _ = _
        rw [(hX.C ho).pl, (hX.C ho).sv, cx_runUpTo h0 ho hX (Nat.le_refl _) (by omega) (by omega), pb_2]
      rw [if_neg d0, if_neg d0, show nI (0 + 1) = (1 : Int32) from rfl]
      by_cases d1 : a = 1
      · rw [if_pos d1, if_pos d1]; exact ⟨I, ps_fx.refl I, rfl⟩
      rw [if_neg d1, if_neg d1]
      show ∃ J, _ ∧ fx_b1 (fX0_clear 37 _) _ = _
      obtain ⟨I1, i1, i2, i3⟩ := cx_clear (c := 37) (I := I) (L := L) (px_R t v w)
      have fx1 : ps_fx I I1 := fun c hc => i2 c (by unfold ps_sc at hc; omega)
      rw [i3, pb_1]
      show ∃ J, _ ∧ fx_b1 (fX3_offerRuns 18 (I1 22 3) 37 _) _ = _
      rw [i2 22 (by omega), (hX.C ho).pl]
      obtain ⟨J, ⟨j1, j2⟩, j3⟩ := cx_offerRuns (I := I1) (L := L) (t := t) (v := v) (w := w) h0 ho (hX.fx fx1) i1
      rw [j3, pb_1]
      refine ⟨J, fx1.trans (fun c hc => j2 c (by unfold ps_sc at hc; omega)), ?_⟩
      show (if a = 2 then (if J 37 0 = 0 then some ((0 : Int32), _) else some (J 37 3, _)) else if J 37 0 = 0 then some ((-2 : Int32), _) else if a = 3 then some (J 37 1, _) else some (J 37 2, _)) = _
      obtain ⟨r1, r2, r3⟩ := ps_rb_pos A A.C.pl
      cases ek : (ps_rb A A.C.pl).2 with
      | none =>
        have e1 : ps_rc A (ps_rb A A.C.pl) = none := by unfold ps_rc; rw [ek]
        rw [e1] at j1
        rw [show J 37 0 = 0 from j1, if_pos rfl, if_pos rfl, r1 ek]
        exact pq_if rfl rfl
      | some i =>
        have e1 : ps_rc A (ps_rb A A.C.pl) = some (nI (A.svr i), nI (A.svd i), nI (ps_rb A A.C.pl).1) := by unfold ps_rc; rw [ek]
        rw [e1] at j1
        obtain ⟨u0, u1, u2, u3⟩ := j1
        rw [u0, u1, u2, u3, if_neg (show ¬ (1 : Int32) = 0 by decide), if_neg (show ¬ (1 : Int32) = 0 by decide)]
        exact pq_if rfl (pq_if rfl rfl)
    · rw [if_neg c2, if_pos (Or.inr (Or.inr c2))]; exact ⟨I, ps_fx.refl I, rfl⟩
end PSF34
