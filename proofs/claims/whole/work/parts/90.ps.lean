/-! ===== a point (the reference's side), whole ===== -/
def ps_ptG (J : Nat → Nat → Int32) (pl s sv on : Nat) : Nat → Nat → Int32 := hp_u (hp_u (hp_u J 300 (3 * pl) (nI s)) 300 (3 * pl + 1) (nI sv)) 300 (3 * pl + 2) (nI on)
def ps_ptH (J : Nat → Nat → Int32) (pl s sv on : Nat) : Nat → Nat → Int32 := hp_u (ps_ptG J pl s sv on) 298 119 (ps_ptG J pl s sv on 298 119 + nI 1)
def ps_ptM (J : Nat → Nat → Int32) (pl s sv on : Nat) : Nat → Nat → Int32 := hp_u (hp_u (hp_u (ps_ptH J pl s sv on) 298 s (ps_ptH J pl s sv on 298 s + nI 1)) 298 9 (nI 0)) 298 10 (nI 0)
section PSF40
variable {t v w : Bool} {A : ps_A} {I : Nat → Nat → Int32} {L : Nat → Nat → Int64}
theorem ps_on_pt {W : ps_W} {C : ps_C} (w0 : ps_wfC W C) {s k : Nat} (hs : s < 2) (hk : k < 6) (c : C.sv ≠ s) : ps_on W (C.setpt s) s k = if C.fs s = 5 ∧ k = 3 then ps_for C s else ps_on W C s ((k + 1) % 6) := by
  have e1 : (C.setpt s).fs s = ps_f2 (C.fs s) := by
    show (if s = s ∧ C.sv ≠ s then ps_f2 (C.fs s) else C.fs s) = _
    rw [if_pos ⟨rfl, c⟩]
  have e2 : (C.setpt s).six s k = C.six s ((k + 1) % 6) := by
    show (if s = s ∧ C.sv ≠ s then C.six s ((k + 1) % 6) else C.six s k) = _
    rw [if_pos ⟨rfl, c⟩]
  unfold ps_on
  rw [e1, e2]
  rcases w0.fs s hs with q | ⟨q | q | q, z⟩
  · rw [q, show ps_f2 0 = 0 from rfl, if_neg (by omega), if_neg (by omega), if_neg (by omega)]
  · rw [q, show ps_f2 1 = 6 from rfl, if_neg (show ¬ (1 = 5 ∧ k = 3) by omega)]
    by_cases d : k = 5
    · rw [if_pos (by omega), if_pos (by omega)]
    · rw [if_neg (by omega), if_neg (by omega)]
  · rw [q, show ps_f2 5 = 0 from rfl, if_neg (show ¬ 0 = k + 1 by omega)]
    by_cases d : k = 3
    · rw [if_pos ⟨rfl, d⟩, d]
      unfold ps_for
      rw [q, if_neg (by omega)]
    · rw [if_neg (fun y => d y.2), if_neg (by omega)]
  · rw [q, show ps_f2 6 = 5 from rfl, if_neg (show ¬ (6 = 5 ∧ k = 3) by omega)]
    by_cases d : k = 4
    · rw [if_pos (by omega), if_pos (by omega)]
    · rw [if_neg (by omega), if_neg (by omega)]
theorem ps_for_pt {W : ps_W} {C : ps_C} (w0 : ps_wfC W C) {s : Nat} (hs : s < 2) (c : C.sv ≠ s) : ps_for (C.setpt s) s = if C.fs s = 5 then -1 else ps_for C s := by
  have e1 : (C.setpt s).fs s = ps_f2 (C.fs s) := by
    show (if s = s ∧ C.sv ≠ s then ps_f2 (C.fs s) else C.fs s) = _
    rw [if_pos ⟨rfl, c⟩]
  have e2 : ∀ k, (C.setpt s).six s k = C.six s ((k + 1) % 6) := fun k => by
    show (if s = s ∧ C.sv ≠ s then C.six s ((k + 1) % 6) else C.six s k) = _
    rw [if_pos ⟨rfl, c⟩]
  unfold ps_for
  rw [e1, e2]
  rcases w0.fs s hs with q | ⟨q | q | q, z⟩ <;> rw [q] <;> rfl
theorem cm_point (h0 : ps_wf A) (ho : A.on = true) (hM : ps_MX A I) {s : Nat} (hs : s < 2) (hov : ps_over A = false) :
    ∃ J, fX10_point 290 (nI s) (I, L, px_R t v w) = some (nI s, (J, L, px_R t v w)) ∧ ps_MX (ps_point A s) J ∧ (∀ a, a < 290 → J a = I a) := by
  have w0 := h0.C ho
  have w1 := h0.W ho
  have h25 := w1.p25
  obtain ⟨l0, l1⟩ := ps_over_lt h0 ho hov
  have hpl := w0.pl
  have hsv := w0.sv
  have hon1 := ps_onN_six w1 w0 hsv 0 (by omega)
  have hz1 := w1.size _ hsv
  have hsd : ps_sd A (nI s) = true := by
    unfold ps_sd
    rw [ho]
    rcases (show s = 0 ∨ s = 1 by omega) with rfl | rfl <;> rfl
  unfold fX10_point
  rw [pl_let]
  show ∃ J, fx_b2 (fX10_isSide 290 (nI s) (hp_u I 290 0 0, L, px_R t v w)) _ = _ ∧ _
  have hM := hM.flag (z := 0)
  have hI : ∀ a, a < 290 → hp_u I 290 0 0 a = I a := fun a ha => pu_cell (by omega)
  generalize hp_u I 290 0 0 = K at hM hI ⊢
  obtain ⟨J1, r1, r2, r3, r4⟩ := cm_keeps (t := t) (v := v) (w := w) (L := L) h0 ho hM
  have on2 : (ps_push A).on = true := ho
  have hC : ps_MR (ps_push A) (ps_push A).C (J1 298) := r2.C on2
  have hW := r2.W on2
  have hct : fX10_court 290 (nI A.C.sv) (nI (0 + 1)) (J1, L, px_R t v w) = some (nI (ps_onN A.W A.C A.C.sv 0), (J1, L, px_R t v w)) := by
    rw [← ps_onN_eq w0 hsv]
    exact cm_court (A := ps_push A) hC hsv (by omega)
  have s119 : J1 298 119 = nI A.C.pl := hC.pl
  have ssv : J1 298 2 = nI A.C.sv := hC.sv
  rw [cm_side hM, pb_2, hsd, if_neg (by decide), cm_over w0 w1 (hM.C ho) (hM.W ho), pb_2, hov, if_pos (by decide), r1, pb_1, pl_let, show (J1, L, px_R t v w).1 ((J1, L, px_R t v w).2.2 290 20) (fx_ix 2) = nI A.C.sv from ssv, show (1 : Int32) = nI (0 + 1) from rfl, hct, pb_2, pl_let, show (J1, L, px_R t v w).1 ((J1, L, px_R t v w).2.2 290 20) (fx_ix 119) = nI A.C.pl from s119, show (3 : Int32) = nI 3 from rfl, pk_mul, pg_pos (pi_in (by omega) (by omega)), pl_let, show nI (0 + 1) = nI 1 from rfl, show (2 : Int32) = nI 2 from rfl, nI_add, nI_add, pg_pos (pi_in (by omega) (by omega)), pl_let, pg_pos (pi_in (by omega) (by omega)), pl_let, pl_let, show (0 : Int32) = nI 0 from rfl, nI_add, Nat.zero_add, pl_let, pg_pos (pi_in (by omega) (by omega)), pg_pos (pi_in (by omega) (by omega)), pl_let, pl_let, pl_let, pi_ix (n := 3 * A.C.pl) (by omega), pi_ix (n := 3 * A.C.pl + 1) (by omega), pi_ix (n := 3 * A.C.pl + 2) (by omega), pi_ix (n := s) (by omega)]
  obtain ⟨on, hon⟩ : ∃ on, on = ps_onN A.W A.C A.C.sv 0 := ⟨_, rfl⟩
  rw [← hon] at hct hon1 ⊢
  have sS : J1 298 s = nI (A.C.sc s) := hC.sc s hs
  have m1 : ∀ a, a ≠ 298 → a ≠ 300 → ps_ptM J1 A.C.pl s A.C.sv on a = J1 a := fun a q1 q2 => by
    unfold ps_ptM ps_ptH ps_ptG
    rw [pu_cell q1, pu_cell q1, pu_cell q1, pu_cell q1, pu_cell q2, pu_cell q2, pu_cell q2]
  have g298 : ∀ j, ps_ptG J1 A.C.pl s A.C.sv on 298 j = J1 298 j := fun j => by
    unfold ps_ptG
    rw [pu_cell (by omega), pu_cell (by omega), pu_cell (by omega)]
  have m2 : ∀ k, k < A.C.pl + 1 → ps_ptM J1 A.C.pl s A.C.sv on 300 (3 * k) = nI ((ps_point A s).had k) ∧ ps_ptM J1 A.C.pl s A.C.sv on 300 (3 * k + 1) = nI ((ps_point A s).svd k) ∧ ps_ptM J1 A.C.pl s A.C.sv on 300 (3 * k + 2) = nI ((ps_point A s).svr k) := fun k hk => by
    have e : ∀ j, ps_ptM J1 A.C.pl s A.C.sv on 300 j = ps_ptG J1 A.C.pl s A.C.sv on 300 j := fun j => by
      unfold ps_ptM ps_ptH
      rw [pu_cell (by omega), pu_cell (by omega), pu_cell (by omega), pu_cell (by omega)]
    rw [e, e, e]
    unfold ps_ptG
    show _ = nI (if k = A.C.pl then s else A.had k) ∧ _ = nI (if k = A.C.pl then A.C.sv else A.svd k) ∧ _ = nI (if k = A.C.pl then ps_onN A.W A.C A.C.sv 0 else A.svr k)
    by_cases c : k = A.C.pl
    · rw [if_pos c, if_pos c, if_pos c, c, ← hon]
      exact ⟨by rw [pu_place (by omega), pu_place (by omega), pu_eq], by rw [pu_place (by omega), pu_eq], pu_eq⟩
    · have hk2 : k < A.C.pl := by omega
      rw [if_neg c, if_neg c, if_neg c, pu_place (by omega), pu_place (by omega), pu_place (by omega), pu_place (by omega), pu_place (by omega), pu_place (by omega), pu_place (by omega), pu_place (by omega), pu_place (by omega)]
      exact ⟨r2.had on2 k hk2, r2.svd on2 k hk2, r2.svr on2 k hk2⟩
  have m3 : ∀ j, j ≠ 119 → j ≠ s → j ≠ 9 → j ≠ 10 → ps_ptM J1 A.C.pl s A.C.sv on 298 j = J1 298 j := fun j q1 q2 q3 q4 => by
    unfold ps_ptM ps_ptH
    rw [pu_place q4, pu_place q3, pu_place q2, pu_place q1, g298]
  have m4 : ps_ptM J1 A.C.pl s A.C.sv on 298 119 = nI (A.C.pl + 1) := by
    unfold ps_ptM ps_ptH
    rw [pu_place (by omega), pu_place (by omega), pu_place (by omega), pu_eq, g298, s119, nI_add]
  have m5 : ps_ptM J1 A.C.pl s A.C.sv on 298 s = nI (A.C.sc s + 1) := by
    unfold ps_ptM
    rw [pu_place (by omega), pu_place (by omega), pu_eq]
    unfold ps_ptH
    rw [pu_place (by omega), g298, sS, nI_add]
  have m6 : ∀ s', s' < 2 → ps_ptM J1 A.C.pl s A.C.sv on 298 (9 + s') = 0 := fun s' hs' => by
    unfold ps_ptM
    rcases (show s' = 0 ∨ s' = 1 by omega) with rfl | rfl
    · rw [pu_place (by omega)]; exact pu_eq
    · exact pu_eq
  have goneE : ∀ s' p, ps_gone A.W (A.C.setpt s) s' p = ps_gone A.W A.C s' p := fun s' p => by
    unfold ps_gone
    rw [ps_in_pt]; rfl
  have cnt0 : ∀ s' p, ps_cnt (ps_push A) s' p A.C.pl = ps_cnt A s' p A.C.pl := fun s' p => ps_cnt_of (A := A) (B := ps_push A) rfl rfl rfl s' p _
  have fin : ∀ J : Nat → Nat → Int32, (∀ a, a ≠ 298 → J a = ps_ptM J1 A.C.pl s A.C.sv on a) → ps_MR (ps_point A s) (A.C.setpt s) (J 298) → ∃ J', some (J 298 2, (J, L, px_R t v w)) = some (nI s, (J', L, px_R t v w)) ∧ ps_MX (ps_point A s) J' ∧ (∀ a, a < 290 → J' a = I a) := by
    intro J q1 q2
    refine ⟨J, by rw [q2.sv]; rfl, r2.pt h0 (fun a z1 z2 z3 => by rw [q1 a z2, m1 a z2 z3]) (fun _ => q2) (fun _ k hk => by rw [q1 300 (by omega)]; exact m2 k hk), fun a ha => by rw [q1 a (by omega), m1 a (by omega) (by omega), r3 a (by omega) (by omega), hI a ha]⟩
  by_cases c : A.C.sv = s
  · rw [if_pos (by rw [c])]
    show ∃ J, fx_b2 (fX10_two (nI s) (nI on) 12 (ps_ptM J1 A.C.pl s A.C.sv on, L, px_R t v w)) _ = _ ∧ _
    rw [pm_two12, pb_2, pl_let, show (95 : Int32) = nI 95 from rfl, nI_add, pg_pos (pi_in (by omega) (by omega)), pg_pos (pi_in (by omega) (by omega)), pl_let, pi_ix (by omega)]
    unfold fX10_point_160
    show ∃ J, some (hp_u (ps_ptM J1 A.C.pl s A.C.sv on) 298 (95 + (12 * s + on)) (ps_ptM J1 A.C.pl s A.C.sv on 298 (95 + (12 * s + on)) + nI 1) 298 2, (hp_u (ps_ptM J1 A.C.pl s A.C.sv on) 298 (95 + (12 * s + on)) (ps_ptM J1 A.C.pl s A.C.sv on 298 (95 + (12 * s + on)) + nI 1), L, px_R t v w)) = _ ∧ _
    have k1 : ∀ j, j ≠ 95 + (12 * s + on) → hp_u (ps_ptM J1 A.C.pl s A.C.sv on) 298 (95 + (12 * s + on)) (ps_ptM J1 A.C.pl s A.C.sv on 298 (95 + (12 * s + on)) + nI 1) 298 j = ps_ptM J1 A.C.pl s A.C.sv on 298 j := fun j q => pu_place q
    have k2 : hp_u (ps_ptM J1 A.C.pl s A.C.sv on) 298 (95 + (12 * s + on)) (ps_ptM J1 A.C.pl s A.C.sv on 298 (95 + (12 * s + on)) + nI 1) 298 (95 + (12 * s + on)) = nI (ps_cnt A s on A.C.pl + 1) := by
      rw [pu_eq, m3 _ (by omega) (by omega) (by omega) (by omega), show 95 + (12 * s + on) = 95 + 12 * s + on by omega, hC.svd s hs on (by omega), show (ps_push A).C.pl = A.C.pl from rfl, cnt0, nI_add]
    have k3 : ∀ a, a ≠ 298 → hp_u (ps_ptM J1 A.C.pl s A.C.sv on) 298 (95 + (12 * s + on)) (ps_ptM J1 A.C.pl s A.C.sv on 298 (95 + (12 * s + on)) + nI 1) a = ps_ptM J1 A.C.pl s A.C.sv on a := fun a q => pu_cell q
    generalize hp_u (ps_ptM J1 A.C.pl s A.C.sv on) 298 (95 + (12 * s + on)) (ps_ptM J1 A.C.pl s A.C.sv on 298 (95 + (12 * s + on)) + nI 1) = H at k1 k2 k3 ⊢
    have eq : ∀ j, j ≠ 95 + (12 * s + on) → j ≠ 119 → j ≠ s → j ≠ 9 → j ≠ 10 → H 298 j = J1 298 j := fun j q0 q1 q2 q3 q4 => by rw [k1 j q0, m3 j q1 q2 q3 q4]
    refine fin H k3 ⟨fun s' hs' => ?_, ?_, fun s' hs' => ?_, fun s' hs' => ?_, fun s' hs' => ?_, fun s' hs' => ?_, fun s' hs' k hk => ?_, fun s' hs' k hk => ?_, fun s' hs' k hk => ?_, fun s' hs' k hk => ?_, fun s' hs' k hk => ?_, fun s' hs' k hk => ?_, ?_⟩
    · show _ = nI (if s' = s then A.C.sc s' + 1 else A.C.sc s')
      by_cases d : s' = s
      · rw [if_pos d, d, k1 _ (by omega), m5]
      · rw [if_neg d, eq _ (by omega) (by omega) d (by omega) (by omega)]; exact hC.sc s' hs'
    · rw [eq _ (by omega) (by omega) (by omega) (by omega) (by omega), ssv, c]; rfl
    · show _ = nI (if s' = s ∧ A.C.sv ≠ s then _ else A.C.tn s')
      rw [if_neg (fun q => q.2 c), eq _ (by omega) (by omega) (by omega) (by omega) (by omega)]; exact hC.tn s' hs'
    · rw [eq _ (by omega) (by omega) (by omega) (by omega) (by omega)]; exact hC.lf s' hs'
    · rw [eq _ (by omega) (by omega) (by omega) (by omega) (by omega), hC.fr s' hs']
      unfold ps_for
      show _ = if (if s' = s ∧ A.C.sv ≠ s then ps_f2 (A.C.fs s') else A.C.fs s') = 0 then -1 else nI (if s' = s ∧ A.C.sv ≠ s then A.C.six s' (((if s' = s ∧ A.C.sv ≠ s then ps_f2 (A.C.fs s') else A.C.fs s') - 1 + 1) % 6) else A.C.six s' ((if s' = s ∧ A.C.sv ≠ s then ps_f2 (A.C.fs s') else A.C.fs s') - 1))
      rw [if_neg (show ¬ (s' = s ∧ A.C.sv ≠ s) from fun q => q.2 c), if_neg (show ¬ (s' = s ∧ A.C.sv ≠ s) from fun q => q.2 c)]; rfl
    · show _ = nI (if (s' = s ∧ A.C.sv ≠ s) ∧ A.C.fs s' = 5 then 1 else 0)
      rw [if_neg (fun q => q.1.2 c), k1 _ (by omega), m6 s' hs']; rfl
    · rw [eq _ (by omega) (by omega) (by omega) (by omega) (by omega), hC.on s' hs' k hk]
      unfold ps_on
      show _ = if (if s' = s ∧ A.C.sv ≠ s then ps_f2 (A.C.fs s') else A.C.fs s') = k + 1 then ps_e1 (A.W.free s') else nI (if s' = s ∧ A.C.sv ≠ s then A.C.six s' ((k + 1) % 6) else A.C.six s' k)
      rw [if_neg (show ¬ (s' = s ∧ A.C.sv ≠ s) from fun q => q.2 c), if_neg (show ¬ (s' = s ∧ A.C.sv ≠ s) from fun q => q.2 c)]; rfl
    · rw [eq _ (by omega) (by omega) (by omega) (by omega) (by omega)]; exact hC.mate s' hs' k hk
    · show _ = nI (ps_gone A.W (A.C.setpt s) s' k)
      rw [goneE, eq _ (by omega) (by omega) (by omega) (by omega) (by omega)]; exact hC.gone s' hs' k hk
    · rw [eq _ (by omega) (by omega) (by omega) (by omega) (by omega)]; exact hC.x s' hs' k hk
    · rw [eq _ (by omega) (by omega) (by omega) (by omega) (by omega)]; exact hC.y s' hs' k hk
    · show _ = nI (ps_cnt (ps_point A s) s' k (A.C.pl + 1))
      rw [ps_cnt_pl, ← hon]
      by_cases d : s' = s ∧ k = on
      · rw [d.1, d.2, if_pos ⟨rfl, c, rfl⟩, show 95 + 12 * s + on = 95 + (12 * s + on) by omega, k2]
      · rw [if_neg (fun q => d ⟨q.1.symm, q.2.2.symm⟩), eq _ (by omega) (by omega) (by omega) (by omega) (by omega), hC.svd s' hs' k hk, show (ps_push A).C.pl = A.C.pl from rfl, cnt0]; rfl
    · rw [k1 _ (by omega), m4]; rfl
  · rw [if_neg (fun q => c ((nI_eq (by omega) (by omega)).mp q)), pl_let]
    show ∃ J, fx_b1 (fX10_turns 290 (nI s) (hp_u (ps_ptM J1 A.C.pl s A.C.sv on) 298 2 (nI s), L, px_R t v w)) _ = _ ∧ _
    have a1 : ∀ j, j ≠ 2 → j ≠ 119 → j ≠ s → j ≠ 9 → j ≠ 10 → hp_u (ps_ptM J1 A.C.pl s A.C.sv on) 298 2 (nI s) 298 j = J1 298 j := fun j q0 q1 q2 q3 q4 => by rw [pu_place q0, m3 j q1 q2 q3 q4]
    obtain ⟨H, ⟨u1, u2, u3, u4, u5, u6⟩, u7⟩ := cm_turnOnce (A := A) (I := hp_u (ps_ptM J1 A.C.pl s A.C.sv on) 298 2 (nI s)) (L := L) (t := t) (v := v) (w := w) w0 w1 hs (by
      have h9 : ps_MW J1 A.W := hW
      unfold ps_MW at h9 ⊢
      rw [pu_cell (by omega), pu_cell (by omega), m1 292 (by omega) (by omega), m1 295 (by omega) (by omega)]; exact h9) (fun k hk => by rw [a1 _ (by omega) (by omega) (by omega) (by omega) (by omega)]; exact hC.on s hs k hk) (by rw [a1 _ (by omega) (by omega) (by omega) (by omega) (by omega)]; exact hC.tn s hs) (by rw [a1 _ (by omega) (by omega) (by omega) (by omega) (by omega)]; exact hC.fr s hs)
    rw [u7, pb_1]
    unfold fX10_point_160
    have b1 : ∀ j, ¬ (11 + 6 * s ≤ j ∧ j < 17 + 6 * s) → j ≠ 3 + s → j ≠ 7 + s → j ≠ 9 + s → j ≠ 2 → H 298 j = ps_ptM J1 A.C.pl s A.C.sv on 298 j := fun j q1 q2 q3 q4 q5 => by rw [u5 j q1 q2 q3 q4, pu_place q5]
    have b2 : ∀ j, ¬ (11 + 6 * s ≤ j ∧ j < 17 + 6 * s) → j ≠ 3 + s → j ≠ 7 + s → j ≠ 9 + s → j ≠ 2 → j ≠ 119 → j ≠ s → j ≠ 9 → j ≠ 10 → H 298 j = J1 298 j := fun j q1 q2 q3 q4 q5 q6 q7 q8 q9 => by rw [b1 j q1 q2 q3 q4 q5, m3 j q6 q7 q8 q9]
    refine fin H (fun a q => by rw [u6 a q, pu_cell q]) ⟨fun s' hs' => ?_, ?_, fun s' hs' => ?_, fun s' hs' => ?_, fun s' hs' => ?_, fun s' hs' => ?_, fun s' hs' k hk => ?_, fun s' hs' k hk => ?_, fun s' hs' k hk => ?_, fun s' hs' k hk => ?_, fun s' hs' k hk => ?_, fun s' hs' k hk => ?_, ?_⟩
    · show _ = nI (if s' = s then A.C.sc s' + 1 else A.C.sc s')
      by_cases d : s' = s
      · rw [if_pos d, d, b1 _ (by omega) (by omega) (by omega) (by omega) (by omega), m5]
      · rw [if_neg d, b2 _ (by omega) (by omega) (by omega) (by omega) (by omega) (by omega) d (by omega) (by omega)]; exact hC.sc s' hs'
    · rw [u5 2 (by omega) (by omega) (by omega) (by omega), pu_eq]; rfl
    · show _ = nI (if s' = s ∧ A.C.sv ≠ s then (A.C.tn s' + 1) % 6 else A.C.tn s')
      by_cases d : s' = s
      · rw [if_pos ⟨d, c⟩, d, u2]
      · rw [if_neg (fun q => d q.1), b2 _ (by omega) (by omega) (by omega) (by omega) (by omega) (by omega) (by omega) (by omega) (by omega)]; exact hC.tn s' hs'
    · rw [b2 _ (by omega) (by omega) (by omega) (by omega) (by omega) (by omega) (by omega) (by omega) (by omega)]; exact hC.lf s' hs'
    · by_cases d : s' = s
      · subst d
        rw [u3, ps_for_pt w0 hs' c, a1 _ (by omega) (by omega) (by omega) (by omega) (by omega), hC.fr s' hs']; rfl
      · rw [b2 _ (by omega) (by omega) (by omega) (by omega) (by omega) (by omega) (by omega) (by omega) (by omega), hC.fr s' hs']
        unfold ps_for
        show _ = if (if s' = s ∧ A.C.sv ≠ s then ps_f2 (A.C.fs s') else A.C.fs s') = 0 then -1 else nI (if s' = s ∧ A.C.sv ≠ s then A.C.six s' (((if s' = s ∧ A.C.sv ≠ s then ps_f2 (A.C.fs s') else A.C.fs s') - 1 + 1) % 6) else A.C.six s' ((if s' = s ∧ A.C.sv ≠ s then ps_f2 (A.C.fs s') else A.C.fs s') - 1))
        rw [if_neg (show ¬ (s' = s ∧ A.C.sv ≠ s) from fun q => d q.1), if_neg (show ¬ (s' = s ∧ A.C.sv ≠ s) from fun q => d q.1)]; rfl
    · show _ = nI (if (s' = s ∧ A.C.sv ≠ s) ∧ A.C.fs s' = 5 then 1 else 0)
      by_cases d : s' = s
      · subst d
        rw [u4, pu_place (by omega), m6 s' hs']
        by_cases f5 : A.C.fs s' = 5
        · rw [if_pos f5, if_pos ⟨⟨rfl, c⟩, f5⟩]; rfl
        · rw [if_neg f5, if_neg (fun q => f5 q.2)]; rfl
      · rw [if_neg (fun q => d q.1.1), b1 _ (by omega) (by omega) (by omega) (by omega) (by omega), m6 s' hs']; rfl
    · by_cases d : s' = s
      · subst d
        rw [u1 k hk]
        exact (ps_on_pt w0 hs' hk c).symm
      · rw [b2 _ (by omega) (by omega) (by omega) (by omega) (by omega) (by omega) (by omega) (by omega) (by omega), hC.on s' hs' k hk]
        unfold ps_on
        show _ = if (if s' = s ∧ A.C.sv ≠ s then ps_f2 (A.C.fs s') else A.C.fs s') = k + 1 then ps_e1 (A.W.free s') else nI (if s' = s ∧ A.C.sv ≠ s then A.C.six s' ((k + 1) % 6) else A.C.six s' k)
        rw [if_neg (show ¬ (s' = s ∧ A.C.sv ≠ s) from fun q => d q.1), if_neg (show ¬ (s' = s ∧ A.C.sv ≠ s) from fun q => d q.1)]; rfl
    · rw [b2 _ (by omega) (by omega) (by omega) (by omega) (by omega) (by omega) (by omega) (by omega) (by omega)]; exact hC.mate s' hs' k hk
    · show _ = nI (ps_gone A.W (A.C.setpt s) s' k)
      rw [goneE, b2 _ (by omega) (by omega) (by omega) (by omega) (by omega) (by omega) (by omega) (by omega) (by omega)]; exact hC.gone s' hs' k hk
    · rw [b2 _ (by omega) (by omega) (by omega) (by omega) (by omega) (by omega) (by omega) (by omega) (by omega)]; exact hC.x s' hs' k hk
    · rw [b2 _ (by omega) (by omega) (by omega) (by omega) (by omega) (by omega) (by omega) (by omega) (by omega)]; exact hC.y s' hs' k hk
    · show _ = nI (ps_cnt (ps_point A s) s' k (A.C.pl + 1))
      rw [ps_cnt_pl, if_neg (fun q => c (q.2.1.trans q.1.symm)), b2 _ (by omega) (by omega) (by omega) (by omega) (by omega) (by omega) (by omega) (by omega) (by omega), hC.svd s' hs' k hk, show (ps_push A).C.pl = A.C.pl from rfl, cnt0]; rfl
    · rw [b1 _ (by omega) (by omega) (by omega) (by omega) (by omega), m4]; rfl
end PSF40
