/-! ===== the best place for the one who is free ===== -/
def ps_mq (A : ps_A) (s k : Nat) (s' k' : Nat) : Nat := if s' = s ∧ k' = k then (A.W.free s).getD 0 else ps_onN A.W A.C s' k'
def ps_re (k : Nat) : Nat := if k = 0 then 0 else 6 - k
def ps_mc (A : ps_A) (s k : Nat) : Int32 := nI (ps_ch A.W (ps_mq A s (ps_re k)) 0 0 A.C.sv)
def ps_mb (A : ps_A) (s : Nat) : Nat → Option (Int32 × Int32 × Int32)
  | 0 => none
  | k + 1 => if sp_mayMove A (nI s) (nI (ps_re k + 1)) = 0 then ps_bo (ps_mb A s k) (nI (ps_re k + 1)) (ps_mc A s k) (ps_mc A s k) (decide (A.C.sv = s)) else ps_mb A s k
def sp_bestMove (A : ps_A) (a b : Int32) : Int32 := if ps_sd A a && ps_01 b then (match ps_mb A a.toNatClampNeg 3 with | none => -2 | some c => ps_pa c b) else -1
theorem ps_mv_free {A : ps_A} (h0 : ps_wf A) (ho : A.on = true) {s k : Nat} (hs : s < 2) (hk : k < 3) (h : sp_mayMove A (nI s) (nI (ps_re k + 1)) = 0) : ∃ p, A.W.free s = some p := by
  cases e : A.W.free s with
  | some p => exact ⟨p, rfl⟩
  | none =>
    exfalso
    unfold sp_mayMove at h
    split at h
    · unfold ps_jmove at h
      rw [nI_clamp (by omega), e] at h
      revert h
      split
      · intro h; exact absurd h (by decide)
      · simp
    · exact absurd h (by decide)
theorem ps_mq_six {A : ps_A} (h0 : ps_wf A) (ho : A.on = true) {s : Nat} {p : Nat} (hs : s < 2) (hp : A.W.free s = some p) (k : Nat) : ∀ s', s' < 2 → ps_six A.W s' (ps_mq A s k s') := by
  intro s' hs' k' hk'
  unfold ps_mq
  split
  · rename_i c
    rw [hp, c.1]
    exact (h0.W ho).free s hs p hp
  · exact ps_onN_six (h0.W ho) (h0.C ho) hs' k' hk'
section PSF14
variable {t v w : Bool} {A : ps_A} {I : Nat → Nat → Int32} {L : Nat → Nat → Int64}
theorem cx_behindMove (h0 : ps_wf A) (ho : A.on = true) (hX : ps_RX t A I) {s k p : Nat} (hs : s < 2) (hk : k < 6) (hp : A.W.free s = some p) :
    ∃ J, (∀ a, (a < 3 ∨ 11 < a) → a ≠ 35 → a ≠ 36 → J a = I a) ∧ fX9_chanceBehindMove 0 (nI s) (nI (k + 1)) (I, L, px_R t v w) = some (nI (ps_ch A.W (ps_mq A s k) 0 0 A.C.sv), (J, L, px_R t v w)) := by
  have hT := ps_T_le t
  unfold fX9_chanceBehindMove
  obtain ⟨J, ⟨j1, j2⟩, j3⟩ := cx_fillTrials (L := L) (v := v) (w := w) h0 ho hX
  rw [j3, pb_1]
  have e1 : fX9_trialOf 0 (nI s) (J, L, px_R t v w) = some (35 + s, (J, L, px_R t v w)) := by
    rcases (show s = 0 ∨ s = 1 by omega) with rfl | rfl <;> rfl
  rw [e1, pb_2, show (J, L, px_R t v w).2.2 0 11 = ps_T t from rfl, cx_squad hs, pb_2, nI_pred, pg_pos (pi_in hk (by omega)), pl_let, pi_ix (by omega)]
  show ∃ H, _ ∧ fx_b1 (fX9_weighTrials 0 (hp_u J (35 + s) k (J (ps_T t + 6 * s + 1) 7), L, px_R t v w)) _ = _
  rw [j2 _ (by omega) (by omega), (hX.W ho).free s hs, hp]
  have near : ∀ a, a ≠ 35 → a ≠ 36 → hp_u J (35 + s) k (ps_e1 (some p)) a = I a := fun a h1 h2 => by rw [pu_cell (by omega)]; exact j2 a h1 h2
  have rd : ∀ s', s' < 2 → ∀ k', k' < 6 → hp_u J (35 + s) k (ps_e1 (some p)) (35 + s') k' = nI (ps_mq A s k s' k') := by
    intro s' hs' k' hk'
    unfold ps_mq
    by_cases c : s' = s ∧ k' = k
    · rw [if_pos c, c.1, c.2, pu_eq, hp]; rfl
    · rw [if_neg c, pu_ne (by omega)]
      rcases (show s' = 0 ∨ s' = 1 by omega) with rfl | rfl
      · exact (j1 k' hk').1
      · exact (j1 k' hk').2
  obtain ⟨J2, k1, k2, k3⟩ := cx_weighTrials (I := hp_u J (35 + s) k (ps_e1 (some p))) (L := L) (t := t) (v := v) (w := w) (q := ps_mq A s k) (h0.W ho) ((hX.W ho).near (fun a h1 h2 => near a (by omega) (by omega))) (ps_mq_six h0 ho hs hp k) (rd 0 (by omega)) (rd 1 (by omega))
  refine ⟨J2, fun a ha h1 h2 => (k2 a ha).trans (near a h1 h2), ?_⟩
  rw [k3, pb_1]
  show fx_b2 (fX4_chanceOf 3 (nI 0) (nI 0) (J2 22 2) _) _ = _
  rw [k2 22 (by omega), near 22 (by omega) (by omega), (hX.C ho).sv, cx_chanceOf (h0.W ho) (ps_mq_six h0 ho hs hp k) k1 (by omega) (by omega) (h0.C ho).sv, pb_2]
theorem cx_bestMove (h0 : ps_wf A) (hX : ps_RX t A I) (a b : Int32) : ∃ J, ps_fx I J ∧ fX9_bestMove 0 a b (I, L, px_R t v w) = some (sp_bestMove A a b, (J, L, px_R t v w)) := by
  unfold fX9_bestMove sp_bestMove
  rw [cx_side hX, pb_2]
  cases e : ps_sd A a with
  | false => exact ⟨I, ps_fx.refl I, rfl⟩
  | true =>
    rw [if_neg (by decide), ps_01_if]
    cases e1 : ps_01 b with
    | false => exact ⟨I, ps_fx.refl I, rfl⟩
    | true =>
      obtain ⟨ho, s, hs, rfl⟩ := ps_sd_of e
      rw [if_pos rfl, nI_clamp (n := s) (by omega)]
      show ∃ J, _ ∧ fx_b1 (fX0_clear 37 _) _ = _
      obtain ⟨I1, i1, i2, i3⟩ := cx_clear (c := 37) (I := I) (L := L) (px_R t v w)
      rw [i3, pb_1]
      obtain ⟨J, ⟨j1, j2⟩, j3⟩ := pf_loop (S := Nat → Nat → Int32) (fun n i J => fX9_bestMove_28 n 0 (nI s) b (nI i) (J, L, px_R t v w)) (fun J => if J 37 0 = 0 then some (-2, (J, L, px_R t v w)) else fx_b2 (fX0_part 37 b (J, L, px_R t v w)) fun r h => some (r, h))
        (fun i J => ps_BC J 37 (ps_mb A s i) ∧ ps_fx I J) 3 (by
          intro n J _
          show fX9_bestMove_28 (n + 1) _ _ _ (nI 3) _ = _
          rw [fX9_bestMove_28, if_pos (by decide)]; rfl) (by
          rintro n i J hi ⟨p1, p2⟩
          show ∃ s', _ ∧ fX9_bestMove_28 (n + 1) _ _ _ (nI i) _ = fX9_bestMove_28 n _ _ _ (nI (i + 1)) _
          have ez : hp_zt 4 i = nI (ps_re i + 1) := by
            rcases (show i = 0 ∨ i = 1 ∨ i = 2 by omega) with rfl | rfl | rfl <;> decide +kernel
          have el : hp_zl 4 = 3 := by decide +kernel
          rw [fX9_bestMove_28, if_neg (show ¬ (3 : Int32) ≤ nI i from nI_ge (b := 3) hi (by omega)), el, pg_pos (pi_in hi (by omega)), pi_ix (n := i) (by omega), ez, cx_jmove h0 (hX.fx p2), pb_2, pg_pos (pi_in hi (by omega))]
          unfold fX9_bestMove_90 fX9_bestMove_93
          rw [ps_mb]
          by_cases c : sp_mayMove A (nI s) (nI (ps_re i + 1)) = 0
          · obtain ⟨p, hp⟩ := ps_mv_free h0 ho hs hi c
            have hre : ps_re i < 6 := by unfold ps_re; split <;> omega
            rw [if_pos c, if_pos c]
            obtain ⟨H, k1, k2⟩ := cx_behindMove (I := J) (L := L) (t := t) (v := v) (w := w) h0 ho (hX.fx p2) hs hre hp
            rw [k2, pb_2, pg_pos (pi_in hi (by omega))]
            obtain ⟨H2, l1, l2, l3⟩ := cx_offer (I := H) (L := L) (p1.cell (k1 37 (by omega) (by omega) (by omega))) (nI (ps_re i + 1)) (ps_mc A s i) (ps_mc A s i) (decide (A.C.sv = s)) (px_R t v w)
            refine ⟨H2, ⟨l1, (p2.trans (ps_fx.of k1)).trans (fun c hc => l2 c (by unfold ps_sc at hc; omega))⟩, ?_⟩
            show (if H 22 2 = nI s then fx_b1 (fX0_offer 37 _ (ps_mc A s i) (ps_mc A s i) 1 (H, L, px_R t v w)) _ else fx_b1 (fX0_offer 37 _ (ps_mc A s i) (ps_mc A s i) 0 (H, L, px_R t v w)) _) = _
            have hsv := (h0.C ho).sv
            rw [k1 22 (by omega) (by omega) (by omega), ((hX.fx p2).C ho).sv]
            by_cases d : A.C.sv = s
            · rw [decide_eq_true d, if_pos rfl] at l3
              rw [if_pos (by rw [d]), l3, pb_1, pl_let, nI_1]
            · rw [decide_eq_false d, if_neg (by decide)] at l3
              rw [if_neg (fun y => d ((nI_eq (by omega) (by omega)).mp y)), l3, pb_1, pl_let, nI_1]
          · rw [if_neg c, if_neg c, pl_let, nI_1]
            exact ⟨J, ⟨p1, p2⟩, rfl⟩) 3 0 fx_N I1 (by omega) (by unfold fx_N; omega) ⟨i1, fun c hc => i2 c (by unfold ps_sc at hc; omega)⟩
      refine ⟨J, j2, ?_⟩
      have j3' : fX9_bestMove_28 fx_N 0 (nI s) b 0 (I1, L, px_R t v w) = if J 37 0 = 0 then some (-2, (J, L, px_R t v w)) else fx_b2 (fX0_part 37 b (J, L, px_R t v w)) fun r h => some (r, h) := j3
      rw [j3']
      cases em : ps_mb A s 3 with
      | none =>
        rw [em] at j1
        rw [if_pos (show J 37 0 = 0 from j1)]; rfl
      | some c =>
        rw [em] at j1
        rw [if_neg (show ¬ J 37 0 = 0 by rw [j1.1]; decide), cx_part j1, pb_2]; rfl
theorem cm_courtq {q : Nat → Nat → Nat} (hR : ∀ s, s < 2 → ∀ k, k < 6 → I 298 (11 + 6 * s + k) = nI (q s k)) {s k : Nat} (hs : s < 2) (hk : k < 6) : fX10_court 290 (nI s) (nI (k + 1)) (I, L, px_R t v w) = some (nI (q s k), (I, L, px_R t v w)) := by
  unfold fX10_court
  rw [pm_two, pb_2, show (11 : Int32) = nI 11 from rfl, nI_add, pg_pos (pi_in (by omega) (by omega)), pi_ix (by omega)]
  show some (I 298 (11 + (6 * s + k)), _) = _
  rw [← Nat.add_assoc, hR s hs k hk]
theorem cm_takesCourtq {q : Nat → Nat → Nat} (hR : ∀ s, s < 2 → ∀ k, k < 6 → I 298 (11 + 6 * s + k) = nI (q s k)) : ∃ J, ps_S J q ∧ (∀ a, a ≠ 301 → J a = I a) ∧ fX10_takesCourt 290 (I, L, px_R t v w) = some (J, L, px_R t v w) := by
  unfold fX10_takesCourt fx_N
  rw [fX10_takesCourt_2, if_neg (by decide)]
  have hc : ∀ J, (∀ a, a ≠ 301 → J a = I a) → ∀ s, s < 2 → ∀ k, k < 6 → fX10_court 290 (nI s) (nI (k + 1)) (J, L, px_R t v w) = some (nI (q s k), (J, L, px_R t v w)) := fun J e s hs k hk => cm_courtq (fun s hs k hk => by rw [e 298 (by omega)]; exact hR s hs k hk) hs hk
  obtain ⟨J, ⟨j1, j2, j3⟩, j4⟩ := cm_takes9 (I := I) (L := L) (t := t) (v := v) (w := w) (s := 0) (by omega) (fun J e k hk => hc J e 0 (by omega) k hk) (fX10_takesCourt_2 99999)
  rw [show nI 0 = 0 from rfl] at j4
  rw [j4, fX10_takesCourt_2, if_neg (by decide)]
  obtain ⟨J2, ⟨k1, k2, k3⟩, k4⟩ := cm_takes9 (I := J) (L := L) (t := t) (v := v) (w := w) (s := 1) (by omega) (fun H e k hk => hc H (fun a ha => (e a ha).trans (j3 a ha)) 1 (by omega) k hk) (fX10_takesCourt_2 99998)
  rw [k4, fX10_takesCourt_2, if_pos (by decide)]
  refine ⟨J2, fun s hs k hk => ?_, fun a ha => (k3 a ha).trans (j3 a ha), rfl⟩
  rcases (show s = 0 ∨ s = 1 by omega) with rfl | rfl
  · rw [k2 _ (by omega)]; exact j1 k hk
  · exact k1 k hk
end PSF14
