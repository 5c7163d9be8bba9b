/-! ===== a move (the reference's side), whole ===== -/
section PSX
variable {t v w : Bool} {A : ps_A} {I J : Nat → Nat → Int32} {L : Nat → Nat → Int64}
theorem cm_move (h0 : ps_wf A) (ho : A.on = true) (hM : ps_MX A I) {s f p : Nat} (hs : s < 2) (hf : f ≤ 6) (hj : sp_mayMove A (nI s) (nI f) = 0) (hp : A.W.free s = some p) (hfs : f = 0 ↔ A.C.fs s ≠ 0) :
    ∃ J, fX10_move 290 (nI s) (nI f) (I, L, px_R t v w) = some (nI (A.C.six s ((if f = 0 then A.C.fs s else f) - 1)), (J, L, px_R t v w)) ∧ ps_MX (ps_move A s f) J ∧ (∀ a, a < 290 → J a = I a) := by
  have w0 := h0.C ho
  have w1 := h0.W ho
  have hfb := w0.fs s hs
  unfold fX10_move
  rw [pl_let]
  show ∃ J, fx_b2 (fX10_wrongMove 290 (nI s) (nI f) (hp_u I 290 0 0, L, px_R t v w)) _ = _ ∧ _
  have hM := hM.flag (z := 0)
  have hI : ∀ a, a < 290 → hp_u I 290 0 0 a = I a := fun a ha => pu_cell (by omega)
  generalize hp_u I 290 0 0 = K at hM hI ⊢
  obtain ⟨J1, r1, r2, r3, r4⟩ := cm_keeps (t := t) (v := v) (w := w) (L := L) h0 ho hM
  have hC : ps_MR (ps_push A) (ps_push A).C (J1 298) := r2.C (show (ps_push A).on = true from ho)
  have hW := r2.W (show (ps_push A).on = true from ho)
  rw [cm_jmove h0 hM, pb_2, hj, if_pos rfl, r1, pb_1]
  have e7 : J1 292 (7 + s) = nI p := by rw [hW.free s hs]; show ps_e1 (A.W.free s) = _; rw [hp]; rfl
  have e8 : J1 298 (7 + s) = ps_for A.C s := hC.fr s hs
  have fin : ∀ (g : Nat) (X Y Z : Int32), g < 6 → X = ps_on A.W (A.C.setfs s f) s g → Y = ps_for (A.C.setfs s f) s → (∀ k, k < 6 → k ≠ g → ps_on A.W A.C s k = ps_on A.W (A.C.setfs s f) s k) → Z = nI (A.C.six s ((if f = 0 then A.C.fs s else f) - 1)) → fX10_moves 290 (nI s) (nI f) (J1, L, px_R t v w) = some (Z, (hp_u (hp_u (hp_u J1 298 (11 + 6 * s + g) X) 298 (7 + s) Y) 298 (9 + s) 1, L, px_R t v w)) → (∃ J, (fx_b2 (fX10_moves 290 (nI s) (nI f) (J1, L, px_R t v w)) fun r25 h25 => some (r25, h25)) = some (nI (A.C.six s ((if f = 0 then A.C.fs s else f) - 1)), (J, L, px_R t v w)) ∧ ps_MX (ps_move A s f) J ∧ (∀ a, a < 290 → J a = I a)) := by
    intro g X Y Z hg hX hY hk hZ e
    rw [e, pb_2, hZ]
    refine ⟨_, rfl, ?_, fun c hc => by rw [pu_cell (by omega), pu_cell (by omega), pu_cell (by omega), r3 c (by omega) (by omega), hI c hc]⟩
    refine r2.setC (fun c z1 z2 => by rw [pu_cell z2, pu_cell z2, pu_cell z2]) (fun _ => ?_) rfl
    exact ps_MR_move (A := ps_push A) hs hg hC hX hY hk (by rw [pu_place (by omega), pu_place (by omega), pu_eq]) (by rw [pu_place (by omega), pu_eq]) pu_eq (fun j z1 z2 z3 => by rw [pu_place z3, pu_place z2, pu_place z1])
  have onf : ∀ k, ps_on A.W (A.C.setfs s f) s k = if f = k + 1 then ps_e1 (A.W.free s) else nI (A.C.six s k) := fun k => by
    show (if (if s = s then f else A.C.fs s) = k + 1 then _ else _) = _
    rw [if_pos rfl]; rfl
  have forf : ps_for (A.C.setfs s f) s = if f = 0 then -1 else nI (A.C.six s (f - 1)) := by
    show (if (if s = s then f else A.C.fs s) = 0 then _ else nI (A.C.six s ((if s = s then f else A.C.fs s) - 1))) = _
    rw [if_pos rfl]
  by_cases c : f = 0
  · have hz := hfs.mp c
    have hg : A.C.fs s - 1 < 6 := by omega
    refine fin (A.C.fs s - 1) (ps_for A.C s) (-1) (ps_for A.C s) hg ?_ ?_ ?_ ?_ ?_
    · rw [onf, if_neg (by omega)]; unfold ps_for; rw [if_neg hz]
    · rw [forf, if_pos c]
    · intro k hk hne
      rw [onf, if_neg (by omega)]; unfold ps_on; rw [if_neg (by omega)]
    · unfold ps_for; rw [if_neg hz, if_pos c]
    · unfold fX10_moves
      have hp2 := w1.free s hs p hp
      have hp3 := w1.size s hs
      have hsp : ps_at (ps_on (ps_push A).W (ps_push A).C s) (nI p) 6 0 = A.C.fs s - 1 + 1 := by
        rw [show ps_at (ps_on (ps_push A).W (ps_push A).C s) (nI p) 6 0 = ps_onc A.W A.C s p from ps_onc_eq w1 w0 hs (by omega)]
        unfold ps_onc
        rw [if_pos hp]; omega
      rw [show (7 : Int32) = nI 7 from rfl, nI_add, pg_pos (pi_in (by omega) (by omega)), pi_ix (by omega), pl_let, pg_pos (pi_in (by omega) (by omega)), pl_let]
      show (if nI f = 0 then fx_b2 (fX10_spotOf 290 (nI s) (J1 292 (7 + s)) (J1, L, px_R t v w)) _ else _) = _
      rw [if_pos (show nI f = 0 by rw [c]; rfl), e7, cm_spotOf hC hs, pb_2, hsp]
      show fx_b1 (fX10_puts 290 (nI s) (nI (A.C.fs s - 1 + 1)) (J1 298 (7 + s)) (J1, L, px_R t v w)) _ = _
      rw [cm_puts hs hg, pb_1, pg_pos (pi_in (by omega) (by omega)), pl_let]
      show fX10_moves_77 290 (nI s) (J1 298 (7 + s)) (hp_u (hp_u J1 298 (11 + 6 * s + (A.C.fs s - 1)) (J1 298 (7 + s))) 298 (7 + s) (-1), L, px_R t v w) = _
      rw [cm_m77 hs, e8]
  · have hz : A.C.fs s = 0 := by
      by_cases z : A.C.fs s = 0
      · exact z
      · exact absurd (hfs.mpr z) c
    have hg : f - 1 < 6 := by omega
    have on1 : ps_on A.W A.C s (f - 1) = nI (A.C.six s (f - 1)) := by unfold ps_on; rw [if_neg (by omega)]
    refine fin (f - 1) (nI p) (nI (A.C.six s (f - 1))) (nI (A.C.six s (f - 1))) hg ?_ ?_ ?_ ?_ ?_
    · rw [onf, if_pos (by omega), hp]; rfl
    · rw [forf, if_neg c]
    · intro k hk hne
      rw [onf, if_neg (by omega)]; unfold ps_on; rw [if_neg (by omega)]
    · rw [if_neg c]
    · unfold fX10_moves
      rw [show (7 : Int32) = nI 7 from rfl, nI_add, pg_pos (pi_in (by omega) (by omega)), pi_ix (by omega), pl_let, pg_pos (pi_in (by omega) (by omega)), pl_let, if_neg (nI_ne0 (by omega) (by omega)), show nI f = nI (f - 1 + 1) by rw [Nat.sub_add_cancel (by omega)], cm_court hC hs hg, pb_2]
      show fx_b1 (fX10_puts 290 (nI s) (nI (f - 1 + 1)) (J1 292 (7 + s)) (J1, L, px_R t v w)) _ = _
      rw [cm_puts hs hg, pb_1, pg_pos (pi_in (by omega) (by omega)), pl_let, e7]
      show fX10_moves_77 290 (nI s) (ps_on A.W A.C s (f - 1)) (hp_u (hp_u J1 298 (11 + 6 * s + (f - 1)) (nI p)) 298 (7 + s) (ps_on A.W A.C s (f - 1)), L, px_R t v w) = _
      rw [cm_m77 hs, on1]
end PSX
