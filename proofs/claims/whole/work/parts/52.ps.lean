/-! ===== a move (the reference's side) ===== -/
section PSW
variable {t v w : Bool} {A : ps_A} {I J : Nat → Nat → Int32} {L : Nat → Nat → Int64}
theorem cm_puts {s g : Nat} {X : Int32} (hs : s < 2) (hg : g < 6) : fX10_puts 290 (nI s) (nI (g + 1)) X (I, L, px_R t v w) = some (hp_u I 298 (11 + 6 * s + g) X, L, px_R t v w) := by
  unfold fX10_puts
  rw [pm_two, pb_2, show (11 : Int32) = nI 11 from rfl, nI_add, pg_pos (pi_in (by omega) (by omega)), pi_ix (by omega), pl_let, ← Nat.add_assoc]
  rfl
theorem cm_m77 {s : Nat} {X : Int32} (hs : s < 2) : fX10_moves_77 290 (nI s) X (I, L, px_R t v w) = some (X, (hp_u I 298 (9 + s) 1, L, px_R t v w)) := by
  unfold fX10_moves_77
  rw [show (9 : Int32) = nI 9 from rfl, nI_add, pg_pos (pi_in (by omega) (by omega)), pi_ix (by omega), pl_let]
  rfl
theorem ps_MR_move {s f g : Nat} {X Y : Int32} {r : Nat → Int32} (hs : s < 2) (hg : g < 6) (h : ps_MR A A.C r) (hX : X = ps_on A.W (A.C.setfs s f) s g) (hY : Y = ps_for (A.C.setfs s f) s) (ho : ∀ k, k < 6 → k ≠ g → ps_on A.W A.C s k = ps_on A.W (A.C.setfs s f) s k)
    {r2 : Nat → Int32} (e1 : r2 (11 + 6 * s + g) = X) (e2 : r2 (7 + s) = Y) (e3 : r2 (9 + s) = 1) (e4 : ∀ j, j ≠ 11 + 6 * s + g → j ≠ 7 + s → j ≠ 9 + s → r2 j = r j) : ps_MR A (A.C.setfs s f) r2 := by
  have of : ∀ s', s' ≠ s → ∀ k, ps_on A.W (A.C.setfs s f) s' k = ps_on A.W A.C s' k := fun s' hne k => by
    show (if (if s' = s then f else A.C.fs s') = k + 1 then _ else _) = _
    rw [if_neg hne]; rfl
  refine ⟨fun s' hs' => ?_, ?_, fun s' hs' => ?_, fun s' hs' => ?_, fun s' hs' => ?_, fun s' hs' => ?_, fun s' hs' k' hk' => ?_, fun s' hs' k' hk' => ?_, fun s' hs' k' hk' => ?_, fun s' hs' k' hk' => ?_, fun s' hs' k' hk' => ?_, fun s' hs' k' hk' => ?_, ?_⟩
  · rw [e4 _ (by omega) (by omega) (by omega)]; exact h.sc s' hs'
  · rw [e4 _ (by omega) (by omega) (by omega)]; exact h.sv
  · rw [e4 _ (by omega) (by omega) (by omega)]; exact h.tn s' hs'
  · rw [e4 _ (by omega) (by omega) (by omega)]; exact h.lf s' hs'
  · by_cases c : s' = s
    · rw [c, e2, hY]
    · rw [e4 _ (by omega) (by omega) (by omega), h.fr s' hs']
      show _ = (if (if s' = s then f else A.C.fs s') = 0 then _ else nI (A.C.six s' ((if s' = s then f else A.C.fs s') - 1)))
      rw [if_neg c]; rfl
  · show _ = nI (if s' = s then 1 else A.C.mv s')
    by_cases c : s' = s
    · rw [if_pos c, c, e3]; rfl
    · rw [if_neg c, e4 _ (by omega) (by omega) (by omega)]; exact h.mv s' hs'
  · by_cases c : s' = s
    · rw [c]
      by_cases d : k' = g
      · rw [d, e1, hX]
      · rw [e4 _ (by omega) (by omega) (by omega), h.on s hs k' hk', ho k' hk' d]
    · rw [e4 _ (by omega) (by omega) (by omega), h.on s' hs' k' hk', of s' c]
  · rw [e4 _ (by omega) (by omega) (by omega)]; exact h.mate s' hs' k' hk'
  · rw [e4 _ (by omega) (by omega) (by omega)]; exact h.gone s' hs' k' hk'
  · rw [e4 _ (by omega) (by omega) (by omega)]; exact h.x s' hs' k' hk'
  · rw [e4 _ (by omega) (by omega) (by omega)]; exact h.y s' hs' k' hk'
  · rw [e4 _ (by omega) (by omega) (by omega)]; exact h.svd s' hs' k' hk'
  · rw [e4 _ (by omega) (by omega) (by omega)]; exact h.pl
end PSW
