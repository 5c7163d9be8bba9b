/-! ===== player, the start, all calls ===== -/
theorem ps_I5.kz {t : Bool} {I : Nat → Nat → Int32} {A : ps_A} (z : Int32) (h : ps_I5 A t I) : ps_I5 A t (hp_u I 290 0 z) := ⟨h.1, h.2.1.cong (fun a ha => pu_cell (by omega)), h.2.2.1.flag, h.2.2.2.near (fun a ha => pu_cell (by omega))⟩
theorem ps_what {x : Int32} (h : ¬ (x.toInt < 0 ∨ 7 < x.toInt)) : ∃ k : Nat, k < 8 ∧ x = nI k := by
  refine ⟨x.toInt.toNat, by omega, ?_⟩
  apply Int32.toInt_inj.mp
  rw [nI_toInt (by omega)]
  omega
theorem op_player : lw_op ps_Inv := by
  rintro h ⟨A, t, v, w, I, L, rfl, i⟩ a1 a2 a3
  cases e : ps_pl A a1 a2 with
  | false =>
    refine Or.inr (Or.inl ⟨0, (hp_u (hp_u I 290 0 0) 290 0 1, L, px_R t v w), (hp_u (hp_u I 290 0 0) 290 0 1, L, px_R t v w), ?_, ?_, ?_, ((i.kz 0).kz 1).inv⟩)
    · rw [cx_player i.1 i.2.1, e]
      rfl
    · unfold fX10_player
      rw [pl_let]
      show fx_b2 (fX10_isPlayer 290 a1 a2 (hp_u I 290 0 0, L, px_R t v w)) _ = _
      rw [cm_player i.1 i.2.2.1.flag, pb_2, e]
      rfl
    · rfl
  | true =>
    by_cases c : a3.toInt < 0 ∨ 7 < a3.toInt
    · obtain ⟨ho, s, hs, rfl, p, hp, hp2, rfl⟩ := ps_pl_of i.1 e
      have ne : ∀ z : Int32, (0 ≤ z.toInt ∧ z.toInt ≤ 7) → ¬ a3 = z := fun z hz q => by
        subst q
        omega
      refine Or.inr (Or.inr ⟨1, 0, ps_T t + 6 * s + 1, (hp_u (hp_u I 290 0 0) 290 0 2, L, px_R t v w), (hp_u (hp_u I 290 0 0) 290 0 2, L, px_R t v w), ?_, by decide, cx_squad hs, c, ?_, ?_, ((i.kz 0).kz 2).inv⟩)
      · rw [cx_player i.1 i.2.1, e]
        rfl
      · unfold fX10_player
        rw [pl_let]
        show fx_b2 (fX10_isPlayer 290 (nI s) (nI p) (hp_u I 290 0 0, L, px_R t v w)) _ = _
        rw [cm_player i.1 i.2.2.1.flag, pb_2, e, if_pos rfl, if_neg (by decide), if_neg (ne 0 (by decide)), if_neg (ne 1 (by decide)), if_neg (ne 2 (by decide)), if_neg (ne 3 (by decide)), if_neg (ne 4 (by decide)), if_neg (ne 5 (by decide)), if_neg (ne 6 (by decide)), if_neg (ne 7 (by decide))]
        rfl
      · rfl
    · obtain ⟨k, hk, rfl⟩ := ps_what c
      refine Or.inl ⟨_, _, _, _, cx_thing i.1 i.2.1 e hk, cm_thing (L := hp_u L 305 0 (Int32.toInt64 (ps_thing A a1.toNatClampNeg a2.toNatClampNeg k))) i.1 i.2.2.1 e hk, rfl, ?_, (i.kz 0).inv⟩
      show hp_u L 305 0 (Int32.toInt64 (ps_thing A a1.toNatClampNeg a2.toNatClampNeg k)) 305 0 = _
      exact pu_eq
def ps_A0 : ps_A := ps_A.mk 0 (fun _ => 0) 0 (-1) false (ps_W.mk 0 0 0 0 0 (fun _ => 0) (fun _ => none) (fun _ _ => 0) (fun _ _ _ => 0) (fun _ _ => 0)) (ps_C.mk (fun _ _ => 0) (fun _ _ => none) (fun _ _ => 0) (fun _ _ => 0) (fun _ => 0) (fun _ => 0) (fun _ => 0) (fun _ => 0) (fun _ => 0) 0 0) 0 (fun _ => ps_C.mk (fun _ _ => 0) (fun _ _ => none) (fun _ _ => 0) (fun _ _ => 0) (fun _ => 0) (fun _ => 0) (fun _ => 0) (fun _ => 0) (fun _ => 0) 0 0) (fun _ => 0) (fun _ => 0) (fun _ => 0)
theorem ps_A0_wf : ps_wf ps_A0 := ⟨by show 0 ≤ 900; omega, fun k => by show 0 < 256; omega, by show 0 ≤ 4; omega, by show 0 ≤ 20; omega, fun _ => rfl, fun q => (by cases q), fun q => (by cases q), fun q => (by cases q), fun q => (by cases q), fun q => (by cases q), fun q => (by cases q), fun q => (by cases q)⟩
theorem ps_A0_RX : ps_RX false ps_A0 px_hc.1 := ⟨by decide +kernel, fun k hk => absurd hk (Nat.not_lt_zero k), by decide +kernel, by decide +kernel, by decide +kernel, fun q => (by cases q), fun q => (by cases q), fun q => (by cases q), fun q => (by cases q), fun q => (by cases q), by decide +kernel, fun q => (by cases q)⟩
theorem ps_A0_MX : ps_MX ps_A0 px_hc.1 := ⟨by decide +kernel, fun k hk => absurd hk (Nat.not_lt_zero k), by decide +kernel, by decide +kernel, by decide +kernel, by decide +kernel, fun q => (by cases q), fun q => (by cases q), fun q => (by cases q), fun q => (by cases q), fun q => (by cases q), fun q => (by cases q)⟩
theorem ps_Inv0 : ps_Inv px_h0 := ⟨ps_A0, false, false, false, px_hc.1, px_hc.2.1, rfl, ps_A0_wf, ps_A0_RX, ps_A0_MX, fun q => (by cases q)⟩
theorem ps_ops : lw_OPS ps_Inv := ⟨op_feed, op_text, op_fault, op_player, op_on, op_lineUp, op_point, op_sub, op_move, op_stand, op_standing, op_wrong, op_undo, op_now, op_chance, op_chanceAt, op_value, op_valueAt, op_table, op_safe, op_saddle, op_reply, op_worth, op_ifSub, op_bestSub, op_bestMove, op_likely, op_ends, op_length, op_streak, op_weak, op_ifSwapped, op_strength, op_together, op_strong, op_maySub, op_mayMove, op_subsNow, op_bestSwap, op_ranked, op_named, op_run, op_was, op_till, op_count⟩
