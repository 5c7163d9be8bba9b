theorem dX9_bestTurns_0 : decode cX9_bestTurns 0 = .ok (.aload_n 0, 1) := by decide +kernel
theorem dX9_bestTurns_1 : decode cX9_bestTurns 1 = .ok (.getfield 54, 3) := by decide +kernel
theorem dX9_bestTurns_4 : decode cX9_bestTurns 4 = .ok (.invokevirtual 320, 3) := by decide +kernel
theorem dX9_bestTurns_7 : decode cX9_bestTurns 7 = .ok (.iconst 0, 1) := by decide +kernel
theorem dX9_bestTurns_8 : decode cX9_bestTurns 8 = .ok (.istore 4, 2) := by decide +kernel
theorem dX9_bestTurns_10 : decode cX9_bestTurns 10 = .ok (.iload 4, 2) := by decide +kernel
theorem dX9_bestTurns_12 : decode cX9_bestTurns 12 = .ok (.bipush 6, 2) := by decide +kernel
theorem dX9_bestTurns_14 : decode cX9_bestTurns 14 = .ok (.if_icmp .ge 54, 3) := by decide +kernel
theorem dX9_bestTurns_17 : decode cX9_bestTurns 17 = .ok (.iload_n 1, 1) := by decide +kernel
theorem dX9_bestTurns_18 : decode cX9_bestTurns 18 = .ok (.ifCond .ne 17, 3) := by decide +kernel
theorem dX9_bestTurns_21 : decode cX9_bestTurns 21 = .ok (.aload_n 0, 1) := by decide +kernel
theorem dX9_bestTurns_22 : decode cX9_bestTurns 22 = .ok (.getfield 19, 3) := by decide +kernel
theorem dX9_bestTurns_25 : decode cX9_bestTurns 25 = .ok (.iload 4, 2) := by decide +kernel
theorem dX9_bestTurns_27 : decode cX9_bestTurns 27 = .ok (.iconst 0, 1) := by decide +kernel
theorem dX9_bestTurns_28 : decode cX9_bestTurns 28 = .ok (.iload_n 2, 1) := by decide +kernel
theorem dX9_bestTurns_29 : decode cX9_bestTurns 29 = .ok (.invokevirtual 351, 3) := by decide +kernel
theorem dX9_bestTurns_32 : decode cX9_bestTurns 32 = .ok (.goto 14, 3) := by decide +kernel
theorem dX9_bestTurns_35 : decode cX9_bestTurns 35 = .ok (.aload_n 0, 1) := by decide +kernel
theorem dX9_bestTurns_36 : decode cX9_bestTurns 36 = .ok (.getfield 19, 3) := by decide +kernel
theorem dX9_bestTurns_39 : decode cX9_bestTurns 39 = .ok (.iconst 0, 1) := by decide +kernel
theorem dX9_bestTurns_40 : decode cX9_bestTurns 40 = .ok (.iload 4, 2) := by decide +kernel
theorem dX9_bestTurns_42 : decode cX9_bestTurns 42 = .ok (.iload_n 2, 1) := by decide +kernel
theorem dX9_bestTurns_43 : decode cX9_bestTurns 43 = .ok (.invokevirtual 351, 3) := by decide +kernel
theorem dX9_bestTurns_46 : decode cX9_bestTurns 46 = .ok (.istore 5, 2) := by decide +kernel
theorem dX9_bestTurns_48 : decode cX9_bestTurns 48 = .ok (.aload_n 0, 1) := by decide +kernel
theorem dX9_bestTurns_49 : decode cX9_bestTurns 49 = .ok (.getfield 54, 3) := by decide +kernel
theorem dX9_bestTurns_52 : decode cX9_bestTurns 52 = .ok (.iload 4, 2) := by decide +kernel
theorem dX9_bestTurns_54 : decode cX9_bestTurns 54 = .ok (.iload 5, 2) := by decide +kernel
theorem dX9_bestTurns_56 : decode cX9_bestTurns 56 = .ok (.iload 5, 2) := by decide +kernel
theorem dX9_bestTurns_58 : decode cX9_bestTurns 58 = .ok (.iconst 1, 1) := by decide +kernel
theorem dX9_bestTurns_59 : decode cX9_bestTurns 59 = .ok (.invokevirtual 366, 3) := by decide +kernel
theorem dX9_bestTurns_62 : decode cX9_bestTurns 62 = .ok (.iinc 4 1, 3) := by decide +kernel
theorem dX9_bestTurns_65 : decode cX9_bestTurns 65 = .ok (.goto (-55), 3) := by decide +kernel
theorem dX9_bestTurns_68 : decode cX9_bestTurns 68 = .ok (.aload_n 0, 1) := by decide +kernel
theorem dX9_bestTurns_69 : decode cX9_bestTurns 69 = .ok (.getfield 54, 3) := by decide +kernel
theorem dX9_bestTurns_72 : decode cX9_bestTurns 72 = .ok (.iload_n 3, 1) := by decide +kernel
theorem dX9_bestTurns_73 : decode cX9_bestTurns 73 = .ok (.invokevirtual 370, 3) := by decide +kernel
theorem dX9_bestTurns_76 : decode cX9_bestTurns 76 = .ok (.ireturn, 1) := by decide +kernel
def fX9_bestTurns_46 (k10 : Nat → Int32 → Int32 → Int32 → Int32 → hp_T → Option (Int32 × hp_T)) (a0 : Nat) (a1 : Int32) (a2 : Int32) (a3 : Int32) (a4 : Int32) (s0 : Int32) (h : hp_T) : Option (Int32 × hp_T) := fx_b1 (fX0_offer (h.2.2 a0 8) a4 s0 s0 (1 : Int32) h) fun (h59 : hp_T) => fx_let (a4 + (1 : Int32)) fun (x62 : Int32) => k10 a0 a1 a2 a3 x62 h59
set_option maxRecDepth 100000 in
set_option maxHeartbeats 4000000 in
theorem bX9_bestTurns_46 {l : Launch} {G : xr_G} {K : xr_K} {r : Int32} {h1 : hp_T} (C : xr_C G K cX9_bestTurns RX9 6 (xr_R 2 85) (some .int) (some (xr_Qi G r h1))) (k10 : Nat → Int32 → Int32 → Int32 → Int32 → hp_T → Option (Int32 × hp_T)) (j10 : ∀ (a0 : Nat) (a1 : Int32) (a2 : Int32) (a3 : Int32) (a4 : Int32) (ta0 : hp_sh a0 = (9, 0)) (h : hp_T), k10 a0 a1 a2 a3 a4 h = some (r, h1) → xr_j l G K 6 h [(0, .ref (G.2.2.1 a0)), (1, .int a1), (2, .int a2), (3, .int a3), (4, .int a4)] 10 []) (a0 : Nat) (a1 : Int32) (a2 : Int32) (a3 : Int32) (a4 : Int32) (s0 : Int32) (ta0 : hp_sh a0 = (9, 0)) (h : hp_T) (hF : fX9_bestTurns_46 k10 a0 a1 a2 a3 a4 s0 h = some (r, h1)) : xr_j l G K 6 h [(0, .ref (G.2.2.1 a0)), (1, .int a1), (2, .int a2), (3, .int a3), (4, .int a4)] 46 [.int s0] := by
  unfold fX9_bestTurns_46 at hF
  refine xr_istore C [(5, .int s0), (0, .ref (G.2.2.1 a0)), (1, .int a1), (2, .int a2), (3, .int a3), (4, .int a4)] dX9_bestTurns_46 (Nat.le_of_ble_eq_true rfl) rfl ?_
  refine xr_aload_n C 1 dX9_bestTurns_48 rfl rfl ?_
  refine xr_getr C flX9_54 rfl (by decide) dX9_bestTurns_49 ta0 (fun t49 => ?_)
  refine xr_iload C 5 dX9_bestTurns_52 rfl ?_
  refine xr_iload C 0 dX9_bestTurns_54 rfl ?_
  refine xr_iload C 0 dX9_bestTurns_56 rfl ?_
  refine xr_iconst (v := 1) C dX9_bestTurns_58 (by decide) ?_
  obtain ⟨h59, e59, hF⟩ := fx_b1E hF
  refine xr_callVv C mvX9_366 [.int a4, .int s0, .int s0, .int (1 : Int32)] [] (mX0_offer l G (h.2.2 a0 8) a4 s0 s0 (1 : Int32) t49 h h59 e59) t49 (by decide) vc0 rfl ⟨rfl, rfl, (Nat.le_of_ble_eq_true rfl), (Nat.le_of_ble_eq_true rfl)⟩ rfl (Nat.le_of_ble_eq_true rfl) dX9_bestTurns_59 ?_
  obtain ⟨x62, e62⟩ : ∃ y : Int32, y = (a4 + (1 : Int32)) := ⟨_, rfl⟩
  have hF := fx_letE hF x62 e62
  refine xr_iinc C x62 5 [(4, .int x62), (5, .int s0), (0, .ref (G.2.2.1 a0)), (1, .int a1), (2, .int a2), (3, .int a3)] dX9_bestTurns_62 rfl (by rw [e62]; rfl) (Nat.le_of_ble_eq_true rfl) rfl ?_
  refine xr_goto C 10 dX9_bestTurns_65 (by decide) ?_
  refine xr_sub [2, 3, 4, 5, 0] [(0, .ref (G.2.2.1 a0)), (1, .int a1), (2, .int a2), (3, .int a3), (4, .int x62)] rfl ?_
  exact j10 a0 a1 a2 a3 x62 ta0 h59 hF
def fX9_bestTurns_10  : Nat → Nat → Int32 → Int32 → Int32 → Int32 → hp_T → Option (Int32 × hp_T)
  | 0, _, _, _, _, _, _ => none
  | n + 1, a0, a1, a2, a3, a4, h => if (6 : Int32) ≤ a4 then (fx_b2 (fX0_part (h.2.2 a0 8) a3 h) fun (r73 : Int32) (h73 : hp_T) => some (r73, h73)) else (if a1 = 0 then (fx_b2 (fX4_chanceOf (h.2.2 a0 1) a4 (0 : Int32) a2 h) fun (r29 : Int32) (h29 : hp_T) => fX9_bestTurns_46 (fX9_bestTurns_10 n) a0 a1 a2 a3 a4 r29 h29) else (fx_b2 (fX4_chanceOf (h.2.2 a0 1) (0 : Int32) a4 a2 h) fun (r43 : Int32) (h43 : hp_T) => fX9_bestTurns_46 (fX9_bestTurns_10 n) a0 a1 a2 a3 a4 r43 h43))
set_option maxRecDepth 100000 in
set_option maxHeartbeats 4000000 in
theorem bX9_bestTurns_10 {l : Launch} {G : xr_G} {K : xr_K} {r : Int32} {h1 : hp_T} (C : xr_C G K cX9_bestTurns RX9 6 (xr_R 2 85) (some .int) (some (xr_Qi G r h1)))  : ∀ (n : Nat) (a0 : Nat) (a1 : Int32) (a2 : Int32) (a3 : Int32) (a4 : Int32) (ta0 : hp_sh a0 = (9, 0)) (h : hp_T), fX9_bestTurns_10 n a0 a1 a2 a3 a4 h = some (r, h1) → xr_j l G K 6 h [(0, .ref (G.2.2.1 a0)), (1, .int a1), (2, .int a2), (3, .int a3), (4, .int a4)] 10 [] := by
  intro n
  induction n with
  | zero =>
    intro a0 a1 a2 a3 a4 ta0 h hF
    cases hF
  | succ n ih =>
    intro a0 a1 a2 a3 a4 ta0 h hF
    rw [fX9_bestTurns_10] at hF
    refine xr_iload C 4 dX9_bestTurns_10 rfl ?_
    refine xr_bipush (v := 6) C dX9_bestTurns_12 (by decide) ?_
    refine xr_icmp_ge C 68 dX9_bestTurns_14 (by decide) (fun c14 => ?_) (fun c14 => ?_)
    · have hF := fx_pos hF c14
      refine xr_aload_n C 0 dX9_bestTurns_68 rfl rfl ?_
      refine xr_getr C flX9_54 rfl (by decide) dX9_bestTurns_69 ta0 (fun t69 => ?_)
      refine xr_iload_n C 3 dX9_bestTurns_72 rfl rfl ?_
      obtain ⟨r73, h73, e73, hF⟩ := fx_b2E hF
      refine xr_callVi C mvX9_370 [.int a3] [] (mX0_part l G (h.2.2 a0 8) a3 t69 h h73 r73 e73) t69 (by decide) vc0 rfl ⟨rfl, rfl, (Nat.le_of_ble_eq_true rfl), (Nat.le_of_ble_eq_true rfl)⟩ rfl (Nat.le_of_ble_eq_true rfl) dX9_bestTurns_73 ?_
      cases hF
      exact xr_iret C dX9_bestTurns_76
    · have hF := fx_neg hF c14
      refine xr_iload_n C 1 dX9_bestTurns_17 rfl rfl ?_
      refine xr_if_ne C 35 dX9_bestTurns_18 (by decide) (fun c18 => ?_) (fun c18 => ?_)
      · have hF := fx_neg hF c18
        refine xr_aload_n C 0 dX9_bestTurns_35 rfl rfl ?_
        refine xr_getr C flX9_19 rfl (by decide) dX9_bestTurns_36 ta0 (fun t36 => ?_)
        refine xr_iconst (v := 0) C dX9_bestTurns_39 (by decide) ?_
        refine xr_iload C 4 dX9_bestTurns_40 rfl ?_
        refine xr_iload_n C 2 dX9_bestTurns_42 rfl rfl ?_
        obtain ⟨r43, h43, e43, hF⟩ := fx_b2E hF
        refine xr_callVi C mvX9_351 [.int (0 : Int32), .int a4, .int a2] [] (mX4_chanceOf l G (h.2.2 a0 1) (0 : Int32) a4 a2 t36 h h43 r43 e43) t36 (by decide) vc4 rfl ⟨rfl, rfl, (Nat.le_of_ble_eq_true rfl), (Nat.le_of_ble_eq_true rfl)⟩ rfl (Nat.le_of_ble_eq_true rfl) dX9_bestTurns_43 ?_
        exact bX9_bestTurns_46 C (fX9_bestTurns_10 n) (fun a0 a1 a2 a3 a4 ta0 h hF => ih a0 a1 a2 a3 a4 ta0 h hF)  a0 a1 a2 a3 a4 r43 ta0 h43 hF
      · have hF := fx_pos hF c18
        refine xr_aload_n C 0 dX9_bestTurns_21 rfl rfl ?_
        refine xr_getr C flX9_19 rfl (by decide) dX9_bestTurns_22 ta0 (fun t22 => ?_)
        refine xr_iload C 4 dX9_bestTurns_25 rfl ?_
        refine xr_iconst (v := 0) C dX9_bestTurns_27 (by decide) ?_
        refine xr_iload_n C 2 dX9_bestTurns_28 rfl rfl ?_
        obtain ⟨r29, h29, e29, hF⟩ := fx_b2E hF
        refine xr_callVi C mvX9_351 [.int a4, .int (0 : Int32), .int a2] [] (mX4_chanceOf l G (h.2.2 a0 1) a4 (0 : Int32) a2 t22 h h29 r29 e29) t22 (by decide) vc4 rfl ⟨rfl, rfl, (Nat.le_of_ble_eq_true rfl), (Nat.le_of_ble_eq_true rfl)⟩ rfl (Nat.le_of_ble_eq_true rfl) dX9_bestTurns_29 ?_
        refine xr_goto C 46 dX9_bestTurns_32 (by decide) ?_
        exact bX9_bestTurns_46 C (fX9_bestTurns_10 n) (fun a0 a1 a2 a3 a4 ta0 h hF => ih a0 a1 a2 a3 a4 ta0 h hF)  a0 a1 a2 a3 a4 r29 ta0 h29 hF
def fX9_bestTurns (a0 : Nat) (a1 : Int32) (a2 : Int32) (a3 : Int32) (h : hp_T) : Option (Int32 × hp_T) := fx_b1 (fX0_clear (h.2.2 a0 8) h) fun (h4 : hp_T) => fX9_bestTurns_10 fx_N a0 a1 a2 a3 (0 : Int32) h4
set_option maxRecDepth 100000 in
set_option maxHeartbeats 4000000 in
theorem mX9_bestTurns (l : Launch) (G : xr_G) (a0 : Nat) (a1 : Int32) (a2 : Int32) (a3 : Int32) (ta0 : hp_sh a0 = (9, 0)) (h h1 : hp_T) (r : Int32) (hF : fX9_bestTurns a0 a1 a2 a3 h = some (r, h1)) : xr_M l G yX9_bestTurns cX9_bestTurns 6 (xr_R 2 85) (some .int) [.ref (G.2.2.1 a0), .int a1, .int a2, .int a3] h (xr_Qi G r h1) := by
  refine xr_start rfl (Nat.le_of_ble_eq_true rfl) (fun K C => ?_)
  show xr_j l G K 6 h [(0, .ref (G.2.2.1 a0)), (1, .int a1), (2, .int a2), (3, .int a3)] 0 []
  unfold fX9_bestTurns at hF
  refine xr_aload_n C 0 dX9_bestTurns_0 rfl rfl ?_
  refine xr_getr C flX9_54 rfl (by decide) dX9_bestTurns_1 ta0 (fun t1 => ?_)
  obtain ⟨h4, e4, hF⟩ := fx_b1E hF
  refine xr_callVv C mvX9_320 [] [] (mX0_clear l G (h.2.2 a0 8) t1 h h4 e4) t1 (by decide) vc0 rfl ⟨rfl, rfl, (Nat.le_of_ble_eq_true rfl), (Nat.le_of_ble_eq_true rfl)⟩ rfl (Nat.le_of_ble_eq_true rfl) dX9_bestTurns_4 ?_
  refine xr_iconst (v := 0) C dX9_bestTurns_7 (by decide) ?_
  refine xr_istore C [(4, .int (0 : Int32)), (0, .ref (G.2.2.1 a0)), (1, .int a1), (2, .int a2), (3, .int a3)] dX9_bestTurns_8 (Nat.le_of_ble_eq_true rfl) rfl ?_
  refine xr_sub [1, 2, 3, 4, 0] [(0, .ref (G.2.2.1 a0)), (1, .int a1), (2, .int a2), (3, .int a3), (4, .int (0 : Int32))] rfl ?_
  exact bX9_bestTurns_10 C  fx_N a0 a1 a2 a3 (0 : Int32) ta0 h4 hF
theorem dX9_weak_0 : decode cX9_weak 0 = .ok (.aload_n 0, 1) := by decide +kernel
theorem dX9_weak_1 : decode cX9_weak 1 = .ok (.iload_n 1, 1) := by decide +kernel
theorem dX9_weak_2 : decode cX9_weak 2 = .ok (.invokevirtual 99, 3) := by decide +kernel
theorem dX9_weak_5 : decode cX9_weak 5 = .ok (.ifCond .eq 12, 3) := by decide +kernel
theorem dX9_weak_8 : decode cX9_weak 8 = .ok (.iload_n 2, 1) := by decide +kernel
theorem dX9_weak_9 : decode cX9_weak 9 = .ok (.ifCond .lt 8, 3) := by decide +kernel
theorem dX9_weak_12 : decode cX9_weak 12 = .ok (.iload_n 2, 1) := by decide +kernel
theorem dX9_weak_13 : decode cX9_weak 13 = .ok (.iconst 1, 1) := by decide +kernel
theorem dX9_weak_14 : decode cX9_weak 14 = .ok (.if_icmp .le 5, 3) := by decide +kernel
theorem dX9_weak_17 : decode cX9_weak 17 = .ok (.iconst (-1), 1) := by decide +kernel
theorem dX9_weak_18 : decode cX9_weak 18 = .ok (.ireturn, 1) := by decide +kernel
theorem dX9_weak_19 : decode cX9_weak 19 = .ok (.aload_n 0, 1) := by decide +kernel
theorem dX9_weak_20 : decode cX9_weak 20 = .ok (.invokevirtual 357, 3) := by decide +kernel
theorem dX9_weak_23 : decode cX9_weak 23 = .ok (.aload_n 0, 1) := by decide +kernel
theorem dX9_weak_24 : decode cX9_weak 24 = .ok (.iload_n 1, 1) := by decide +kernel
theorem dX9_weak_25 : decode cX9_weak 25 = .ok (.iconst 1, 1) := by decide +kernel
theorem dX9_weak_26 : decode cX9_weak 26 = .ok (.iload_n 1, 1) := by decide +kernel
theorem dX9_weak_27 : decode cX9_weak 27 = .ok (.isub, 1) := by decide +kernel
theorem dX9_weak_28 : decode cX9_weak 28 = .ok (.iload_n 2, 1) := by decide +kernel
theorem dX9_weak_29 : decode cX9_weak 29 = .ok (.invokevirtual 373, 3) := by decide +kernel
theorem dX9_weak_32 : decode cX9_weak 32 = .ok (.ireturn, 1) := by decide +kernel
def fX9_weak (a0 : Nat) (a1 : Int32) (a2 : Int32) (h : hp_T) : Option (Int32 × hp_T) := fx_b2 (fX9_isSide a0 a1 h) fun (r2 : Int32) (h2 : hp_T) => if r2 = 0 then (some ((-1 : Int32), h2)) else (if a2 < 0 then (some ((-1 : Int32), h2)) else (if a2 ≤ (1 : Int32) then (fx_b1 (fX9_weighNow a0 h2) fun (h20 : hp_T) => fx_b2 (fX9_bestTurns a0 a1 ((1 : Int32) - a1) a2 h20) fun (r29 : Int32) (h29 : hp_T) => some (r29, h29)) else (some ((-1 : Int32), h2))))
set_option maxRecDepth 100000 in
set_option maxHeartbeats 4000000 in
theorem mX9_weak (l : Launch) (G : xr_G) (a0 : Nat) (a1 : Int32) (a2 : Int32) (ta0 : hp_sh a0 = (9, 0)) (h h1 : hp_T) (r : Int32) (hF : fX9_weak a0 a1 a2 h = some (r, h1)) : xr_M l G yX9_weak cX9_weak 3 (xr_R 4 110) (some .int) [.ref (G.2.2.1 a0), .int a1, .int a2] h (xr_Qi G r h1) := by
  refine xr_start rfl (Nat.le_of_ble_eq_true rfl) (fun K C => ?_)
  show xr_j l G K 3 h [(0, .ref (G.2.2.1 a0)), (1, .int a1), (2, .int a2)] 0 []
  unfold fX9_weak at hF
  refine xr_aload_n C 0 dX9_weak_0 rfl rfl ?_
  refine xr_iload_n C 1 dX9_weak_1 rfl rfl ?_
  obtain ⟨r2, h2, e2, hF⟩ := fx_b2E hF
  refine xr_callVi C mvX9_99 [.int a1] [] (mX9_isSide l G a0 a1 ta0 h h2 r2 e2) ta0 (by decide) vc9 rfl ⟨rfl, rfl, (Nat.le_of_ble_eq_true rfl), (Nat.le_of_ble_eq_true rfl)⟩ rfl (Nat.le_of_ble_eq_true rfl) dX9_weak_2 ?_
  refine xr_if_eq C 17 dX9_weak_5 (by decide) (fun c5 => ?_) (fun c5 => ?_)
  · have hF := fx_pos hF c5
    refine xr_iconst (v := -1) C dX9_weak_17 (by decide) ?_
    cases hF
    exact xr_iret C dX9_weak_18
  · have hF := fx_neg hF c5
    refine xr_iload_n C 2 dX9_weak_8 rfl rfl ?_
    refine xr_if_lt C 17 dX9_weak_9 (by decide) (fun c9 => ?_) (fun c9 => ?_)
    · have hF := fx_pos hF c9
      refine xr_iconst (v := -1) C dX9_weak_17 (by decide) ?_
      cases hF
      exact xr_iret C dX9_weak_18
    · have hF := fx_neg hF c9
      refine xr_iload_n C 2 dX9_weak_12 rfl rfl ?_
      refine xr_iconst (v := 1) C dX9_weak_13 (by decide) ?_
      refine xr_icmp_le C 19 dX9_weak_14 (by decide) (fun c14 => ?_) (fun c14 => ?_)
      · have hF := fx_pos hF c14
        refine xr_aload_n C 0 dX9_weak_19 rfl rfl ?_
        obtain ⟨h20, e20, hF⟩ := fx_b1E hF
        refine xr_callVv C mvX9_357 [] [] (mX9_weighNow l G a0 ta0 h2 h20 e20) ta0 (by decide) vc9 rfl ⟨rfl, rfl, (Nat.le_of_ble_eq_true rfl), (Nat.le_of_ble_eq_true rfl)⟩ rfl (Nat.le_of_ble_eq_true rfl) dX9_weak_20 ?_
        refine xr_aload_n C 0 dX9_weak_23 rfl rfl ?_
        refine xr_iload_n C 1 dX9_weak_24 rfl rfl ?_
        refine xr_iconst (v := 1) C dX9_weak_25 (by decide) ?_
        refine xr_iload_n C 1 dX9_weak_26 rfl rfl ?_
        refine xr_isub C dX9_weak_27 ?_
        refine xr_iload_n C 2 dX9_weak_28 rfl rfl ?_
        obtain ⟨r29, h29, e29, hF⟩ := fx_b2E hF
        refine xr_callVi C mvX9_373 [.int a1, .int ((1 : Int32) - a1), .int a2] [] (mX9_bestTurns l G a0 a1 ((1 : Int32) - a1) a2 ta0 h20 h29 r29 e29) ta0 (by decide) vc9 rfl ⟨rfl, rfl, (Nat.le_of_ble_eq_true rfl), (Nat.le_of_ble_eq_true rfl)⟩ rfl (Nat.le_of_ble_eq_true rfl) dX9_weak_29 ?_
        cases hF
        exact xr_iret C dX9_weak_32
      · have hF := fx_neg hF c14
        refine xr_iconst (v := -1) C dX9_weak_17 (by decide) ?_
        cases hF
        exact xr_iret C dX9_weak_18
theorem dX9_strong_0 : decode cX9_strong 0 = .ok (.aload_n 0, 1) := by decide +kernel
theorem dX9_strong_1 : decode cX9_strong 1 = .ok (.iload_n 1, 1) := by decide +kernel
theorem dX9_strong_2 : decode cX9_strong 2 = .ok (.invokevirtual 99, 3) := by decide +kernel
theorem dX9_strong_5 : decode cX9_strong 5 = .ok (.ifCond .eq 12, 3) := by decide +kernel
theorem dX9_strong_8 : decode cX9_strong 8 = .ok (.iload_n 2, 1) := by decide +kernel
theorem dX9_strong_9 : decode cX9_strong 9 = .ok (.ifCond .lt 8, 3) := by decide +kernel
theorem dX9_strong_12 : decode cX9_strong 12 = .ok (.iload_n 2, 1) := by decide +kernel
theorem dX9_strong_13 : decode cX9_strong 13 = .ok (.iconst 1, 1) := by decide +kernel
theorem dX9_strong_14 : decode cX9_strong 14 = .ok (.if_icmp .le 5, 3) := by decide +kernel
theorem dX9_strong_17 : decode cX9_strong 17 = .ok (.iconst (-1), 1) := by decide +kernel
theorem dX9_strong_18 : decode cX9_strong 18 = .ok (.ireturn, 1) := by decide +kernel
theorem dX9_strong_19 : decode cX9_strong 19 = .ok (.aload_n 0, 1) := by decide +kernel
theorem dX9_strong_20 : decode cX9_strong 20 = .ok (.invokevirtual 357, 3) := by decide +kernel
theorem dX9_strong_23 : decode cX9_strong 23 = .ok (.aload_n 0, 1) := by decide +kernel
theorem dX9_strong_24 : decode cX9_strong 24 = .ok (.iload_n 1, 1) := by decide +kernel
theorem dX9_strong_25 : decode cX9_strong 25 = .ok (.iload_n 1, 1) := by decide +kernel
theorem dX9_strong_26 : decode cX9_strong 26 = .ok (.iload_n 2, 1) := by decide +kernel
theorem dX9_strong_27 : decode cX9_strong 27 = .ok (.invokevirtual 373, 3) := by decide +kernel
theorem dX9_strong_30 : decode cX9_strong 30 = .ok (.ireturn, 1) := by decide +kernel
def fX9_strong (a0 : Nat) (a1 : Int32) (a2 : Int32) (h : hp_T) : Option (Int32 × hp_T) := fx_b2 (fX9_isSide a0 a1 h) fun (r2 : Int32) (h2 : hp_T) => if r2 = 0 then (some ((-1 : Int32), h2)) else (if a2 < 0 then (some ((-1 : Int32), h2)) else (if a2 ≤ (1 : Int32) then (fx_b1 (fX9_weighNow a0 h2) fun (h20 : hp_T) => fx_b2 (fX9_bestTurns a0 a1 a1 a2 h20) fun (r27 : Int32) (h27 : hp_T) => some (r27, h27)) else (some ((-1 : Int32), h2))))
set_option maxRecDepth 100000 in
set_option maxHeartbeats 4000000 in
theorem mX9_strong (l : Launch) (G : xr_G) (a0 : Nat) (a1 : Int32) (a2 : Int32) (ta0 : hp_sh a0 = (9, 0)) (h h1 : hp_T) (r : Int32) (hF : fX9_strong a0 a1 a2 h = some (r, h1)) : xr_M l G yX9_strong cX9_strong 3 (xr_R 4 110) (some .int) [.ref (G.2.2.1 a0), .int a1, .int a2] h (xr_Qi G r h1) := by
  refine xr_start rfl (Nat.le_of_ble_eq_true rfl) (fun K C => ?_)
  show xr_j l G K 3 h [(0, .ref (G.2.2.1 a0)), (1, .int a1), (2, .int a2)] 0 []
  unfold fX9_strong at hF
  refine xr_aload_n C 0 dX9_strong_0 rfl rfl ?_
  refine xr_iload_n C 1 dX9_strong_1 rfl rfl ?_
  obtain ⟨r2, h2, e2, hF⟩ := fx_b2E hF
  refine xr_callVi C mvX9_99 [.int a1] [] (mX9_isSide l G a0 a1 ta0 h h2 r2 e2) ta0 (by decide) vc9 rfl ⟨rfl, rfl, (Nat.le_of_ble_eq_true rfl), (Nat.le_of_ble_eq_true rfl)⟩ rfl (Nat.le_of_ble_eq_true rfl) dX9_strong_2 ?_
  refine xr_if_eq C 17 dX9_strong_5 (by decide) (fun c5 => ?_) (fun c5 => ?_)
  · have hF := fx_pos hF c5
    refine xr_iconst (v := -1) C dX9_strong_17 (by decide) ?_
    cases hF
    exact xr_iret C dX9_strong_18
  · have hF := fx_neg hF c5
    refine xr_iload_n C 2 dX9_strong_8 rfl rfl ?_
    refine xr_if_lt C 17 dX9_strong_9 (by decide) (fun c9 => ?_) (fun c9 => ?_)
    · have hF := fx_pos hF c9
      refine xr_iconst (v := -1) C dX9_strong_17 (by decide) ?_
      cases hF
      exact xr_iret C dX9_strong_18
    · have hF := fx_neg hF c9
      refine xr_iload_n C 2 dX9_strong_12 rfl rfl ?_
      refine xr_iconst (v := 1) C dX9_strong_13 (by decide) ?_
      refine xr_icmp_le C 19 dX9_strong_14 (by decide) (fun c14 => ?_) (fun c14 => ?_)
      · have hF := fx_pos hF c14
        refine xr_aload_n C 0 dX9_strong_19 rfl rfl ?_
        obtain ⟨h20, e20, hF⟩ := fx_b1E hF
        refine xr_callVv C mvX9_357 [] [] (mX9_weighNow l G a0 ta0 h2 h20 e20) ta0 (by decide) vc9 rfl ⟨rfl, rfl, (Nat.le_of_ble_eq_true rfl), (Nat.le_of_ble_eq_true rfl)⟩ rfl (Nat.le_of_ble_eq_true rfl) dX9_strong_20 ?_
        refine xr_aload_n C 0 dX9_strong_23 rfl rfl ?_
        refine xr_iload_n C 1 dX9_strong_24 rfl rfl ?_
        refine xr_iload_n C 1 dX9_strong_25 rfl rfl ?_
        refine xr_iload_n C 2 dX9_strong_26 rfl rfl ?_
        obtain ⟨r27, h27, e27, hF⟩ := fx_b2E hF
        refine xr_callVi C mvX9_373 [.int a1, .int a1, .int a2] [] (mX9_bestTurns l G a0 a1 a1 a2 ta0 h20 h27 r27 e27) ta0 (by decide) vc9 rfl ⟨rfl, rfl, (Nat.le_of_ble_eq_true rfl), (Nat.le_of_ble_eq_true rfl)⟩ rfl (Nat.le_of_ble_eq_true rfl) dX9_strong_27 ?_
        cases hF
        exact xr_iret C dX9_strong_30
      · have hF := fx_neg hF c14
        refine xr_iconst (v := -1) C dX9_strong_17 (by decide) ?_
        cases hF
        exact xr_iret C dX9_strong_18
theorem dX9_streak_0 : decode cX9_streak 0 = .ok (.aload_n 0, 1) := by decide +kernel
theorem dX9_streak_1 : decode cX9_streak 1 = .ok (.iload_n 1, 1) := by decide +kernel
theorem dX9_streak_2 : decode cX9_streak 2 = .ok (.invokevirtual 99, 3) := by decide +kernel
theorem dX9_streak_5 : decode cX9_streak 5 = .ok (.ifCond .eq 7, 3) := by decide +kernel
theorem dX9_streak_8 : decode cX9_streak 8 = .ok (.iload_n 2, 1) := by decide +kernel
theorem dX9_streak_9 : decode cX9_streak 9 = .ok (.ifCond .ge 5, 3) := by decide +kernel
theorem dX9_streak_12 : decode cX9_streak 12 = .ok (.iconst (-1), 1) := by decide +kernel
theorem dX9_streak_13 : decode cX9_streak 13 = .ok (.ireturn, 1) := by decide +kernel
theorem dX9_streak_14 : decode cX9_streak 14 = .ok (.aload_n 0, 1) := by decide +kernel
theorem dX9_streak_15 : decode cX9_streak 15 = .ok (.invokevirtual 250, 3) := by decide +kernel
theorem dX9_streak_18 : decode cX9_streak 18 = .ok (.ifCond .eq 7, 3) := by decide +kernel
theorem dX9_streak_21 : decode cX9_streak 21 = .ok (.iconst 0, 1) := by decide +kernel
theorem dX9_streak_22 : decode cX9_streak 22 = .ok (.goto 22, 3) := by decide +kernel
theorem dX9_streak_25 : decode cX9_streak 25 = .ok (.aload_n 0, 1) := by decide +kernel
theorem dX9_streak_26 : decode cX9_streak 26 = .ok (.getfield 68, 3) := by decide +kernel
theorem dX9_streak_29 : decode cX9_streak 29 = .ok (.getfield 117, 3) := by decide +kernel
theorem dX9_streak_32 : decode cX9_streak 32 = .ok (.aload_n 0, 1) := by decide +kernel
theorem dX9_streak_33 : decode cX9_streak 33 = .ok (.getfield 33, 3) := by decide +kernel
theorem dX9_streak_36 : decode cX9_streak 36 = .ok (.iload_n 1, 1) := by decide +kernel
theorem dX9_streak_37 : decode cX9_streak 37 = .ok (.invokevirtual 207, 3) := by decide +kernel
theorem dX9_streak_40 : decode cX9_streak 40 = .ok (.getfield 299, 3) := by decide +kernel
theorem dX9_streak_43 : decode cX9_streak 43 = .ok (.isub, 1) := by decide +kernel
theorem dX9_streak_44 : decode cX9_streak 44 = .ok (.istore_n 3, 1) := by decide +kernel
theorem dX9_streak_45 : decode cX9_streak 45 = .ok (.iload_n 2, 1) := by decide +kernel
theorem dX9_streak_46 : decode cX9_streak 46 = .ok (.iload_n 3, 1) := by decide +kernel
theorem dX9_streak_47 : decode cX9_streak 47 = .ok (.if_icmp .le 5, 3) := by decide +kernel
theorem dX9_streak_50 : decode cX9_streak 50 = .ok (.iconst (-1), 1) := by decide +kernel
theorem dX9_streak_51 : decode cX9_streak 51 = .ok (.ireturn, 1) := by decide +kernel
theorem dX9_streak_52 : decode cX9_streak 52 = .ok (.aload_n 0, 1) := by decide +kernel
theorem dX9_streak_53 : decode cX9_streak 53 = .ok (.invokevirtual 357, 3) := by decide +kernel
theorem dX9_streak_56 : decode cX9_streak 56 = .ok (.aload_n 0, 1) := by decide +kernel
theorem dX9_streak_57 : decode cX9_streak 57 = .ok (.getfield 19, 3) := by decide +kernel
theorem dX9_streak_60 : decode cX9_streak 60 = .ok (.iload_n 1, 1) := by decide +kernel
theorem dX9_streak_61 : decode cX9_streak 61 = .ok (.iload_n 2, 1) := by decide +kernel
theorem dX9_streak_62 : decode cX9_streak 62 = .ok (.aload_n 0, 1) := by decide +kernel
theorem dX9_streak_63 : decode cX9_streak 63 = .ok (.getfield 33, 3) := by decide +kernel
theorem dX9_streak_66 : decode cX9_streak 66 = .ok (.getfield 257, 3) := by decide +kernel
theorem dX9_streak_69 : decode cX9_streak 69 = .ok (.invokevirtual 376, 3) := by decide +kernel
theorem dX9_streak_72 : decode cX9_streak 72 = .ok (.ireturn, 1) := by decide +kernel
def fX9_streak_44  (a0 : Nat) (a1 : Int32) (a2 : Int32) (s0 : Int32) (h : hp_T) : Option (Int32 × hp_T) := if a2 ≤ s0 then (fx_b1 (fX9_weighNow a0 h) fun (h53 : hp_T) => fx_b2 (fX4_streakOf (h53.2.2 a0 1) a1 a2 (h53.1 (h53.2.2 a0 3) 2) h53) fun (r69 : Int32) (h69 : hp_T) => some (r69, h69)) else (some ((-1 : Int32), h))
set_option maxRecDepth 100000 in
set_option maxHeartbeats 4000000 in
theorem bX9_streak_44 {l : Launch} {G : xr_G} {K : xr_K} {r : Int32} {h1 : hp_T} (C : xr_C G K cX9_streak RX9 4 (xr_R 4 114) (some .int) (some (xr_Qi G r h1)))  (a0 : Nat) (a1 : Int32) (a2 : Int32) (s0 : Int32) (ta0 : hp_sh a0 = (9, 0)) (h : hp_T) (hF : fX9_streak_44 a0 a1 a2 s0 h = some (r, h1)) : xr_j l G K 4 h [(0, .ref (G.2.2.1 a0)), (1, .int a1), (2, .int a2)] 44 [.int s0] := by
  unfold fX9_streak_44 at hF
  refine xr_istore_n C [(3, .int s0), (0, .ref (G.2.2.1 a0)), (1, .int a1), (2, .int a2)] dX9_streak_44 rfl (Nat.le_of_ble_eq_true rfl) rfl ?_
  refine xr_iload_n C 3 dX9_streak_45 rfl rfl ?_
  refine xr_iload_n C 0 dX9_streak_46 rfl rfl ?_
  refine xr_icmp_le C 52 dX9_streak_47 (by decide) (fun c47 => ?_) (fun c47 => ?_)
  · have hF := fx_pos hF c47
    refine xr_aload_n C 1 dX9_streak_52 rfl rfl ?_
    obtain ⟨h53, e53, hF⟩ := fx_b1E hF
    refine xr_callVv C mvX9_357 [] [] (mX9_weighNow l G a0 ta0 h h53 e53) ta0 (by decide) vc9 rfl ⟨rfl, rfl, (Nat.le_of_ble_eq_true rfl), (Nat.le_of_ble_eq_true rfl)⟩ rfl (Nat.le_of_ble_eq_true rfl) dX9_streak_53 ?_
    refine xr_aload_n C 1 dX9_streak_56 rfl rfl ?_
    refine xr_getr C flX9_19 rfl (by decide) dX9_streak_57 ta0 (fun t57 => ?_)
    refine xr_iload_n C 2 dX9_streak_60 rfl rfl ?_
    refine xr_iload_n C 3 dX9_streak_61 rfl rfl ?_
    refine xr_aload_n C 1 dX9_streak_62 rfl rfl ?_
    refine xr_getr C flX9_33 rfl (by decide) dX9_streak_63 ta0 (fun t63 => ?_)
    refine xr_geti C flX9_257 rfl dX9_streak_66 t63 ?_
    obtain ⟨r69, h69, e69, hF⟩ := fx_b2E hF
    refine xr_callVi C mvX9_376 [.int a1, .int a2, .int (h53.1 (h53.2.2 a0 3) 2)] [] (mX4_streakOf l G (h53.2.2 a0 1) a1 a2 (h53.1 (h53.2.2 a0 3) 2) t57 h53 h69 r69 e69) t57 (by decide) vc4 rfl ⟨rfl, rfl, (Nat.le_of_ble_eq_true rfl), (Nat.le_of_ble_eq_true rfl)⟩ rfl (Nat.le_of_ble_eq_true rfl) dX9_streak_69 ?_
    cases hF
    exact xr_iret C dX9_streak_72
  · have hF := fx_neg hF c47
    refine xr_iconst (v := -1) C dX9_streak_50 (by decide) ?_
    cases hF
    exact xr_iret C dX9_streak_51
def fX9_streak (a0 : Nat) (a1 : Int32) (a2 : Int32) (h : hp_T) : Option (Int32 × hp_T) := fx_b2 (fX9_isSide a0 a1 h) fun (r2 : Int32) (h2 : hp_T) => if r2 = 0 then (some ((-1 : Int32), h2)) else (if 0 ≤ a2 then (fx_b2 (fX9_isOver a0 h2) fun (r15 : Int32) (h15 : hp_T) => if r15 = 0 then (fx_b2 (fX1_team (h15.2.2 a0 3) a1 h15) fun (r37 : Nat) (h37 : hp_T) => fX9_streak_44 a0 a1 a2 ((h15.1 (h15.2.2 a0 11) 2) - (h37.1 r37 8)) h37) else (fX9_streak_44 a0 a1 a2 (0 : Int32) h15)) else (some ((-1 : Int32), h2)))
set_option maxRecDepth 100000 in
set_option maxHeartbeats 4000000 in
theorem mX9_streak (l : Launch) (G : xr_G) (a0 : Nat) (a1 : Int32) (a2 : Int32) (ta0 : hp_sh a0 = (9, 0)) (h h1 : hp_T) (r : Int32) (hF : fX9_streak a0 a1 a2 h = some (r, h1)) : xr_M l G yX9_streak cX9_streak 4 (xr_R 4 114) (some .int) [.ref (G.2.2.1 a0), .int a1, .int a2] h (xr_Qi G r h1) := by
  refine xr_start rfl (Nat.le_of_ble_eq_true rfl) (fun K C => ?_)
  show xr_j l G K 4 h [(0, .ref (G.2.2.1 a0)), (1, .int a1), (2, .int a2)] 0 []
  unfold fX9_streak at hF
  refine xr_aload_n C 0 dX9_streak_0 rfl rfl ?_
  refine xr_iload_n C 1 dX9_streak_1 rfl rfl ?_
  obtain ⟨r2, h2, e2, hF⟩ := fx_b2E hF
  refine xr_callVi C mvX9_99 [.int a1] [] (mX9_isSide l G a0 a1 ta0 h h2 r2 e2) ta0 (by decide) vc9 rfl ⟨rfl, rfl, (Nat.le_of_ble_eq_true rfl), (Nat.le_of_ble_eq_true rfl)⟩ rfl (Nat.le_of_ble_eq_true rfl) dX9_streak_2 ?_
  refine xr_if_eq C 12 dX9_streak_5 (by decide) (fun c5 => ?_) (fun c5 => ?_)
  · have hF := fx_pos hF c5
    refine xr_iconst (v := -1) C dX9_streak_12 (by decide) ?_
    cases hF
    exact xr_iret C dX9_streak_13
  · have hF := fx_neg hF c5
    refine xr_iload_n C 2 dX9_streak_8 rfl rfl ?_
    refine xr_if_ge C 14 dX9_streak_9 (by decide) (fun c9 => ?_) (fun c9 => ?_)
    · have hF := fx_pos hF c9
      refine xr_aload_n C 0 dX9_streak_14 rfl rfl ?_
      obtain ⟨r15, h15, e15, hF⟩ := fx_b2E hF
      refine xr_callVi C mvX9_250 [] [] (mX9_isOver l G a0 ta0 h2 h15 r15 e15) ta0 (by decide) vc9 rfl ⟨rfl, rfl, (Nat.le_of_ble_eq_true rfl), (Nat.le_of_ble_eq_true rfl)⟩ rfl (Nat.le_of_ble_eq_true rfl) dX9_streak_15 ?_
      refine xr_if_eq C 25 dX9_streak_18 (by decide) (fun c18 => ?_) (fun c18 => ?_)
      · have hF := fx_pos hF c18
        refine xr_aload_n C 0 dX9_streak_25 rfl rfl ?_
        refine xr_getr C flX9_68 rfl (by decide) dX9_streak_26 ta0 (fun t26 => ?_)
        refine xr_geti C flX9_117 rfl dX9_streak_29 t26 ?_
        refine xr_aload_n C 0 dX9_streak_32 rfl rfl ?_
        refine xr_getr C flX9_33 rfl (by decide) dX9_streak_33 ta0 (fun t33 => ?_)
        refine xr_iload_n C 1 dX9_streak_36 rfl rfl ?_
        obtain ⟨r37, h37, e37, hF⟩ := fx_b2E hF
        refine xr_callVr C mvX9_207 [.int a1] [.int (h15.1 (h15.2.2 a0 11) 2)] (mX1_team l G (h15.2.2 a0 3) a1 t33 h15 h37 r37 e37) t33 (by decide) vc1 rfl ⟨rfl, rfl, (Nat.le_of_ble_eq_true rfl), (Nat.le_of_ble_eq_true rfl)⟩ rfl (Nat.le_of_ble_eq_true rfl) dX9_streak_37 (fun t37 => ?_)
        refine xr_geti C flX9_299 rfl dX9_streak_40 t37 ?_
        refine xr_isub C dX9_streak_43 ?_
        exact bX9_streak_44 C   a0 a1 a2 ((h15.1 (h15.2.2 a0 11) 2) - (h37.1 r37 8)) ta0 h37 hF
      · have hF := fx_neg hF c18
        refine xr_iconst (v := 0) C dX9_streak_21 (by decide) ?_
        refine xr_goto C 44 dX9_streak_22 (by decide) ?_
        exact bX9_streak_44 C   a0 a1 a2 (0 : Int32) ta0 h15 hF
    · have hF := fx_neg hF c9
      refine xr_iconst (v := -1) C dX9_streak_12 (by decide) ?_
      cases hF
      exact xr_iret C dX9_streak_13
theorem dX9_valueFromNow_0 : decode cX9_valueFromNow 0 = .ok (.aload_n 0, 1) := by decide +kernel
theorem dX9_valueFromNow_1 : decode cX9_valueFromNow 1 = .ok (.getfield 19, 3) := by decide +kernel
theorem dX9_valueFromNow_4 : decode cX9_valueFromNow 4 = .ok (.aload_n 0, 1) := by decide +kernel
theorem dX9_valueFromNow_5 : decode cX9_valueFromNow 5 = .ok (.getfield 33, 3) := by decide +kernel
theorem dX9_valueFromNow_8 : decode cX9_valueFromNow 8 = .ok (.getfield 296, 3) := by decide +kernel
theorem dX9_valueFromNow_11 : decode cX9_valueFromNow 11 = .ok (.getfield 299, 3) := by decide +kernel
theorem dX9_valueFromNow_14 : decode cX9_valueFromNow 14 = .ok (.aload_n 0, 1) := by decide +kernel
theorem dX9_valueFromNow_15 : decode cX9_valueFromNow 15 = .ok (.getfield 33, 3) := by decide +kernel
theorem dX9_valueFromNow_18 : decode cX9_valueFromNow 18 = .ok (.getfield 302, 3) := by decide +kernel
theorem dX9_valueFromNow_21 : decode cX9_valueFromNow 21 = .ok (.getfield 299, 3) := by decide +kernel
theorem dX9_valueFromNow_24 : decode cX9_valueFromNow 24 = .ok (.iconst 0, 1) := by decide +kernel
theorem dX9_valueFromNow_25 : decode cX9_valueFromNow 25 = .ok (.iconst 0, 1) := by decide +kernel
theorem dX9_valueFromNow_26 : decode cX9_valueFromNow 26 = .ok (.aload_n 0, 1) := by decide +kernel
theorem dX9_valueFromNow_27 : decode cX9_valueFromNow 27 = .ok (.getfield 33, 3) := by decide +kernel
theorem dX9_valueFromNow_30 : decode cX9_valueFromNow 30 = .ok (.getfield 257, 3) := by decide +kernel
theorem dX9_valueFromNow_33 : decode cX9_valueFromNow 33 = .ok (.invokevirtual 400, 3) := by decide +kernel
theorem dX9_valueFromNow_36 : decode cX9_valueFromNow 36 = .ok (.ireturn, 1) := by decide +kernel
def fX9_valueFromNow (a0 : Nat) (h : hp_T) : Option (Int32 × hp_T) := fx_b2 (fX4_valueOf (h.2.2 a0 1) (h.1 (h.2.2 (h.2.2 a0 3) 0) 8) (h.1 (h.2.2 (h.2.2 a0 3) 1) 8) (0 : Int32) (0 : Int32) (h.1 (h.2.2 a0 3) 2) h) fun (r33 : Int32) (h33 : hp_T) => some (r33, h33)
set_option maxRecDepth 100000 in
set_option maxHeartbeats 4000000 in
theorem mX9_valueFromNow (l : Launch) (G : xr_G) (a0 : Nat) (ta0 : hp_sh a0 = (9, 0)) (h h1 : hp_T) (r : Int32) (hF : fX9_valueFromNow a0 h = some (r, h1)) : xr_M l G yX9_valueFromNow cX9_valueFromNow 1 (xr_R 4 137) (some .int) [.ref (G.2.2.1 a0)] h (xr_Qi G r h1) := by
  refine xr_start rfl (Nat.le_of_ble_eq_true rfl) (fun K C => ?_)
  show xr_j l G K 1 h [(0, .ref (G.2.2.1 a0))] 0 []
  unfold fX9_valueFromNow at hF
  refine xr_aload_n C 0 dX9_valueFromNow_0 rfl rfl ?_
  refine xr_getr C flX9_19 rfl (by decide) dX9_valueFromNow_1 ta0 (fun t1 => ?_)
  refine xr_aload_n C 0 dX9_valueFromNow_4 rfl rfl ?_
  refine xr_getr C flX9_33 rfl (by decide) dX9_valueFromNow_5 ta0 (fun t5 => ?_)
  refine xr_getr C flX9_296 rfl (by decide) dX9_valueFromNow_8 t5 (fun t8 => ?_)
  refine xr_geti C flX9_299 rfl dX9_valueFromNow_11 t8 ?_
  refine xr_aload_n C 0 dX9_valueFromNow_14 rfl rfl ?_
  refine xr_getr C flX9_33 rfl (by decide) dX9_valueFromNow_15 ta0 (fun t15 => ?_)
  refine xr_getr C flX9_302 rfl (by decide) dX9_valueFromNow_18 t15 (fun t18 => ?_)
  refine xr_geti C flX9_299 rfl dX9_valueFromNow_21 t18 ?_
  refine xr_iconst (v := 0) C dX9_valueFromNow_24 (by decide) ?_
  refine xr_iconst (v := 0) C dX9_valueFromNow_25 (by decide) ?_
  refine xr_aload_n C 0 dX9_valueFromNow_26 rfl rfl ?_
  refine xr_getr C flX9_33 rfl (by decide) dX9_valueFromNow_27 ta0 (fun t27 => ?_)
  refine xr_geti C flX9_257 rfl dX9_valueFromNow_30 t27 ?_
  obtain ⟨r33, h33, e33, hF⟩ := fx_b2E hF
  refine xr_callVi C mvX9_400 [.int (h.1 (h.2.2 (h.2.2 a0 3) 0) 8), .int (h.1 (h.2.2 (h.2.2 a0 3) 1) 8), .int (0 : Int32), .int (0 : Int32), .int (h.1 (h.2.2 a0 3) 2)] [] (mX4_valueOf l G (h.2.2 a0 1) (h.1 (h.2.2 (h.2.2 a0 3) 0) 8) (h.1 (h.2.2 (h.2.2 a0 3) 1) 8) (0 : Int32) (0 : Int32) (h.1 (h.2.2 a0 3) 2) t1 h h33 r33 e33) t1 (by decide) vc4 rfl ⟨rfl, rfl, (Nat.le_of_ble_eq_true rfl), (Nat.le_of_ble_eq_true rfl)⟩ rfl (Nat.le_of_ble_eq_true rfl) dX9_valueFromNow_33 ?_
  cases hF
  exact xr_iret C dX9_valueFromNow_36
theorem dX9_value_0 : decode cX9_value 0 = .ok (.aload_n 0, 1) := by decide +kernel
theorem dX9_value_1 : decode cX9_value 1 = .ok (.getfield 113, 3) := by decide +kernel
theorem dX9_value_4 : decode cX9_value 4 = .ok (.ifCond .ne 5, 3) := by decide +kernel
theorem dX9_value_7 : decode cX9_value 7 = .ok (.iconst (-1), 1) := by decide +kernel
theorem dX9_value_8 : decode cX9_value 8 = .ok (.ireturn, 1) := by decide +kernel
theorem dX9_value_9 : decode cX9_value 9 = .ok (.aload_n 0, 1) := by decide +kernel
theorem dX9_value_10 : decode cX9_value 10 = .ok (.invokevirtual 357, 3) := by decide +kernel
theorem dX9_value_13 : decode cX9_value 13 = .ok (.aload_n 0, 1) := by decide +kernel
theorem dX9_value_14 : decode cX9_value 14 = .ok (.invokevirtual 393, 3) := by decide +kernel
theorem dX9_value_17 : decode cX9_value 17 = .ok (.ireturn, 1) := by decide +kernel
def fX9_value (a0 : Nat) (h : hp_T) : Option (Int32 × hp_T) := if (h.1 a0 13) = 0 then (some ((-1 : Int32), h)) else (fx_b1 (fX9_weighNow a0 h) fun (h10 : hp_T) => fx_b2 (fX9_valueFromNow a0 h10) fun (r14 : Int32) (h14 : hp_T) => some (r14, h14))
set_option maxRecDepth 100000 in
set_option maxHeartbeats 4000000 in
theorem mX9_value (l : Launch) (G : xr_G) (a0 : Nat) (ta0 : hp_sh a0 = (9, 0)) (h h1 : hp_T) (r : Int32) (hF : fX9_value a0 h = some (r, h1)) : xr_M l G yX9_value cX9_value 1 (xr_R 5 157) (some .int) [.ref (G.2.2.1 a0)] h (xr_Qi G r h1) := by
  refine xr_start rfl (Nat.le_of_ble_eq_true rfl) (fun K C => ?_)
  show xr_j l G K 1 h [(0, .ref (G.2.2.1 a0))] 0 []
  unfold fX9_value at hF
  refine xr_aload_n C 0 dX9_value_0 rfl rfl ?_
  refine xr_geti C flX9_113 rfl dX9_value_1 ta0 ?_
  refine xr_if_ne C 9 dX9_value_4 (by decide) (fun c4 => ?_) (fun c4 => ?_)
  · have hF := fx_neg hF c4
    refine xr_aload_n C 0 dX9_value_9 rfl rfl ?_
    obtain ⟨h10, e10, hF⟩ := fx_b1E hF
    refine xr_callVv C mvX9_357 [] [] (mX9_weighNow l G a0 ta0 h h10 e10) ta0 (by decide) vc9 rfl ⟨rfl, rfl, (Nat.le_of_ble_eq_true rfl), (Nat.le_of_ble_eq_true rfl)⟩ rfl (Nat.le_of_ble_eq_true rfl) dX9_value_10 ?_
    refine xr_aload_n C 0 dX9_value_13 rfl rfl ?_
    obtain ⟨r14, h14, e14, hF⟩ := fx_b2E hF
    refine xr_callVi C mvX9_393 [] [] (mX9_valueFromNow l G a0 ta0 h10 h14 r14 e14) ta0 (by decide) vc9 rfl ⟨rfl, rfl, (Nat.le_of_ble_eq_true rfl), (Nat.le_of_ble_eq_true rfl)⟩ rfl (Nat.le_of_ble_eq_true rfl) dX9_value_14 ?_
    cases hF
    exact xr_iret C dX9_value_17
  · have hF := fx_pos hF c4
    refine xr_iconst (v := -1) C dX9_value_7 (by decide) ?_
    cases hF
    exact xr_iret C dX9_value_8
theorem dX9_isScore_0 : decode cX9_isScore 0 = .ok (.aload_n 0, 1) := by decide +kernel
theorem dX9_isScore_1 : decode cX9_isScore 1 = .ok (.getfield 68, 3) := by decide +kernel
theorem dX9_isScore_4 : decode cX9_isScore 4 = .ok (.getfield 117, 3) := by decide +kernel
theorem dX9_isScore_7 : decode cX9_isScore 7 = .ok (.istore_n 3, 1) := by decide +kernel
theorem dX9_isScore_8 : decode cX9_isScore 8 = .ok (.iload_n 1, 1) := by decide +kernel
theorem dX9_isScore_9 : decode cX9_isScore 9 = .ok (.ifCond .lt 31, 3) := by decide +kernel
theorem dX9_isScore_12 : decode cX9_isScore 12 = .ok (.iload_n 1, 1) := by decide +kernel
theorem dX9_isScore_13 : decode cX9_isScore 13 = .ok (.iload_n 3, 1) := by decide +kernel
theorem dX9_isScore_14 : decode cX9_isScore 14 = .ok (.if_icmp .gt 26, 3) := by decide +kernel
theorem dX9_isScore_17 : decode cX9_isScore 17 = .ok (.iload_n 2, 1) := by decide +kernel
theorem dX9_isScore_18 : decode cX9_isScore 18 = .ok (.ifCond .lt 22, 3) := by decide +kernel
theorem dX9_isScore_21 : decode cX9_isScore 21 = .ok (.iload_n 2, 1) := by decide +kernel
theorem dX9_isScore_22 : decode cX9_isScore 22 = .ok (.iload_n 3, 1) := by decide +kernel
theorem dX9_isScore_23 : decode cX9_isScore 23 = .ok (.if_icmp .gt 17, 3) := by decide +kernel
theorem dX9_isScore_26 : decode cX9_isScore 26 = .ok (.iload_n 1, 1) := by decide +kernel
theorem dX9_isScore_27 : decode cX9_isScore 27 = .ok (.iload_n 3, 1) := by decide +kernel
theorem dX9_isScore_28 : decode cX9_isScore 28 = .ok (.if_icmp .lt 8, 3) := by decide +kernel
theorem dX9_isScore_31 : decode cX9_isScore 31 = .ok (.iload_n 2, 1) := by decide +kernel
theorem dX9_isScore_32 : decode cX9_isScore 32 = .ok (.iload_n 3, 1) := by decide +kernel
theorem dX9_isScore_33 : decode cX9_isScore 33 = .ok (.if_icmp .ge 7, 3) := by decide +kernel
theorem dX9_isScore_36 : decode cX9_isScore 36 = .ok (.iconst 1, 1) := by decide +kernel
theorem dX9_isScore_37 : decode cX9_isScore 37 = .ok (.goto 4, 3) := by decide +kernel
theorem dX9_isScore_40 : decode cX9_isScore 40 = .ok (.iconst 0, 1) := by decide +kernel
theorem dX9_isScore_41 : decode cX9_isScore 41 = .ok (.ireturn, 1) := by decide +kernel
def fX9_isScore (a0 : Nat) (a1 : Int32) (a2 : Int32) (h : hp_T) : Option (Int32 × hp_T) := fx_let (h.1 (h.2.2 a0 11) 2) fun (x7 : Int32) => if a1 < 0 then (some ((0 : Int32), h)) else (if x7 < a1 then (some ((0 : Int32), h)) else (if a2 < 0 then (some ((0 : Int32), h)) else (if x7 < a2 then (some ((0 : Int32), h)) else (if a1 < x7 then (some ((1 : Int32), h)) else (if x7 ≤ a2 then (some ((0 : Int32), h)) else (some ((1 : Int32), h)))))))
set_option maxRecDepth 100000 in
set_option maxHeartbeats 4000000 in
theorem mX9_isScore (l : Launch) (G : xr_G) (a0 : Nat) (a1 : Int32) (a2 : Int32) (ta0 : hp_sh a0 = (9, 0)) (h h1 : hp_T) (r : Int32) (hF : fX9_isScore a0 a1 a2 h = some (r, h1)) : xr_M l G yX9_isScore cX9_isScore 4 (xr_R 0 0) (some .boolean) [.ref (G.2.2.1 a0), .int a1, .int a2] h (xr_Qi G r h1) := by
  refine xr_start rfl (Nat.le_of_ble_eq_true rfl) (fun K C => ?_)
  show xr_j l G K 4 h [(0, .ref (G.2.2.1 a0)), (1, .int a1), (2, .int a2)] 0 []
  unfold fX9_isScore at hF
  refine xr_aload_n C 0 dX9_isScore_0 rfl rfl ?_
  refine xr_getr C flX9_68 rfl (by decide) dX9_isScore_1 ta0 (fun t1 => ?_)
  refine xr_geti C flX9_117 rfl dX9_isScore_4 t1 ?_
  refine xr_topi (fun x7 e7 => ?_)
  have hF := fx_letE hF x7 e7
  refine xr_istore_n C [(3, .int x7), (0, .ref (G.2.2.1 a0)), (1, .int a1), (2, .int a2)] dX9_isScore_7 rfl (Nat.le_of_ble_eq_true rfl) rfl ?_
  refine xr_iload_n C 2 dX9_isScore_8 rfl rfl ?_
  refine xr_if_lt C 40 dX9_isScore_9 (by decide) (fun c9 => ?_) (fun c9 => ?_)
  · have hF := fx_pos hF c9
    refine xr_iconst (v := 0) C dX9_isScore_40 (by decide) ?_
    cases hF
    exact xr_zret C rfl dX9_isScore_41
  · have hF := fx_neg hF c9
    refine xr_iload_n C 2 dX9_isScore_12 rfl rfl ?_
    refine xr_iload_n C 0 dX9_isScore_13 rfl rfl ?_
    refine xr_icmp_gt C 40 dX9_isScore_14 (by decide) (fun c14 => ?_) (fun c14 => ?_)
    · have hF := fx_pos hF c14
      refine xr_iconst (v := 0) C dX9_isScore_40 (by decide) ?_
      cases hF
      exact xr_zret C rfl dX9_isScore_41
    · have hF := fx_neg hF c14
      refine xr_iload_n C 3 dX9_isScore_17 rfl rfl ?_
      refine xr_if_lt C 40 dX9_isScore_18 (by decide) (fun c18 => ?_) (fun c18 => ?_)
      · have hF := fx_pos hF c18
        refine xr_iconst (v := 0) C dX9_isScore_40 (by decide) ?_
        cases hF
        exact xr_zret C rfl dX9_isScore_41
      · have hF := fx_neg hF c18
        refine xr_iload_n C 3 dX9_isScore_21 rfl rfl ?_
        refine xr_iload_n C 0 dX9_isScore_22 rfl rfl ?_
        refine xr_icmp_gt C 40 dX9_isScore_23 (by decide) (fun c23 => ?_) (fun c23 => ?_)
        · have hF := fx_pos hF c23
          refine xr_iconst (v := 0) C dX9_isScore_40 (by decide) ?_
          cases hF
          exact xr_zret C rfl dX9_isScore_41
        · have hF := fx_neg hF c23
          refine xr_iload_n C 2 dX9_isScore_26 rfl rfl ?_
          refine xr_iload_n C 0 dX9_isScore_27 rfl rfl ?_
          refine xr_icmp_lt C 36 dX9_isScore_28 (by decide) (fun c28 => ?_) (fun c28 => ?_)
          · have hF := fx_pos hF c28
            refine xr_iconst (v := 1) C dX9_isScore_36 (by decide) ?_
            refine xr_goto C 41 dX9_isScore_37 (by decide) ?_
            cases hF
            exact xr_zret C rfl dX9_isScore_41
          · have hF := fx_neg hF c28
            refine xr_iload_n C 3 dX9_isScore_31 rfl rfl ?_
            refine xr_iload_n C 0 dX9_isScore_32 rfl rfl ?_
            refine xr_icmp_ge C 40 dX9_isScore_33 (by decide) (fun c33 => ?_) (fun c33 => ?_)
            · have hF := fx_pos hF c33
              refine xr_iconst (v := 0) C dX9_isScore_40 (by decide) ?_
              cases hF
              exact xr_zret C rfl dX9_isScore_41
            · have hF := fx_neg hF c33
              refine xr_iconst (v := 1) C dX9_isScore_36 (by decide) ?_
              refine xr_goto C 41 dX9_isScore_37 (by decide) ?_
              cases hF
              exact xr_zret C rfl dX9_isScore_41
theorem dX9_valueAt_0 : decode cX9_valueAt 0 = .ok (.aload_n 0, 1) := by decide +kernel
theorem dX9_valueAt_1 : decode cX9_valueAt 1 = .ok (.iload 5, 2) := by decide +kernel
theorem dX9_valueAt_3 : decode cX9_valueAt 3 = .ok (.invokevirtual 99, 3) := by decide +kernel
theorem dX9_valueAt_6 : decode cX9_valueAt 6 = .ok (.ifCond .eq 27, 3) := by decide +kernel
theorem dX9_valueAt_9 : decode cX9_valueAt 9 = .ok (.aload_n 0, 1) := by decide +kernel
theorem dX9_valueAt_10 : decode cX9_valueAt 10 = .ok (.iload_n 1, 1) := by decide +kernel
theorem dX9_valueAt_11 : decode cX9_valueAt 11 = .ok (.iload_n 2, 1) := by decide +kernel
theorem dX9_valueAt_12 : decode cX9_valueAt 12 = .ok (.invokevirtual 397, 3) := by decide +kernel
theorem dX9_valueAt_15 : decode cX9_valueAt 15 = .ok (.ifCond .eq 18, 3) := by decide +kernel
theorem dX9_valueAt_18 : decode cX9_valueAt 18 = .ok (.iload_n 3, 1) := by decide +kernel
theorem dX9_valueAt_19 : decode cX9_valueAt 19 = .ok (.invokestatic 354, 3) := by decide +kernel
theorem dX9_valueAt_22 : decode cX9_valueAt 22 = .ok (.ifCond .eq 11, 3) := by decide +kernel
theorem dX9_valueAt_25 : decode cX9_valueAt 25 = .ok (.iload 4, 2) := by decide +kernel
theorem dX9_valueAt_27 : decode cX9_valueAt 27 = .ok (.invokestatic 354, 3) := by decide +kernel
theorem dX9_valueAt_30 : decode cX9_valueAt 30 = .ok (.ifCond .ne 5, 3) := by decide +kernel
theorem dX9_valueAt_33 : decode cX9_valueAt 33 = .ok (.iconst (-1), 1) := by decide +kernel
theorem dX9_valueAt_34 : decode cX9_valueAt 34 = .ok (.ireturn, 1) := by decide +kernel
theorem dX9_valueAt_35 : decode cX9_valueAt 35 = .ok (.aload_n 0, 1) := by decide +kernel
theorem dX9_valueAt_36 : decode cX9_valueAt 36 = .ok (.invokevirtual 357, 3) := by decide +kernel
theorem dX9_valueAt_39 : decode cX9_valueAt 39 = .ok (.aload_n 0, 1) := by decide +kernel
theorem dX9_valueAt_40 : decode cX9_valueAt 40 = .ok (.getfield 19, 3) := by decide +kernel
theorem dX9_valueAt_43 : decode cX9_valueAt 43 = .ok (.iload_n 1, 1) := by decide +kernel
theorem dX9_valueAt_44 : decode cX9_valueAt 44 = .ok (.iload_n 2, 1) := by decide +kernel
theorem dX9_valueAt_45 : decode cX9_valueAt 45 = .ok (.iload_n 3, 1) := by decide +kernel
theorem dX9_valueAt_46 : decode cX9_valueAt 46 = .ok (.iload 4, 2) := by decide +kernel
theorem dX9_valueAt_48 : decode cX9_valueAt 48 = .ok (.iload 5, 2) := by decide +kernel
theorem dX9_valueAt_50 : decode cX9_valueAt 50 = .ok (.invokevirtual 400, 3) := by decide +kernel
theorem dX9_valueAt_53 : decode cX9_valueAt 53 = .ok (.ireturn, 1) := by decide +kernel
def fX9_valueAt (a0 : Nat) (a1 : Int32) (a2 : Int32) (a3 : Int32) (a4 : Int32) (a5 : Int32) (h : hp_T) : Option (Int32 × hp_T) := fx_b2 (fX9_isSide a0 a5 h) fun (r3 : Int32) (h3 : hp_T) => if r3 = 0 then (some ((-1 : Int32), h3)) else (fx_b2 (fX9_isScore a0 a1 a2 h3) fun (r12 : Int32) (h12 : hp_T) => if r12 = 0 then (some ((-1 : Int32), h12)) else (fx_b2 (fX9_isTurns a3 h12) fun (r19 : Int32) (h19 : hp_T) => if r19 = 0 then (some ((-1 : Int32), h19)) else (fx_b2 (fX9_isTurns a4 h19) fun (r27 : Int32) (h27 : hp_T) => if r27 = 0 then (some ((-1 : Int32), h27)) else (fx_b1 (fX9_weighNow a0 h27) fun (h36 : hp_T) => fx_b2 (fX4_valueOf (h36.2.2 a0 1) a1 a2 a3 a4 a5 h36) fun (r50 : Int32) (h50 : hp_T) => some (r50, h50)))))
set_option maxRecDepth 100000 in
set_option maxHeartbeats 4000000 in
theorem mX9_valueAt (l : Launch) (G : xr_G) (a0 : Nat) (a1 : Int32) (a2 : Int32) (a3 : Int32) (a4 : Int32) (a5 : Int32) (ta0 : hp_sh a0 = (9, 0)) (h h1 : hp_T) (r : Int32) (hF : fX9_valueAt a0 a1 a2 a3 a4 a5 h = some (r, h1)) : xr_M l G yX9_valueAt cX9_valueAt 6 (xr_R 4 137) (some .int) [.ref (G.2.2.1 a0), .int a1, .int a2, .int a3, .int a4, .int a5] h (xr_Qi G r h1) := by
  refine xr_start rfl (Nat.le_of_ble_eq_true rfl) (fun K C => ?_)
  show xr_j l G K 6 h [(0, .ref (G.2.2.1 a0)), (1, .int a1), (2, .int a2), (3, .int a3), (4, .int a4), (5, .int a5)] 0 []
  unfold fX9_valueAt at hF
  refine xr_aload_n C 0 dX9_valueAt_0 rfl rfl ?_
  refine xr_iload C 5 dX9_valueAt_1 rfl ?_
  obtain ⟨r3, h3, e3, hF⟩ := fx_b2E hF
  refine xr_callVi C mvX9_99 [.int a5] [] (mX9_isSide l G a0 a5 ta0 h h3 r3 e3) ta0 (by decide) vc9 rfl ⟨rfl, rfl, (Nat.le_of_ble_eq_true rfl), (Nat.le_of_ble_eq_true rfl)⟩ rfl (Nat.le_of_ble_eq_true rfl) dX9_valueAt_3 ?_
  refine xr_if_eq C 33 dX9_valueAt_6 (by decide) (fun c6 => ?_) (fun c6 => ?_)
  · have hF := fx_pos hF c6
    refine xr_iconst (v := -1) C dX9_valueAt_33 (by decide) ?_
    cases hF
    exact xr_iret C dX9_valueAt_34
  · have hF := fx_neg hF c6
    refine xr_aload_n C 0 dX9_valueAt_9 rfl rfl ?_
    refine xr_iload_n C 1 dX9_valueAt_10 rfl rfl ?_
    refine xr_iload_n C 2 dX9_valueAt_11 rfl rfl ?_
    obtain ⟨r12, h12, e12, hF⟩ := fx_b2E hF
    refine xr_callVi C mvX9_397 [.int a1, .int a2] [] (mX9_isScore l G a0 a1 a2 ta0 h3 h12 r12 e12) ta0 (by decide) vc9 rfl ⟨rfl, rfl, (Nat.le_of_ble_eq_true rfl), (Nat.le_of_ble_eq_true rfl)⟩ rfl (Nat.le_of_ble_eq_true rfl) dX9_valueAt_12 ?_
    refine xr_if_eq C 33 dX9_valueAt_15 (by decide) (fun c15 => ?_) (fun c15 => ?_)
    · have hF := fx_pos hF c15
      refine xr_iconst (v := -1) C dX9_valueAt_33 (by decide) ?_
      cases hF
      exact xr_iret C dX9_valueAt_34
    · have hF := fx_neg hF c15
      refine xr_iload_n C 3 dX9_valueAt_18 rfl rfl ?_
      obtain ⟨r19, h19, e19, hF⟩ := fx_b2E hF
      refine xr_callSi C mvX9_354 [.int a3] [] (mX9_isTurns l G a3  h12 h19 r19 e19) rfl ⟨rfl, rfl, (Nat.le_of_ble_eq_true rfl), (Nat.le_of_ble_eq_true rfl)⟩ rfl (Nat.le_of_ble_eq_true rfl) dX9_valueAt_19 ?_
      refine xr_if_eq C 33 dX9_valueAt_22 (by decide) (fun c22 => ?_) (fun c22 => ?_)
      · have hF := fx_pos hF c22
        refine xr_iconst (v := -1) C dX9_valueAt_33 (by decide) ?_
        cases hF
        exact xr_iret C dX9_valueAt_34
      · have hF := fx_neg hF c22
        refine xr_iload C 4 dX9_valueAt_25 rfl ?_
        obtain ⟨r27, h27, e27, hF⟩ := fx_b2E hF
        refine xr_callSi C mvX9_354 [.int a4] [] (mX9_isTurns l G a4  h19 h27 r27 e27) rfl ⟨rfl, rfl, (Nat.le_of_ble_eq_true rfl), (Nat.le_of_ble_eq_true rfl)⟩ rfl (Nat.le_of_ble_eq_true rfl) dX9_valueAt_27 ?_
        refine xr_if_ne C 35 dX9_valueAt_30 (by decide) (fun c30 => ?_) (fun c30 => ?_)
        · have hF := fx_neg hF c30
          refine xr_aload_n C 0 dX9_valueAt_35 rfl rfl ?_
          obtain ⟨h36, e36, hF⟩ := fx_b1E hF
          refine xr_callVv C mvX9_357 [] [] (mX9_weighNow l G a0 ta0 h27 h36 e36) ta0 (by decide) vc9 rfl ⟨rfl, rfl, (Nat.le_of_ble_eq_true rfl), (Nat.le_of_ble_eq_true rfl)⟩ rfl (Nat.le_of_ble_eq_true rfl) dX9_valueAt_36 ?_
          refine xr_aload_n C 0 dX9_valueAt_39 rfl rfl ?_
          refine xr_getr C flX9_19 rfl (by decide) dX9_valueAt_40 ta0 (fun t40 => ?_)
          refine xr_iload_n C 1 dX9_valueAt_43 rfl rfl ?_
          refine xr_iload_n C 2 dX9_valueAt_44 rfl rfl ?_
          refine xr_iload_n C 3 dX9_valueAt_45 rfl rfl ?_
          refine xr_iload C 4 dX9_valueAt_46 rfl ?_
          refine xr_iload C 5 dX9_valueAt_48 rfl ?_
          obtain ⟨r50, h50, e50, hF⟩ := fx_b2E hF
          refine xr_callVi C mvX9_400 [.int a1, .int a2, .int a3, .int a4, .int a5] [] (mX4_valueOf l G (h36.2.2 a0 1) a1 a2 a3 a4 a5 t40 h36 h50 r50 e50) t40 (by decide) vc4 rfl ⟨rfl, rfl, (Nat.le_of_ble_eq_true rfl), (Nat.le_of_ble_eq_true rfl)⟩ rfl (Nat.le_of_ble_eq_true rfl) dX9_valueAt_50 ?_
          cases hF
          exact xr_iret C dX9_valueAt_53
        · have hF := fx_pos hF c30
          refine xr_iconst (v := -1) C dX9_valueAt_33 (by decide) ?_
          cases hF
          exact xr_iret C dX9_valueAt_34
theorem dX9_worth_0 : decode cX9_worth 0 = .ok (.aload_n 0, 1) := by decide +kernel
theorem dX9_worth_1 : decode cX9_worth 1 = .ok (.iload_n 1, 1) := by decide +kernel
theorem dX9_worth_2 : decode cX9_worth 2 = .ok (.invokevirtual 99, 3) := by decide +kernel
theorem dX9_worth_5 : decode cX9_worth 5 = .ok (.ifCond .eq 10, 3) := by decide +kernel
theorem dX9_worth_8 : decode cX9_worth 8 = .ok (.aload_n 0, 1) := by decide +kernel
theorem dX9_worth_9 : decode cX9_worth 9 = .ok (.invokevirtual 250, 3) := by decide +kernel
theorem dX9_worth_12 : decode cX9_worth 12 = .ok (.ifCond .eq 7, 3) := by decide +kernel
theorem dX9_worth_15 : decode cX9_worth 15 = .ok (.ldc_w 404, 3) := by decide +kernel
theorem dX9_worth_18 : decode cX9_worth 18 = .ok (.ireturn, 1) := by decide +kernel
theorem dX9_worth_19 : decode cX9_worth 19 = .ok (.aload_n 0, 1) := by decide +kernel
theorem dX9_worth_20 : decode cX9_worth 20 = .ok (.getfield 33, 3) := by decide +kernel
theorem dX9_worth_23 : decode cX9_worth 23 = .ok (.getfield 296, 3) := by decide +kernel
theorem dX9_worth_26 : decode cX9_worth 26 = .ok (.getfield 299, 3) := by decide +kernel
theorem dX9_worth_29 : decode cX9_worth 29 = .ok (.iload_n 1, 1) := by decide +kernel
theorem dX9_worth_30 : decode cX9_worth 30 = .ok (.ifCond .ne 7, 3) := by decide +kernel
theorem dX9_worth_33 : decode cX9_worth 33 = .ok (.iconst 1, 1) := by decide +kernel
theorem dX9_worth_34 : decode cX9_worth 34 = .ok (.goto 4, 3) := by decide +kernel
theorem dX9_worth_37 : decode cX9_worth 37 = .ok (.iconst 0, 1) := by decide +kernel
theorem dX9_worth_38 : decode cX9_worth 38 = .ok (.iadd, 1) := by decide +kernel
theorem dX9_worth_39 : decode cX9_worth 39 = .ok (.istore_n 2, 1) := by decide +kernel
theorem dX9_worth_40 : decode cX9_worth 40 = .ok (.aload_n 0, 1) := by decide +kernel
theorem dX9_worth_41 : decode cX9_worth 41 = .ok (.getfield 33, 3) := by decide +kernel
theorem dX9_worth_44 : decode cX9_worth 44 = .ok (.getfield 302, 3) := by decide +kernel
theorem dX9_worth_47 : decode cX9_worth 47 = .ok (.getfield 299, 3) := by decide +kernel
theorem dX9_worth_50 : decode cX9_worth 50 = .ok (.iload_n 1, 1) := by decide +kernel
theorem dX9_worth_51 : decode cX9_worth 51 = .ok (.iconst 1, 1) := by decide +kernel
theorem dX9_worth_52 : decode cX9_worth 52 = .ok (.if_icmp .ne 7, 3) := by decide +kernel
theorem dX9_worth_55 : decode cX9_worth 55 = .ok (.iconst 1, 1) := by decide +kernel
theorem dX9_worth_56 : decode cX9_worth 56 = .ok (.goto 4, 3) := by decide +kernel
theorem dX9_worth_59 : decode cX9_worth 59 = .ok (.iconst 0, 1) := by decide +kernel
theorem dX9_worth_60 : decode cX9_worth 60 = .ok (.iadd, 1) := by decide +kernel
theorem dX9_worth_61 : decode cX9_worth 61 = .ok (.istore_n 3, 1) := by decide +kernel
theorem dX9_worth_62 : decode cX9_worth 62 = .ok (.iload_n 1, 1) := by decide +kernel
theorem dX9_worth_63 : decode cX9_worth 63 = .ok (.ifCond .ne 18, 3) := by decide +kernel
theorem dX9_worth_66 : decode cX9_worth 66 = .ok (.aload_n 0, 1) := by decide +kernel
theorem dX9_worth_67 : decode cX9_worth 67 = .ok (.getfield 33, 3) := by decide +kernel
theorem dX9_worth_70 : decode cX9_worth 70 = .ok (.getfield 257, 3) := by decide +kernel
theorem dX9_worth_73 : decode cX9_worth 73 = .ok (.iconst 1, 1) := by decide +kernel
theorem dX9_worth_74 : decode cX9_worth 74 = .ok (.if_icmp .ne 7, 3) := by decide +kernel
theorem dX9_worth_77 : decode cX9_worth 77 = .ok (.iconst 1, 1) := by decide +kernel
theorem dX9_worth_78 : decode cX9_worth 78 = .ok (.goto 4, 3) := by decide +kernel
theorem dX9_worth_81 : decode cX9_worth 81 = .ok (.iconst 0, 1) := by decide +kernel
theorem dX9_worth_82 : decode cX9_worth 82 = .ok (.istore 4, 2) := by decide +kernel
theorem dX9_worth_84 : decode cX9_worth 84 = .ok (.iload_n 1, 1) := by decide +kernel
theorem dX9_worth_85 : decode cX9_worth 85 = .ok (.iconst 1, 1) := by decide +kernel
theorem dX9_worth_86 : decode cX9_worth 86 = .ok (.if_icmp .ne 17, 3) := by decide +kernel
theorem dX9_worth_89 : decode cX9_worth 89 = .ok (.aload_n 0, 1) := by decide +kernel
theorem dX9_worth_90 : decode cX9_worth 90 = .ok (.getfield 33, 3) := by decide +kernel
theorem dX9_worth_93 : decode cX9_worth 93 = .ok (.getfield 257, 3) := by decide +kernel
theorem dX9_worth_96 : decode cX9_worth 96 = .ok (.ifCond .ne 7, 3) := by decide +kernel
theorem dX9_worth_99 : decode cX9_worth 99 = .ok (.iconst 1, 1) := by decide +kernel
theorem dX9_worth_100 : decode cX9_worth 100 = .ok (.goto 4, 3) := by decide +kernel
theorem dX9_worth_103 : decode cX9_worth 103 = .ok (.iconst 0, 1) := by decide +kernel
theorem dX9_worth_104 : decode cX9_worth 104 = .ok (.istore 5, 2) := by decide +kernel
theorem dX9_worth_106 : decode cX9_worth 106 = .ok (.aload_n 0, 1) := by decide +kernel
theorem dX9_worth_107 : decode cX9_worth 107 = .ok (.invokevirtual 357, 3) := by decide +kernel
theorem dX9_worth_110 : decode cX9_worth 110 = .ok (.aload_n 0, 1) := by decide +kernel
theorem dX9_worth_111 : decode cX9_worth 111 = .ok (.getfield 19, 3) := by decide +kernel
theorem dX9_worth_114 : decode cX9_worth 114 = .ok (.iload_n 2, 1) := by decide +kernel
theorem dX9_worth_115 : decode cX9_worth 115 = .ok (.iload_n 3, 1) := by decide +kernel
theorem dX9_worth_116 : decode cX9_worth 116 = .ok (.iload 4, 2) := by decide +kernel
theorem dX9_worth_118 : decode cX9_worth 118 = .ok (.iload 5, 2) := by decide +kernel
theorem dX9_worth_120 : decode cX9_worth 120 = .ok (.iload_n 1, 1) := by decide +kernel
theorem dX9_worth_121 : decode cX9_worth 121 = .ok (.invokevirtual 400, 3) := by decide +kernel
theorem dX9_worth_124 : decode cX9_worth 124 = .ok (.aload_n 0, 1) := by decide +kernel
theorem dX9_worth_125 : decode cX9_worth 125 = .ok (.invokevirtual 393, 3) := by decide +kernel
theorem dX9_worth_128 : decode cX9_worth 128 = .ok (.isub, 1) := by decide +kernel
theorem dX9_worth_129 : decode cX9_worth 129 = .ok (.ireturn, 1) := by decide +kernel
def fX9_worth_104  (a0 : Nat) (a1 : Int32) (a2 : Int32) (a3 : Int32) (a4 : Int32) (s0 : Int32) (h : hp_T) : Option (Int32 × hp_T) := fx_b1 (fX9_weighNow a0 h) fun (h107 : hp_T) => fx_b2 (fX4_valueOf (h107.2.2 a0 1) a2 a3 a4 s0 a1 h107) fun (r121 : Int32) (h121 : hp_T) => fx_b2 (fX9_valueFromNow a0 h121) fun (r125 : Int32) (h125 : hp_T) => some ((r121 - r125), h125)
set_option maxRecDepth 100000 in
set_option maxHeartbeats 4000000 in
theorem bX9_worth_104 {l : Launch} {G : xr_G} {K : xr_K} {r : Int32} {h1 : hp_T} (C : xr_C G K cX9_worth RX9 6 (xr_R 5 157) (some .int) (some (xr_Qi G r h1)))  (a0 : Nat) (a1 : Int32) (a2 : Int32) (a3 : Int32) (a4 : Int32) (s0 : Int32) (ta0 : hp_sh a0 = (9, 0)) (h : hp_T) (hF : fX9_worth_104 a0 a1 a2 a3 a4 s0 h = some (r, h1)) : xr_j l G K 6 h [(0, .ref (G.2.2.1 a0)), (1, .int a1), (2, .int a2), (3, .int a3), (4, .int a4)] 104 [.int s0] := by
  unfold fX9_worth_104 at hF
  refine xr_istore C [(5, .int s0), (0, .ref (G.2.2.1 a0)), (1, .int a1), (2, .int a2), (3, .int a3), (4, .int a4)] dX9_worth_104 (Nat.le_of_ble_eq_true rfl) rfl ?_
  refine xr_aload_n C 1 dX9_worth_106 rfl rfl ?_
  obtain ⟨h107, e107, hF⟩ := fx_b1E hF
  refine xr_callVv C mvX9_357 [] [] (mX9_weighNow l G a0 ta0 h h107 e107) ta0 (by decide) vc9 rfl ⟨rfl, rfl, (Nat.le_of_ble_eq_true rfl), (Nat.le_of_ble_eq_true rfl)⟩ rfl (Nat.le_of_ble_eq_true rfl) dX9_worth_107 ?_
  refine xr_aload_n C 1 dX9_worth_110 rfl rfl ?_
  refine xr_getr C flX9_19 rfl (by decide) dX9_worth_111 ta0 (fun t111 => ?_)
  refine xr_iload_n C 3 dX9_worth_114 rfl rfl ?_
  refine xr_iload_n C 4 dX9_worth_115 rfl rfl ?_
  refine xr_iload C 5 dX9_worth_116 rfl ?_
  refine xr_iload C 0 dX9_worth_118 rfl ?_
  refine xr_iload_n C 2 dX9_worth_120 rfl rfl ?_
  obtain ⟨r121, h121, e121, hF⟩ := fx_b2E hF
  refine xr_callVi C mvX9_400 [.int a2, .int a3, .int a4, .int s0, .int a1] [] (mX4_valueOf l G (h107.2.2 a0 1) a2 a3 a4 s0 a1 t111 h107 h121 r121 e121) t111 (by decide) vc4 rfl ⟨rfl, rfl, (Nat.le_of_ble_eq_true rfl), (Nat.le_of_ble_eq_true rfl)⟩ rfl (Nat.le_of_ble_eq_true rfl) dX9_worth_121 ?_
  refine xr_aload_n C 1 dX9_worth_124 rfl rfl ?_
  obtain ⟨r125, h125, e125, hF⟩ := fx_b2E hF
  refine xr_callVi C mvX9_393 [] [.int r121] (mX9_valueFromNow l G a0 ta0 h121 h125 r125 e125) ta0 (by decide) vc9 rfl ⟨rfl, rfl, (Nat.le_of_ble_eq_true rfl), (Nat.le_of_ble_eq_true rfl)⟩ rfl (Nat.le_of_ble_eq_true rfl) dX9_worth_125 ?_
  refine xr_isub C dX9_worth_128 ?_
  cases hF
  exact xr_iret C dX9_worth_129
def fX9_worth_103  (a0 : Nat) (a1 : Int32) (a2 : Int32) (a3 : Int32) (a4 : Int32) (h : hp_T) : Option (Int32 × hp_T) := fX9_worth_104 a0 a1 a2 a3 a4 (0 : Int32) h
set_option maxRecDepth 100000 in
set_option maxHeartbeats 4000000 in
theorem bX9_worth_103 {l : Launch} {G : xr_G} {K : xr_K} {r : Int32} {h1 : hp_T} (C : xr_C G K cX9_worth RX9 6 (xr_R 5 157) (some .int) (some (xr_Qi G r h1)))  (a0 : Nat) (a1 : Int32) (a2 : Int32) (a3 : Int32) (a4 : Int32) (ta0 : hp_sh a0 = (9, 0)) (h : hp_T) (hF : fX9_worth_103 a0 a1 a2 a3 a4 h = some (r, h1)) : xr_j l G K 6 h [(0, .ref (G.2.2.1 a0)), (1, .int a1), (2, .int a2), (3, .int a3), (4, .int a4)] 103 [] := by
  unfold fX9_worth_103 at hF
  refine xr_iconst (v := 0) C dX9_worth_103 (by decide) ?_
  exact bX9_worth_104 C   a0 a1 a2 a3 a4 (0 : Int32) ta0 h hF
def fX9_worth_82  (a0 : Nat) (a1 : Int32) (a2 : Int32) (a3 : Int32) (s0 : Int32) (h : hp_T) : Option (Int32 × hp_T) := if a1 = (1 : Int32) then (if (h.1 (h.2.2 a0 3) 2) = 0 then (fX9_worth_104 a0 a1 a2 a3 s0 (1 : Int32) h) else (fX9_worth_103 a0 a1 a2 a3 s0 h)) else (fX9_worth_103 a0 a1 a2 a3 s0 h)
set_option maxRecDepth 100000 in
set_option maxHeartbeats 4000000 in
theorem bX9_worth_82 {l : Launch} {G : xr_G} {K : xr_K} {r : Int32} {h1 : hp_T} (C : xr_C G K cX9_worth RX9 6 (xr_R 5 157) (some .int) (some (xr_Qi G r h1)))  (a0 : Nat) (a1 : Int32) (a2 : Int32) (a3 : Int32) (s0 : Int32) (ta0 : hp_sh a0 = (9, 0)) (h : hp_T) (hF : fX9_worth_82 a0 a1 a2 a3 s0 h = some (r, h1)) : xr_j l G K 6 h [(0, .ref (G.2.2.1 a0)), (1, .int a1), (2, .int a2), (3, .int a3)] 82 [.int s0] := by
  unfold fX9_worth_82 at hF
  refine xr_istore C [(4, .int s0), (0, .ref (G.2.2.1 a0)), (1, .int a1), (2, .int a2), (3, .int a3)] dX9_worth_82 (Nat.le_of_ble_eq_true rfl) rfl ?_
  refine xr_iload_n C 2 dX9_worth_84 rfl rfl ?_
  refine xr_iconst (v := 1) C dX9_worth_85 (by decide) ?_
  refine xr_icmp_ne C 103 dX9_worth_86 (by decide) (fun c86 => ?_) (fun c86 => ?_)
  · have hF := fx_neg hF c86
    refine xr_sub [1, 2, 3, 4, 0] [(0, .ref (G.2.2.1 a0)), (1, .int a1), (2, .int a2), (3, .int a3), (4, .int s0)] rfl ?_
    exact bX9_worth_103 C   a0 a1 a2 a3 s0 ta0 h hF
  · have hF := fx_pos hF c86
    refine xr_aload_n C 1 dX9_worth_89 rfl rfl ?_
    refine xr_getr C flX9_33 rfl (by decide) dX9_worth_90 ta0 (fun t90 => ?_)
    refine xr_geti C flX9_257 rfl dX9_worth_93 t90 ?_
    refine xr_if_ne C 103 dX9_worth_96 (by decide) (fun c96 => ?_) (fun c96 => ?_)
    · have hF := fx_neg hF c96
      refine xr_sub [1, 2, 3, 4, 0] [(0, .ref (G.2.2.1 a0)), (1, .int a1), (2, .int a2), (3, .int a3), (4, .int s0)] rfl ?_
      exact bX9_worth_103 C   a0 a1 a2 a3 s0 ta0 h hF
    · have hF := fx_pos hF c96
      refine xr_iconst (v := 1) C dX9_worth_99 (by decide) ?_
      refine xr_goto C 104 dX9_worth_100 (by decide) ?_
      refine xr_sub [1, 2, 3, 4, 0] [(0, .ref (G.2.2.1 a0)), (1, .int a1), (2, .int a2), (3, .int a3), (4, .int s0)] rfl ?_
      exact bX9_worth_104 C   a0 a1 a2 a3 s0 (1 : Int32) ta0 h hF
def fX9_worth_81  (a0 : Nat) (a1 : Int32) (a2 : Int32) (a3 : Int32) (h : hp_T) : Option (Int32 × hp_T) := fX9_worth_82 a0 a1 a2 a3 (0 : Int32) h
set_option maxRecDepth 100000 in
set_option maxHeartbeats 4000000 in
theorem bX9_worth_81 {l : Launch} {G : xr_G} {K : xr_K} {r : Int32} {h1 : hp_T} (C : xr_C G K cX9_worth RX9 6 (xr_R 5 157) (some .int) (some (xr_Qi G r h1)))  (a0 : Nat) (a1 : Int32) (a2 : Int32) (a3 : Int32) (ta0 : hp_sh a0 = (9, 0)) (h : hp_T) (hF : fX9_worth_81 a0 a1 a2 a3 h = some (r, h1)) : xr_j l G K 6 h [(0, .ref (G.2.2.1 a0)), (1, .int a1), (2, .int a2), (3, .int a3)] 81 [] := by
  unfold fX9_worth_81 at hF
  refine xr_iconst (v := 0) C dX9_worth_81 (by decide) ?_
  exact bX9_worth_82 C   a0 a1 a2 a3 (0 : Int32) ta0 h hF
def fX9_worth_60  (a0 : Nat) (a1 : Int32) (a2 : Int32) (s0 : Int32) (s1 : Int32) (h : hp_T) : Option (Int32 × hp_T) := fx_let (s0 + s1) fun (x61 : Int32) => if a1 = 0 then (if (h.1 (h.2.2 a0 3) 2) = (1 : Int32) then (fX9_worth_82 a0 a1 a2 x61 (1 : Int32) h) else (fX9_worth_81 a0 a1 a2 x61 h)) else (fX9_worth_81 a0 a1 a2 x61 h)
set_option maxRecDepth 100000 in
set_option maxHeartbeats 4000000 in
theorem bX9_worth_60 {l : Launch} {G : xr_G} {K : xr_K} {r : Int32} {h1 : hp_T} (C : xr_C G K cX9_worth RX9 6 (xr_R 5 157) (some .int) (some (xr_Qi G r h1)))  (a0 : Nat) (a1 : Int32) (a2 : Int32) (s0 : Int32) (s1 : Int32) (ta0 : hp_sh a0 = (9, 0)) (h : hp_T) (hF : fX9_worth_60 a0 a1 a2 s0 s1 h = some (r, h1)) : xr_j l G K 6 h [(0, .ref (G.2.2.1 a0)), (1, .int a1), (2, .int a2)] 60 [.int s1, .int s0] := by
  unfold fX9_worth_60 at hF
  refine xr_iadd C dX9_worth_60 ?_
  refine xr_topi (fun x61 e61 => ?_)
  have hF := fx_letE hF x61 e61
  refine xr_istore_n C [(3, .int x61), (0, .ref (G.2.2.1 a0)), (1, .int a1), (2, .int a2)] dX9_worth_61 rfl (Nat.le_of_ble_eq_true rfl) rfl ?_
  refine xr_iload_n C 2 dX9_worth_62 rfl rfl ?_
  refine xr_if_ne C 81 dX9_worth_63 (by decide) (fun c63 => ?_) (fun c63 => ?_)
  · have hF := fx_neg hF c63
    refine xr_sub [1, 2, 3, 0] [(0, .ref (G.2.2.1 a0)), (1, .int a1), (2, .int a2), (3, .int x61)] rfl ?_
    exact bX9_worth_81 C   a0 a1 a2 x61 ta0 h hF
  · have hF := fx_pos hF c63
    refine xr_aload_n C 1 dX9_worth_66 rfl rfl ?_
    refine xr_getr C flX9_33 rfl (by decide) dX9_worth_67 ta0 (fun t67 => ?_)
    refine xr_geti C flX9_257 rfl dX9_worth_70 t67 ?_
    refine xr_iconst (v := 1) C dX9_worth_73 (by decide) ?_
    refine xr_icmp_ne C 81 dX9_worth_74 (by decide) (fun c74 => ?_) (fun c74 => ?_)
    · have hF := fx_neg hF c74
      refine xr_sub [1, 2, 3, 0] [(0, .ref (G.2.2.1 a0)), (1, .int a1), (2, .int a2), (3, .int x61)] rfl ?_
      exact bX9_worth_81 C   a0 a1 a2 x61 ta0 h hF
    · have hF := fx_pos hF c74
      refine xr_iconst (v := 1) C dX9_worth_77 (by decide) ?_
      refine xr_goto C 82 dX9_worth_78 (by decide) ?_
      refine xr_sub [1, 2, 3, 0] [(0, .ref (G.2.2.1 a0)), (1, .int a1), (2, .int a2), (3, .int x61)] rfl ?_
      exact bX9_worth_82 C   a0 a1 a2 x61 (1 : Int32) ta0 h hF
def fX9_worth_38  (a0 : Nat) (a1 : Int32) (s0 : Int32) (s1 : Int32) (h : hp_T) : Option (Int32 × hp_T) := fx_let (s0 + s1) fun (x39 : Int32) => if a1 = (1 : Int32) then (fX9_worth_60 a0 a1 x39 (h.1 (h.2.2 (h.2.2 a0 3) 1) 8) (1 : Int32) h) else (fX9_worth_60 a0 a1 x39 (h.1 (h.2.2 (h.2.2 a0 3) 1) 8) (0 : Int32) h)
set_option maxRecDepth 100000 in
set_option maxHeartbeats 4000000 in
theorem bX9_worth_38 {l : Launch} {G : xr_G} {K : xr_K} {r : Int32} {h1 : hp_T} (C : xr_C G K cX9_worth RX9 6 (xr_R 5 157) (some .int) (some (xr_Qi G r h1)))  (a0 : Nat) (a1 : Int32) (s0 : Int32) (s1 : Int32) (ta0 : hp_sh a0 = (9, 0)) (h : hp_T) (hF : fX9_worth_38 a0 a1 s0 s1 h = some (r, h1)) : xr_j l G K 6 h [(0, .ref (G.2.2.1 a0)), (1, .int a1)] 38 [.int s1, .int s0] := by
  unfold fX9_worth_38 at hF
  refine xr_iadd C dX9_worth_38 ?_
  refine xr_topi (fun x39 e39 => ?_)
  have hF := fx_letE hF x39 e39
  refine xr_istore_n C [(2, .int x39), (0, .ref (G.2.2.1 a0)), (1, .int a1)] dX9_worth_39 rfl (Nat.le_of_ble_eq_true rfl) rfl ?_
  refine xr_aload_n C 1 dX9_worth_40 rfl rfl ?_
  refine xr_getr C flX9_33 rfl (by decide) dX9_worth_41 ta0 (fun t41 => ?_)
  refine xr_getr C flX9_302 rfl (by decide) dX9_worth_44 t41 (fun t44 => ?_)
  refine xr_geti C flX9_299 rfl dX9_worth_47 t44 ?_
  refine xr_iload_n C 2 dX9_worth_50 rfl rfl ?_
  refine xr_iconst (v := 1) C dX9_worth_51 (by decide) ?_
  refine xr_icmp_ne C 59 dX9_worth_52 (by decide) (fun c52 => ?_) (fun c52 => ?_)
  · have hF := fx_neg hF c52
    refine xr_iconst (v := 0) C dX9_worth_59 (by decide) ?_
    refine xr_sub [1, 2, 0] [(0, .ref (G.2.2.1 a0)), (1, .int a1), (2, .int x39)] rfl ?_
    exact bX9_worth_60 C   a0 a1 x39 (h.1 (h.2.2 (h.2.2 a0 3) 1) 8) (0 : Int32) ta0 h hF
  · have hF := fx_pos hF c52
    refine xr_iconst (v := 1) C dX9_worth_55 (by decide) ?_
    refine xr_goto C 60 dX9_worth_56 (by decide) ?_
    refine xr_sub [1, 2, 0] [(0, .ref (G.2.2.1 a0)), (1, .int a1), (2, .int x39)] rfl ?_
    exact bX9_worth_60 C   a0 a1 x39 (h.1 (h.2.2 (h.2.2 a0 3) 1) 8) (1 : Int32) ta0 h hF
def fX9_worth (a0 : Nat) (a1 : Int32) (h : hp_T) : Option (Int32 × hp_T) := fx_b2 (fX9_isSide a0 a1 h) fun (r2 : Int32) (h2 : hp_T) => if r2 = 0 then (some ((-2000000 : Int32), h2)) else (fx_b2 (fX9_isOver a0 h2) fun (r9 : Int32) (h9 : hp_T) => if r9 = 0 then (if a1 = 0 then (fX9_worth_38 a0 a1 (h9.1 (h9.2.2 (h9.2.2 a0 3) 0) 8) (1 : Int32) h9) else (fX9_worth_38 a0 a1 (h9.1 (h9.2.2 (h9.2.2 a0 3) 0) 8) (0 : Int32) h9)) else (some ((-2000000 : Int32), h9)))
set_option maxRecDepth 100000 in
set_option maxHeartbeats 4000000 in
theorem mX9_worth (l : Launch) (G : xr_G) (a0 : Nat) (a1 : Int32) (ta0 : hp_sh a0 = (9, 0)) (h h1 : hp_T) (r : Int32) (hF : fX9_worth a0 a1 h = some (r, h1)) : xr_M l G yX9_worth cX9_worth 6 (xr_R 5 157) (some .int) [.ref (G.2.2.1 a0), .int a1] h (xr_Qi G r h1) := by
  refine xr_start rfl (Nat.le_of_ble_eq_true rfl) (fun K C => ?_)
  show xr_j l G K 6 h [(0, .ref (G.2.2.1 a0)), (1, .int a1)] 0 []
  unfold fX9_worth at hF
  refine xr_aload_n C 0 dX9_worth_0 rfl rfl ?_
  refine xr_iload_n C 1 dX9_worth_1 rfl rfl ?_
  obtain ⟨r2, h2, e2, hF⟩ := fx_b2E hF
  refine xr_callVi C mvX9_99 [.int a1] [] (mX9_isSide l G a0 a1 ta0 h h2 r2 e2) ta0 (by decide) vc9 rfl ⟨rfl, rfl, (Nat.le_of_ble_eq_true rfl), (Nat.le_of_ble_eq_true rfl)⟩ rfl (Nat.le_of_ble_eq_true rfl) dX9_worth_2 ?_
  refine xr_if_eq C 15 dX9_worth_5 (by decide) (fun c5 => ?_) (fun c5 => ?_)
  · have hF := fx_pos hF c5
    refine xr_ldc_w C kcX9_404 dX9_worth_15 ?_
    cases hF
    exact xr_iret C dX9_worth_18
  · have hF := fx_neg hF c5
    refine xr_aload_n C 0 dX9_worth_8 rfl rfl ?_
    obtain ⟨r9, h9, e9, hF⟩ := fx_b2E hF
    refine xr_callVi C mvX9_250 [] [] (mX9_isOver l G a0 ta0 h2 h9 r9 e9) ta0 (by decide) vc9 rfl ⟨rfl, rfl, (Nat.le_of_ble_eq_true rfl), (Nat.le_of_ble_eq_true rfl)⟩ rfl (Nat.le_of_ble_eq_true rfl) dX9_worth_9 ?_
    refine xr_if_eq C 19 dX9_worth_12 (by decide) (fun c12 => ?_) (fun c12 => ?_)
    · have hF := fx_pos hF c12
      refine xr_aload_n C 0 dX9_worth_19 rfl rfl ?_
      refine xr_getr C flX9_33 rfl (by decide) dX9_worth_20 ta0 (fun t20 => ?_)
      refine xr_getr C flX9_296 rfl (by decide) dX9_worth_23 t20 (fun t23 => ?_)
      refine xr_geti C flX9_299 rfl dX9_worth_26 t23 ?_
      refine xr_iload_n C 1 dX9_worth_29 rfl rfl ?_
      refine xr_if_ne C 37 dX9_worth_30 (by decide) (fun c30 => ?_) (fun c30 => ?_)
      · have hF := fx_neg hF c30
        refine xr_iconst (v := 0) C dX9_worth_37 (by decide) ?_
        exact bX9_worth_38 C   a0 a1 (h9.1 (h9.2.2 (h9.2.2 a0 3) 0) 8) (0 : Int32) ta0 h9 hF
      · have hF := fx_pos hF c30
        refine xr_iconst (v := 1) C dX9_worth_33 (by decide) ?_
        refine xr_goto C 38 dX9_worth_34 (by decide) ?_
        exact bX9_worth_38 C   a0 a1 (h9.1 (h9.2.2 (h9.2.2 a0 3) 0) 8) (1 : Int32) ta0 h9 hF
    · have hF := fx_neg hF c12
      refine xr_ldc_w C kcX9_404 dX9_worth_15 ?_
      cases hF
      exact xr_iret C dX9_worth_18
theorem dX9_valueBehindSub_0 : decode cX9_valueBehindSub 0 = .ok (.aload_n 0, 1) := by decide +kernel
theorem dX9_valueBehindSub_1 : decode cX9_valueBehindSub 1 = .ok (.getfield 33, 3) := by decide +kernel
theorem dX9_valueBehindSub_4 : decode cX9_valueBehindSub 4 = .ok (.getfield 296, 3) := by decide +kernel
theorem dX9_valueBehindSub_7 : decode cX9_valueBehindSub 7 = .ok (.getfield 211, 3) := by decide +kernel
theorem dX9_valueBehindSub_10 : decode cX9_valueBehindSub 10 = .ok (.iconst 0, 1) := by decide +kernel
theorem dX9_valueBehindSub_11 : decode cX9_valueBehindSub 11 = .ok (.aload_n 0, 1) := by decide +kernel
theorem dX9_valueBehindSub_12 : decode cX9_valueBehindSub 12 = .ok (.getfield 45, 3) := by decide +kernel
theorem dX9_valueBehindSub_15 : decode cX9_valueBehindSub 15 = .ok (.iconst 0, 1) := by decide +kernel
theorem dX9_valueBehindSub_16 : decode cX9_valueBehindSub 16 = .ok (.bipush 6, 2) := by decide +kernel
theorem dX9_valueBehindSub_18 : decode cX9_valueBehindSub 18 = .ok (.invokestatic 422, 3) := by decide +kernel
theorem dX9_valueBehindSub_21 : decode cX9_valueBehindSub 21 = .ok (.aload_n 0, 1) := by decide +kernel
theorem dX9_valueBehindSub_22 : decode cX9_valueBehindSub 22 = .ok (.getfield 33, 3) := by decide +kernel
theorem dX9_valueBehindSub_25 : decode cX9_valueBehindSub 25 = .ok (.getfield 302, 3) := by decide +kernel
theorem dX9_valueBehindSub_28 : decode cX9_valueBehindSub 28 = .ok (.getfield 211, 3) := by decide +kernel
theorem dX9_valueBehindSub_31 : decode cX9_valueBehindSub 31 = .ok (.iconst 0, 1) := by decide +kernel
theorem dX9_valueBehindSub_32 : decode cX9_valueBehindSub 32 = .ok (.aload_n 0, 1) := by decide +kernel
theorem dX9_valueBehindSub_33 : decode cX9_valueBehindSub 33 = .ok (.getfield 48, 3) := by decide +kernel
theorem dX9_valueBehindSub_36 : decode cX9_valueBehindSub 36 = .ok (.iconst 0, 1) := by decide +kernel
theorem dX9_valueBehindSub_37 : decode cX9_valueBehindSub 37 = .ok (.bipush 6, 2) := by decide +kernel
theorem dX9_valueBehindSub_39 : decode cX9_valueBehindSub 39 = .ok (.invokestatic 422, 3) := by decide +kernel
theorem dX9_valueBehindSub_42 : decode cX9_valueBehindSub 42 = .ok (.aload_n 0, 1) := by decide +kernel
theorem dX9_valueBehindSub_43 : decode cX9_valueBehindSub 43 = .ok (.getfield 33, 3) := by decide +kernel
theorem dX9_valueBehindSub_46 : decode cX9_valueBehindSub 46 = .ok (.iload_n 1, 1) := by decide +kernel
theorem dX9_valueBehindSub_47 : decode cX9_valueBehindSub 47 = .ok (.invokevirtual 207, 3) := by decide +kernel
theorem dX9_valueBehindSub_50 : decode cX9_valueBehindSub 50 = .ok (.iload_n 2, 1) := by decide +kernel
theorem dX9_valueBehindSub_51 : decode cX9_valueBehindSub 51 = .ok (.invokevirtual 232, 3) := by decide +kernel
theorem dX9_valueBehindSub_54 : decode cX9_valueBehindSub 54 = .ok (.istore 4, 2) := by decide +kernel
theorem dX9_valueBehindSub_56 : decode cX9_valueBehindSub 56 = .ok (.iload 4, 2) := by decide +kernel
theorem dX9_valueBehindSub_58 : decode cX9_valueBehindSub 58 = .ok (.ifCond .eq 14, 3) := by decide +kernel
theorem dX9_valueBehindSub_61 : decode cX9_valueBehindSub 61 = .ok (.aload_n 0, 1) := by decide +kernel
theorem dX9_valueBehindSub_62 : decode cX9_valueBehindSub 62 = .ok (.iload_n 1, 1) := by decide +kernel
theorem dX9_valueBehindSub_63 : decode cX9_valueBehindSub 63 = .ok (.invokevirtual 382, 3) := by decide +kernel
theorem dX9_valueBehindSub_66 : decode cX9_valueBehindSub 66 = .ok (.iload 4, 2) := by decide +kernel
theorem dX9_valueBehindSub_68 : decode cX9_valueBehindSub 68 = .ok (.iconst 1, 1) := by decide +kernel
theorem dX9_valueBehindSub_69 : decode cX9_valueBehindSub 69 = .ok (.isub, 1) := by decide +kernel
theorem dX9_valueBehindSub_70 : decode cX9_valueBehindSub 70 = .ok (.iload_n 3, 1) := by decide +kernel
theorem dX9_valueBehindSub_71 : decode cX9_valueBehindSub 71 = .ok (.iastore, 1) := by decide +kernel
theorem dX9_valueBehindSub_72 : decode cX9_valueBehindSub 72 = .ok (.aload_n 0, 1) := by decide +kernel
theorem dX9_valueBehindSub_73 : decode cX9_valueBehindSub 73 = .ok (.invokevirtual 386, 3) := by decide +kernel
theorem dX9_valueBehindSub_76 : decode cX9_valueBehindSub 76 = .ok (.aload_n 0, 1) := by decide +kernel
theorem dX9_valueBehindSub_77 : decode cX9_valueBehindSub 77 = .ok (.invokevirtual 393, 3) := by decide +kernel
theorem dX9_valueBehindSub_80 : decode cX9_valueBehindSub 80 = .ok (.ireturn, 1) := by decide +kernel
def fX9_valueBehindSub_72  (a0 : Nat) (h : hp_T) : Option (Int32 × hp_T) := fx_b1 (fX9_weighTrials a0 h) fun (h73 : hp_T) => fx_b2 (fX9_valueFromNow a0 h73) fun (r77 : Int32) (h77 : hp_T) => some (r77, h77)
set_option maxRecDepth 100000 in
set_option maxHeartbeats 4000000 in
theorem bX9_valueBehindSub_72 {l : Launch} {G : xr_G} {K : xr_K} {r : Int32} {h1 : hp_T} (C : xr_C G K cX9_valueBehindSub RX9 5 (xr_R 5 157) (some .int) (some (xr_Qi G r h1)))  (a0 : Nat) (ta0 : hp_sh a0 = (9, 0)) (h : hp_T) (hF : fX9_valueBehindSub_72 a0 h = some (r, h1)) : xr_j l G K 5 h [(0, .ref (G.2.2.1 a0))] 72 [] := by
  unfold fX9_valueBehindSub_72 at hF
  refine xr_aload_n C 0 dX9_valueBehindSub_72 rfl rfl ?_
  obtain ⟨h73, e73, hF⟩ := fx_b1E hF
  refine xr_callVv C mvX9_386 [] [] (mX9_weighTrials l G a0 ta0 h h73 e73) ta0 (by decide) vc9 rfl ⟨rfl, rfl, (Nat.le_of_ble_eq_true rfl), (Nat.le_of_ble_eq_true rfl)⟩ rfl (Nat.le_of_ble_eq_true rfl) dX9_valueBehindSub_73 ?_
  refine xr_aload_n C 0 dX9_valueBehindSub_76 rfl rfl ?_
  obtain ⟨r77, h77, e77, hF⟩ := fx_b2E hF
  refine xr_callVi C mvX9_393 [] [] (mX9_valueFromNow l G a0 ta0 h73 h77 r77 e77) ta0 (by decide) vc9 rfl ⟨rfl, rfl, (Nat.le_of_ble_eq_true rfl), (Nat.le_of_ble_eq_true rfl)⟩ rfl (Nat.le_of_ble_eq_true rfl) dX9_valueBehindSub_77 ?_
  cases hF
  exact xr_iret C dX9_valueBehindSub_80
def fX9_valueBehindSub (a0 : Nat) (a1 : Int32) (a2 : Int32) (a3 : Int32) (h : hp_T) : Option (Int32 × hp_T) := fx_let (hp_wI h (h.2.2 a0 6) (h.1 (h.2.2 (h.2.2 (h.2.2 a0 3) 0) 0))) fun (h18 : hp_T) => fx_let (hp_wI h18 (h18.2.2 a0 7) (h18.1 (h18.2.2 (h18.2.2 (h18.2.2 a0 3) 1) 0))) fun (h39 : hp_T) => fx_b2 (fX1_team (h39.2.2 a0 3) a1 h39) fun (r47 : Nat) (h47 : hp_T) => fx_b2 (fX6_spotOf r47 a2 h47) fun (r51 : Int32) (h51 : hp_T) => if r51 = 0 then (fX9_valueBehindSub_72 a0 h51) else (fx_b2 (fX9_trialOf a0 a1 h51) fun (r63 : Nat) (h63 : hp_T) => fx_g (fx_in (r51 - (1 : Int32)) 6) (fx_let (hp_sI h63 r63 (fx_ix (r51 - (1 : Int32))) a3) fun (h71 : hp_T) => fX9_valueBehindSub_72 a0 h71))
set_option maxRecDepth 100000 in
set_option maxHeartbeats 4000000 in
theorem mX9_valueBehindSub (l : Launch) (G : xr_G) (a0 : Nat) (a1 : Int32) (a2 : Int32) (a3 : Int32) (ta0 : hp_sh a0 = (9, 0)) (h h1 : hp_T) (r : Int32) (hF : fX9_valueBehindSub a0 a1 a2 a3 h = some (r, h1)) : xr_M l G yX9_valueBehindSub cX9_valueBehindSub 5 (xr_R 5 157) (some .int) [.ref (G.2.2.1 a0), .int a1, .int a2, .int a3] h (xr_Qi G r h1) := by
  refine xr_start rfl (Nat.le_of_ble_eq_true rfl) (fun K C => ?_)
  show xr_j l G K 5 h [(0, .ref (G.2.2.1 a0)), (1, .int a1), (2, .int a2), (3, .int a3)] 0 []
  unfold fX9_valueBehindSub at hF
  refine xr_aload_n C 0 dX9_valueBehindSub_0 rfl rfl ?_
  refine xr_getr C flX9_33 rfl (by decide) dX9_valueBehindSub_1 ta0 (fun t1 => ?_)
  refine xr_getr C flX9_296 rfl (by decide) dX9_valueBehindSub_4 t1 (fun t4 => ?_)
  refine xr_getr C flX9_211 rfl (by decide) dX9_valueBehindSub_7 t4 (fun t7 => ?_)
  refine xr_iconst (v := 0) C dX9_valueBehindSub_10 (by decide) ?_
  refine xr_aload_n C 0 dX9_valueBehindSub_11 rfl rfl ?_
  refine xr_getr C flX9_45 rfl (by decide) dX9_valueBehindSub_12 ta0 (fun t12 => ?_)
  refine xr_iconst (v := 0) C dX9_valueBehindSub_15 (by decide) ?_
  refine xr_bipush (v := 6) C dX9_valueBehindSub_16 (by decide) ?_
  refine xr_copy C cpX9_422 rfl (by decide) t7 t12 (Nat.le_of_ble_eq_true rfl) (Nat.le_of_ble_eq_true rfl) dX9_valueBehindSub_18 (fun h18 e18 => ?_)
  have hF := fx_letE hF h18 e18
  refine xr_aload_n C 0 dX9_valueBehindSub_21 rfl rfl ?_
  refine xr_getr C flX9_33 rfl (by decide) dX9_valueBehindSub_22 ta0 (fun t22 => ?_)
  refine xr_getr C flX9_302 rfl (by decide) dX9_valueBehindSub_25 t22 (fun t25 => ?_)
  refine xr_getr C flX9_211 rfl (by decide) dX9_valueBehindSub_28 t25 (fun t28 => ?_)
  refine xr_iconst (v := 0) C dX9_valueBehindSub_31 (by decide) ?_
  refine xr_aload_n C 0 dX9_valueBehindSub_32 rfl rfl ?_
  refine xr_getr C flX9_48 rfl (by decide) dX9_valueBehindSub_33 ta0 (fun t33 => ?_)
  refine xr_iconst (v := 0) C dX9_valueBehindSub_36 (by decide) ?_
  refine xr_bipush (v := 6) C dX9_valueBehindSub_37 (by decide) ?_
  refine xr_copy C cpX9_422 rfl (by decide) t28 t33 (Nat.le_of_ble_eq_true rfl) (Nat.le_of_ble_eq_true rfl) dX9_valueBehindSub_39 (fun h39 e39 => ?_)
  have hF := fx_letE hF h39 e39
  refine xr_aload_n C 0 dX9_valueBehindSub_42 rfl rfl ?_
  refine xr_getr C flX9_33 rfl (by decide) dX9_valueBehindSub_43 ta0 (fun t43 => ?_)
  refine xr_iload_n C 1 dX9_valueBehindSub_46 rfl rfl ?_
  obtain ⟨r47, h47, e47, hF⟩ := fx_b2E hF
  refine xr_callVr C mvX9_207 [.int a1] [] (mX1_team l G (h39.2.2 a0 3) a1 t43 h39 h47 r47 e47) t43 (by decide) vc1 rfl ⟨rfl, rfl, (Nat.le_of_ble_eq_true rfl), (Nat.le_of_ble_eq_true rfl)⟩ rfl (Nat.le_of_ble_eq_true rfl) dX9_valueBehindSub_47 (fun t47 => ?_)
  refine xr_iload_n C 2 dX9_valueBehindSub_50 rfl rfl ?_
  obtain ⟨r51, h51, e51, hF⟩ := fx_b2E hF
  refine xr_callVi C mvX9_232 [.int a2] [] (mX6_spotOf l G r47 a2 t47 h47 h51 r51 e51) t47 (by decide) vc6 rfl ⟨rfl, rfl, (Nat.le_of_ble_eq_true rfl), (Nat.le_of_ble_eq_true rfl)⟩ rfl (Nat.le_of_ble_eq_true rfl) dX9_valueBehindSub_51 ?_
  refine xr_istore C [(4, .int r51), (0, .ref (G.2.2.1 a0)), (1, .int a1), (2, .int a2), (3, .int a3)] dX9_valueBehindSub_54 (Nat.le_of_ble_eq_true rfl) rfl ?_
  refine xr_iload C 0 dX9_valueBehindSub_56 rfl ?_
  refine xr_if_eq C 72 dX9_valueBehindSub_58 (by decide) (fun c58 => ?_) (fun c58 => ?_)
  · have hF := fx_pos hF c58
    refine xr_sub [1] [(0, .ref (G.2.2.1 a0))] rfl ?_
    exact bX9_valueBehindSub_72 C   a0 ta0 h51 hF
  · have hF := fx_neg hF c58
    refine xr_aload_n C 1 dX9_valueBehindSub_61 rfl rfl ?_
    refine xr_iload_n C 2 dX9_valueBehindSub_62 rfl rfl ?_
    obtain ⟨r63, h63, e63, hF⟩ := fx_b2E hF
    refine xr_callVr C mvX9_382 [.int a1] [] (mX9_trialOf l G a0 a1 ta0 h51 h63 r63 e63) ta0 (by decide) vc9 rfl ⟨rfl, rfl, (Nat.le_of_ble_eq_true rfl), (Nat.le_of_ble_eq_true rfl)⟩ rfl (Nat.le_of_ble_eq_true rfl) dX9_valueBehindSub_63 (fun t63 => ?_)
    refine xr_iload C 0 dX9_valueBehindSub_66 rfl ?_
    refine xr_iconst (v := 1) C dX9_valueBehindSub_68 (by decide) ?_
    refine xr_isub C dX9_valueBehindSub_69 ?_
    refine xr_iload_n C 4 dX9_valueBehindSub_70 rfl rfl ?_
    obtain ⟨g71, hF⟩ := fx_gE hF
    refine xr_iast C dX9_valueBehindSub_71 t63 g71 (fun h71 e71 => ?_)
    have hF := fx_letE hF h71 e71
    refine xr_sub [1] [(0, .ref (G.2.2.1 a0))] rfl ?_
    exact bX9_valueBehindSub_72 C   a0 ta0 h71 hF
theorem dX9_ifSub_0 : decode cX9_ifSub 0 = .ok (.aload_n 0, 1) := by decide +kernel
theorem dX9_ifSub_1 : decode cX9_ifSub 1 = .ok (.iload_n 1, 1) := by decide +kernel
theorem dX9_ifSub_2 : decode cX9_ifSub 2 = .ok (.iload_n 2, 1) := by decide +kernel
theorem dX9_ifSub_3 : decode cX9_ifSub 3 = .ok (.iload_n 3, 1) := by decide +kernel
theorem dX9_ifSub_4 : decode cX9_ifSub 4 = .ok (.invokevirtual 267, 3) := by decide +kernel
theorem dX9_ifSub_7 : decode cX9_ifSub 7 = .ok (.istore 4, 2) := by decide +kernel
theorem dX9_ifSub_9 : decode cX9_ifSub 9 = .ok (.iload 4, 2) := by decide +kernel
theorem dX9_ifSub_11 : decode cX9_ifSub 11 = .ok (.ifCond .eq 8, 3) := by decide +kernel
theorem dX9_ifSub_14 : decode cX9_ifSub 14 = .ok (.iload 4, 2) := by decide +kernel
theorem dX9_ifSub_16 : decode cX9_ifSub 16 = .ok (.goto 10, 3) := by decide +kernel
theorem dX9_ifSub_19 : decode cX9_ifSub 19 = .ok (.aload_n 0, 1) := by decide +kernel
theorem dX9_ifSub_20 : decode cX9_ifSub 20 = .ok (.iload_n 1, 1) := by decide +kernel
theorem dX9_ifSub_21 : decode cX9_ifSub 21 = .ok (.iload_n 2, 1) := by decide +kernel
theorem dX9_ifSub_22 : decode cX9_ifSub 22 = .ok (.iload_n 3, 1) := by decide +kernel
theorem dX9_ifSub_23 : decode cX9_ifSub 23 = .ok (.invokevirtual 405, 3) := by decide +kernel
theorem dX9_ifSub_26 : decode cX9_ifSub 26 = .ok (.ireturn, 1) := by decide +kernel
def fX9_ifSub (a0 : Nat) (a1 : Int32) (a2 : Int32) (a3 : Int32) (h : hp_T) : Option (Int32 × hp_T) := fx_b2 (fX9_judgeSub a0 a1 a2 a3 h) fun (r4 : Int32) (h4 : hp_T) => if r4 = 0 then (fx_b2 (fX9_valueBehindSub a0 a1 a2 a3 h4) fun (r23 : Int32) (h23 : hp_T) => some (r23, h23)) else (some (r4, h4))
set_option maxRecDepth 100000 in
set_option maxHeartbeats 4000000 in
theorem mX9_ifSub (l : Launch) (G : xr_G) (a0 : Nat) (a1 : Int32) (a2 : Int32) (a3 : Int32) (ta0 : hp_sh a0 = (9, 0)) (h h1 : hp_T) (r : Int32) (hF : fX9_ifSub a0 a1 a2 a3 h = some (r, h1)) : xr_M l G yX9_ifSub cX9_ifSub 5 (xr_R 6 181) (some .int) [.ref (G.2.2.1 a0), .int a1, .int a2, .int a3] h (xr_Qi G r h1) := by
  refine xr_start rfl (Nat.le_of_ble_eq_true rfl) (fun K C => ?_)
  show xr_j l G K 5 h [(0, .ref (G.2.2.1 a0)), (1, .int a1), (2, .int a2), (3, .int a3)] 0 []
  unfold fX9_ifSub at hF
  refine xr_aload_n C 0 dX9_ifSub_0 rfl rfl ?_
  refine xr_iload_n C 1 dX9_ifSub_1 rfl rfl ?_
  refine xr_iload_n C 2 dX9_ifSub_2 rfl rfl ?_
  refine xr_iload_n C 3 dX9_ifSub_3 rfl rfl ?_
  obtain ⟨r4, h4, e4, hF⟩ := fx_b2E hF
  refine xr_callVi C mvX9_267 [.int a1, .int a2, .int a3] [] (mX9_judgeSub l G a0 a1 a2 a3 ta0 h h4 r4 e4) ta0 (by decide) vc9 rfl ⟨rfl, rfl, (Nat.le_of_ble_eq_true rfl), (Nat.le_of_ble_eq_true rfl)⟩ rfl (Nat.le_of_ble_eq_true rfl) dX9_ifSub_4 ?_
  refine xr_istore C [(4, .int r4), (0, .ref (G.2.2.1 a0)), (1, .int a1), (2, .int a2), (3, .int a3)] dX9_ifSub_7 (Nat.le_of_ble_eq_true rfl) rfl ?_
  refine xr_iload C 0 dX9_ifSub_9 rfl ?_
  refine xr_if_eq C 19 dX9_ifSub_11 (by decide) (fun c11 => ?_) (fun c11 => ?_)
  · have hF := fx_pos hF c11
    refine xr_aload_n C 1 dX9_ifSub_19 rfl rfl ?_
    refine xr_iload_n C 2 dX9_ifSub_20 rfl rfl ?_
    refine xr_iload_n C 3 dX9_ifSub_21 rfl rfl ?_
    refine xr_iload_n C 4 dX9_ifSub_22 rfl rfl ?_
    obtain ⟨r23, h23, e23, hF⟩ := fx_b2E hF
    refine xr_callVi C mvX9_405 [.int a1, .int a2, .int a3] [] (mX9_valueBehindSub l G a0 a1 a2 a3 ta0 h4 h23 r23 e23) ta0 (by decide) vc9 rfl ⟨rfl, rfl, (Nat.le_of_ble_eq_true rfl), (Nat.le_of_ble_eq_true rfl)⟩ rfl (Nat.le_of_ble_eq_true rfl) dX9_ifSub_23 ?_
    cases hF
    exact xr_iret C dX9_ifSub_26
  · have hF := fx_neg hF c11
    refine xr_iload C 0 dX9_ifSub_14 rfl ?_
    refine xr_goto C 26 dX9_ifSub_16 (by decide) ?_
    cases hF
    exact xr_iret C dX9_ifSub_26
theorem dX9_offerSubs_0 : decode cX9_offerSubs 0 = .ok (.aload_n 0, 1) := by decide +kernel
theorem dX9_offerSubs_1 : decode cX9_offerSubs 1 = .ok (.getfield 68, 3) := by decide +kernel
theorem dX9_offerSubs_4 : decode cX9_offerSubs 4 = .ok (.iload_n 1, 1) := by decide +kernel
theorem dX9_offerSubs_5 : decode cX9_offerSubs 5 = .ok (.invokevirtual 103, 3) := by decide +kernel
theorem dX9_offerSubs_8 : decode cX9_offerSubs 8 = .ok (.getfield 130, 3) := by decide +kernel
theorem dX9_offerSubs_11 : decode cX9_offerSubs 11 = .ok (.istore_n 3, 1) := by decide +kernel
theorem dX9_offerSubs_12 : decode cX9_offerSubs 12 = .ok (.iconst 0, 1) := by decide +kernel
theorem dX9_offerSubs_13 : decode cX9_offerSubs 13 = .ok (.istore 4, 2) := by decide +kernel
theorem dX9_offerSubs_15 : decode cX9_offerSubs 15 = .ok (.iload 4, 2) := by decide +kernel
theorem dX9_offerSubs_17 : decode cX9_offerSubs 17 = .ok (.iload_n 3, 1) := by decide +kernel
theorem dX9_offerSubs_18 : decode cX9_offerSubs 18 = .ok (.if_icmp .ge 62, 3) := by decide +kernel
theorem dX9_offerSubs_21 : decode cX9_offerSubs 21 = .ok (.iconst 0, 1) := by decide +kernel
theorem dX9_offerSubs_22 : decode cX9_offerSubs 22 = .ok (.istore 5, 2) := by decide +kernel
theorem dX9_offerSubs_24 : decode cX9_offerSubs 24 = .ok (.iload 5, 2) := by decide +kernel
theorem dX9_offerSubs_26 : decode cX9_offerSubs 26 = .ok (.iload_n 3, 1) := by decide +kernel
theorem dX9_offerSubs_27 : decode cX9_offerSubs 27 = .ok (.if_icmp .ge 47, 3) := by decide +kernel
theorem dX9_offerSubs_30 : decode cX9_offerSubs 30 = .ok (.aload_n 0, 1) := by decide +kernel
theorem dX9_offerSubs_31 : decode cX9_offerSubs 31 = .ok (.iload_n 1, 1) := by decide +kernel
theorem dX9_offerSubs_32 : decode cX9_offerSubs 32 = .ok (.iload 4, 2) := by decide +kernel
theorem dX9_offerSubs_34 : decode cX9_offerSubs 34 = .ok (.iload 5, 2) := by decide +kernel
theorem dX9_offerSubs_36 : decode cX9_offerSubs 36 = .ok (.invokevirtual 267, 3) := by decide +kernel
theorem dX9_offerSubs_39 : decode cX9_offerSubs 39 = .ok (.ifCond .ne 29, 3) := by decide +kernel
theorem dX9_offerSubs_42 : decode cX9_offerSubs 42 = .ok (.aload_n 2, 1) := by decide +kernel
theorem dX9_offerSubs_43 : decode cX9_offerSubs 43 = .ok (.iload 4, 2) := by decide +kernel
theorem dX9_offerSubs_45 : decode cX9_offerSubs 45 = .ok (.iload 5, 2) := by decide +kernel
theorem dX9_offerSubs_47 : decode cX9_offerSubs 47 = .ok (.aload_n 0, 1) := by decide +kernel
theorem dX9_offerSubs_48 : decode cX9_offerSubs 48 = .ok (.iload_n 1, 1) := by decide +kernel
theorem dX9_offerSubs_49 : decode cX9_offerSubs 49 = .ok (.iload 4, 2) := by decide +kernel
theorem dX9_offerSubs_51 : decode cX9_offerSubs 51 = .ok (.iload 5, 2) := by decide +kernel
theorem dX9_offerSubs_53 : decode cX9_offerSubs 53 = .ok (.invokevirtual 405, 3) := by decide +kernel
theorem dX9_offerSubs_56 : decode cX9_offerSubs 56 = .ok (.iload_n 1, 1) := by decide +kernel
theorem dX9_offerSubs_57 : decode cX9_offerSubs 57 = .ok (.ifCond .ne 7, 3) := by decide +kernel
theorem dX9_offerSubs_60 : decode cX9_offerSubs 60 = .ok (.iconst 1, 1) := by decide +kernel
theorem dX9_offerSubs_61 : decode cX9_offerSubs 61 = .ok (.goto 4, 3) := by decide +kernel
theorem dX9_offerSubs_64 : decode cX9_offerSubs 64 = .ok (.iconst 0, 1) := by decide +kernel
theorem dX9_offerSubs_65 : decode cX9_offerSubs 65 = .ok (.invokevirtual 366, 3) := by decide +kernel
theorem dX9_offerSubs_68 : decode cX9_offerSubs 68 = .ok (.iinc 5 1, 3) := by decide +kernel
theorem dX9_offerSubs_71 : decode cX9_offerSubs 71 = .ok (.goto (-47), 3) := by decide +kernel
theorem dX9_offerSubs_74 : decode cX9_offerSubs 74 = .ok (.iinc 4 1, 3) := by decide +kernel
theorem dX9_offerSubs_77 : decode cX9_offerSubs 77 = .ok (.goto (-62), 3) := by decide +kernel
theorem dX9_offerSubs_80 : decode cX9_offerSubs 80 = .ok (.return_, 1) := by decide +kernel
def fX9_offerSubs_68 (k15 : Nat → Int32 → Nat → Int32 → Int32 → hp_T → Option hp_T) (k24 : Nat → Int32 → Nat → Int32 → Int32 → Int32 → hp_T → Option hp_T) (a0 : Nat) (a1 : Int32) (a2 : Nat) (a3 : Int32) (a4 : Int32) (a5 : Int32) (h : hp_T) : Option hp_T := fx_let (a5 + (1 : Int32)) fun (x68 : Int32) => k24 a0 a1 a2 a3 a4 x68 h
set_option maxRecDepth 100000 in
set_option maxHeartbeats 4000000 in
theorem bX9_offerSubs_68 {l : Launch} {G : xr_G} {K : xr_K} {h1 : hp_T} (C : xr_C G K cX9_offerSubs RX9 6 (xr_R 6 181) none (some (xr_Qv G h1))) (k15 : Nat → Int32 → Nat → Int32 → Int32 → hp_T → Option hp_T) (j15 : ∀ (a0 : Nat) (a1 : Int32) (a2 : Nat) (a3 : Int32) (a4 : Int32) (ta0 : hp_sh a0 = (9, 0)) (ta2 : hp_sh a2 = (0, 0)) (h : hp_T), k15 a0 a1 a2 a3 a4 h = some h1 → xr_j l G K 6 h [(0, .ref (G.2.2.1 a0)), (1, .int a1), (2, .ref (G.2.2.1 a2)), (3, .int a3), (4, .int a4)] 15 []) (k24 : Nat → Int32 → Nat → Int32 → Int32 → Int32 → hp_T → Option hp_T) (j24 : ∀ (a0 : Nat) (a1 : Int32) (a2 : Nat) (a3 : Int32) (a4 : Int32) (a5 : Int32) (ta0 : hp_sh a0 = (9, 0)) (ta2 : hp_sh a2 = (0, 0)) (h : hp_T), k24 a0 a1 a2 a3 a4 a5 h = some h1 → xr_j l G K 6 h [(0, .ref (G.2.2.1 a0)), (1, .int a1), (2, .ref (G.2.2.1 a2)), (3, .int a3), (4, .int a4), (5, .int a5)] 24 []) (a0 : Nat) (a1 : Int32) (a2 : Nat) (a3 : Int32) (a4 : Int32) (a5 : Int32) (ta0 : hp_sh a0 = (9, 0)) (ta2 : hp_sh a2 = (0, 0)) (h : hp_T) (hF : fX9_offerSubs_68 k15 k24 a0 a1 a2 a3 a4 a5 h = some h1) : xr_j l G K 6 h [(0, .ref (G.2.2.1 a0)), (1, .int a1), (2, .ref (G.2.2.1 a2)), (3, .int a3), (4, .int a4), (5, .int a5)] 68 [] := by
  unfold fX9_offerSubs_68 at hF
  obtain ⟨x68, e68⟩ : ∃ y : Int32, y = (a5 + (1 : Int32)) := ⟨_, rfl⟩
  have hF := fx_letE hF x68 e68
  refine xr_iinc C x68 5 [(5, .int x68), (0, .ref (G.2.2.1 a0)), (1, .int a1), (2, .ref (G.2.2.1 a2)), (3, .int a3), (4, .int a4)] dX9_offerSubs_68 rfl (by rw [e68]; rfl) (Nat.le_of_ble_eq_true rfl) rfl ?_
  refine xr_goto C 24 dX9_offerSubs_71 (by decide) ?_
  refine xr_sub [1, 2, 3, 4, 5, 0] [(0, .ref (G.2.2.1 a0)), (1, .int a1), (2, .ref (G.2.2.1 a2)), (3, .int a3), (4, .int a4), (5, .int x68)] rfl ?_
  exact j24 a0 a1 a2 a3 a4 x68 ta0 ta2 h hF
def fX9_offerSubs_65 (k15 : Nat → Int32 → Nat → Int32 → Int32 → hp_T → Option hp_T) (k24 : Nat → Int32 → Nat → Int32 → Int32 → Int32 → hp_T → Option hp_T) (a0 : Nat) (a1 : Int32) (a2 : Nat) (a3 : Int32) (a4 : Int32) (a5 : Int32) (s0 : Nat) (s1 : Int32) (s2 : Int32) (s3 : Int32) (s4 : Int32) (h : hp_T) : Option hp_T := fx_b1 (fX0_offer s0 s1 s2 s3 s4 h) fun (h65 : hp_T) => fX9_offerSubs_68 k15 k24 a0 a1 a2 a3 a4 a5 h65
set_option maxRecDepth 100000 in
set_option maxHeartbeats 4000000 in
theorem bX9_offerSubs_65 {l : Launch} {G : xr_G} {K : xr_K} {h1 : hp_T} (C : xr_C G K cX9_offerSubs RX9 6 (xr_R 6 181) none (some (xr_Qv G h1))) (k15 : Nat → Int32 → Nat → Int32 → Int32 → hp_T → Option hp_T) (j15 : ∀ (a0 : Nat) (a1 : Int32) (a2 : Nat) (a3 : Int32) (a4 : Int32) (ta0 : hp_sh a0 = (9, 0)) (ta2 : hp_sh a2 = (0, 0)) (h : hp_T), k15 a0 a1 a2 a3 a4 h = some h1 → xr_j l G K 6 h [(0, .ref (G.2.2.1 a0)), (1, .int a1), (2, .ref (G.2.2.1 a2)), (3, .int a3), (4, .int a4)] 15 []) (k24 : Nat → Int32 → Nat → Int32 → Int32 → Int32 → hp_T → Option hp_T) (j24 : ∀ (a0 : Nat) (a1 : Int32) (a2 : Nat) (a3 : Int32) (a4 : Int32) (a5 : Int32) (ta0 : hp_sh a0 = (9, 0)) (ta2 : hp_sh a2 = (0, 0)) (h : hp_T), k24 a0 a1 a2 a3 a4 a5 h = some h1 → xr_j l G K 6 h [(0, .ref (G.2.2.1 a0)), (1, .int a1), (2, .ref (G.2.2.1 a2)), (3, .int a3), (4, .int a4), (5, .int a5)] 24 []) (a0 : Nat) (a1 : Int32) (a2 : Nat) (a3 : Int32) (a4 : Int32) (a5 : Int32) (s0 : Nat) (s1 : Int32) (s2 : Int32) (s3 : Int32) (s4 : Int32) (ta0 : hp_sh a0 = (9, 0)) (ta2 : hp_sh a2 = (0, 0)) (ts0 : hp_sh s0 = (0, 0)) (h : hp_T) (hF : fX9_offerSubs_65 k15 k24 a0 a1 a2 a3 a4 a5 s0 s1 s2 s3 s4 h = some h1) : xr_j l G K 6 h [(0, .ref (G.2.2.1 a0)), (1, .int a1), (2, .ref (G.2.2.1 a2)), (3, .int a3), (4, .int a4), (5, .int a5)] 65 [.int s4, .int s3, .int s2, .int s1, .ref (G.2.2.1 s0)] := by
  unfold fX9_offerSubs_65 at hF
  obtain ⟨h65, e65, hF⟩ := fx_b1E hF
  refine xr_callVv C mvX9_366 [.int s1, .int s2, .int s3, .int s4] [] (mX0_offer l G s0 s1 s2 s3 s4 ts0 h h65 e65) ts0 (by decide) vc0 rfl ⟨rfl, rfl, (Nat.le_of_ble_eq_true rfl), (Nat.le_of_ble_eq_true rfl)⟩ rfl (Nat.le_of_ble_eq_true rfl) dX9_offerSubs_65 ?_
  exact bX9_offerSubs_68 C k15 j15 k24 j24  a0 a1 a2 a3 a4 a5 ta0 ta2 h65 hF
def fX9_offerSubs_24 (k15 : Nat → Int32 → Nat → Int32 → Int32 → hp_T → Option hp_T) : Nat → Nat → Int32 → Nat → Int32 → Int32 → Int32 → hp_T → Option hp_T
  | 0, _, _, _, _, _, _, _ => none
  | n + 1, a0, a1, a2, a3, a4, a5, h => if a3 ≤ a5 then (fx_let (a4 + (1 : Int32)) fun (x74 : Int32) => k15 a0 a1 a2 a3 x74 h) else (fx_b2 (fX9_judgeSub a0 a1 a4 a5 h) fun (r36 : Int32) (h36 : hp_T) => if r36 = 0 then (fx_b2 (fX9_valueBehindSub a0 a1 a4 a5 h36) fun (r53 : Int32) (h53 : hp_T) => if a1 = 0 then (fX9_offerSubs_65 k15 (fX9_offerSubs_24 k15 n) a0 a1 a2 a3 a4 a5 a2 a4 a5 r53 (1 : Int32) h53) else (fX9_offerSubs_65 k15 (fX9_offerSubs_24 k15 n) a0 a1 a2 a3 a4 a5 a2 a4 a5 r53 (0 : Int32) h53)) else (fX9_offerSubs_68 k15 (fX9_offerSubs_24 k15 n) a0 a1 a2 a3 a4 a5 h36))
set_option maxRecDepth 100000 in
set_option maxHeartbeats 4000000 in
theorem bX9_offerSubs_24 {l : Launch} {G : xr_G} {K : xr_K} {h1 : hp_T} (C : xr_C G K cX9_offerSubs RX9 6 (xr_R 6 181) none (some (xr_Qv G h1))) (k15 : Nat → Int32 → Nat → Int32 → Int32 → hp_T → Option hp_T) (j15 : ∀ (a0 : Nat) (a1 : Int32) (a2 : Nat) (a3 : Int32) (a4 : Int32) (ta0 : hp_sh a0 = (9, 0)) (ta2 : hp_sh a2 = (0, 0)) (h : hp_T), k15 a0 a1 a2 a3 a4 h = some h1 → xr_j l G K 6 h [(0, .ref (G.2.2.1 a0)), (1, .int a1), (2, .ref (G.2.2.1 a2)), (3, .int a3), (4, .int a4)] 15 []) : ∀ (n : Nat) (a0 : Nat) (a1 : Int32) (a2 : Nat) (a3 : Int32) (a4 : Int32) (a5 : Int32) (ta0 : hp_sh a0 = (9, 0)) (ta2 : hp_sh a2 = (0, 0)) (h : hp_T), fX9_offerSubs_24 k15 n a0 a1 a2 a3 a4 a5 h = some h1 → xr_j l G K 6 h [(0, .ref (G.2.2.1 a0)), (1, .int a1), (2, .ref (G.2.2.1 a2)), (3, .int a3), (4, .int a4), (5, .int a5)] 24 [] := by
  intro n
  induction n with
  | zero =>
    intro a0 a1 a2 a3 a4 a5 ta0 ta2 h hF
    cases hF
  | succ n ih =>
    intro a0 a1 a2 a3 a4 a5 ta0 ta2 h hF
    rw [fX9_offerSubs_24] at hF
    refine xr_iload C 5 dX9_offerSubs_24 rfl ?_
    refine xr_iload_n C 3 dX9_offerSubs_26 rfl rfl ?_
    refine xr_icmp_ge C 74 dX9_offerSubs_27 (by decide) (fun c27 => ?_) (fun c27 => ?_)
    · have hF := fx_pos hF c27
      obtain ⟨x74, e74⟩ : ∃ y : Int32, y = (a4 + (1 : Int32)) := ⟨_, rfl⟩
      have hF := fx_letE hF x74 e74
      refine xr_iinc C x74 4 [(4, .int x74), (0, .ref (G.2.2.1 a0)), (1, .int a1), (2, .ref (G.2.2.1 a2)), (3, .int a3), (5, .int a5)] dX9_offerSubs_74 rfl (by rw [e74]; rfl) (Nat.le_of_ble_eq_true rfl) rfl ?_
      refine xr_goto C 15 dX9_offerSubs_77 (by decide) ?_
      refine xr_sub [1, 2, 3, 4, 0] [(0, .ref (G.2.2.1 a0)), (1, .int a1), (2, .ref (G.2.2.1 a2)), (3, .int a3), (4, .int x74)] rfl ?_
      exact j15 a0 a1 a2 a3 x74 ta0 ta2 h hF
    · have hF := fx_neg hF c27
      refine xr_aload_n C 0 dX9_offerSubs_30 rfl rfl ?_
      refine xr_iload_n C 1 dX9_offerSubs_31 rfl rfl ?_
      refine xr_iload C 4 dX9_offerSubs_32 rfl ?_
      refine xr_iload C 5 dX9_offerSubs_34 rfl ?_
      obtain ⟨r36, h36, e36, hF⟩ := fx_b2E hF
      refine xr_callVi C mvX9_267 [.int a1, .int a4, .int a5] [] (mX9_judgeSub l G a0 a1 a4 a5 ta0 h h36 r36 e36) ta0 (by decide) vc9 rfl ⟨rfl, rfl, (Nat.le_of_ble_eq_true rfl), (Nat.le_of_ble_eq_true rfl)⟩ rfl (Nat.le_of_ble_eq_true rfl) dX9_offerSubs_36 ?_
      refine xr_if_ne C 68 dX9_offerSubs_39 (by decide) (fun c39 => ?_) (fun c39 => ?_)
      · have hF := fx_neg hF c39
        exact bX9_offerSubs_68 C k15 j15 (fX9_offerSubs_24 k15 n) (fun a0 a1 a2 a3 a4 a5 ta0 ta2 h hF => ih a0 a1 a2 a3 a4 a5 ta0 ta2 h hF)  a0 a1 a2 a3 a4 a5 ta0 ta2 h36 hF
      · have hF := fx_pos hF c39
        refine xr_aload_n C 2 dX9_offerSubs_42 rfl rfl ?_
        refine xr_iload C 4 dX9_offerSubs_43 rfl ?_
        refine xr_iload C 5 dX9_offerSubs_45 rfl ?_
        refine xr_aload_n C 0 dX9_offerSubs_47 rfl rfl ?_
        refine xr_iload_n C 1 dX9_offerSubs_48 rfl rfl ?_
        refine xr_iload C 4 dX9_offerSubs_49 rfl ?_
        refine xr_iload C 5 dX9_offerSubs_51 rfl ?_
        obtain ⟨r53, h53, e53, hF⟩ := fx_b2E hF
        refine xr_callVi C mvX9_405 [.int a1, .int a4, .int a5] [.int a5, .int a4, .ref (G.2.2.1 a2)] (mX9_valueBehindSub l G a0 a1 a4 a5 ta0 h36 h53 r53 e53) ta0 (by decide) vc9 rfl ⟨rfl, rfl, (Nat.le_of_ble_eq_true rfl), (Nat.le_of_ble_eq_true rfl)⟩ rfl (Nat.le_of_ble_eq_true rfl) dX9_offerSubs_53 ?_
        refine xr_iload_n C 1 dX9_offerSubs_56 rfl rfl ?_
        refine xr_if_ne C 64 dX9_offerSubs_57 (by decide) (fun c57 => ?_) (fun c57 => ?_)
        · have hF := fx_neg hF c57
          refine xr_iconst (v := 0) C dX9_offerSubs_64 (by decide) ?_
          exact bX9_offerSubs_65 C k15 j15 (fX9_offerSubs_24 k15 n) (fun a0 a1 a2 a3 a4 a5 ta0 ta2 h hF => ih a0 a1 a2 a3 a4 a5 ta0 ta2 h hF)  a0 a1 a2 a3 a4 a5 a2 a4 a5 r53 (0 : Int32) ta0 ta2 ta2 h53 hF
        · have hF := fx_pos hF c57
          refine xr_iconst (v := 1) C dX9_offerSubs_60 (by decide) ?_
          refine xr_goto C 65 dX9_offerSubs_61 (by decide) ?_
          exact bX9_offerSubs_65 C k15 j15 (fX9_offerSubs_24 k15 n) (fun a0 a1 a2 a3 a4 a5 ta0 ta2 h hF => ih a0 a1 a2 a3 a4 a5 ta0 ta2 h hF)  a0 a1 a2 a3 a4 a5 a2 a4 a5 r53 (1 : Int32) ta0 ta2 ta2 h53 hF
def fX9_offerSubs_15  : Nat → Nat → Int32 → Nat → Int32 → Int32 → hp_T → Option hp_T
  | 0, _, _, _, _, _, _ => none
  | n + 1, a0, a1, a2, a3, a4, h => if a3 ≤ a4 then (some h) else (fX9_offerSubs_24 (fX9_offerSubs_15 n) fx_N a0 a1 a2 a3 a4 (0 : Int32) h)
set_option maxRecDepth 100000 in
set_option maxHeartbeats 4000000 in
theorem bX9_offerSubs_15 {l : Launch} {G : xr_G} {K : xr_K} {h1 : hp_T} (C : xr_C G K cX9_offerSubs RX9 6 (xr_R 6 181) none (some (xr_Qv G h1)))  : ∀ (n : Nat) (a0 : Nat) (a1 : Int32) (a2 : Nat) (a3 : Int32) (a4 : Int32) (ta0 : hp_sh a0 = (9, 0)) (ta2 : hp_sh a2 = (0, 0)) (h : hp_T), fX9_offerSubs_15 n a0 a1 a2 a3 a4 h = some h1 → xr_j l G K 6 h [(0, .ref (G.2.2.1 a0)), (1, .int a1), (2, .ref (G.2.2.1 a2)), (3, .int a3), (4, .int a4)] 15 [] := by
  intro n
  induction n with
  | zero =>
    intro a0 a1 a2 a3 a4 ta0 ta2 h hF
    cases hF
  | succ n ih =>
    intro a0 a1 a2 a3 a4 ta0 ta2 h hF
    rw [fX9_offerSubs_15] at hF
    refine xr_iload C 4 dX9_offerSubs_15 rfl ?_
    refine xr_iload_n C 3 dX9_offerSubs_17 rfl rfl ?_
    refine xr_icmp_ge C 80 dX9_offerSubs_18 (by decide) (fun c18 => ?_) (fun c18 => ?_)
    · have hF := fx_pos hF c18
      cases hF
      exact xr_vret C dX9_offerSubs_80
    · have hF := fx_neg hF c18
      refine xr_iconst (v := 0) C dX9_offerSubs_21 (by decide) ?_
      refine xr_istore C [(5, .int (0 : Int32)), (0, .ref (G.2.2.1 a0)), (1, .int a1), (2, .ref (G.2.2.1 a2)), (3, .int a3), (4, .int a4)] dX9_offerSubs_22 (Nat.le_of_ble_eq_true rfl) rfl ?_
      refine xr_sub [1, 2, 3, 4, 5, 0] [(0, .ref (G.2.2.1 a0)), (1, .int a1), (2, .ref (G.2.2.1 a2)), (3, .int a3), (4, .int a4), (5, .int (0 : Int32))] rfl ?_
      exact bX9_offerSubs_24 C (fX9_offerSubs_15 n) (fun a0 a1 a2 a3 a4 ta0 ta2 h hF => ih a0 a1 a2 a3 a4 ta0 ta2 h hF) fx_N a0 a1 a2 a3 a4 (0 : Int32) ta0 ta2 h hF
def fX9_offerSubs (a0 : Nat) (a1 : Int32) (a2 : Nat) (h : hp_T) : Option hp_T := fx_b2 (fX8_squad (h.2.2 a0 11) a1 h) fun (r5 : Nat) (h5 : hp_T) => fx_let (h5.1 r5 5) fun (x11 : Int32) => fX9_offerSubs_15 fx_N a0 a1 a2 x11 (0 : Int32) h5
set_option maxRecDepth 100000 in
set_option maxHeartbeats 4000000 in
theorem mX9_offerSubs (l : Launch) (G : xr_G) (a0 : Nat) (a1 : Int32) (a2 : Nat) (ta0 : hp_sh a0 = (9, 0)) (ta2 : hp_sh a2 = (0, 0)) (h h1 : hp_T) (hF : fX9_offerSubs a0 a1 a2 h = some h1) : xr_M l G yX9_offerSubs cX9_offerSubs 6 (xr_R 6 181) none [.ref (G.2.2.1 a0), .int a1, .ref (G.2.2.1 a2)] h (xr_Qv G h1) := by
  refine xr_start rfl (Nat.le_of_ble_eq_true rfl) (fun K C => ?_)
  show xr_j l G K 6 h [(0, .ref (G.2.2.1 a0)), (1, .int a1), (2, .ref (G.2.2.1 a2))] 0 []
  unfold fX9_offerSubs at hF
  refine xr_aload_n C 0 dX9_offerSubs_0 rfl rfl ?_
  refine xr_getr C flX9_68 rfl (by decide) dX9_offerSubs_1 ta0 (fun t1 => ?_)
  refine xr_iload_n C 1 dX9_offerSubs_4 rfl rfl ?_
  obtain ⟨r5, h5, e5, hF⟩ := fx_b2E hF
  refine xr_callVr C mvX9_103 [.int a1] [] (mX8_squad l G (h.2.2 a0 11) a1 t1 h h5 r5 e5) t1 (by decide) vc8 rfl ⟨rfl, rfl, (Nat.le_of_ble_eq_true rfl), (Nat.le_of_ble_eq_true rfl)⟩ rfl (Nat.le_of_ble_eq_true rfl) dX9_offerSubs_5 (fun t5 => ?_)
  refine xr_geti C flX9_130 rfl dX9_offerSubs_8 t5 ?_
  refine xr_topi (fun x11 e11 => ?_)
  have hF := fx_letE hF x11 e11
  refine xr_istore_n C [(3, .int x11), (0, .ref (G.2.2.1 a0)), (1, .int a1), (2, .ref (G.2.2.1 a2))] dX9_offerSubs_11 rfl (Nat.le_of_ble_eq_true rfl) rfl ?_
  refine xr_iconst (v := 0) C dX9_offerSubs_12 (by decide) ?_
  refine xr_istore C [(4, .int (0 : Int32)), (3, .int x11), (0, .ref (G.2.2.1 a0)), (1, .int a1), (2, .ref (G.2.2.1 a2))] dX9_offerSubs_13 (Nat.le_of_ble_eq_true rfl) rfl ?_
  refine xr_sub [2, 3, 4, 1, 0] [(0, .ref (G.2.2.1 a0)), (1, .int a1), (2, .ref (G.2.2.1 a2)), (3, .int x11), (4, .int (0 : Int32))] rfl ?_
  exact bX9_offerSubs_15 C  fx_N a0 a1 a2 x11 (0 : Int32) ta0 ta2 h5 hF
theorem dX9_bestSub_0 : decode cX9_bestSub 0 = .ok (.aload_n 0, 1) := by decide +kernel
theorem dX9_bestSub_1 : decode cX9_bestSub 1 = .ok (.iload_n 1, 1) := by decide +kernel
theorem dX9_bestSub_2 : decode cX9_bestSub 2 = .ok (.invokevirtual 99, 3) := by decide +kernel
theorem dX9_bestSub_5 : decode cX9_bestSub 5 = .ok (.ifCond .eq 12, 3) := by decide +kernel
theorem dX9_bestSub_8 : decode cX9_bestSub 8 = .ok (.iload_n 2, 1) := by decide +kernel
theorem dX9_bestSub_9 : decode cX9_bestSub 9 = .ok (.ifCond .lt 8, 3) := by decide +kernel
theorem dX9_bestSub_12 : decode cX9_bestSub 12 = .ok (.iload_n 2, 1) := by decide +kernel
theorem dX9_bestSub_13 : decode cX9_bestSub 13 = .ok (.iconst 2, 1) := by decide +kernel
theorem dX9_bestSub_14 : decode cX9_bestSub 14 = .ok (.if_icmp .le 5, 3) := by decide +kernel
theorem dX9_bestSub_17 : decode cX9_bestSub 17 = .ok (.iconst (-1), 1) := by decide +kernel
theorem dX9_bestSub_18 : decode cX9_bestSub 18 = .ok (.ireturn, 1) := by decide +kernel
theorem dX9_bestSub_19 : decode cX9_bestSub 19 = .ok (.aload_n 0, 1) := by decide +kernel
theorem dX9_bestSub_20 : decode cX9_bestSub 20 = .ok (.getfield 58, 3) := by decide +kernel
theorem dX9_bestSub_23 : decode cX9_bestSub 23 = .ok (.iload_n 1, 1) := by decide +kernel
theorem dX9_bestSub_24 : decode cX9_bestSub 24 = .ok (.aaload, 1) := by decide +kernel
theorem dX9_bestSub_25 : decode cX9_bestSub 25 = .ok (.astore_n 3, 1) := by decide +kernel
theorem dX9_bestSub_26 : decode cX9_bestSub 26 = .ok (.aload_n 3, 1) := by decide +kernel
theorem dX9_bestSub_27 : decode cX9_bestSub 27 = .ok (.getfield 143, 3) := by decide +kernel
theorem dX9_bestSub_30 : decode cX9_bestSub 30 = .ok (.ifCond .ne 30, 3) := by decide +kernel
theorem dX9_bestSub_33 : decode cX9_bestSub 33 = .ok (.aload_n 0, 1) := by decide +kernel
theorem dX9_bestSub_34 : decode cX9_bestSub 34 = .ok (.getfield 33, 3) := by decide +kernel
theorem dX9_bestSub_37 : decode cX9_bestSub 37 = .ok (.iload_n 1, 1) := by decide +kernel
theorem dX9_bestSub_38 : decode cX9_bestSub 38 = .ok (.invokevirtual 207, 3) := by decide +kernel
theorem dX9_bestSub_41 : decode cX9_bestSub 41 = .ok (.getfield 274, 3) := by decide +kernel
theorem dX9_bestSub_44 : decode cX9_bestSub 44 = .ok (.ifCond .le 16, 3) := by decide +kernel
theorem dX9_bestSub_47 : decode cX9_bestSub 47 = .ok (.aload_n 0, 1) := by decide +kernel
theorem dX9_bestSub_48 : decode cX9_bestSub 48 = .ok (.invokevirtual 250, 3) := by decide +kernel
theorem dX9_bestSub_51 : decode cX9_bestSub 51 = .ok (.ifCond .ne 9, 3) := by decide +kernel
theorem dX9_bestSub_54 : decode cX9_bestSub 54 = .ok (.aload_n 0, 1) := by decide +kernel
theorem dX9_bestSub_55 : decode cX9_bestSub 55 = .ok (.iload_n 1, 1) := by decide +kernel
theorem dX9_bestSub_56 : decode cX9_bestSub 56 = .ok (.aload_n 3, 1) := by decide +kernel
theorem dX9_bestSub_57 : decode cX9_bestSub 57 = .ok (.invokevirtual 408, 3) := by decide +kernel
theorem dX9_bestSub_60 : decode cX9_bestSub 60 = .ok (.aload_n 3, 1) := by decide +kernel
theorem dX9_bestSub_61 : decode cX9_bestSub 61 = .ok (.getfield 143, 3) := by decide +kernel
theorem dX9_bestSub_64 : decode cX9_bestSub 64 = .ok (.ifCond .eq 11, 3) := by decide +kernel
theorem dX9_bestSub_67 : decode cX9_bestSub 67 = .ok (.aload_n 3, 1) := by decide +kernel
theorem dX9_bestSub_68 : decode cX9_bestSub 68 = .ok (.iload_n 2, 1) := by decide +kernel
theorem dX9_bestSub_69 : decode cX9_bestSub 69 = .ok (.invokevirtual 370, 3) := by decide +kernel
theorem dX9_bestSub_72 : decode cX9_bestSub 72 = .ok (.goto 5, 3) := by decide +kernel
theorem dX9_bestSub_75 : decode cX9_bestSub 75 = .ok (.bipush (-2), 2) := by decide +kernel
theorem dX9_bestSub_77 : decode cX9_bestSub 77 = .ok (.ireturn, 1) := by decide +kernel
def fX9_bestSub_60  (a2 : Int32) (a3 : Nat) (h : hp_T) : Option (Int32 × hp_T) := if (h.1 a3 0) = 0 then (some ((-2 : Int32), h)) else (fx_b2 (fX0_part a3 a2 h) fun (r69 : Int32) (h69 : hp_T) => some (r69, h69))
set_option maxRecDepth 100000 in
set_option maxHeartbeats 4000000 in
theorem bX9_bestSub_60 {l : Launch} {G : xr_G} {K : xr_K} {r : Int32} {h1 : hp_T} (C : xr_C G K cX9_bestSub RX9 4 (xr_R 7 206) (some .int) (some (xr_Qi G r h1)))  (a2 : Int32) (a3 : Nat) (ta3 : hp_sh a3 = (0, 0)) (h : hp_T) (hF : fX9_bestSub_60 a2 a3 h = some (r, h1)) : xr_j l G K 4 h [(2, .int a2), (3, .ref (G.2.2.1 a3))] 60 [] := by
  unfold fX9_bestSub_60 at hF
  refine xr_aload_n C 1 dX9_bestSub_60 rfl rfl ?_
  refine xr_geti C flX9_143 rfl dX9_bestSub_61 ta3 ?_
  refine xr_if_eq C 75 dX9_bestSub_64 (by decide) (fun c64 => ?_) (fun c64 => ?_)
  · have hF := fx_pos hF c64
    refine xr_bipush (v := -2) C dX9_bestSub_75 (by decide) ?_
    cases hF
    exact xr_iret C dX9_bestSub_77
  · have hF := fx_neg hF c64
    refine xr_aload_n C 1 dX9_bestSub_67 rfl rfl ?_
    refine xr_iload_n C 0 dX9_bestSub_68 rfl rfl ?_
    obtain ⟨r69, h69, e69, hF⟩ := fx_b2E hF
    refine xr_callVi C mvX9_370 [.int a2] [] (mX0_part l G a3 a2 ta3 h h69 r69 e69) ta3 (by decide) vc0 rfl ⟨rfl, rfl, (Nat.le_of_ble_eq_true rfl), (Nat.le_of_ble_eq_true rfl)⟩ rfl (Nat.le_of_ble_eq_true rfl) dX9_bestSub_69 ?_
    refine xr_goto C 77 dX9_bestSub_72 (by decide) ?_
    cases hF
    exact xr_iret C dX9_bestSub_77
def fX9_bestSub (a0 : Nat) (a1 : Int32) (a2 : Int32) (h : hp_T) : Option (Int32 × hp_T) := fx_b2 (fX9_isSide a0 a1 h) fun (r2 : Int32) (h2 : hp_T) => if r2 = 0 then (some ((-1 : Int32), h2)) else (if a2 < 0 then (some ((-1 : Int32), h2)) else (if a2 ≤ (2 : Int32) then (fx_g (fx_in a1 2) (if (h2.1 (h2.2.2 (h2.2.2 a0 9) (fx_ix a1)) 0) = 0 then (fx_b2 (fX1_team (h2.2.2 a0 3) a1 h2) fun (r38 : Nat) (h38 : hp_T) => if (h38.1 r38 6) ≤ 0 then (fX9_bestSub_60 a2 (h2.2.2 (h2.2.2 a0 9) (fx_ix a1)) h38) else (fx_b2 (fX9_isOver a0 h38) fun (r48 : Int32) (h48 : hp_T) => if r48 = 0 then (fx_b1 (fX9_offerSubs a0 a1 (h2.2.2 (h2.2.2 a0 9) (fx_ix a1)) h48) fun (h57 : hp_T) => fX9_bestSub_60 a2 (h2.2.2 (h2.2.2 a0 9) (fx_ix a1)) h57) else (fX9_bestSub_60 a2 (h2.2.2 (h2.2.2 a0 9) (fx_ix a1)) h48))) else (fX9_bestSub_60 a2 (h2.2.2 (h2.2.2 a0 9) (fx_ix a1)) h2))) else (some ((-1 : Int32), h2))))
set_option maxRecDepth 100000 in
set_option maxHeartbeats 4000000 in
theorem mX9_bestSub (l : Launch) (G : xr_G) (a0 : Nat) (a1 : Int32) (a2 : Int32) (ta0 : hp_sh a0 = (9, 0)) (h h1 : hp_T) (r : Int32) (hF : fX9_bestSub a0 a1 a2 h = some (r, h1)) : xr_M l G yX9_bestSub cX9_bestSub 4 (xr_R 7 206) (some .int) [.ref (G.2.2.1 a0), .int a1, .int a2] h (xr_Qi G r h1) := by
  refine xr_start rfl (Nat.le_of_ble_eq_true rfl) (fun K C => ?_)
  show xr_j l G K 4 h [(0, .ref (G.2.2.1 a0)), (1, .int a1), (2, .int a2)] 0 []
  unfold fX9_bestSub at hF
  refine xr_aload_n C 0 dX9_bestSub_0 rfl rfl ?_
  refine xr_iload_n C 1 dX9_bestSub_1 rfl rfl ?_
  obtain ⟨r2, h2, e2, hF⟩ := fx_b2E hF
  refine xr_callVi C mvX9_99 [.int a1] [] (mX9_isSide l G a0 a1 ta0 h h2 r2 e2) ta0 (by decide) vc9 rfl ⟨rfl, rfl, (Nat.le_of_ble_eq_true rfl), (Nat.le_of_ble_eq_true rfl)⟩ rfl (Nat.le_of_ble_eq_true rfl) dX9_bestSub_2 ?_
  refine xr_if_eq C 17 dX9_bestSub_5 (by decide) (fun c5 => ?_) (fun c5 => ?_)
  · have hF := fx_pos hF c5
    refine xr_iconst (v := -1) C dX9_bestSub_17 (by decide) ?_
    cases hF
    exact xr_iret C dX9_bestSub_18
  · have hF := fx_neg hF c5
    refine xr_iload_n C 2 dX9_bestSub_8 rfl rfl ?_
    refine xr_if_lt C 17 dX9_bestSub_9 (by decide) (fun c9 => ?_) (fun c9 => ?_)
    · have hF := fx_pos hF c9
      refine xr_iconst (v := -1) C dX9_bestSub_17 (by decide) ?_
      cases hF
      exact xr_iret C dX9_bestSub_18
    · have hF := fx_neg hF c9
      refine xr_iload_n C 2 dX9_bestSub_12 rfl rfl ?_
      refine xr_iconst (v := 2) C dX9_bestSub_13 (by decide) ?_
      refine xr_icmp_le C 19 dX9_bestSub_14 (by decide) (fun c14 => ?_) (fun c14 => ?_)
      · have hF := fx_pos hF c14
        refine xr_aload_n C 0 dX9_bestSub_19 rfl rfl ?_
        refine xr_getr C flX9_58 rfl (by decide) dX9_bestSub_20 ta0 (fun t20 => ?_)
        refine xr_iload_n C 1 dX9_bestSub_23 rfl rfl ?_
        obtain ⟨g24, hF⟩ := fx_gE hF
        refine xr_aald24 C dX9_bestSub_24 t20 g24 (fun t24 => ?_)
        refine xr_astore_n C [(3, .ref (G.2.2.1 (h2.2.2 (h2.2.2 a0 9) (fx_ix a1)))), (0, .ref (G.2.2.1 a0)), (1, .int a1), (2, .int a2)] dX9_bestSub_25 rfl (Nat.le_of_ble_eq_true rfl) rfl ?_
        refine xr_aload_n C 0 dX9_bestSub_26 rfl rfl ?_
        refine xr_geti C flX9_143 rfl dX9_bestSub_27 t24 ?_
        refine xr_if_ne C 60 dX9_bestSub_30 (by decide) (fun c30 => ?_) (fun c30 => ?_)
        · have hF := fx_neg hF c30
          refine xr_sub [3, 0] [(2, .int a2), (3, .ref (G.2.2.1 (h2.2.2 (h2.2.2 a0 9) (fx_ix a1))))] rfl ?_
          exact bX9_bestSub_60 C   a2 (h2.2.2 (h2.2.2 a0 9) (fx_ix a1)) t24 h2 hF
        · have hF := fx_pos hF c30
          refine xr_aload_n C 1 dX9_bestSub_33 rfl rfl ?_
          refine xr_getr C flX9_33 rfl (by decide) dX9_bestSub_34 ta0 (fun t34 => ?_)
          refine xr_iload_n C 2 dX9_bestSub_37 rfl rfl ?_
          obtain ⟨r38, h38, e38, hF⟩ := fx_b2E hF
          refine xr_callVr C mvX9_207 [.int a1] [] (mX1_team l G (h2.2.2 a0 3) a1 t34 h2 h38 r38 e38) t34 (by decide) vc1 rfl ⟨rfl, rfl, (Nat.le_of_ble_eq_true rfl), (Nat.le_of_ble_eq_true rfl)⟩ rfl (Nat.le_of_ble_eq_true rfl) dX9_bestSub_38 (fun t38 => ?_)
          refine xr_geti C flX9_274 rfl dX9_bestSub_41 t38 ?_
          refine xr_if_le C 60 dX9_bestSub_44 (by decide) (fun c44 => ?_) (fun c44 => ?_)
          · have hF := fx_pos hF c44
            refine xr_sub [3, 0] [(2, .int a2), (3, .ref (G.2.2.1 (h2.2.2 (h2.2.2 a0 9) (fx_ix a1))))] rfl ?_
            exact bX9_bestSub_60 C   a2 (h2.2.2 (h2.2.2 a0 9) (fx_ix a1)) t24 h38 hF
          · have hF := fx_neg hF c44
            refine xr_aload_n C 1 dX9_bestSub_47 rfl rfl ?_
            obtain ⟨r48, h48, e48, hF⟩ := fx_b2E hF
            refine xr_callVi C mvX9_250 [] [] (mX9_isOver l G a0 ta0 h38 h48 r48 e48) ta0 (by decide) vc9 rfl ⟨rfl, rfl, (Nat.le_of_ble_eq_true rfl), (Nat.le_of_ble_eq_true rfl)⟩ rfl (Nat.le_of_ble_eq_true rfl) dX9_bestSub_48 ?_
            refine xr_if_ne C 60 dX9_bestSub_51 (by decide) (fun c51 => ?_) (fun c51 => ?_)
            · have hF := fx_neg hF c51
              refine xr_sub [3, 0] [(2, .int a2), (3, .ref (G.2.2.1 (h2.2.2 (h2.2.2 a0 9) (fx_ix a1))))] rfl ?_
              exact bX9_bestSub_60 C   a2 (h2.2.2 (h2.2.2 a0 9) (fx_ix a1)) t24 h48 hF
            · have hF := fx_pos hF c51
              refine xr_aload_n C 1 dX9_bestSub_54 rfl rfl ?_
              refine xr_iload_n C 2 dX9_bestSub_55 rfl rfl ?_
              refine xr_aload_n C 0 dX9_bestSub_56 rfl rfl ?_
              obtain ⟨h57, e57, hF⟩ := fx_b1E hF
              refine xr_callVv C mvX9_408 [.int a1, .ref (G.2.2.1 (h2.2.2 (h2.2.2 a0 9) (fx_ix a1)))] [] (mX9_offerSubs l G a0 a1 (h2.2.2 (h2.2.2 a0 9) (fx_ix a1)) ta0 t24 h48 h57 e57) ta0 (by decide) vc9 rfl ⟨rfl, rfl, (Nat.le_of_ble_eq_true rfl), (Nat.le_of_ble_eq_true rfl)⟩ rfl (Nat.le_of_ble_eq_true rfl) dX9_bestSub_57 ?_
              refine xr_sub [3, 0] [(2, .int a2), (3, .ref (G.2.2.1 (h2.2.2 (h2.2.2 a0 9) (fx_ix a1))))] rfl ?_
              exact bX9_bestSub_60 C   a2 (h2.2.2 (h2.2.2 a0 9) (fx_ix a1)) t24 h57 hF
      · have hF := fx_neg hF c14
        refine xr_iconst (v := -1) C dX9_bestSub_17 (by decide) ?_
        cases hF
        exact xr_iret C dX9_bestSub_18
theorem dX9_spreadFromNow_0 : decode cX9_spreadFromNow 0 = .ok (.aload_n 0, 1) := by decide +kernel
theorem dX9_spreadFromNow_1 : decode cX9_spreadFromNow 1 = .ok (.invokevirtual 357, 3) := by decide +kernel
theorem dX9_spreadFromNow_4 : decode cX9_spreadFromNow 4 = .ok (.aload_n 0, 1) := by decide +kernel
theorem dX9_spreadFromNow_5 : decode cX9_spreadFromNow 5 = .ok (.getfield 19, 3) := by decide +kernel
theorem dX9_spreadFromNow_8 : decode cX9_spreadFromNow 8 = .ok (.aload_n 0, 1) := by decide +kernel
theorem dX9_spreadFromNow_9 : decode cX9_spreadFromNow 9 = .ok (.getfield 33, 3) := by decide +kernel
theorem dX9_spreadFromNow_12 : decode cX9_spreadFromNow 12 = .ok (.getfield 296, 3) := by decide +kernel
theorem dX9_spreadFromNow_15 : decode cX9_spreadFromNow 15 = .ok (.getfield 299, 3) := by decide +kernel
theorem dX9_spreadFromNow_18 : decode cX9_spreadFromNow 18 = .ok (.aload_n 0, 1) := by decide +kernel
theorem dX9_spreadFromNow_19 : decode cX9_spreadFromNow 19 = .ok (.getfield 33, 3) := by decide +kernel
theorem dX9_spreadFromNow_22 : decode cX9_spreadFromNow 22 = .ok (.getfield 302, 3) := by decide +kernel
theorem dX9_spreadFromNow_25 : decode cX9_spreadFromNow 25 = .ok (.getfield 299, 3) := by decide +kernel
theorem dX9_spreadFromNow_28 : decode cX9_spreadFromNow 28 = .ok (.aload_n 0, 1) := by decide +kernel
theorem dX9_spreadFromNow_29 : decode cX9_spreadFromNow 29 = .ok (.getfield 33, 3) := by decide +kernel
theorem dX9_spreadFromNow_32 : decode cX9_spreadFromNow 32 = .ok (.getfield 257, 3) := by decide +kernel
theorem dX9_spreadFromNow_35 : decode cX9_spreadFromNow 35 = .ok (.invokevirtual 428, 3) := by decide +kernel
theorem dX9_spreadFromNow_38 : decode cX9_spreadFromNow 38 = .ok (.return_, 1) := by decide +kernel
def fX9_spreadFromNow (a0 : Nat) (h : hp_T) : Option hp_T := fx_b1 (fX9_weighNow a0 h) fun (h1 : hp_T) => fx_b1 (fX4_spread (h1.2.2 a0 1) (h1.1 (h1.2.2 (h1.2.2 a0 3) 0) 8) (h1.1 (h1.2.2 (h1.2.2 a0 3) 1) 8) (h1.1 (h1.2.2 a0 3) 2) h1) fun (h35 : hp_T) => some h35
set_option maxRecDepth 100000 in
set_option maxHeartbeats 4000000 in
theorem mX9_spreadFromNow (l : Launch) (G : xr_G) (a0 : Nat) (ta0 : hp_sh a0 = (9, 0)) (h h1 : hp_T) (hF : fX9_spreadFromNow a0 h = some h1) : xr_M l G yX9_spreadFromNow cX9_spreadFromNow 1 (xr_R 4 137) none [.ref (G.2.2.1 a0)] h (xr_Qv G h1) := by
  refine xr_start rfl (Nat.le_of_ble_eq_true rfl) (fun K C => ?_)
  show xr_j l G K 1 h [(0, .ref (G.2.2.1 a0))] 0 []
  unfold fX9_spreadFromNow at hF
  refine xr_aload_n C 0 dX9_spreadFromNow_0 rfl rfl ?_
  obtain ⟨h1, e1, hF⟩ := fx_b1E hF
  refine xr_callVv C mvX9_357 [] [] (mX9_weighNow l G a0 ta0 h h1 e1) ta0 (by decide) vc9 rfl ⟨rfl, rfl, (Nat.le_of_ble_eq_true rfl), (Nat.le_of_ble_eq_true rfl)⟩ rfl (Nat.le_of_ble_eq_true rfl) dX9_spreadFromNow_1 ?_
  refine xr_aload_n C 0 dX9_spreadFromNow_4 rfl rfl ?_
  refine xr_getr C flX9_19 rfl (by decide) dX9_spreadFromNow_5 ta0 (fun t5 => ?_)
  refine xr_aload_n C 0 dX9_spreadFromNow_8 rfl rfl ?_
  refine xr_getr C flX9_33 rfl (by decide) dX9_spreadFromNow_9 ta0 (fun t9 => ?_)
  refine xr_getr C flX9_296 rfl (by decide) dX9_spreadFromNow_12 t9 (fun t12 => ?_)
  refine xr_geti C flX9_299 rfl dX9_spreadFromNow_15 t12 ?_
  refine xr_aload_n C 0 dX9_spreadFromNow_18 rfl rfl ?_
  refine xr_getr C flX9_33 rfl (by decide) dX9_spreadFromNow_19 ta0 (fun t19 => ?_)
  refine xr_getr C flX9_302 rfl (by decide) dX9_spreadFromNow_22 t19 (fun t22 => ?_)
  refine xr_geti C flX9_299 rfl dX9_spreadFromNow_25 t22 ?_
  refine xr_aload_n C 0 dX9_spreadFromNow_28 rfl rfl ?_
  refine xr_getr C flX9_33 rfl (by decide) dX9_spreadFromNow_29 ta0 (fun t29 => ?_)
  refine xr_geti C flX9_257 rfl dX9_spreadFromNow_32 t29 ?_
  obtain ⟨h35, e35, hF⟩ := fx_b1E hF
  refine xr_callVv C mvX9_428 [.int (h1.1 (h1.2.2 (h1.2.2 a0 3) 0) 8), .int (h1.1 (h1.2.2 (h1.2.2 a0 3) 1) 8), .int (h1.1 (h1.2.2 a0 3) 2)] [] (mX4_spread l G (h1.2.2 a0 1) (h1.1 (h1.2.2 (h1.2.2 a0 3) 0) 8) (h1.1 (h1.2.2 (h1.2.2 a0 3) 1) 8) (h1.1 (h1.2.2 a0 3) 2) t5 h1 h35 e35) t5 (by decide) vc4 rfl ⟨rfl, rfl, (Nat.le_of_ble_eq_true rfl), (Nat.le_of_ble_eq_true rfl)⟩ rfl (Nat.le_of_ble_eq_true rfl) dX9_spreadFromNow_35 ?_
  cases hF
  exact xr_vret C dX9_spreadFromNow_38
theorem dX9_likely_0 : decode cX9_likely 0 = .ok (.aload_n 0, 1) := by decide +kernel
theorem dX9_likely_1 : decode cX9_likely 1 = .ok (.getfield 113, 3) := by decide +kernel
theorem dX9_likely_4 : decode cX9_likely 4 = .ok (.ifCond .eq 12, 3) := by decide +kernel
theorem dX9_likely_7 : decode cX9_likely 7 = .ok (.aload_n 0, 1) := by decide +kernel
theorem dX9_likely_8 : decode cX9_likely 8 = .ok (.iload_n 1, 1) := by decide +kernel
theorem dX9_likely_9 : decode cX9_likely 9 = .ok (.iload_n 2, 1) := by decide +kernel
theorem dX9_likely_10 : decode cX9_likely 10 = .ok (.invokevirtual 397, 3) := by decide +kernel
theorem dX9_likely_13 : decode cX9_likely 13 = .ok (.ifCond .ne 5, 3) := by decide +kernel
theorem dX9_likely_16 : decode cX9_likely 16 = .ok (.iconst (-1), 1) := by decide +kernel
theorem dX9_likely_17 : decode cX9_likely 17 = .ok (.ireturn, 1) := by decide +kernel
theorem dX9_likely_18 : decode cX9_likely 18 = .ok (.aload_n 0, 1) := by decide +kernel
theorem dX9_likely_19 : decode cX9_likely 19 = .ok (.invokevirtual 411, 3) := by decide +kernel
theorem dX9_likely_22 : decode cX9_likely 22 = .ok (.aload_n 0, 1) := by decide +kernel
theorem dX9_likely_23 : decode cX9_likely 23 = .ok (.getfield 19, 3) := by decide +kernel
theorem dX9_likely_26 : decode cX9_likely 26 = .ok (.iload_n 1, 1) := by decide +kernel
theorem dX9_likely_27 : decode cX9_likely 27 = .ok (.iload_n 2, 1) := by decide +kernel
theorem dX9_likely_28 : decode cX9_likely 28 = .ok (.invokevirtual 414, 3) := by decide +kernel
theorem dX9_likely_31 : decode cX9_likely 31 = .ok (.ldc2_w 418, 3) := by decide +kernel
theorem dX9_likely_34 : decode cX9_likely 34 = .ok (.ldiv, 1) := by decide +kernel
theorem dX9_likely_35 : decode cX9_likely 35 = .ok (.l2i, 1) := by decide +kernel
theorem dX9_likely_36 : decode cX9_likely 36 = .ok (.ireturn, 1) := by decide +kernel
def fX9_likely (a0 : Nat) (a1 : Int32) (a2 : Int32) (h : hp_T) : Option (Int32 × hp_T) := if (h.1 a0 13) = 0 then (some ((-1 : Int32), h)) else (fx_b2 (fX9_isScore a0 a1 a2 h) fun (r10 : Int32) (h10 : hp_T) => if r10 = 0 then (some ((-1 : Int32), h10)) else (fx_b1 (fX9_spreadFromNow a0 h10) fun (h19 : hp_T) => fx_b2 (fX4_reachedAt (h19.2.2 a0 1) a1 a2 h19) fun (r28 : Int64) (h28 : hp_T) => some ((Int64.toInt32 (r28 / (1000000 : Int64))), h28)))
set_option maxRecDepth 100000 in
set_option maxHeartbeats 4000000 in
theorem mX9_likely (l : Launch) (G : xr_G) (a0 : Nat) (a1 : Int32) (a2 : Int32) (ta0 : hp_sh a0 = (9, 0)) (h h1 : hp_T) (r : Int32) (hF : fX9_likely a0 a1 a2 h = some (r, h1)) : xr_M l G yX9_likely cX9_likely 3 (xr_R 5 157) (some .int) [.ref (G.2.2.1 a0), .int a1, .int a2] h (xr_Qi G r h1) := by
  refine xr_start rfl (Nat.le_of_ble_eq_true rfl) (fun K C => ?_)
  show xr_j l G K 3 h [(0, .ref (G.2.2.1 a0)), (1, .int a1), (2, .int a2)] 0 []
  unfold fX9_likely at hF
  refine xr_aload_n C 0 dX9_likely_0 rfl rfl ?_
  refine xr_geti C flX9_113 rfl dX9_likely_1 ta0 ?_
  refine xr_if_eq C 16 dX9_likely_4 (by decide) (fun c4 => ?_) (fun c4 => ?_)
  · have hF := fx_pos hF c4
    refine xr_iconst (v := -1) C dX9_likely_16 (by decide) ?_
    cases hF
    exact xr_iret C dX9_likely_17
  · have hF := fx_neg hF c4
    refine xr_aload_n C 0 dX9_likely_7 rfl rfl ?_
    refine xr_iload_n C 1 dX9_likely_8 rfl rfl ?_
    refine xr_iload_n C 2 dX9_likely_9 rfl rfl ?_
    obtain ⟨r10, h10, e10, hF⟩ := fx_b2E hF
    refine xr_callVi C mvX9_397 [.int a1, .int a2] [] (mX9_isScore l G a0 a1 a2 ta0 h h10 r10 e10) ta0 (by decide) vc9 rfl ⟨rfl, rfl, (Nat.le_of_ble_eq_true rfl), (Nat.le_of_ble_eq_true rfl)⟩ rfl (Nat.le_of_ble_eq_true rfl) dX9_likely_10 ?_
    refine xr_if_ne C 18 dX9_likely_13 (by decide) (fun c13 => ?_) (fun c13 => ?_)
    · have hF := fx_neg hF c13
      refine xr_aload_n C 0 dX9_likely_18 rfl rfl ?_
      obtain ⟨h19, e19, hF⟩ := fx_b1E hF
      refine xr_callVv C mvX9_411 [] [] (mX9_spreadFromNow l G a0 ta0 h10 h19 e19) ta0 (by decide) vc9 rfl ⟨rfl, rfl, (Nat.le_of_ble_eq_true rfl), (Nat.le_of_ble_eq_true rfl)⟩ rfl (Nat.le_of_ble_eq_true rfl) dX9_likely_19 ?_
      refine xr_aload_n C 0 dX9_likely_22 rfl rfl ?_
      refine xr_getr C flX9_19 rfl (by decide) dX9_likely_23 ta0 (fun t23 => ?_)
      refine xr_iload_n C 1 dX9_likely_26 rfl rfl ?_
      refine xr_iload_n C 2 dX9_likely_27 rfl rfl ?_
      obtain ⟨r28, h28, e28, hF⟩ := fx_b2E hF
      refine xr_callVl C mvX9_414 [.int a1, .int a2] [] (mX4_reachedAt l G (h19.2.2 a0 1) a1 a2 t23 h19 h28 r28 e28) t23 (by decide) vc4 rfl ⟨rfl, rfl, (Nat.le_of_ble_eq_true rfl), (Nat.le_of_ble_eq_true rfl)⟩ rfl (Nat.le_of_ble_eq_true rfl) dX9_likely_28 ?_
      refine xr_ldc2 C klX9_418 dX9_likely_31 ?_
      refine xr_ldiv C dX9_likely_34 (by decide) ?_
      refine xr_l2i C dX9_likely_35 ?_
      cases hF
      exact xr_iret C dX9_likely_36
    · have hF := fx_pos hF c13
      refine xr_iconst (v := -1) C dX9_likely_16 (by decide) ?_
      cases hF
      exact xr_iret C dX9_likely_17
theorem dX9_ends_0 : decode cX9_ends 0 = .ok (.aload_n 0, 1) := by decide +kernel
theorem dX9_ends_1 : decode cX9_ends 1 = .ok (.iload_n 1, 1) := by decide +kernel
theorem dX9_ends_2 : decode cX9_ends 2 = .ok (.invokevirtual 99, 3) := by decide +kernel
theorem dX9_ends_5 : decode cX9_ends 5 = .ok (.ifCond .eq 18, 3) := by decide +kernel
theorem dX9_ends_8 : decode cX9_ends 8 = .ok (.iload_n 2, 1) := by decide +kernel
theorem dX9_ends_9 : decode cX9_ends 9 = .ok (.ifCond .lt 14, 3) := by decide +kernel
theorem dX9_ends_12 : decode cX9_ends 12 = .ok (.iload_n 2, 1) := by decide +kernel
theorem dX9_ends_13 : decode cX9_ends 13 = .ok (.aload_n 0, 1) := by decide +kernel
theorem dX9_ends_14 : decode cX9_ends 14 = .ok (.getfield 68, 3) := by decide +kernel
theorem dX9_ends_17 : decode cX9_ends 17 = .ok (.getfield 117, 3) := by decide +kernel
theorem dX9_ends_20 : decode cX9_ends 20 = .ok (.if_icmp .lt 5, 3) := by decide +kernel
theorem dX9_ends_23 : decode cX9_ends 23 = .ok (.iconst (-1), 1) := by decide +kernel
theorem dX9_ends_24 : decode cX9_ends 24 = .ok (.ireturn, 1) := by decide +kernel
theorem dX9_ends_25 : decode cX9_ends 25 = .ok (.aload_n 0, 1) := by decide +kernel
theorem dX9_ends_26 : decode cX9_ends 26 = .ok (.invokevirtual 411, 3) := by decide +kernel
theorem dX9_ends_29 : decode cX9_ends 29 = .ok (.iload_n 1, 1) := by decide +kernel
theorem dX9_ends_30 : decode cX9_ends 30 = .ok (.ifCond .ne 21, 3) := by decide +kernel
theorem dX9_ends_33 : decode cX9_ends 33 = .ok (.aload_n 0, 1) := by decide +kernel
theorem dX9_ends_34 : decode cX9_ends 34 = .ok (.getfield 19, 3) := by decide +kernel
theorem dX9_ends_37 : decode cX9_ends 37 = .ok (.aload_n 0, 1) := by decide +kernel
theorem dX9_ends_38 : decode cX9_ends 38 = .ok (.getfield 68, 3) := by decide +kernel
theorem dX9_ends_41 : decode cX9_ends 41 = .ok (.getfield 117, 3) := by decide +kernel
theorem dX9_ends_44 : decode cX9_ends 44 = .ok (.iload_n 2, 1) := by decide +kernel
theorem dX9_ends_45 : decode cX9_ends 45 = .ok (.invokevirtual 414, 3) := by decide +kernel
theorem dX9_ends_48 : decode cX9_ends 48 = .ok (.goto 18, 3) := by decide +kernel
theorem dX9_ends_51 : decode cX9_ends 51 = .ok (.aload_n 0, 1) := by decide +kernel
theorem dX9_ends_52 : decode cX9_ends 52 = .ok (.getfield 19, 3) := by decide +kernel
theorem dX9_ends_55 : decode cX9_ends 55 = .ok (.iload_n 2, 1) := by decide +kernel
theorem dX9_ends_56 : decode cX9_ends 56 = .ok (.aload_n 0, 1) := by decide +kernel
theorem dX9_ends_57 : decode cX9_ends 57 = .ok (.getfield 68, 3) := by decide +kernel
theorem dX9_ends_60 : decode cX9_ends 60 = .ok (.getfield 117, 3) := by decide +kernel
theorem dX9_ends_63 : decode cX9_ends 63 = .ok (.invokevirtual 414, 3) := by decide +kernel
theorem dX9_ends_66 : decode cX9_ends 66 = .ok (.lstore_n 3, 1) := by decide +kernel
theorem dX9_ends_67 : decode cX9_ends 67 = .ok (.lload_n 3, 1) := by decide +kernel
theorem dX9_ends_68 : decode cX9_ends 68 = .ok (.ldc2_w 418, 3) := by decide +kernel
theorem dX9_ends_71 : decode cX9_ends 71 = .ok (.ldiv, 1) := by decide +kernel
theorem dX9_ends_72 : decode cX9_ends 72 = .ok (.l2i, 1) := by decide +kernel
theorem dX9_ends_73 : decode cX9_ends 73 = .ok (.ireturn, 1) := by decide +kernel
def fX9_ends_66  (s0 : Int64) (h : hp_T) : Option (Int32 × hp_T) := some ((Int64.toInt32 (s0 / (1000000 : Int64))), h)
set_option maxRecDepth 100000 in
set_option maxHeartbeats 4000000 in
theorem bX9_ends_66 {l : Launch} {G : xr_G} {K : xr_K} {r : Int32} {h1 : hp_T} (C : xr_C G K cX9_ends RX9 5 (xr_R 5 157) (some .int) (some (xr_Qi G r h1)))  (s0 : Int64) (h : hp_T) (hF : fX9_ends_66 s0 h = some (r, h1)) : xr_j l G K 5 h [] 66 [.long s0] := by
  unfold fX9_ends_66 at hF
  refine xr_lstore_n C [(3, .long s0)] dX9_ends_66 rfl (Nat.le_of_ble_eq_true rfl) rfl ?_
  refine xr_lload_n C 0 dX9_ends_67 rfl rfl ?_
  refine xr_ldc2 C klX9_418 dX9_ends_68 ?_
  refine xr_ldiv C dX9_ends_71 (by decide) ?_
  refine xr_l2i C dX9_ends_72 ?_
  cases hF
  exact xr_iret C dX9_ends_73
def fX9_ends (a0 : Nat) (a1 : Int32) (a2 : Int32) (h : hp_T) : Option (Int32 × hp_T) := fx_b2 (fX9_isSide a0 a1 h) fun (r2 : Int32) (h2 : hp_T) => if r2 = 0 then (some ((-1 : Int32), h2)) else (if a2 < 0 then (some ((-1 : Int32), h2)) else (if a2 < (h2.1 (h2.2.2 a0 11) 2) then (fx_b1 (fX9_spreadFromNow a0 h2) fun (h26 : hp_T) => if a1 = 0 then (fx_b2 (fX4_reachedAt (h26.2.2 a0 1) (h26.1 (h26.2.2 a0 11) 2) a2 h26) fun (r45 : Int64) (h45 : hp_T) => fX9_ends_66 r45 h45) else (fx_b2 (fX4_reachedAt (h26.2.2 a0 1) a2 (h26.1 (h26.2.2 a0 11) 2) h26) fun (r63 : Int64) (h63 : hp_T) => fX9_ends_66 r63 h63)) else (some ((-1 : Int32), h2))))
set_option maxRecDepth 100000 in
set_option maxHeartbeats 4000000 in
theorem mX9_ends (l : Launch) (G : xr_G) (a0 : Nat) (a1 : Int32) (a2 : Int32) (ta0 : hp_sh a0 = (9, 0)) (h h1 : hp_T) (r : Int32) (hF : fX9_ends a0 a1 a2 h = some (r, h1)) : xr_M l G yX9_ends cX9_ends 5 (xr_R 5 157) (some .int) [.ref (G.2.2.1 a0), .int a1, .int a2] h (xr_Qi G r h1) := by
  refine xr_start rfl (Nat.le_of_ble_eq_true rfl) (fun K C => ?_)
  show xr_j l G K 5 h [(0, .ref (G.2.2.1 a0)), (1, .int a1), (2, .int a2)] 0 []
  unfold fX9_ends at hF
  refine xr_aload_n C 0 dX9_ends_0 rfl rfl ?_
  refine xr_iload_n C 1 dX9_ends_1 rfl rfl ?_
  obtain ⟨r2, h2, e2, hF⟩ := fx_b2E hF
  refine xr_callVi C mvX9_99 [.int a1] [] (mX9_isSide l G a0 a1 ta0 h h2 r2 e2) ta0 (by decide) vc9 rfl ⟨rfl, rfl, (Nat.le_of_ble_eq_true rfl), (Nat.le_of_ble_eq_true rfl)⟩ rfl (Nat.le_of_ble_eq_true rfl) dX9_ends_2 ?_
  refine xr_if_eq C 23 dX9_ends_5 (by decide) (fun c5 => ?_) (fun c5 => ?_)
  · have hF := fx_pos hF c5
    refine xr_iconst (v := -1) C dX9_ends_23 (by decide) ?_
    cases hF
    exact xr_iret C dX9_ends_24
  · have hF := fx_neg hF c5
    refine xr_iload_n C 2 dX9_ends_8 rfl rfl ?_
    refine xr_if_lt C 23 dX9_ends_9 (by decide) (fun c9 => ?_) (fun c9 => ?_)
    · have hF := fx_pos hF c9
      refine xr_iconst (v := -1) C dX9_ends_23 (by decide) ?_
      cases hF
      exact xr_iret C dX9_ends_24
    · have hF := fx_neg hF c9
      refine xr_iload_n C 2 dX9_ends_12 rfl rfl ?_
      refine xr_aload_n C 0 dX9_ends_13 rfl rfl ?_
      refine xr_getr C flX9_68 rfl (by decide) dX9_ends_14 ta0 (fun t14 => ?_)
      refine xr_geti C flX9_117 rfl dX9_ends_17 t14 ?_
      refine xr_icmp_lt C 25 dX9_ends_20 (by decide) (fun c20 => ?_) (fun c20 => ?_)
      · have hF := fx_pos hF c20
        refine xr_aload_n C 0 dX9_ends_25 rfl rfl ?_
        obtain ⟨h26, e26, hF⟩ := fx_b1E hF
        refine xr_callVv C mvX9_411 [] [] (mX9_spreadFromNow l G a0 ta0 h2 h26 e26) ta0 (by decide) vc9 rfl ⟨rfl, rfl, (Nat.le_of_ble_eq_true rfl), (Nat.le_of_ble_eq_true rfl)⟩ rfl (Nat.le_of_ble_eq_true rfl) dX9_ends_26 ?_
        refine xr_iload_n C 1 dX9_ends_29 rfl rfl ?_
        refine xr_if_ne C 51 dX9_ends_30 (by decide) (fun c30 => ?_) (fun c30 => ?_)
        · have hF := fx_neg hF c30
          refine xr_aload_n C 0 dX9_ends_51 rfl rfl ?_
          refine xr_getr C flX9_19 rfl (by decide) dX9_ends_52 ta0 (fun t52 => ?_)
          refine xr_iload_n C 2 dX9_ends_55 rfl rfl ?_
          refine xr_aload_n C 0 dX9_ends_56 rfl rfl ?_
          refine xr_getr C flX9_68 rfl (by decide) dX9_ends_57 ta0 (fun t57 => ?_)
          refine xr_geti C flX9_117 rfl dX9_ends_60 t57 ?_
          obtain ⟨r63, h63, e63, hF⟩ := fx_b2E hF
          refine xr_callVl C mvX9_414 [.int a2, .int (h26.1 (h26.2.2 a0 11) 2)] [] (mX4_reachedAt l G (h26.2.2 a0 1) a2 (h26.1 (h26.2.2 a0 11) 2) t52 h26 h63 r63 e63) t52 (by decide) vc4 rfl ⟨rfl, rfl, (Nat.le_of_ble_eq_true rfl), (Nat.le_of_ble_eq_true rfl)⟩ rfl (Nat.le_of_ble_eq_true rfl) dX9_ends_63 ?_
          refine xr_sub [] [] rfl ?_
          exact bX9_ends_66 C   r63 h63 hF
        · have hF := fx_pos hF c30
          refine xr_aload_n C 0 dX9_ends_33 rfl rfl ?_
          refine xr_getr C flX9_19 rfl (by decide) dX9_ends_34 ta0 (fun t34 => ?_)
          refine xr_aload_n C 0 dX9_ends_37 rfl rfl ?_
          refine xr_getr C flX9_68 rfl (by decide) dX9_ends_38 ta0 (fun t38 => ?_)
          refine xr_geti C flX9_117 rfl dX9_ends_41 t38 ?_
          refine xr_iload_n C 2 dX9_ends_44 rfl rfl ?_
          obtain ⟨r45, h45, e45, hF⟩ := fx_b2E hF
          refine xr_callVl C mvX9_414 [.int (h26.1 (h26.2.2 a0 11) 2), .int a2] [] (mX4_reachedAt l G (h26.2.2 a0 1) (h26.1 (h26.2.2 a0 11) 2) a2 t34 h26 h45 r45 e45) t34 (by decide) vc4 rfl ⟨rfl, rfl, (Nat.le_of_ble_eq_true rfl), (Nat.le_of_ble_eq_true rfl)⟩ rfl (Nat.le_of_ble_eq_true rfl) dX9_ends_45 ?_
          refine xr_goto C 66 dX9_ends_48 (by decide) ?_
          refine xr_sub [] [] rfl ?_
          exact bX9_ends_66 C   r45 h45 hF
      · have hF := fx_neg hF c20
        refine xr_iconst (v := -1) C dX9_ends_23 (by decide) ?_
        cases hF
        exact xr_iret C dX9_ends_24
theorem dX9_length_0 : decode cX9_length 0 = .ok (.aload_n 0, 1) := by decide +kernel
theorem dX9_length_1 : decode cX9_length 1 = .ok (.getfield 113, 3) := by decide +kernel
theorem dX9_length_4 : decode cX9_length 4 = .ok (.ifCond .ne 5, 3) := by decide +kernel
theorem dX9_length_7 : decode cX9_length 7 = .ok (.iconst (-1), 1) := by decide +kernel
theorem dX9_length_8 : decode cX9_length 8 = .ok (.ireturn, 1) := by decide +kernel
theorem dX9_length_9 : decode cX9_length 9 = .ok (.aload_n 0, 1) := by decide +kernel
theorem dX9_length_10 : decode cX9_length 10 = .ok (.invokevirtual 411, 3) := by decide +kernel
theorem dX9_length_13 : decode cX9_length 13 = .ok (.lconst 0, 1) := by decide +kernel
theorem dX9_length_14 : decode cX9_length 14 = .ok (.lstore_n 1, 1) := by decide +kernel
theorem dX9_length_15 : decode cX9_length 15 = .ok (.aload_n 0, 1) := by decide +kernel
theorem dX9_length_16 : decode cX9_length 16 = .ok (.getfield 68, 3) := by decide +kernel
theorem dX9_length_19 : decode cX9_length 19 = .ok (.getfield 117, 3) := by decide +kernel
theorem dX9_length_22 : decode cX9_length 22 = .ok (.istore_n 3, 1) := by decide +kernel
theorem dX9_length_23 : decode cX9_length 23 = .ok (.iconst 0, 1) := by decide +kernel
theorem dX9_length_24 : decode cX9_length 24 = .ok (.istore 4, 2) := by decide +kernel
theorem dX9_length_26 : decode cX9_length 26 = .ok (.iload 4, 2) := by decide +kernel
theorem dX9_length_28 : decode cX9_length 28 = .ok (.iload_n 3, 1) := by decide +kernel
theorem dX9_length_29 : decode cX9_length 29 = .ok (.if_icmp .ge 39, 3) := by decide +kernel
theorem dX9_length_32 : decode cX9_length 32 = .ok (.lload_n 1, 1) := by decide +kernel
theorem dX9_length_33 : decode cX9_length 33 = .ok (.aload_n 0, 1) := by decide +kernel
theorem dX9_length_34 : decode cX9_length 34 = .ok (.getfield 19, 3) := by decide +kernel
theorem dX9_length_37 : decode cX9_length 37 = .ok (.iload_n 3, 1) := by decide +kernel
theorem dX9_length_38 : decode cX9_length 38 = .ok (.iload 4, 2) := by decide +kernel
theorem dX9_length_40 : decode cX9_length 40 = .ok (.invokevirtual 414, 3) := by decide +kernel
theorem dX9_length_43 : decode cX9_length 43 = .ok (.aload_n 0, 1) := by decide +kernel
theorem dX9_length_44 : decode cX9_length 44 = .ok (.getfield 19, 3) := by decide +kernel
theorem dX9_length_47 : decode cX9_length 47 = .ok (.iload 4, 2) := by decide +kernel
theorem dX9_length_49 : decode cX9_length 49 = .ok (.iload_n 3, 1) := by decide +kernel
theorem dX9_length_50 : decode cX9_length 50 = .ok (.invokevirtual 414, 3) := by decide +kernel
theorem dX9_length_53 : decode cX9_length 53 = .ok (.ladd, 1) := by decide +kernel
theorem dX9_length_54 : decode cX9_length 54 = .ok (.iload_n 3, 1) := by decide +kernel
theorem dX9_length_55 : decode cX9_length 55 = .ok (.iload 4, 2) := by decide +kernel
theorem dX9_length_57 : decode cX9_length 57 = .ok (.iadd, 1) := by decide +kernel
theorem dX9_length_58 : decode cX9_length 58 = .ok (.i2l, 1) := by decide +kernel
theorem dX9_length_59 : decode cX9_length 59 = .ok (.lmul, 1) := by decide +kernel
theorem dX9_length_60 : decode cX9_length 60 = .ok (.ladd, 1) := by decide +kernel
theorem dX9_length_61 : decode cX9_length 61 = .ok (.lstore_n 1, 1) := by decide +kernel
theorem dX9_length_62 : decode cX9_length 62 = .ok (.iinc 4 1, 3) := by decide +kernel
theorem dX9_length_65 : decode cX9_length 65 = .ok (.goto (-39), 3) := by decide +kernel
theorem dX9_length_68 : decode cX9_length 68 = .ok (.lload_n 1, 1) := by decide +kernel
theorem dX9_length_69 : decode cX9_length 69 = .ok (.ldc2_w 420, 3) := by decide +kernel
theorem dX9_length_72 : decode cX9_length 72 = .ok (.ldiv, 1) := by decide +kernel
theorem dX9_length_73 : decode cX9_length 73 = .ok (.l2i, 1) := by decide +kernel
theorem dX9_length_74 : decode cX9_length 74 = .ok (.ireturn, 1) := by decide +kernel
def fX9_length_26  : Nat → Nat → Int64 → Int32 → Int32 → hp_T → Option (Int32 × hp_T)
  | 0, _, _, _, _, _ => none
  | n + 1, a0, a1, a3, a4, h => if a3 ≤ a4 then (some ((Int64.toInt32 (a1 / (10000000000 : Int64))), h)) else (fx_b2 (fX4_reachedAt (h.2.2 a0 1) a3 a4 h) fun (r40 : Int64) (h40 : hp_T) => fx_b2 (fX4_reachedAt (h40.2.2 a0 1) a4 a3 h40) fun (r50 : Int64) (h50 : hp_T) => fx_let (a1 + ((r40 + r50) * (Int32.toInt64 (a3 + a4)))) fun (x61 : Int64) => fx_let (a4 + (1 : Int32)) fun (x62 : Int32) => fX9_length_26 n a0 x61 a3 x62 h50)
set_option maxRecDepth 100000 in
set_option maxHeartbeats 4000000 in
theorem bX9_length_26 {l : Launch} {G : xr_G} {K : xr_K} {r : Int32} {h1 : hp_T} (C : xr_C G K cX9_length RX9 5 (xr_R 5 157) (some .int) (some (xr_Qi G r h1)))  : ∀ (n : Nat) (a0 : Nat) (a1 : Int64) (a3 : Int32) (a4 : Int32) (ta0 : hp_sh a0 = (9, 0)) (h : hp_T), fX9_length_26 n a0 a1 a3 a4 h = some (r, h1) → xr_j l G K 5 h [(0, .ref (G.2.2.1 a0)), (1, .long a1), (3, .int a3), (4, .int a4)] 26 [] := by
  intro n
  induction n with
  | zero =>
    intro a0 a1 a3 a4 ta0 h hF
    cases hF
  | succ n ih =>
    intro a0 a1 a3 a4 ta0 h hF
    rw [fX9_length_26] at hF
    refine xr_iload C 3 dX9_length_26 rfl ?_
    refine xr_iload_n C 2 dX9_length_28 rfl rfl ?_
    refine xr_icmp_ge C 68 dX9_length_29 (by decide) (fun c29 => ?_) (fun c29 => ?_)
    · have hF := fx_pos hF c29
      refine xr_lload_n C 1 dX9_length_68 rfl rfl ?_
      refine xr_ldc2 C klX9_420 dX9_length_69 ?_
      refine xr_ldiv C dX9_length_72 (by decide) ?_
      refine xr_l2i C dX9_length_73 ?_
      cases hF
      exact xr_iret C dX9_length_74
    · have hF := fx_neg hF c29
      refine xr_lload_n C 1 dX9_length_32 rfl rfl ?_
      refine xr_aload_n C 0 dX9_length_33 rfl rfl ?_
      refine xr_getr C flX9_19 rfl (by decide) dX9_length_34 ta0 (fun t34 => ?_)
      refine xr_iload_n C 2 dX9_length_37 rfl rfl ?_
      refine xr_iload C 3 dX9_length_38 rfl ?_
      obtain ⟨r40, h40, e40, hF⟩ := fx_b2E hF
      refine xr_callVl C mvX9_414 [.int a3, .int a4] [.long a1] (mX4_reachedAt l G (h.2.2 a0 1) a3 a4 t34 h h40 r40 e40) t34 (by decide) vc4 rfl ⟨rfl, rfl, (Nat.le_of_ble_eq_true rfl), (Nat.le_of_ble_eq_true rfl)⟩ rfl (Nat.le_of_ble_eq_true rfl) dX9_length_40 ?_
      refine xr_aload_n C 0 dX9_length_43 rfl rfl ?_
      refine xr_getr C flX9_19 rfl (by decide) dX9_length_44 ta0 (fun t44 => ?_)
      refine xr_iload C 3 dX9_length_47 rfl ?_
      refine xr_iload_n C 2 dX9_length_49 rfl rfl ?_
      obtain ⟨r50, h50, e50, hF⟩ := fx_b2E hF
      refine xr_callVl C mvX9_414 [.int a4, .int a3] [.long r40, .long a1] (mX4_reachedAt l G (h40.2.2 a0 1) a4 a3 t44 h40 h50 r50 e50) t44 (by decide) vc4 rfl ⟨rfl, rfl, (Nat.le_of_ble_eq_true rfl), (Nat.le_of_ble_eq_true rfl)⟩ rfl (Nat.le_of_ble_eq_true rfl) dX9_length_50 ?_
      refine xr_ladd C dX9_length_53 ?_
      refine xr_iload_n C 2 dX9_length_54 rfl rfl ?_
      refine xr_iload C 3 dX9_length_55 rfl ?_
      refine xr_iadd C dX9_length_57 ?_
      refine xr_i2l C dX9_length_58 ?_
      refine xr_lmul C dX9_length_59 ?_
      refine xr_ladd C dX9_length_60 ?_
      refine xr_topl (fun x61 e61 => ?_)
      have hF := fx_letE hF x61 e61
      refine xr_lstore_n C [(1, .long x61), (0, .ref (G.2.2.1 a0)), (3, .int a3), (4, .int a4)] dX9_length_61 rfl (Nat.le_of_ble_eq_true rfl) rfl ?_
      obtain ⟨x62, e62⟩ : ∃ y : Int32, y = (a4 + (1 : Int32)) := ⟨_, rfl⟩
      have hF := fx_letE hF x62 e62
      refine xr_iinc C x62 3 [(4, .int x62), (1, .long x61), (0, .ref (G.2.2.1 a0)), (3, .int a3)] dX9_length_62 rfl (by rw [e62]; rfl) (Nat.le_of_ble_eq_true rfl) rfl ?_
      refine xr_goto C 26 dX9_length_65 (by decide) ?_
      refine xr_sub [2, 1, 3, 0] [(0, .ref (G.2.2.1 a0)), (1, .long x61), (3, .int a3), (4, .int x62)] rfl ?_
      exact ih a0 x61 a3 x62 ta0 h50 hF
def fX9_length (a0 : Nat) (h : hp_T) : Option (Int32 × hp_T) := if (h.1 a0 13) = 0 then (some ((-1 : Int32), h)) else (fx_b1 (fX9_spreadFromNow a0 h) fun (h10 : hp_T) => fx_let (h10.1 (h10.2.2 a0 11) 2) fun (x22 : Int32) => fX9_length_26 fx_N a0 (0 : Int64) x22 (0 : Int32) h10)
set_option maxRecDepth 100000 in
set_option maxHeartbeats 4000000 in
theorem mX9_length (l : Launch) (G : xr_G) (a0 : Nat) (ta0 : hp_sh a0 = (9, 0)) (h h1 : hp_T) (r : Int32) (hF : fX9_length a0 h = some (r, h1)) : xr_M l G yX9_length cX9_length 5 (xr_R 5 157) (some .int) [.ref (G.2.2.1 a0)] h (xr_Qi G r h1) := by
  refine xr_start rfl (Nat.le_of_ble_eq_true rfl) (fun K C => ?_)
  show xr_j l G K 5 h [(0, .ref (G.2.2.1 a0))] 0 []
  unfold fX9_length at hF
  refine xr_aload_n C 0 dX9_length_0 rfl rfl ?_
  refine xr_geti C flX9_113 rfl dX9_length_1 ta0 ?_
  refine xr_if_ne C 9 dX9_length_4 (by decide) (fun c4 => ?_) (fun c4 => ?_)
  · have hF := fx_neg hF c4
    refine xr_aload_n C 0 dX9_length_9 rfl rfl ?_
    obtain ⟨h10, e10, hF⟩ := fx_b1E hF
    refine xr_callVv C mvX9_411 [] [] (mX9_spreadFromNow l G a0 ta0 h h10 e10) ta0 (by decide) vc9 rfl ⟨rfl, rfl, (Nat.le_of_ble_eq_true rfl), (Nat.le_of_ble_eq_true rfl)⟩ rfl (Nat.le_of_ble_eq_true rfl) dX9_length_10 ?_
    refine xr_lconst (v := 0) C dX9_length_13 (by decide) ?_
    refine xr_lstore_n C [(1, .long (0 : Int64)), (0, .ref (G.2.2.1 a0))] dX9_length_14 rfl (Nat.le_of_ble_eq_true rfl) rfl ?_
    refine xr_aload_n C 1 dX9_length_15 rfl rfl ?_
    refine xr_getr C flX9_68 rfl (by decide) dX9_length_16 ta0 (fun t16 => ?_)
    refine xr_geti C flX9_117 rfl dX9_length_19 t16 ?_
    refine xr_topi (fun x22 e22 => ?_)
    have hF := fx_letE hF x22 e22
    refine xr_istore_n C [(3, .int x22), (1, .long (0 : Int64)), (0, .ref (G.2.2.1 a0))] dX9_length_22 rfl (Nat.le_of_ble_eq_true rfl) rfl ?_
    refine xr_iconst (v := 0) C dX9_length_23 (by decide) ?_
    refine xr_istore C [(4, .int (0 : Int32)), (3, .int x22), (1, .long (0 : Int64)), (0, .ref (G.2.2.1 a0))] dX9_length_24 (Nat.le_of_ble_eq_true rfl) rfl ?_
    refine xr_sub [3, 2, 1, 0] [(0, .ref (G.2.2.1 a0)), (1, .long (0 : Int64)), (3, .int x22), (4, .int (0 : Int32))] rfl ?_
    exact bX9_length_26 C  fx_N a0 (0 : Int64) x22 (0 : Int32) ta0 h10 hF
  · have hF := fx_pos hF c4
    refine xr_iconst (v := -1) C dX9_length_7 (by decide) ?_
    cases hF
    exact xr_iret C dX9_length_8
theorem dX9_knowTable_0 : decode cX9_knowTable 0 = .ok (.aload_n 0, 1) := by decide +kernel
theorem dX9_knowTable_1 : decode cX9_knowTable 1 = .ok (.getfield 140, 3) := by decide +kernel
theorem dX9_knowTable_4 : decode cX9_knowTable 4 = .ok (.ifCond .ne 57, 3) := by decide +kernel
theorem dX9_knowTable_7 : decode cX9_knowTable 7 = .ok (.aload_n 0, 1) := by decide +kernel
theorem dX9_knowTable_8 : decode cX9_knowTable 8 = .ok (.getfield 19, 3) := by decide +kernel
theorem dX9_knowTable_11 : decode cX9_knowTable 11 = .ok (.aload_n 0, 1) := by decide +kernel
theorem dX9_knowTable_12 : decode cX9_knowTable 12 = .ok (.getfield 68, 3) := by decide +kernel
theorem dX9_knowTable_15 : decode cX9_knowTable 15 = .ok (.aload_n 0, 1) := by decide +kernel
theorem dX9_knowTable_16 : decode cX9_knowTable 16 = .ok (.getfield 68, 3) := by decide +kernel
theorem dX9_knowTable_19 : decode cX9_knowTable 19 = .ok (.getfield 126, 3) := by decide +kernel
theorem dX9_knowTable_22 : decode cX9_knowTable 22 = .ok (.getfield 447, 3) := by decide +kernel
theorem dX9_knowTable_25 : decode cX9_knowTable 25 = .ok (.aload_n 0, 1) := by decide +kernel
theorem dX9_knowTable_26 : decode cX9_knowTable 26 = .ok (.getfield 68, 3) := by decide +kernel
theorem dX9_knowTable_29 : decode cX9_knowTable 29 = .ok (.getfield 131, 3) := by decide +kernel
theorem dX9_knowTable_32 : decode cX9_knowTable 32 = .ok (.getfield 447, 3) := by decide +kernel
theorem dX9_knowTable_35 : decode cX9_knowTable 35 = .ok (.invokevirtual 389, 3) := by decide +kernel
theorem dX9_knowTable_38 : decode cX9_knowTable 38 = .ok (.aload_n 0, 1) := by decide +kernel
theorem dX9_knowTable_39 : decode cX9_knowTable 39 = .ok (.getfield 19, 3) := by decide +kernel
theorem dX9_knowTable_42 : decode cX9_knowTable 42 = .ok (.aload_n 0, 1) := by decide +kernel
theorem dX9_knowTable_43 : decode cX9_knowTable 43 = .ok (.getfield 41, 3) := by decide +kernel
theorem dX9_knowTable_46 : decode cX9_knowTable 46 = .ok (.aload_n 0, 1) := by decide +kernel
theorem dX9_knowTable_47 : decode cX9_knowTable 47 = .ok (.getfield 68, 3) := by decide +kernel
theorem dX9_knowTable_50 : decode cX9_knowTable 50 = .ok (.getfield 450, 3) := by decide +kernel
theorem dX9_knowTable_53 : decode cX9_knowTable 53 = .ok (.invokevirtual 451, 3) := by decide +kernel
theorem dX9_knowTable_56 : decode cX9_knowTable 56 = .ok (.aload_n 0, 1) := by decide +kernel
theorem dX9_knowTable_57 : decode cX9_knowTable 57 = .ok (.iconst 1, 1) := by decide +kernel
theorem dX9_knowTable_58 : decode cX9_knowTable 58 = .ok (.putfield 140, 3) := by decide +kernel
theorem dX9_knowTable_61 : decode cX9_knowTable 61 = .ok (.return_, 1) := by decide +kernel
def fX9_knowTable (a0 : Nat) (h : hp_T) : Option hp_T := if (h.1 a0 14) = 0 then (fx_b1 (fX4_weigh (h.2.2 a0 1) (h.2.2 a0 11) (h.2.2 (h.2.2 (h.2.2 a0 11) 0) 4) (h.2.2 (h.2.2 (h.2.2 a0 11) 1) 4) h) fun (h35 : hp_T) => fx_b1 (fX4_fillTable (h35.2.2 a0 1) (h35.2.2 a0 5) (h35.1 (h35.2.2 a0 11) 5) h35) fun (h53 : hp_T) => fx_let (hp_sI h53 a0 14 (1 : Int32)) fun (h58 : hp_T) => some h58) else (some h)
set_option maxRecDepth 100000 in
set_option maxHeartbeats 4000000 in
theorem mX9_knowTable (l : Launch) (G : xr_G) (a0 : Nat) (ta0 : hp_sh a0 = (9, 0)) (h h1 : hp_T) (hF : fX9_knowTable a0 h = some h1) : xr_M l G yX9_knowTable cX9_knowTable 1 (xr_R 4 136) none [.ref (G.2.2.1 a0)] h (xr_Qv G h1) := by
  refine xr_start rfl (Nat.le_of_ble_eq_true rfl) (fun K C => ?_)
  show xr_j l G K 1 h [(0, .ref (G.2.2.1 a0))] 0 []
  unfold fX9_knowTable at hF
  refine xr_aload_n C 0 dX9_knowTable_0 rfl rfl ?_
  refine xr_geti C flX9_140 rfl dX9_knowTable_1 ta0 ?_
  refine xr_if_ne C 61 dX9_knowTable_4 (by decide) (fun c4 => ?_) (fun c4 => ?_)
  · have hF := fx_neg hF c4
    cases hF
    exact xr_vret C dX9_knowTable_61
  · have hF := fx_pos hF c4
    refine xr_aload_n C 0 dX9_knowTable_7 rfl rfl ?_
    refine xr_getr C flX9_19 rfl (by decide) dX9_knowTable_8 ta0 (fun t8 => ?_)
    refine xr_aload_n C 0 dX9_knowTable_11 rfl rfl ?_
    refine xr_getr C flX9_68 rfl (by decide) dX9_knowTable_12 ta0 (fun t12 => ?_)
    refine xr_aload_n C 0 dX9_knowTable_15 rfl rfl ?_
    refine xr_getr C flX9_68 rfl (by decide) dX9_knowTable_16 ta0 (fun t16 => ?_)
    refine xr_getr C flX9_126 rfl (by decide) dX9_knowTable_19 t16 (fun t19 => ?_)
    refine xr_getr C flX9_447 rfl (by decide) dX9_knowTable_22 t19 (fun t22 => ?_)
    refine xr_aload_n C 0 dX9_knowTable_25 rfl rfl ?_
    refine xr_getr C flX9_68 rfl (by decide) dX9_knowTable_26 ta0 (fun t26 => ?_)
    refine xr_getr C flX9_131 rfl (by decide) dX9_knowTable_29 t26 (fun t29 => ?_)
    refine xr_getr C flX9_447 rfl (by decide) dX9_knowTable_32 t29 (fun t32 => ?_)
    obtain ⟨h35, e35, hF⟩ := fx_b1E hF
    refine xr_callVv C mvX9_389 [.ref (G.2.2.1 (h.2.2 a0 11)), .ref (G.2.2.1 (h.2.2 (h.2.2 (h.2.2 a0 11) 0) 4)), .ref (G.2.2.1 (h.2.2 (h.2.2 (h.2.2 a0 11) 1) 4))] [] (mX4_weigh l G (h.2.2 a0 1) (h.2.2 a0 11) (h.2.2 (h.2.2 (h.2.2 a0 11) 0) 4) (h.2.2 (h.2.2 (h.2.2 a0 11) 1) 4) t8 t12 t22 t32 h h35 e35) t8 (by decide) vc4 rfl ⟨rfl, rfl, (Nat.le_of_ble_eq_true rfl), (Nat.le_of_ble_eq_true rfl)⟩ rfl (Nat.le_of_ble_eq_true rfl) dX9_knowTable_35 ?_
    refine xr_aload_n C 0 dX9_knowTable_38 rfl rfl ?_
    refine xr_getr C flX9_19 rfl (by decide) dX9_knowTable_39 ta0 (fun t39 => ?_)
    refine xr_aload_n C 0 dX9_knowTable_42 rfl rfl ?_
    refine xr_getr C flX9_41 rfl (by decide) dX9_knowTable_43 ta0 (fun t43 => ?_)
    refine xr_aload_n C 0 dX9_knowTable_46 rfl rfl ?_
    refine xr_getr C flX9_68 rfl (by decide) dX9_knowTable_47 ta0 (fun t47 => ?_)
    refine xr_geti C flX9_450 rfl dX9_knowTable_50 t47 ?_
    obtain ⟨h53, e53, hF⟩ := fx_b1E hF
    refine xr_callVv C mvX9_451 [.ref (G.2.2.1 (h35.2.2 a0 5)), .int (h35.1 (h35.2.2 a0 11) 5)] [] (mX4_fillTable l G (h35.2.2 a0 1) (h35.2.2 a0 5) (h35.1 (h35.2.2 a0 11) 5) t39 t43 h35 h53 e53) t39 (by decide) vc4 rfl ⟨rfl, rfl, (Nat.le_of_ble_eq_true rfl), (Nat.le_of_ble_eq_true rfl)⟩ rfl (Nat.le_of_ble_eq_true rfl) dX9_knowTable_53 ?_
    refine xr_aload_n C 0 dX9_knowTable_56 rfl rfl ?_
    refine xr_iconst (v := 1) C dX9_knowTable_57 (by decide) ?_
    refine xr_puti C fpX9_140 rfl rfl rfl dX9_knowTable_58 ta0 (fun h58 e58 => ?_)
    have hF := fx_letE hF h58 e58
    cases hF
    exact xr_vret C dX9_knowTable_61
theorem dX9_table_0 : decode cX9_table 0 = .ok (.aload_n 0, 1) := by decide +kernel
theorem dX9_table_1 : decode cX9_table 1 = .ok (.getfield 113, 3) := by decide +kernel
theorem dX9_table_4 : decode cX9_table 4 = .ok (.ifCond .eq 17, 3) := by decide +kernel
theorem dX9_table_7 : decode cX9_table 7 = .ok (.iload_n 1, 1) := by decide +kernel
theorem dX9_table_8 : decode cX9_table 8 = .ok (.invokestatic 354, 3) := by decide +kernel
theorem dX9_table_11 : decode cX9_table 11 = .ok (.ifCond .eq 10, 3) := by decide +kernel
theorem dX9_table_14 : decode cX9_table 14 = .ok (.iload_n 2, 1) := by decide +kernel
theorem dX9_table_15 : decode cX9_table 15 = .ok (.invokestatic 354, 3) := by decide +kernel
theorem dX9_table_18 : decode cX9_table 18 = .ok (.ifCond .ne 5, 3) := by decide +kernel
theorem dX9_table_21 : decode cX9_table 21 = .ok (.iconst (-1), 1) := by decide +kernel
theorem dX9_table_22 : decode cX9_table 22 = .ok (.ireturn, 1) := by decide +kernel
theorem dX9_table_23 : decode cX9_table 23 = .ok (.aload_n 0, 1) := by decide +kernel
theorem dX9_table_24 : decode cX9_table 24 = .ok (.invokevirtual 432, 3) := by decide +kernel
theorem dX9_table_27 : decode cX9_table 27 = .ok (.aload_n 0, 1) := by decide +kernel
theorem dX9_table_28 : decode cX9_table 28 = .ok (.getfield 41, 3) := by decide +kernel
theorem dX9_table_31 : decode cX9_table 31 = .ok (.iload_n 1, 1) := by decide +kernel
theorem dX9_table_32 : decode cX9_table 32 = .ok (.bipush 6, 2) := by decide +kernel
theorem dX9_table_34 : decode cX9_table 34 = .ok (.imul, 1) := by decide +kernel
theorem dX9_table_35 : decode cX9_table 35 = .ok (.iload_n 2, 1) := by decide +kernel
theorem dX9_table_36 : decode cX9_table 36 = .ok (.iadd, 1) := by decide +kernel
theorem dX9_table_37 : decode cX9_table 37 = .ok (.iaload, 1) := by decide +kernel
theorem dX9_table_38 : decode cX9_table 38 = .ok (.ireturn, 1) := by decide +kernel
def fX9_table (a0 : Nat) (a1 : Int32) (a2 : Int32) (h : hp_T) : Option (Int32 × hp_T) := if (h.1 a0 13) = 0 then (some ((-1 : Int32), h)) else (fx_b2 (fX9_isTurns a1 h) fun (r8 : Int32) (h8 : hp_T) => if r8 = 0 then (some ((-1 : Int32), h8)) else (fx_b2 (fX9_isTurns a2 h8) fun (r15 : Int32) (h15 : hp_T) => if r15 = 0 then (some ((-1 : Int32), h15)) else (fx_b1 (fX9_knowTable a0 h15) fun (h24 : hp_T) => fx_g (fx_in ((a1 * (6 : Int32)) + a2) 36) (some ((h24.1 (h24.2.2 a0 5) (fx_ix ((a1 * (6 : Int32)) + a2))), h24)))))
set_option maxRecDepth 100000 in
set_option maxHeartbeats 4000000 in
theorem mX9_table (l : Launch) (G : xr_G) (a0 : Nat) (a1 : Int32) (a2 : Int32) (ta0 : hp_sh a0 = (9, 0)) (h h1 : hp_T) (r : Int32) (hF : fX9_table a0 a1 a2 h = some (r, h1)) : xr_M l G yX9_table cX9_table 3 (xr_R 5 156) (some .int) [.ref (G.2.2.1 a0), .int a1, .int a2] h (xr_Qi G r h1) := by
  refine xr_start rfl (Nat.le_of_ble_eq_true rfl) (fun K C => ?_)
  show xr_j l G K 3 h [(0, .ref (G.2.2.1 a0)), (1, .int a1), (2, .int a2)] 0 []
  unfold fX9_table at hF
  refine xr_aload_n C 0 dX9_table_0 rfl rfl ?_
  refine xr_geti C flX9_113 rfl dX9_table_1 ta0 ?_
  refine xr_if_eq C 21 dX9_table_4 (by decide) (fun c4 => ?_) (fun c4 => ?_)
  · have hF := fx_pos hF c4
    refine xr_iconst (v := -1) C dX9_table_21 (by decide) ?_
    cases hF
    exact xr_iret C dX9_table_22
  · have hF := fx_neg hF c4
    refine xr_iload_n C 1 dX9_table_7 rfl rfl ?_
    obtain ⟨r8, h8, e8, hF⟩ := fx_b2E hF
    refine xr_callSi C mvX9_354 [.int a1] [] (mX9_isTurns l G a1  h h8 r8 e8) rfl ⟨rfl, rfl, (Nat.le_of_ble_eq_true rfl), (Nat.le_of_ble_eq_true rfl)⟩ rfl (Nat.le_of_ble_eq_true rfl) dX9_table_8 ?_
    refine xr_if_eq C 21 dX9_table_11 (by decide) (fun c11 => ?_) (fun c11 => ?_)
    · have hF := fx_pos hF c11
      refine xr_iconst (v := -1) C dX9_table_21 (by decide) ?_
      cases hF
      exact xr_iret C dX9_table_22
    · have hF := fx_neg hF c11
      refine xr_iload_n C 2 dX9_table_14 rfl rfl ?_
      obtain ⟨r15, h15, e15, hF⟩ := fx_b2E hF
      refine xr_callSi C mvX9_354 [.int a2] [] (mX9_isTurns l G a2  h8 h15 r15 e15) rfl ⟨rfl, rfl, (Nat.le_of_ble_eq_true rfl), (Nat.le_of_ble_eq_true rfl)⟩ rfl (Nat.le_of_ble_eq_true rfl) dX9_table_15 ?_
      refine xr_if_ne C 23 dX9_table_18 (by decide) (fun c18 => ?_) (fun c18 => ?_)
      · have hF := fx_neg hF c18
        refine xr_aload_n C 0 dX9_table_23 rfl rfl ?_
        obtain ⟨h24, e24, hF⟩ := fx_b1E hF
        refine xr_callVv C mvX9_432 [] [] (mX9_knowTable l G a0 ta0 h15 h24 e24) ta0 (by decide) vc9 rfl ⟨rfl, rfl, (Nat.le_of_ble_eq_true rfl), (Nat.le_of_ble_eq_true rfl)⟩ rfl (Nat.le_of_ble_eq_true rfl) dX9_table_24 ?_
        refine xr_aload_n C 0 dX9_table_27 rfl rfl ?_
        refine xr_getr C flX9_41 rfl (by decide) dX9_table_28 ta0 (fun t28 => ?_)
        refine xr_iload_n C 1 dX9_table_31 rfl rfl ?_
        refine xr_bipush (v := 6) C dX9_table_32 (by decide) ?_
        refine xr_imul C dX9_table_34 ?_
        refine xr_iload_n C 2 dX9_table_35 rfl rfl ?_
        refine xr_iadd C dX9_table_36 ?_
        obtain ⟨g37, hF⟩ := fx_gE hF
        refine xr_iald C dX9_table_37 t28 g37 ?_
        cases hF
        exact xr_iret C dX9_table_38
      · have hF := fx_pos hF c18
        refine xr_iconst (v := -1) C dX9_table_21 (by decide) ?_
        cases hF
        exact xr_iret C dX9_table_22
theorem dX9_tableOf_0 : decode cX9_tableOf 0 = .ok (.iload_n 1, 1) := by decide +kernel
theorem dX9_tableOf_1 : decode cX9_tableOf 1 = .ok (.ifCond .ne 17, 3) := by decide +kernel
theorem dX9_tableOf_4 : decode cX9_tableOf 4 = .ok (.aload_n 0, 1) := by decide +kernel
theorem dX9_tableOf_5 : decode cX9_tableOf 5 = .ok (.getfield 41, 3) := by decide +kernel
theorem dX9_tableOf_8 : decode cX9_tableOf 8 = .ok (.iload_n 2, 1) := by decide +kernel
theorem dX9_tableOf_9 : decode cX9_tableOf 9 = .ok (.bipush 6, 2) := by decide +kernel
theorem dX9_tableOf_11 : decode cX9_tableOf 11 = .ok (.imul, 1) := by decide +kernel
theorem dX9_tableOf_12 : decode cX9_tableOf 12 = .ok (.iload_n 3, 1) := by decide +kernel
theorem dX9_tableOf_13 : decode cX9_tableOf 13 = .ok (.iadd, 1) := by decide +kernel
theorem dX9_tableOf_14 : decode cX9_tableOf 14 = .ok (.iaload, 1) := by decide +kernel
theorem dX9_tableOf_15 : decode cX9_tableOf 15 = .ok (.goto 14, 3) := by decide +kernel
theorem dX9_tableOf_18 : decode cX9_tableOf 18 = .ok (.aload_n 0, 1) := by decide +kernel
theorem dX9_tableOf_19 : decode cX9_tableOf 19 = .ok (.getfield 41, 3) := by decide +kernel
theorem dX9_tableOf_22 : decode cX9_tableOf 22 = .ok (.iload_n 3, 1) := by decide +kernel
theorem dX9_tableOf_23 : decode cX9_tableOf 23 = .ok (.bipush 6, 2) := by decide +kernel
theorem dX9_tableOf_25 : decode cX9_tableOf 25 = .ok (.imul, 1) := by decide +kernel
theorem dX9_tableOf_26 : decode cX9_tableOf 26 = .ok (.iload_n 2, 1) := by decide +kernel
theorem dX9_tableOf_27 : decode cX9_tableOf 27 = .ok (.iadd, 1) := by decide +kernel
theorem dX9_tableOf_28 : decode cX9_tableOf 28 = .ok (.iaload, 1) := by decide +kernel
theorem dX9_tableOf_29 : decode cX9_tableOf 29 = .ok (.ireturn, 1) := by decide +kernel
def fX9_tableOf (a0 : Nat) (a1 : Int32) (a2 : Int32) (a3 : Int32) (h : hp_T) : Option (Int32 × hp_T) := if a1 = 0 then (fx_g (fx_in ((a2 * (6 : Int32)) + a3) 36) (some ((h.1 (h.2.2 a0 5) (fx_ix ((a2 * (6 : Int32)) + a3))), h))) else (fx_g (fx_in ((a3 * (6 : Int32)) + a2) 36) (some ((h.1 (h.2.2 a0 5) (fx_ix ((a3 * (6 : Int32)) + a2))), h)))
set_option maxRecDepth 100000 in
set_option maxHeartbeats 4000000 in
theorem mX9_tableOf (l : Launch) (G : xr_G) (a0 : Nat) (a1 : Int32) (a2 : Int32) (a3 : Int32) (ta0 : hp_sh a0 = (9, 0)) (h h1 : hp_T) (r : Int32) (hF : fX9_tableOf a0 a1 a2 a3 h = some (r, h1)) : xr_M l G yX9_tableOf cX9_tableOf 4 (xr_R 0 0) (some .int) [.ref (G.2.2.1 a0), .int a1, .int a2, .int a3] h (xr_Qi G r h1) := by
  refine xr_start rfl (Nat.le_of_ble_eq_true rfl) (fun K C => ?_)
  show xr_j l G K 4 h [(0, .ref (G.2.2.1 a0)), (1, .int a1), (2, .int a2), (3, .int a3)] 0 []
  unfold fX9_tableOf at hF
  refine xr_iload_n C 1 dX9_tableOf_0 rfl rfl ?_
  refine xr_if_ne C 18 dX9_tableOf_1 (by decide) (fun c1 => ?_) (fun c1 => ?_)
  · have hF := fx_neg hF c1
    refine xr_aload_n C 0 dX9_tableOf_18 rfl rfl ?_
    refine xr_getr C flX9_41 rfl (by decide) dX9_tableOf_19 ta0 (fun t19 => ?_)
    refine xr_iload_n C 3 dX9_tableOf_22 rfl rfl ?_
    refine xr_bipush (v := 6) C dX9_tableOf_23 (by decide) ?_
    refine xr_imul C dX9_tableOf_25 ?_
    refine xr_iload_n C 2 dX9_tableOf_26 rfl rfl ?_
    refine xr_iadd C dX9_tableOf_27 ?_
    obtain ⟨g28, hF⟩ := fx_gE hF
    refine xr_iald C dX9_tableOf_28 t19 g28 ?_
    cases hF
    exact xr_iret C dX9_tableOf_29
  · have hF := fx_pos hF c1
    refine xr_aload_n C 0 dX9_tableOf_4 rfl rfl ?_
    refine xr_getr C flX9_41 rfl (by decide) dX9_tableOf_5 ta0 (fun t5 => ?_)
    refine xr_iload_n C 2 dX9_tableOf_8 rfl rfl ?_
    refine xr_bipush (v := 6) C dX9_tableOf_9 (by decide) ?_
    refine xr_imul C dX9_tableOf_11 ?_
    refine xr_iload_n C 3 dX9_tableOf_12 rfl rfl ?_
    refine xr_iadd C dX9_tableOf_13 ?_
    obtain ⟨g14, hF⟩ := fx_gE hF
    refine xr_iald C dX9_tableOf_14 t5 g14 ?_
    refine xr_goto C 29 dX9_tableOf_15 (by decide) ?_
    cases hF
    exact xr_iret C dX9_tableOf_29
theorem dX9_worstOf_0 : decode cX9_worstOf 0 = .ok (.aload_n 0, 1) := by decide +kernel
theorem dX9_worstOf_1 : decode cX9_worstOf 1 = .ok (.iload_n 1, 1) := by decide +kernel
theorem dX9_worstOf_2 : decode cX9_worstOf 2 = .ok (.iload_n 2, 1) := by decide +kernel
theorem dX9_worstOf_3 : decode cX9_worstOf 3 = .ok (.iconst 0, 1) := by decide +kernel
theorem dX9_worstOf_4 : decode cX9_worstOf 4 = .ok (.invokevirtual 455, 3) := by decide +kernel
theorem dX9_worstOf_7 : decode cX9_worstOf 7 = .ok (.istore_n 3, 1) := by decide +kernel
theorem dX9_worstOf_8 : decode cX9_worstOf 8 = .ok (.iconst 1, 1) := by decide +kernel
theorem dX9_worstOf_9 : decode cX9_worstOf 9 = .ok (.istore 4, 2) := by decide +kernel
theorem dX9_worstOf_11 : decode cX9_worstOf 11 = .ok (.iload 4, 2) := by decide +kernel
theorem dX9_worstOf_13 : decode cX9_worstOf 13 = .ok (.bipush 6, 2) := by decide +kernel
theorem dX9_worstOf_15 : decode cX9_worstOf 15 = .ok (.if_icmp .ge 39, 3) := by decide +kernel
theorem dX9_worstOf_18 : decode cX9_worstOf 18 = .ok (.aload_n 0, 1) := by decide +kernel
theorem dX9_worstOf_19 : decode cX9_worstOf 19 = .ok (.iload_n 1, 1) := by decide +kernel
theorem dX9_worstOf_20 : decode cX9_worstOf 20 = .ok (.iload_n 2, 1) := by decide +kernel
theorem dX9_worstOf_21 : decode cX9_worstOf 21 = .ok (.iload 4, 2) := by decide +kernel
theorem dX9_worstOf_23 : decode cX9_worstOf 23 = .ok (.invokevirtual 455, 3) := by decide +kernel
theorem dX9_worstOf_26 : decode cX9_worstOf 26 = .ok (.istore 5, 2) := by decide +kernel
theorem dX9_worstOf_28 : decode cX9_worstOf 28 = .ok (.iload_n 1, 1) := by decide +kernel
theorem dX9_worstOf_29 : decode cX9_worstOf 29 = .ok (.ifCond .ne 12, 3) := by decide +kernel
theorem dX9_worstOf_32 : decode cX9_worstOf 32 = .ok (.iload_n 3, 1) := by decide +kernel
theorem dX9_worstOf_33 : decode cX9_worstOf 33 = .ok (.iload 5, 2) := by decide +kernel
theorem dX9_worstOf_35 : decode cX9_worstOf 35 = .ok (.invokestatic 461, 3) := by decide +kernel
theorem dX9_worstOf_38 : decode cX9_worstOf 38 = .ok (.goto 9, 3) := by decide +kernel
theorem dX9_worstOf_41 : decode cX9_worstOf 41 = .ok (.iload_n 3, 1) := by decide +kernel
theorem dX9_worstOf_42 : decode cX9_worstOf 42 = .ok (.iload 5, 2) := by decide +kernel
theorem dX9_worstOf_44 : decode cX9_worstOf 44 = .ok (.invokestatic 466, 3) := by decide +kernel
theorem dX9_worstOf_47 : decode cX9_worstOf 47 = .ok (.istore_n 3, 1) := by decide +kernel
theorem dX9_worstOf_48 : decode cX9_worstOf 48 = .ok (.iinc 4 1, 3) := by decide +kernel
theorem dX9_worstOf_51 : decode cX9_worstOf 51 = .ok (.goto (-40), 3) := by decide +kernel
theorem dX9_worstOf_54 : decode cX9_worstOf 54 = .ok (.iload_n 3, 1) := by decide +kernel
theorem dX9_worstOf_55 : decode cX9_worstOf 55 = .ok (.ireturn, 1) := by decide +kernel
def fX9_worstOf_47 (k11 : Nat → Int32 → Int32 → Int32 → Int32 → hp_T → Option (Int32 × hp_T)) (a0 : Nat) (a1 : Int32) (a2 : Int32) (a4 : Int32) (s0 : Int32) (h : hp_T) : Option (Int32 × hp_T) := fx_let (a4 + (1 : Int32)) fun (x48 : Int32) => k11 a0 a1 a2 s0 x48 h
set_option maxRecDepth 100000 in
set_option maxHeartbeats 4000000 in
theorem bX9_worstOf_47 {l : Launch} {G : xr_G} {K : xr_K} {r : Int32} {h1 : hp_T} (C : xr_C G K cX9_worstOf RX9 6 (xr_R 1 60) (some .int) (some (xr_Qi G r h1))) (k11 : Nat → Int32 → Int32 → Int32 → Int32 → hp_T → Option (Int32 × hp_T)) (j11 : ∀ (a0 : Nat) (a1 : Int32) (a2 : Int32) (a3 : Int32) (a4 : Int32) (ta0 : hp_sh a0 = (9, 0)) (h : hp_T), k11 a0 a1 a2 a3 a4 h = some (r, h1) → xr_j l G K 6 h [(0, .ref (G.2.2.1 a0)), (1, .int a1), (2, .int a2), (3, .int a3), (4, .int a4)] 11 []) (a0 : Nat) (a1 : Int32) (a2 : Int32) (a4 : Int32) (s0 : Int32) (ta0 : hp_sh a0 = (9, 0)) (h : hp_T) (hF : fX9_worstOf_47 k11 a0 a1 a2 a4 s0 h = some (r, h1)) : xr_j l G K 6 h [(0, .ref (G.2.2.1 a0)), (1, .int a1), (2, .int a2), (4, .int a4)] 47 [.int s0] := by
  unfold fX9_worstOf_47 at hF
  refine xr_istore_n C [(3, .int s0), (0, .ref (G.2.2.1 a0)), (1, .int a1), (2, .int a2), (4, .int a4)] dX9_worstOf_47 rfl (Nat.le_of_ble_eq_true rfl) rfl ?_
  obtain ⟨x48, e48⟩ : ∃ y : Int32, y = (a4 + (1 : Int32)) := ⟨_, rfl⟩
  have hF := fx_letE hF x48 e48
  refine xr_iinc C x48 4 [(4, .int x48), (3, .int s0), (0, .ref (G.2.2.1 a0)), (1, .int a1), (2, .int a2)] dX9_worstOf_48 rfl (by rw [e48]; rfl) (Nat.le_of_ble_eq_true rfl) rfl ?_
  refine xr_goto C 11 dX9_worstOf_51 (by decide) ?_
  refine xr_sub [2, 3, 4, 1, 0] [(0, .ref (G.2.2.1 a0)), (1, .int a1), (2, .int a2), (3, .int s0), (4, .int x48)] rfl ?_
  exact j11 a0 a1 a2 s0 x48 ta0 h hF
def fX9_worstOf_11  : Nat → Nat → Int32 → Int32 → Int32 → Int32 → hp_T → Option (Int32 × hp_T)
  | 0, _, _, _, _, _, _ => none
  | n + 1, a0, a1, a2, a3, a4, h => if (6 : Int32) ≤ a4 then (some (a3, h)) else (fx_b2 (fX9_tableOf a0 a1 a2 a4 h) fun (r23 : Int32) (h23 : hp_T) => if a1 = 0 then (fX9_worstOf_47 (fX9_worstOf_11 n) a0 a1 a2 a4 (fx_min a3 r23) h23) else (fX9_worstOf_47 (fX9_worstOf_11 n) a0 a1 a2 a4 (fx_max a3 r23) h23))
set_option maxRecDepth 100000 in
set_option maxHeartbeats 4000000 in
theorem bX9_worstOf_11 {l : Launch} {G : xr_G} {K : xr_K} {r : Int32} {h1 : hp_T} (C : xr_C G K cX9_worstOf RX9 6 (xr_R 1 60) (some .int) (some (xr_Qi G r h1)))  : ∀ (n : Nat) (a0 : Nat) (a1 : Int32) (a2 : Int32) (a3 : Int32) (a4 : Int32) (ta0 : hp_sh a0 = (9, 0)) (h : hp_T), fX9_worstOf_11 n a0 a1 a2 a3 a4 h = some (r, h1) → xr_j l G K 6 h [(0, .ref (G.2.2.1 a0)), (1, .int a1), (2, .int a2), (3, .int a3), (4, .int a4)] 11 [] := by
  intro n
  induction n with
  | zero =>
    intro a0 a1 a2 a3 a4 ta0 h hF
    cases hF
  | succ n ih =>
    intro a0 a1 a2 a3 a4 ta0 h hF
    rw [fX9_worstOf_11] at hF
    refine xr_iload C 4 dX9_worstOf_11 rfl ?_
    refine xr_bipush (v := 6) C dX9_worstOf_13 (by decide) ?_
    refine xr_icmp_ge C 54 dX9_worstOf_15 (by decide) (fun c15 => ?_) (fun c15 => ?_)
    · have hF := fx_pos hF c15
      refine xr_iload_n C 3 dX9_worstOf_54 rfl rfl ?_
      cases hF
      exact xr_iret C dX9_worstOf_55
    · have hF := fx_neg hF c15
      refine xr_aload_n C 0 dX9_worstOf_18 rfl rfl ?_
      refine xr_iload_n C 1 dX9_worstOf_19 rfl rfl ?_
      refine xr_iload_n C 2 dX9_worstOf_20 rfl rfl ?_
      refine xr_iload C 4 dX9_worstOf_21 rfl ?_
      obtain ⟨r23, h23, e23, hF⟩ := fx_b2E hF
      refine xr_callVi C mvX9_455 [.int a1, .int a2, .int a4] [] (mX9_tableOf l G a0 a1 a2 a4 ta0 h h23 r23 e23) ta0 (by decide) vc9 rfl ⟨rfl, rfl, (Nat.le_of_ble_eq_true rfl), (Nat.le_of_ble_eq_true rfl)⟩ rfl (Nat.le_of_ble_eq_true rfl) dX9_worstOf_23 ?_
      refine xr_istore C [(5, .int r23), (0, .ref (G.2.2.1 a0)), (1, .int a1), (2, .int a2), (3, .int a3), (4, .int a4)] dX9_worstOf_26 (Nat.le_of_ble_eq_true rfl) rfl ?_
      refine xr_iload_n C 2 dX9_worstOf_28 rfl rfl ?_
      refine xr_if_ne C 41 dX9_worstOf_29 (by decide) (fun c29 => ?_) (fun c29 => ?_)
      · have hF := fx_neg hF c29
        refine xr_iload_n C 4 dX9_worstOf_41 rfl rfl ?_
        refine xr_iload C 0 dX9_worstOf_42 rfl ?_
        refine xr_mmax C mmX9_466 (Nat.le_of_ble_eq_true rfl) (Nat.le_of_ble_eq_true rfl) dX9_worstOf_44 ?_
        refine xr_sub [1, 2, 3, 5] [(0, .ref (G.2.2.1 a0)), (1, .int a1), (2, .int a2), (4, .int a4)] rfl ?_
        exact bX9_worstOf_47 C (fX9_worstOf_11 n) (fun a0 a1 a2 a3 a4 ta0 h hF => ih a0 a1 a2 a3 a4 ta0 h hF)  a0 a1 a2 a4 (fx_max a3 r23) ta0 h23 hF
      · have hF := fx_pos hF c29
        refine xr_iload_n C 4 dX9_worstOf_32 rfl rfl ?_
        refine xr_iload C 0 dX9_worstOf_33 rfl ?_
        refine xr_mmin C mmX9_461 (Nat.le_of_ble_eq_true rfl) (Nat.le_of_ble_eq_true rfl) dX9_worstOf_35 ?_
        refine xr_goto C 47 dX9_worstOf_38 (by decide) ?_
        refine xr_sub [1, 2, 3, 5] [(0, .ref (G.2.2.1 a0)), (1, .int a1), (2, .int a2), (4, .int a4)] rfl ?_
        exact bX9_worstOf_47 C (fX9_worstOf_11 n) (fun a0 a1 a2 a3 a4 ta0 h hF => ih a0 a1 a2 a3 a4 ta0 h hF)  a0 a1 a2 a4 (fx_min a3 r23) ta0 h23 hF
def fX9_worstOf (a0 : Nat) (a1 : Int32) (a2 : Int32) (h : hp_T) : Option (Int32 × hp_T) := fx_b2 (fX9_tableOf a0 a1 a2 (0 : Int32) h) fun (r4 : Int32) (h4 : hp_T) => fX9_worstOf_11 fx_N a0 a1 a2 r4 (1 : Int32) h4
set_option maxRecDepth 100000 in
set_option maxHeartbeats 4000000 in
theorem mX9_worstOf (l : Launch) (G : xr_G) (a0 : Nat) (a1 : Int32) (a2 : Int32) (ta0 : hp_sh a0 = (9, 0)) (h h1 : hp_T) (r : Int32) (hF : fX9_worstOf a0 a1 a2 h = some (r, h1)) : xr_M l G yX9_worstOf cX9_worstOf 6 (xr_R 1 60) (some .int) [.ref (G.2.2.1 a0), .int a1, .int a2] h (xr_Qi G r h1) := by
  refine xr_start rfl (Nat.le_of_ble_eq_true rfl) (fun K C => ?_)
  show xr_j l G K 6 h [(0, .ref (G.2.2.1 a0)), (1, .int a1), (2, .int a2)] 0 []
  unfold fX9_worstOf at hF
  refine xr_aload_n C 0 dX9_worstOf_0 rfl rfl ?_
  refine xr_iload_n C 1 dX9_worstOf_1 rfl rfl ?_
  refine xr_iload_n C 2 dX9_worstOf_2 rfl rfl ?_
  refine xr_iconst (v := 0) C dX9_worstOf_3 (by decide) ?_
  obtain ⟨r4, h4, e4, hF⟩ := fx_b2E hF
  refine xr_callVi C mvX9_455 [.int a1, .int a2, .int (0 : Int32)] [] (mX9_tableOf l G a0 a1 a2 (0 : Int32) ta0 h h4 r4 e4) ta0 (by decide) vc9 rfl ⟨rfl, rfl, (Nat.le_of_ble_eq_true rfl), (Nat.le_of_ble_eq_true rfl)⟩ rfl (Nat.le_of_ble_eq_true rfl) dX9_worstOf_4 ?_
  refine xr_istore_n C [(3, .int r4), (0, .ref (G.2.2.1 a0)), (1, .int a1), (2, .int a2)] dX9_worstOf_7 rfl (Nat.le_of_ble_eq_true rfl) rfl ?_
  refine xr_iconst (v := 1) C dX9_worstOf_8 (by decide) ?_
  refine xr_istore C [(4, .int (1 : Int32)), (3, .int r4), (0, .ref (G.2.2.1 a0)), (1, .int a1), (2, .int a2)] dX9_worstOf_9 (Nat.le_of_ble_eq_true rfl) rfl ?_
  refine xr_sub [2, 3, 4, 1, 0] [(0, .ref (G.2.2.1 a0)), (1, .int a1), (2, .int a2), (3, .int r4), (4, .int (1 : Int32))] rfl ?_
  exact bX9_worstOf_11 C  fx_N a0 a1 a2 r4 (1 : Int32) ta0 h4 hF
theorem dX9_pickSafe_0 : decode cX9_pickSafe 0 = .ok (.aload_n 0, 1) := by decide +kernel
theorem dX9_pickSafe_1 : decode cX9_pickSafe 1 = .ok (.invokevirtual 432, 3) := by decide +kernel
theorem dX9_pickSafe_4 : decode cX9_pickSafe 4 = .ok (.aload_n 0, 1) := by decide +kernel
theorem dX9_pickSafe_5 : decode cX9_pickSafe 5 = .ok (.getfield 54, 3) := by decide +kernel
theorem dX9_pickSafe_8 : decode cX9_pickSafe 8 = .ok (.invokevirtual 320, 3) := by decide +kernel
theorem dX9_pickSafe_11 : decode cX9_pickSafe 11 = .ok (.iconst 0, 1) := by decide +kernel
theorem dX9_pickSafe_12 : decode cX9_pickSafe 12 = .ok (.istore_n 2, 1) := by decide +kernel
theorem dX9_pickSafe_13 : decode cX9_pickSafe 13 = .ok (.iload_n 2, 1) := by decide +kernel
theorem dX9_pickSafe_14 : decode cX9_pickSafe 14 = .ok (.bipush 6, 2) := by decide +kernel
theorem dX9_pickSafe_16 : decode cX9_pickSafe 16 = .ok (.if_icmp .ge 35, 3) := by decide +kernel
theorem dX9_pickSafe_19 : decode cX9_pickSafe 19 = .ok (.aload_n 0, 1) := by decide +kernel
theorem dX9_pickSafe_20 : decode cX9_pickSafe 20 = .ok (.iload_n 1, 1) := by decide +kernel
theorem dX9_pickSafe_21 : decode cX9_pickSafe 21 = .ok (.iload_n 2, 1) := by decide +kernel
theorem dX9_pickSafe_22 : decode cX9_pickSafe 22 = .ok (.invokevirtual 458, 3) := by decide +kernel
theorem dX9_pickSafe_25 : decode cX9_pickSafe 25 = .ok (.istore_n 3, 1) := by decide +kernel
theorem dX9_pickSafe_26 : decode cX9_pickSafe 26 = .ok (.aload_n 0, 1) := by decide +kernel
theorem dX9_pickSafe_27 : decode cX9_pickSafe 27 = .ok (.getfield 54, 3) := by decide +kernel
theorem dX9_pickSafe_30 : decode cX9_pickSafe 30 = .ok (.iload_n 2, 1) := by decide +kernel
theorem dX9_pickSafe_31 : decode cX9_pickSafe 31 = .ok (.iload_n 3, 1) := by decide +kernel
theorem dX9_pickSafe_32 : decode cX9_pickSafe 32 = .ok (.iload_n 3, 1) := by decide +kernel
theorem dX9_pickSafe_33 : decode cX9_pickSafe 33 = .ok (.iload_n 1, 1) := by decide +kernel
theorem dX9_pickSafe_34 : decode cX9_pickSafe 34 = .ok (.ifCond .ne 7, 3) := by decide +kernel
theorem dX9_pickSafe_37 : decode cX9_pickSafe 37 = .ok (.iconst 1, 1) := by decide +kernel
theorem dX9_pickSafe_38 : decode cX9_pickSafe 38 = .ok (.goto 4, 3) := by decide +kernel
theorem dX9_pickSafe_41 : decode cX9_pickSafe 41 = .ok (.iconst 0, 1) := by decide +kernel
theorem dX9_pickSafe_42 : decode cX9_pickSafe 42 = .ok (.invokevirtual 366, 3) := by decide +kernel
theorem dX9_pickSafe_45 : decode cX9_pickSafe 45 = .ok (.iinc 2 1, 3) := by decide +kernel
theorem dX9_pickSafe_48 : decode cX9_pickSafe 48 = .ok (.goto (-35), 3) := by decide +kernel
theorem dX9_pickSafe_51 : decode cX9_pickSafe 51 = .ok (.return_, 1) := by decide +kernel
def fX9_pickSafe_42 (k13 : Nat → Int32 → Int32 → hp_T → Option hp_T) (a0 : Nat) (a1 : Int32) (a2 : Int32) (s0 : Nat) (s1 : Int32) (s2 : Int32) (s3 : Int32) (s4 : Int32) (h : hp_T) : Option hp_T := fx_b1 (fX0_offer s0 s1 s2 s3 s4 h) fun (h42 : hp_T) => fx_let (a2 + (1 : Int32)) fun (x45 : Int32) => k13 a0 a1 x45 h42
set_option maxRecDepth 100000 in
set_option maxHeartbeats 4000000 in
theorem bX9_pickSafe_42 {l : Launch} {G : xr_G} {K : xr_K} {h1 : hp_T} (C : xr_C G K cX9_pickSafe RX9 4 (xr_R 5 156) none (some (xr_Qv G h1))) (k13 : Nat → Int32 → Int32 → hp_T → Option hp_T) (j13 : ∀ (a0 : Nat) (a1 : Int32) (a2 : Int32) (ta0 : hp_sh a0 = (9, 0)) (h : hp_T), k13 a0 a1 a2 h = some h1 → xr_j l G K 4 h [(0, .ref (G.2.2.1 a0)), (1, .int a1), (2, .int a2)] 13 []) (a0 : Nat) (a1 : Int32) (a2 : Int32) (s0 : Nat) (s1 : Int32) (s2 : Int32) (s3 : Int32) (s4 : Int32) (ta0 : hp_sh a0 = (9, 0)) (ts0 : hp_sh s0 = (0, 0)) (h : hp_T) (hF : fX9_pickSafe_42 k13 a0 a1 a2 s0 s1 s2 s3 s4 h = some h1) : xr_j l G K 4 h [(0, .ref (G.2.2.1 a0)), (1, .int a1), (2, .int a2)] 42 [.int s4, .int s3, .int s2, .int s1, .ref (G.2.2.1 s0)] := by
  unfold fX9_pickSafe_42 at hF
  obtain ⟨h42, e42, hF⟩ := fx_b1E hF
  refine xr_callVv C mvX9_366 [.int s1, .int s2, .int s3, .int s4] [] (mX0_offer l G s0 s1 s2 s3 s4 ts0 h h42 e42) ts0 (by decide) vc0 rfl ⟨rfl, rfl, (Nat.le_of_ble_eq_true rfl), (Nat.le_of_ble_eq_true rfl)⟩ rfl (Nat.le_of_ble_eq_true rfl) dX9_pickSafe_42 ?_
  obtain ⟨x45, e45⟩ : ∃ y : Int32, y = (a2 + (1 : Int32)) := ⟨_, rfl⟩
  have hF := fx_letE hF x45 e45
  refine xr_iinc C x45 2 [(2, .int x45), (0, .ref (G.2.2.1 a0)), (1, .int a1)] dX9_pickSafe_45 rfl (by rw [e45]; rfl) (Nat.le_of_ble_eq_true rfl) rfl ?_
  refine xr_goto C 13 dX9_pickSafe_48 (by decide) ?_
  refine xr_sub [1, 2, 0] [(0, .ref (G.2.2.1 a0)), (1, .int a1), (2, .int x45)] rfl ?_
  exact j13 a0 a1 x45 ta0 h42 hF
def fX9_pickSafe_13  : Nat → Nat → Int32 → Int32 → hp_T → Option hp_T
  | 0, _, _, _, _ => none
  | n + 1, a0, a1, a2, h => if (6 : Int32) ≤ a2 then (some h) else (fx_b2 (fX9_worstOf a0 a1 a2 h) fun (r22 : Int32) (h22 : hp_T) => if a1 = 0 then (fX9_pickSafe_42 (fX9_pickSafe_13 n) a0 a1 a2 (h22.2.2 a0 8) a2 r22 r22 (1 : Int32) h22) else (fX9_pickSafe_42 (fX9_pickSafe_13 n) a0 a1 a2 (h22.2.2 a0 8) a2 r22 r22 (0 : Int32) h22))
set_option maxRecDepth 100000 in
set_option maxHeartbeats 4000000 in
theorem bX9_pickSafe_13 {l : Launch} {G : xr_G} {K : xr_K} {h1 : hp_T} (C : xr_C G K cX9_pickSafe RX9 4 (xr_R 5 156) none (some (xr_Qv G h1)))  : ∀ (n : Nat) (a0 : Nat) (a1 : Int32) (a2 : Int32) (ta0 : hp_sh a0 = (9, 0)) (h : hp_T), fX9_pickSafe_13 n a0 a1 a2 h = some h1 → xr_j l G K 4 h [(0, .ref (G.2.2.1 a0)), (1, .int a1), (2, .int a2)] 13 [] := by
  intro n
  induction n with
  | zero =>
    intro a0 a1 a2 ta0 h hF
    cases hF
  | succ n ih =>
    intro a0 a1 a2 ta0 h hF
    rw [fX9_pickSafe_13] at hF
    refine xr_iload_n C 2 dX9_pickSafe_13 rfl rfl ?_
    refine xr_bipush (v := 6) C dX9_pickSafe_14 (by decide) ?_
    refine xr_icmp_ge C 51 dX9_pickSafe_16 (by decide) (fun c16 => ?_) (fun c16 => ?_)
    · have hF := fx_pos hF c16
      cases hF
      exact xr_vret C dX9_pickSafe_51
    · have hF := fx_neg hF c16
      refine xr_aload_n C 0 dX9_pickSafe_19 rfl rfl ?_
      refine xr_iload_n C 1 dX9_pickSafe_20 rfl rfl ?_
      refine xr_iload_n C 2 dX9_pickSafe_21 rfl rfl ?_
      obtain ⟨r22, h22, e22, hF⟩ := fx_b2E hF
      refine xr_callVi C mvX9_458 [.int a1, .int a2] [] (mX9_worstOf l G a0 a1 a2 ta0 h h22 r22 e22) ta0 (by decide) vc9 rfl ⟨rfl, rfl, (Nat.le_of_ble_eq_true rfl), (Nat.le_of_ble_eq_true rfl)⟩ rfl (Nat.le_of_ble_eq_true rfl) dX9_pickSafe_22 ?_
      refine xr_istore_n C [(3, .int r22), (0, .ref (G.2.2.1 a0)), (1, .int a1), (2, .int a2)] dX9_pickSafe_25 rfl (Nat.le_of_ble_eq_true rfl) rfl ?_
      refine xr_aload_n C 1 dX9_pickSafe_26 rfl rfl ?_
      refine xr_getr C flX9_54 rfl (by decide) dX9_pickSafe_27 ta0 (fun t27 => ?_)
      refine xr_iload_n C 3 dX9_pickSafe_30 rfl rfl ?_
      refine xr_iload_n C 0 dX9_pickSafe_31 rfl rfl ?_
      refine xr_iload_n C 0 dX9_pickSafe_32 rfl rfl ?_
      refine xr_iload_n C 2 dX9_pickSafe_33 rfl rfl ?_
      refine xr_if_ne C 41 dX9_pickSafe_34 (by decide) (fun c34 => ?_) (fun c34 => ?_)
      · have hF := fx_neg hF c34
        refine xr_iconst (v := 0) C dX9_pickSafe_41 (by decide) ?_
        refine xr_sub [1, 2, 3] [(0, .ref (G.2.2.1 a0)), (1, .int a1), (2, .int a2)] rfl ?_
        exact bX9_pickSafe_42 C (fX9_pickSafe_13 n) (fun a0 a1 a2 ta0 h hF => ih a0 a1 a2 ta0 h hF)  a0 a1 a2 (h22.2.2 a0 8) a2 r22 r22 (0 : Int32) ta0 t27 h22 hF
      · have hF := fx_pos hF c34
        refine xr_iconst (v := 1) C dX9_pickSafe_37 (by decide) ?_
        refine xr_goto C 42 dX9_pickSafe_38 (by decide) ?_
        refine xr_sub [1, 2, 3] [(0, .ref (G.2.2.1 a0)), (1, .int a1), (2, .int a2)] rfl ?_
        exact bX9_pickSafe_42 C (fX9_pickSafe_13 n) (fun a0 a1 a2 ta0 h hF => ih a0 a1 a2 ta0 h hF)  a0 a1 a2 (h22.2.2 a0 8) a2 r22 r22 (1 : Int32) ta0 t27 h22 hF
def fX9_pickSafe (a0 : Nat) (a1 : Int32) (h : hp_T) : Option hp_T := fx_b1 (fX9_knowTable a0 h) fun (h1 : hp_T) => fx_b1 (fX0_clear (h1.2.2 a0 8) h1) fun (h8 : hp_T) => fX9_pickSafe_13 fx_N a0 a1 (0 : Int32) h8
set_option maxRecDepth 100000 in
set_option maxHeartbeats 4000000 in
theorem mX9_pickSafe (l : Launch) (G : xr_G) (a0 : Nat) (a1 : Int32) (ta0 : hp_sh a0 = (9, 0)) (h h1 : hp_T) (hF : fX9_pickSafe a0 a1 h = some h1) : xr_M l G yX9_pickSafe cX9_pickSafe 4 (xr_R 5 156) none [.ref (G.2.2.1 a0), .int a1] h (xr_Qv G h1) := by
  refine xr_start rfl (Nat.le_of_ble_eq_true rfl) (fun K C => ?_)
  show xr_j l G K 4 h [(0, .ref (G.2.2.1 a0)), (1, .int a1)] 0 []
  unfold fX9_pickSafe at hF
  refine xr_aload_n C 0 dX9_pickSafe_0 rfl rfl ?_
  obtain ⟨h1, e1, hF⟩ := fx_b1E hF
  refine xr_callVv C mvX9_432 [] [] (mX9_knowTable l G a0 ta0 h h1 e1) ta0 (by decide) vc9 rfl ⟨rfl, rfl, (Nat.le_of_ble_eq_true rfl), (Nat.le_of_ble_eq_true rfl)⟩ rfl (Nat.le_of_ble_eq_true rfl) dX9_pickSafe_1 ?_
  refine xr_aload_n C 0 dX9_pickSafe_4 rfl rfl ?_
  refine xr_getr C flX9_54 rfl (by decide) dX9_pickSafe_5 ta0 (fun t5 => ?_)
  obtain ⟨h8, e8, hF⟩ := fx_b1E hF
  refine xr_callVv C mvX9_320 [] [] (mX0_clear l G (h1.2.2 a0 8) t5 h1 h8 e8) t5 (by decide) vc0 rfl ⟨rfl, rfl, (Nat.le_of_ble_eq_true rfl), (Nat.le_of_ble_eq_true rfl)⟩ rfl (Nat.le_of_ble_eq_true rfl) dX9_pickSafe_8 ?_
  refine xr_iconst (v := 0) C dX9_pickSafe_11 (by decide) ?_
  refine xr_istore_n C [(2, .int (0 : Int32)), (0, .ref (G.2.2.1 a0)), (1, .int a1)] dX9_pickSafe_12 rfl (Nat.le_of_ble_eq_true rfl) rfl ?_
  refine xr_sub [1, 2, 0] [(0, .ref (G.2.2.1 a0)), (1, .int a1), (2, .int (0 : Int32))] rfl ?_
  exact bX9_pickSafe_13 C  fx_N a0 a1 (0 : Int32) ta0 h8 hF
theorem dX9_safe_0 : decode cX9_safe 0 = .ok (.aload_n 0, 1) := by decide +kernel
theorem dX9_safe_1 : decode cX9_safe 1 = .ok (.iload_n 1, 1) := by decide +kernel
theorem dX9_safe_2 : decode cX9_safe 2 = .ok (.invokevirtual 99, 3) := by decide +kernel
theorem dX9_safe_5 : decode cX9_safe 5 = .ok (.ifCond .eq 12, 3) := by decide +kernel
theorem dX9_safe_8 : decode cX9_safe 8 = .ok (.iload_n 2, 1) := by decide +kernel
theorem dX9_safe_9 : decode cX9_safe 9 = .ok (.ifCond .lt 8, 3) := by decide +kernel
theorem dX9_safe_12 : decode cX9_safe 12 = .ok (.iload_n 2, 1) := by decide +kernel
theorem dX9_safe_13 : decode cX9_safe 13 = .ok (.iconst 1, 1) := by decide +kernel
theorem dX9_safe_14 : decode cX9_safe 14 = .ok (.if_icmp .le 5, 3) := by decide +kernel
theorem dX9_safe_17 : decode cX9_safe 17 = .ok (.iconst (-1), 1) := by decide +kernel
theorem dX9_safe_18 : decode cX9_safe 18 = .ok (.ireturn, 1) := by decide +kernel
theorem dX9_safe_19 : decode cX9_safe 19 = .ok (.aload_n 0, 1) := by decide +kernel
theorem dX9_safe_20 : decode cX9_safe 20 = .ok (.iload_n 1, 1) := by decide +kernel
theorem dX9_safe_21 : decode cX9_safe 21 = .ok (.invokevirtual 435, 3) := by decide +kernel
theorem dX9_safe_24 : decode cX9_safe 24 = .ok (.aload_n 0, 1) := by decide +kernel
theorem dX9_safe_25 : decode cX9_safe 25 = .ok (.getfield 54, 3) := by decide +kernel
theorem dX9_safe_28 : decode cX9_safe 28 = .ok (.iload_n 2, 1) := by decide +kernel
theorem dX9_safe_29 : decode cX9_safe 29 = .ok (.invokevirtual 370, 3) := by decide +kernel
theorem dX9_safe_32 : decode cX9_safe 32 = .ok (.ireturn, 1) := by decide +kernel
def fX9_safe (a0 : Nat) (a1 : Int32) (a2 : Int32) (h : hp_T) : Option (Int32 × hp_T) := fx_b2 (fX9_isSide a0 a1 h) fun (r2 : Int32) (h2 : hp_T) => if r2 = 0 then (some ((-1 : Int32), h2)) else (if a2 < 0 then (some ((-1 : Int32), h2)) else (if a2 ≤ (1 : Int32) then (fx_b1 (fX9_pickSafe a0 a1 h2) fun (h21 : hp_T) => fx_b2 (fX0_part (h21.2.2 a0 8) a2 h21) fun (r29 : Int32) (h29 : hp_T) => some (r29, h29)) else (some ((-1 : Int32), h2))))
set_option maxRecDepth 100000 in
set_option maxHeartbeats 4000000 in
theorem mX9_safe (l : Launch) (G : xr_G) (a0 : Nat) (a1 : Int32) (a2 : Int32) (ta0 : hp_sh a0 = (9, 0)) (h h1 : hp_T) (r : Int32) (hF : fX9_safe a0 a1 a2 h = some (r, h1)) : xr_M l G yX9_safe cX9_safe 3 (xr_R 6 179) (some .int) [.ref (G.2.2.1 a0), .int a1, .int a2] h (xr_Qi G r h1) := by
  refine xr_start rfl (Nat.le_of_ble_eq_true rfl) (fun K C => ?_)
  show xr_j l G K 3 h [(0, .ref (G.2.2.1 a0)), (1, .int a1), (2, .int a2)] 0 []
  unfold fX9_safe at hF
  refine xr_aload_n C 0 dX9_safe_0 rfl rfl ?_
  refine xr_iload_n C 1 dX9_safe_1 rfl rfl ?_
  obtain ⟨r2, h2, e2, hF⟩ := fx_b2E hF
  refine xr_callVi C mvX9_99 [.int a1] [] (mX9_isSide l G a0 a1 ta0 h h2 r2 e2) ta0 (by decide) vc9 rfl ⟨rfl, rfl, (Nat.le_of_ble_eq_true rfl), (Nat.le_of_ble_eq_true rfl)⟩ rfl (Nat.le_of_ble_eq_true rfl) dX9_safe_2 ?_
  refine xr_if_eq C 17 dX9_safe_5 (by decide) (fun c5 => ?_) (fun c5 => ?_)
  · have hF := fx_pos hF c5
    refine xr_iconst (v := -1) C dX9_safe_17 (by decide) ?_
    cases hF
    exact xr_iret C dX9_safe_18
  · have hF := fx_neg hF c5
    refine xr_iload_n C 2 dX9_safe_8 rfl rfl ?_
    refine xr_if_lt C 17 dX9_safe_9 (by decide) (fun c9 => ?_) (fun c9 => ?_)
    · have hF := fx_pos hF c9
      refine xr_iconst (v := -1) C dX9_safe_17 (by decide) ?_
      cases hF
      exact xr_iret C dX9_safe_18
    · have hF := fx_neg hF c9
      refine xr_iload_n C 2 dX9_safe_12 rfl rfl ?_
      refine xr_iconst (v := 1) C dX9_safe_13 (by decide) ?_
      refine xr_icmp_le C 19 dX9_safe_14 (by decide) (fun c14 => ?_) (fun c14 => ?_)
      · have hF := fx_pos hF c14
        refine xr_aload_n C 0 dX9_safe_19 rfl rfl ?_
        refine xr_iload_n C 1 dX9_safe_20 rfl rfl ?_
        obtain ⟨h21, e21, hF⟩ := fx_b1E hF
        refine xr_callVv C mvX9_435 [.int a1] [] (mX9_pickSafe l G a0 a1 ta0 h2 h21 e21) ta0 (by decide) vc9 rfl ⟨rfl, rfl, (Nat.le_of_ble_eq_true rfl), (Nat.le_of_ble_eq_true rfl)⟩ rfl (Nat.le_of_ble_eq_true rfl) dX9_safe_21 ?_
        refine xr_aload_n C 0 dX9_safe_24 rfl rfl ?_
        refine xr_getr C flX9_54 rfl (by decide) dX9_safe_25 ta0 (fun t25 => ?_)
        refine xr_iload_n C 2 dX9_safe_28 rfl rfl ?_
        obtain ⟨r29, h29, e29, hF⟩ := fx_b2E hF
        refine xr_callVi C mvX9_370 [.int a2] [] (mX0_part l G (h21.2.2 a0 8) a2 t25 h21 h29 r29 e29) t25 (by decide) vc0 rfl ⟨rfl, rfl, (Nat.le_of_ble_eq_true rfl), (Nat.le_of_ble_eq_true rfl)⟩ rfl (Nat.le_of_ble_eq_true rfl) dX9_safe_29 ?_
        cases hF
        exact xr_iret C dX9_safe_32
      · have hF := fx_neg hF c14
        refine xr_iconst (v := -1) C dX9_safe_17 (by decide) ?_
        cases hF
        exact xr_iret C dX9_safe_18
theorem dX9_saddle_0 : decode cX9_saddle 0 = .ok (.aload_n 0, 1) := by decide +kernel
theorem dX9_saddle_1 : decode cX9_saddle 1 = .ok (.getfield 113, 3) := by decide +kernel
theorem dX9_saddle_4 : decode cX9_saddle 4 = .ok (.ifCond .ne 5, 3) := by decide +kernel
theorem dX9_saddle_7 : decode cX9_saddle 7 = .ok (.iconst (-1), 1) := by decide +kernel
theorem dX9_saddle_8 : decode cX9_saddle 8 = .ok (.ireturn, 1) := by decide +kernel
theorem dX9_saddle_9 : decode cX9_saddle 9 = .ok (.aload_n 0, 1) := by decide +kernel
theorem dX9_saddle_10 : decode cX9_saddle 10 = .ok (.iconst 0, 1) := by decide +kernel
theorem dX9_saddle_11 : decode cX9_saddle 11 = .ok (.invokevirtual 435, 3) := by decide +kernel
theorem dX9_saddle_14 : decode cX9_saddle 14 = .ok (.aload_n 0, 1) := by decide +kernel
theorem dX9_saddle_15 : decode cX9_saddle 15 = .ok (.getfield 54, 3) := by decide +kernel
theorem dX9_saddle_18 : decode cX9_saddle 18 = .ok (.getfield 327, 3) := by decide +kernel
theorem dX9_saddle_21 : decode cX9_saddle 21 = .ok (.istore_n 1, 1) := by decide +kernel
theorem dX9_saddle_22 : decode cX9_saddle 22 = .ok (.aload_n 0, 1) := by decide +kernel
theorem dX9_saddle_23 : decode cX9_saddle 23 = .ok (.iconst 1, 1) := by decide +kernel
theorem dX9_saddle_24 : decode cX9_saddle 24 = .ok (.invokevirtual 435, 3) := by decide +kernel
theorem dX9_saddle_27 : decode cX9_saddle 27 = .ok (.iload_n 1, 1) := by decide +kernel
theorem dX9_saddle_28 : decode cX9_saddle 28 = .ok (.aload_n 0, 1) := by decide +kernel
theorem dX9_saddle_29 : decode cX9_saddle 29 = .ok (.getfield 54, 3) := by decide +kernel
theorem dX9_saddle_32 : decode cX9_saddle 32 = .ok (.getfield 327, 3) := by decide +kernel
theorem dX9_saddle_35 : decode cX9_saddle 35 = .ok (.if_icmp .ne 7, 3) := by decide +kernel
theorem dX9_saddle_38 : decode cX9_saddle 38 = .ok (.iconst 1, 1) := by decide +kernel
theorem dX9_saddle_39 : decode cX9_saddle 39 = .ok (.goto 4, 3) := by decide +kernel
theorem dX9_saddle_42 : decode cX9_saddle 42 = .ok (.iconst 0, 1) := by decide +kernel
theorem dX9_saddle_43 : decode cX9_saddle 43 = .ok (.ireturn, 1) := by decide +kernel
def fX9_saddle (a0 : Nat) (h : hp_T) : Option (Int32 × hp_T) := if (h.1 a0 13) = 0 then (some ((-1 : Int32), h)) else (fx_b1 (fX9_pickSafe a0 (0 : Int32) h) fun (h11 : hp_T) => fx_let (h11.1 (h11.2.2 a0 8) 3) fun (x21 : Int32) => fx_b1 (fX9_pickSafe a0 (1 : Int32) h11) fun (h24 : hp_T) => if x21 = (h24.1 (h24.2.2 a0 8) 3) then (some ((1 : Int32), h24)) else (some ((0 : Int32), h24)))
set_option maxRecDepth 100000 in
set_option maxHeartbeats 4000000 in
theorem mX9_saddle (l : Launch) (G : xr_G) (a0 : Nat) (ta0 : hp_sh a0 = (9, 0)) (h h1 : hp_T) (r : Int32) (hF : fX9_saddle a0 h = some (r, h1)) : xr_M l G yX9_saddle cX9_saddle 2 (xr_R 6 179) (some .int) [.ref (G.2.2.1 a0)] h (xr_Qi G r h1) := by
  refine xr_start rfl (Nat.le_of_ble_eq_true rfl) (fun K C => ?_)
  show xr_j l G K 2 h [(0, .ref (G.2.2.1 a0))] 0 []
  unfold fX9_saddle at hF
  refine xr_aload_n C 0 dX9_saddle_0 rfl rfl ?_
  refine xr_geti C flX9_113 rfl dX9_saddle_1 ta0 ?_
  refine xr_if_ne C 9 dX9_saddle_4 (by decide) (fun c4 => ?_) (fun c4 => ?_)
  · have hF := fx_neg hF c4
    refine xr_aload_n C 0 dX9_saddle_9 rfl rfl ?_
    refine xr_iconst (v := 0) C dX9_saddle_10 (by decide) ?_
    obtain ⟨h11, e11, hF⟩ := fx_b1E hF
    refine xr_callVv C mvX9_435 [.int (0 : Int32)] [] (mX9_pickSafe l G a0 (0 : Int32) ta0 h h11 e11) ta0 (by decide) vc9 rfl ⟨rfl, rfl, (Nat.le_of_ble_eq_true rfl), (Nat.le_of_ble_eq_true rfl)⟩ rfl (Nat.le_of_ble_eq_true rfl) dX9_saddle_11 ?_
    refine xr_aload_n C 0 dX9_saddle_14 rfl rfl ?_
    refine xr_getr C flX9_54 rfl (by decide) dX9_saddle_15 ta0 (fun t15 => ?_)
    refine xr_geti C flX9_327 rfl dX9_saddle_18 t15 ?_
    refine xr_topi (fun x21 e21 => ?_)
    have hF := fx_letE hF x21 e21
    refine xr_istore_n C [(1, .int x21), (0, .ref (G.2.2.1 a0))] dX9_saddle_21 rfl (Nat.le_of_ble_eq_true rfl) rfl ?_
    refine xr_aload_n C 1 dX9_saddle_22 rfl rfl ?_
    refine xr_iconst (v := 1) C dX9_saddle_23 (by decide) ?_
    obtain ⟨h24, e24, hF⟩ := fx_b1E hF
    refine xr_callVv C mvX9_435 [.int (1 : Int32)] [] (mX9_pickSafe l G a0 (1 : Int32) ta0 h11 h24 e24) ta0 (by decide) vc9 rfl ⟨rfl, rfl, (Nat.le_of_ble_eq_true rfl), (Nat.le_of_ble_eq_true rfl)⟩ rfl (Nat.le_of_ble_eq_true rfl) dX9_saddle_24 ?_
    refine xr_iload_n C 0 dX9_saddle_27 rfl rfl ?_
    refine xr_aload_n C 1 dX9_saddle_28 rfl rfl ?_
    refine xr_getr C flX9_54 rfl (by decide) dX9_saddle_29 ta0 (fun t29 => ?_)
    refine xr_geti C flX9_327 rfl dX9_saddle_32 t29 ?_
    refine xr_icmp_ne C 42 dX9_saddle_35 (by decide) (fun c35 => ?_) (fun c35 => ?_)
    · have hF := fx_neg hF c35
      refine xr_iconst (v := 0) C dX9_saddle_42 (by decide) ?_
      cases hF
      exact xr_iret C dX9_saddle_43
    · have hF := fx_pos hF c35
      refine xr_iconst (v := 1) C dX9_saddle_38 (by decide) ?_
      refine xr_goto C 43 dX9_saddle_39 (by decide) ?_
      cases hF
      exact xr_iret C dX9_saddle_43
  · have hF := fx_pos hF c4
    refine xr_iconst (v := -1) C dX9_saddle_7 (by decide) ?_
    cases hF
    exact xr_iret C dX9_saddle_8
theorem dX9_pickReply_0 : decode cX9_pickReply 0 = .ok (.aload_n 0, 1) := by decide +kernel
theorem dX9_pickReply_1 : decode cX9_pickReply 1 = .ok (.invokevirtual 432, 3) := by decide +kernel
theorem dX9_pickReply_4 : decode cX9_pickReply 4 = .ok (.aload_n 0, 1) := by decide +kernel
theorem dX9_pickReply_5 : decode cX9_pickReply 5 = .ok (.getfield 54, 3) := by decide +kernel
theorem dX9_pickReply_8 : decode cX9_pickReply 8 = .ok (.invokevirtual 320, 3) := by decide +kernel
theorem dX9_pickReply_11 : decode cX9_pickReply 11 = .ok (.iconst 0, 1) := by decide +kernel
theorem dX9_pickReply_12 : decode cX9_pickReply 12 = .ok (.istore_n 3, 1) := by decide +kernel
theorem dX9_pickReply_13 : decode cX9_pickReply 13 = .ok (.iload_n 3, 1) := by decide +kernel
theorem dX9_pickReply_14 : decode cX9_pickReply 14 = .ok (.bipush 6, 2) := by decide +kernel
theorem dX9_pickReply_16 : decode cX9_pickReply 16 = .ok (.if_icmp .ge 39, 3) := by decide +kernel
theorem dX9_pickReply_19 : decode cX9_pickReply 19 = .ok (.aload_n 0, 1) := by decide +kernel
theorem dX9_pickReply_20 : decode cX9_pickReply 20 = .ok (.iload_n 1, 1) := by decide +kernel
theorem dX9_pickReply_21 : decode cX9_pickReply 21 = .ok (.iload_n 3, 1) := by decide +kernel
theorem dX9_pickReply_22 : decode cX9_pickReply 22 = .ok (.iload_n 2, 1) := by decide +kernel
theorem dX9_pickReply_23 : decode cX9_pickReply 23 = .ok (.invokevirtual 455, 3) := by decide +kernel
theorem dX9_pickReply_26 : decode cX9_pickReply 26 = .ok (.istore 4, 2) := by decide +kernel
theorem dX9_pickReply_28 : decode cX9_pickReply 28 = .ok (.aload_n 0, 1) := by decide +kernel
theorem dX9_pickReply_29 : decode cX9_pickReply 29 = .ok (.getfield 54, 3) := by decide +kernel
theorem dX9_pickReply_32 : decode cX9_pickReply 32 = .ok (.iload_n 3, 1) := by decide +kernel
theorem dX9_pickReply_33 : decode cX9_pickReply 33 = .ok (.iload 4, 2) := by decide +kernel
theorem dX9_pickReply_35 : decode cX9_pickReply 35 = .ok (.iload 4, 2) := by decide +kernel
theorem dX9_pickReply_37 : decode cX9_pickReply 37 = .ok (.iload_n 1, 1) := by decide +kernel
theorem dX9_pickReply_38 : decode cX9_pickReply 38 = .ok (.ifCond .ne 7, 3) := by decide +kernel
theorem dX9_pickReply_41 : decode cX9_pickReply 41 = .ok (.iconst 1, 1) := by decide +kernel
theorem dX9_pickReply_42 : decode cX9_pickReply 42 = .ok (.goto 4, 3) := by decide +kernel
theorem dX9_pickReply_45 : decode cX9_pickReply 45 = .ok (.iconst 0, 1) := by decide +kernel
theorem dX9_pickReply_46 : decode cX9_pickReply 46 = .ok (.invokevirtual 366, 3) := by decide +kernel
theorem dX9_pickReply_49 : decode cX9_pickReply 49 = .ok (.iinc 3 1, 3) := by decide +kernel
theorem dX9_pickReply_52 : decode cX9_pickReply 52 = .ok (.goto (-39), 3) := by decide +kernel
theorem dX9_pickReply_55 : decode cX9_pickReply 55 = .ok (.return_, 1) := by decide +kernel
def fX9_pickReply_46 (k13 : Nat → Int32 → Int32 → Int32 → hp_T → Option hp_T) (a0 : Nat) (a1 : Int32) (a2 : Int32) (a3 : Int32) (s0 : Nat) (s1 : Int32) (s2 : Int32) (s3 : Int32) (s4 : Int32) (h : hp_T) : Option hp_T := fx_b1 (fX0_offer s0 s1 s2 s3 s4 h) fun (h46 : hp_T) => fx_let (a3 + (1 : Int32)) fun (x49 : Int32) => k13 a0 a1 a2 x49 h46
set_option maxRecDepth 100000 in
set_option maxHeartbeats 4000000 in
theorem bX9_pickReply_46 {l : Launch} {G : xr_G} {K : xr_K} {h1 : hp_T} (C : xr_C G K cX9_pickReply RX9 5 (xr_R 5 156) none (some (xr_Qv G h1))) (k13 : Nat → Int32 → Int32 → Int32 → hp_T → Option hp_T) (j13 : ∀ (a0 : Nat) (a1 : Int32) (a2 : Int32) (a3 : Int32) (ta0 : hp_sh a0 = (9, 0)) (h : hp_T), k13 a0 a1 a2 a3 h = some h1 → xr_j l G K 5 h [(0, .ref (G.2.2.1 a0)), (1, .int a1), (2, .int a2), (3, .int a3)] 13 []) (a0 : Nat) (a1 : Int32) (a2 : Int32) (a3 : Int32) (s0 : Nat) (s1 : Int32) (s2 : Int32) (s3 : Int32) (s4 : Int32) (ta0 : hp_sh a0 = (9, 0)) (ts0 : hp_sh s0 = (0, 0)) (h : hp_T) (hF : fX9_pickReply_46 k13 a0 a1 a2 a3 s0 s1 s2 s3 s4 h = some h1) : xr_j l G K 5 h [(0, .ref (G.2.2.1 a0)), (1, .int a1), (2, .int a2), (3, .int a3)] 46 [.int s4, .int s3, .int s2, .int s1, .ref (G.2.2.1 s0)] := by
  unfold fX9_pickReply_46 at hF
  obtain ⟨h46, e46, hF⟩ := fx_b1E hF
  refine xr_callVv C mvX9_366 [.int s1, .int s2, .int s3, .int s4] [] (mX0_offer l G s0 s1 s2 s3 s4 ts0 h h46 e46) ts0 (by decide) vc0 rfl ⟨rfl, rfl, (Nat.le_of_ble_eq_true rfl), (Nat.le_of_ble_eq_true rfl)⟩ rfl (Nat.le_of_ble_eq_true rfl) dX9_pickReply_46 ?_
  obtain ⟨x49, e49⟩ : ∃ y : Int32, y = (a3 + (1 : Int32)) := ⟨_, rfl⟩
  have hF := fx_letE hF x49 e49
  refine xr_iinc C x49 3 [(3, .int x49), (0, .ref (G.2.2.1 a0)), (1, .int a1), (2, .int a2)] dX9_pickReply_49 rfl (by rw [e49]; rfl) (Nat.le_of_ble_eq_true rfl) rfl ?_
  refine xr_goto C 13 dX9_pickReply_52 (by decide) ?_
  refine xr_sub [1, 2, 3, 0] [(0, .ref (G.2.2.1 a0)), (1, .int a1), (2, .int a2), (3, .int x49)] rfl ?_
  exact j13 a0 a1 a2 x49 ta0 h46 hF
def fX9_pickReply_13  : Nat → Nat → Int32 → Int32 → Int32 → hp_T → Option hp_T
  | 0, _, _, _, _, _ => none
  | n + 1, a0, a1, a2, a3, h => if (6 : Int32) ≤ a3 then (some h) else (fx_b2 (fX9_tableOf a0 a1 a3 a2 h) fun (r23 : Int32) (h23 : hp_T) => if a1 = 0 then (fX9_pickReply_46 (fX9_pickReply_13 n) a0 a1 a2 a3 (h23.2.2 a0 8) a3 r23 r23 (1 : Int32) h23) else (fX9_pickReply_46 (fX9_pickReply_13 n) a0 a1 a2 a3 (h23.2.2 a0 8) a3 r23 r23 (0 : Int32) h23))
set_option maxRecDepth 100000 in
set_option maxHeartbeats 4000000 in
theorem bX9_pickReply_13 {l : Launch} {G : xr_G} {K : xr_K} {h1 : hp_T} (C : xr_C G K cX9_pickReply RX9 5 (xr_R 5 156) none (some (xr_Qv G h1)))  : ∀ (n : Nat) (a0 : Nat) (a1 : Int32) (a2 : Int32) (a3 : Int32) (ta0 : hp_sh a0 = (9, 0)) (h : hp_T), fX9_pickReply_13 n a0 a1 a2 a3 h = some h1 → xr_j l G K 5 h [(0, .ref (G.2.2.1 a0)), (1, .int a1), (2, .int a2), (3, .int a3)] 13 [] := by
  intro n
  induction n with
  | zero =>
    intro a0 a1 a2 a3 ta0 h hF
    cases hF
  | succ n ih =>
    intro a0 a1 a2 a3 ta0 h hF
    rw [fX9_pickReply_13] at hF
    refine xr_iload_n C 3 dX9_pickReply_13 rfl rfl ?_
    refine xr_bipush (v := 6) C dX9_pickReply_14 (by decide) ?_
    refine xr_icmp_ge C 55 dX9_pickReply_16 (by decide) (fun c16 => ?_) (fun c16 => ?_)
    · have hF := fx_pos hF c16
      cases hF
      exact xr_vret C dX9_pickReply_55
    · have hF := fx_neg hF c16
      refine xr_aload_n C 0 dX9_pickReply_19 rfl rfl ?_
      refine xr_iload_n C 1 dX9_pickReply_20 rfl rfl ?_
      refine xr_iload_n C 3 dX9_pickReply_21 rfl rfl ?_
      refine xr_iload_n C 2 dX9_pickReply_22 rfl rfl ?_
      obtain ⟨r23, h23, e23, hF⟩ := fx_b2E hF
      refine xr_callVi C mvX9_455 [.int a1, .int a3, .int a2] [] (mX9_tableOf l G a0 a1 a3 a2 ta0 h h23 r23 e23) ta0 (by decide) vc9 rfl ⟨rfl, rfl, (Nat.le_of_ble_eq_true rfl), (Nat.le_of_ble_eq_true rfl)⟩ rfl (Nat.le_of_ble_eq_true rfl) dX9_pickReply_23 ?_
      refine xr_istore C [(4, .int r23), (0, .ref (G.2.2.1 a0)), (1, .int a1), (2, .int a2), (3, .int a3)] dX9_pickReply_26 (Nat.le_of_ble_eq_true rfl) rfl ?_
      refine xr_aload_n C 1 dX9_pickReply_28 rfl rfl ?_
      refine xr_getr C flX9_54 rfl (by decide) dX9_pickReply_29 ta0 (fun t29 => ?_)
      refine xr_iload_n C 4 dX9_pickReply_32 rfl rfl ?_
      refine xr_iload C 0 dX9_pickReply_33 rfl ?_
      refine xr_iload C 0 dX9_pickReply_35 rfl ?_
      refine xr_iload_n C 2 dX9_pickReply_37 rfl rfl ?_
      refine xr_if_ne C 45 dX9_pickReply_38 (by decide) (fun c38 => ?_) (fun c38 => ?_)
      · have hF := fx_neg hF c38
        refine xr_iconst (v := 0) C dX9_pickReply_45 (by decide) ?_
        refine xr_sub [1, 2, 3, 4] [(0, .ref (G.2.2.1 a0)), (1, .int a1), (2, .int a2), (3, .int a3)] rfl ?_
        exact bX9_pickReply_46 C (fX9_pickReply_13 n) (fun a0 a1 a2 a3 ta0 h hF => ih a0 a1 a2 a3 ta0 h hF)  a0 a1 a2 a3 (h23.2.2 a0 8) a3 r23 r23 (0 : Int32) ta0 t29 h23 hF
      · have hF := fx_pos hF c38
        refine xr_iconst (v := 1) C dX9_pickReply_41 (by decide) ?_
        refine xr_goto C 46 dX9_pickReply_42 (by decide) ?_
        refine xr_sub [1, 2, 3, 4] [(0, .ref (G.2.2.1 a0)), (1, .int a1), (2, .int a2), (3, .int a3)] rfl ?_
        exact bX9_pickReply_46 C (fX9_pickReply_13 n) (fun a0 a1 a2 a3 ta0 h hF => ih a0 a1 a2 a3 ta0 h hF)  a0 a1 a2 a3 (h23.2.2 a0 8) a3 r23 r23 (1 : Int32) ta0 t29 h23 hF
def fX9_pickReply (a0 : Nat) (a1 : Int32) (a2 : Int32) (h : hp_T) : Option hp_T := fx_b1 (fX9_knowTable a0 h) fun (h1 : hp_T) => fx_b1 (fX0_clear (h1.2.2 a0 8) h1) fun (h8 : hp_T) => fX9_pickReply_13 fx_N a0 a1 a2 (0 : Int32) h8
set_option maxRecDepth 100000 in
set_option maxHeartbeats 4000000 in
theorem mX9_pickReply (l : Launch) (G : xr_G) (a0 : Nat) (a1 : Int32) (a2 : Int32) (ta0 : hp_sh a0 = (9, 0)) (h h1 : hp_T) (hF : fX9_pickReply a0 a1 a2 h = some h1) : xr_M l G yX9_pickReply cX9_pickReply 5 (xr_R 5 156) none [.ref (G.2.2.1 a0), .int a1, .int a2] h (xr_Qv G h1) := by
  refine xr_start rfl (Nat.le_of_ble_eq_true rfl) (fun K C => ?_)
  show xr_j l G K 5 h [(0, .ref (G.2.2.1 a0)), (1, .int a1), (2, .int a2)] 0 []
  unfold fX9_pickReply at hF
  refine xr_aload_n C 0 dX9_pickReply_0 rfl rfl ?_
  obtain ⟨h1, e1, hF⟩ := fx_b1E hF
  refine xr_callVv C mvX9_432 [] [] (mX9_knowTable l G a0 ta0 h h1 e1) ta0 (by decide) vc9 rfl ⟨rfl, rfl, (Nat.le_of_ble_eq_true rfl), (Nat.le_of_ble_eq_true rfl)⟩ rfl (Nat.le_of_ble_eq_true rfl) dX9_pickReply_1 ?_
  refine xr_aload_n C 0 dX9_pickReply_4 rfl rfl ?_
  refine xr_getr C flX9_54 rfl (by decide) dX9_pickReply_5 ta0 (fun t5 => ?_)
  obtain ⟨h8, e8, hF⟩ := fx_b1E hF
  refine xr_callVv C mvX9_320 [] [] (mX0_clear l G (h1.2.2 a0 8) t5 h1 h8 e8) t5 (by decide) vc0 rfl ⟨rfl, rfl, (Nat.le_of_ble_eq_true rfl), (Nat.le_of_ble_eq_true rfl)⟩ rfl (Nat.le_of_ble_eq_true rfl) dX9_pickReply_8 ?_
  refine xr_iconst (v := 0) C dX9_pickReply_11 (by decide) ?_
  refine xr_istore_n C [(3, .int (0 : Int32)), (0, .ref (G.2.2.1 a0)), (1, .int a1), (2, .int a2)] dX9_pickReply_12 rfl (Nat.le_of_ble_eq_true rfl) rfl ?_
  refine xr_sub [1, 2, 3, 0] [(0, .ref (G.2.2.1 a0)), (1, .int a1), (2, .int a2), (3, .int (0 : Int32))] rfl ?_
  exact bX9_pickReply_13 C  fx_N a0 a1 a2 (0 : Int32) ta0 h8 hF
theorem dX9_reply_0 : decode cX9_reply 0 = .ok (.aload_n 0, 1) := by decide +kernel
theorem dX9_reply_1 : decode cX9_reply 1 = .ok (.iload_n 1, 1) := by decide +kernel
theorem dX9_reply_2 : decode cX9_reply 2 = .ok (.invokevirtual 99, 3) := by decide +kernel
theorem dX9_reply_5 : decode cX9_reply 5 = .ok (.ifCond .eq 10, 3) := by decide +kernel
theorem dX9_reply_8 : decode cX9_reply 8 = .ok (.iload_n 2, 1) := by decide +kernel
theorem dX9_reply_9 : decode cX9_reply 9 = .ok (.invokestatic 354, 3) := by decide +kernel
theorem dX9_reply_12 : decode cX9_reply 12 = .ok (.ifCond .ne 5, 3) := by decide +kernel
theorem dX9_reply_15 : decode cX9_reply 15 = .ok (.iconst (-1), 1) := by decide +kernel
theorem dX9_reply_16 : decode cX9_reply 16 = .ok (.ireturn, 1) := by decide +kernel
theorem dX9_reply_17 : decode cX9_reply 17 = .ok (.aload_n 0, 1) := by decide +kernel
theorem dX9_reply_18 : decode cX9_reply 18 = .ok (.iload_n 1, 1) := by decide +kernel
theorem dX9_reply_19 : decode cX9_reply 19 = .ok (.iload_n 2, 1) := by decide +kernel
theorem dX9_reply_20 : decode cX9_reply 20 = .ok (.invokevirtual 438, 3) := by decide +kernel
theorem dX9_reply_23 : decode cX9_reply 23 = .ok (.aload_n 0, 1) := by decide +kernel
theorem dX9_reply_24 : decode cX9_reply 24 = .ok (.getfield 54, 3) := by decide +kernel
theorem dX9_reply_27 : decode cX9_reply 27 = .ok (.getfield 330, 3) := by decide +kernel
theorem dX9_reply_30 : decode cX9_reply 30 = .ok (.ireturn, 1) := by decide +kernel
def fX9_reply (a0 : Nat) (a1 : Int32) (a2 : Int32) (h : hp_T) : Option (Int32 × hp_T) := fx_b2 (fX9_isSide a0 a1 h) fun (r2 : Int32) (h2 : hp_T) => if r2 = 0 then (some ((-1 : Int32), h2)) else (fx_b2 (fX9_isTurns a2 h2) fun (r9 : Int32) (h9 : hp_T) => if r9 = 0 then (some ((-1 : Int32), h9)) else (fx_b1 (fX9_pickReply a0 a1 a2 h9) fun (h20 : hp_T) => some ((h20.1 (h20.2.2 a0 8) 1), h20)))
set_option maxRecDepth 100000 in
set_option maxHeartbeats 4000000 in
theorem mX9_reply (l : Launch) (G : xr_G) (a0 : Nat) (a1 : Int32) (a2 : Int32) (ta0 : hp_sh a0 = (9, 0)) (h h1 : hp_T) (r : Int32) (hF : fX9_reply a0 a1 a2 h = some (r, h1)) : xr_M l G yX9_reply cX9_reply 3 (xr_R 6 180) (some .int) [.ref (G.2.2.1 a0), .int a1, .int a2] h (xr_Qi G r h1) := by
  refine xr_start rfl (Nat.le_of_ble_eq_true rfl) (fun K C => ?_)
  show xr_j l G K 3 h [(0, .ref (G.2.2.1 a0)), (1, .int a1), (2, .int a2)] 0 []
  unfold fX9_reply at hF
  refine xr_aload_n C 0 dX9_reply_0 rfl rfl ?_
  refine xr_iload_n C 1 dX9_reply_1 rfl rfl ?_
  obtain ⟨r2, h2, e2, hF⟩ := fx_b2E hF
  refine xr_callVi C mvX9_99 [.int a1] [] (mX9_isSide l G a0 a1 ta0 h h2 r2 e2) ta0 (by decide) vc9 rfl ⟨rfl, rfl, (Nat.le_of_ble_eq_true rfl), (Nat.le_of_ble_eq_true rfl)⟩ rfl (Nat.le_of_ble_eq_true rfl) dX9_reply_2 ?_
  refine xr_if_eq C 15 dX9_reply_5 (by decide) (fun c5 => ?_) (fun c5 => ?_)
  · have hF := fx_pos hF c5
    refine xr_iconst (v := -1) C dX9_reply_15 (by decide) ?_
    cases hF
    exact xr_iret C dX9_reply_16
  · have hF := fx_neg hF c5
    refine xr_iload_n C 2 dX9_reply_8 rfl rfl ?_
    obtain ⟨r9, h9, e9, hF⟩ := fx_b2E hF
    refine xr_callSi C mvX9_354 [.int a2] [] (mX9_isTurns l G a2  h2 h9 r9 e9) rfl ⟨rfl, rfl, (Nat.le_of_ble_eq_true rfl), (Nat.le_of_ble_eq_true rfl)⟩ rfl (Nat.le_of_ble_eq_true rfl) dX9_reply_9 ?_
    refine xr_if_ne C 17 dX9_reply_12 (by decide) (fun c12 => ?_) (fun c12 => ?_)
    · have hF := fx_neg hF c12
      refine xr_aload_n C 0 dX9_reply_17 rfl rfl ?_
      refine xr_iload_n C 1 dX9_reply_18 rfl rfl ?_
      refine xr_iload_n C 2 dX9_reply_19 rfl rfl ?_
      obtain ⟨h20, e20, hF⟩ := fx_b1E hF
      refine xr_callVv C mvX9_438 [.int a1, .int a2] [] (mX9_pickReply l G a0 a1 a2 ta0 h9 h20 e20) ta0 (by decide) vc9 rfl ⟨rfl, rfl, (Nat.le_of_ble_eq_true rfl), (Nat.le_of_ble_eq_true rfl)⟩ rfl (Nat.le_of_ble_eq_true rfl) dX9_reply_20 ?_
      refine xr_aload_n C 0 dX9_reply_23 rfl rfl ?_
      refine xr_getr C flX9_54 rfl (by decide) dX9_reply_24 ta0 (fun t24 => ?_)
      refine xr_geti C flX9_330 rfl dX9_reply_27 t24 ?_
      cases hF
      exact xr_iret C dX9_reply_30
    · have hF := fx_pos hF c12
      refine xr_iconst (v := -1) C dX9_reply_15 (by decide) ?_
      cases hF
      exact xr_iret C dX9_reply_16
theorem dX9_valueSwapped_0 : decode cX9_valueSwapped 0 = .ok (.aload_n 0, 1) := by decide +kernel
theorem dX9_valueSwapped_1 : decode cX9_valueSwapped 1 = .ok (.getfield 68, 3) := by decide +kernel
theorem dX9_valueSwapped_4 : decode cX9_valueSwapped 4 = .ok (.getfield 126, 3) := by decide +kernel
theorem dX9_valueSwapped_7 : decode cX9_valueSwapped 7 = .ok (.getfield 447, 3) := by decide +kernel
theorem dX9_valueSwapped_10 : decode cX9_valueSwapped 10 = .ok (.iconst 0, 1) := by decide +kernel
theorem dX9_valueSwapped_11 : decode cX9_valueSwapped 11 = .ok (.aload_n 0, 1) := by decide +kernel
theorem dX9_valueSwapped_12 : decode cX9_valueSwapped 12 = .ok (.getfield 45, 3) := by decide +kernel
theorem dX9_valueSwapped_15 : decode cX9_valueSwapped 15 = .ok (.iconst 0, 1) := by decide +kernel
theorem dX9_valueSwapped_16 : decode cX9_valueSwapped 16 = .ok (.bipush 6, 2) := by decide +kernel
theorem dX9_valueSwapped_18 : decode cX9_valueSwapped 18 = .ok (.invokestatic 422, 3) := by decide +kernel
theorem dX9_valueSwapped_21 : decode cX9_valueSwapped 21 = .ok (.aload_n 0, 1) := by decide +kernel
theorem dX9_valueSwapped_22 : decode cX9_valueSwapped 22 = .ok (.getfield 68, 3) := by decide +kernel
theorem dX9_valueSwapped_25 : decode cX9_valueSwapped 25 = .ok (.getfield 131, 3) := by decide +kernel
theorem dX9_valueSwapped_28 : decode cX9_valueSwapped 28 = .ok (.getfield 447, 3) := by decide +kernel
theorem dX9_valueSwapped_31 : decode cX9_valueSwapped 31 = .ok (.iconst 0, 1) := by decide +kernel
theorem dX9_valueSwapped_32 : decode cX9_valueSwapped 32 = .ok (.aload_n 0, 1) := by decide +kernel
theorem dX9_valueSwapped_33 : decode cX9_valueSwapped 33 = .ok (.getfield 48, 3) := by decide +kernel
theorem dX9_valueSwapped_36 : decode cX9_valueSwapped 36 = .ok (.iconst 0, 1) := by decide +kernel
theorem dX9_valueSwapped_37 : decode cX9_valueSwapped 37 = .ok (.bipush 6, 2) := by decide +kernel
theorem dX9_valueSwapped_39 : decode cX9_valueSwapped 39 = .ok (.invokestatic 422, 3) := by decide +kernel
theorem dX9_valueSwapped_42 : decode cX9_valueSwapped 42 = .ok (.aload_n 0, 1) := by decide +kernel
theorem dX9_valueSwapped_43 : decode cX9_valueSwapped 43 = .ok (.iload_n 1, 1) := by decide +kernel
theorem dX9_valueSwapped_44 : decode cX9_valueSwapped 44 = .ok (.invokevirtual 382, 3) := by decide +kernel
theorem dX9_valueSwapped_47 : decode cX9_valueSwapped 47 = .ok (.astore 4, 2) := by decide +kernel
theorem dX9_valueSwapped_49 : decode cX9_valueSwapped 49 = .ok (.aload 4, 2) := by decide +kernel
theorem dX9_valueSwapped_51 : decode cX9_valueSwapped 51 = .ok (.iload_n 2, 1) := by decide +kernel
theorem dX9_valueSwapped_52 : decode cX9_valueSwapped 52 = .ok (.iconst 1, 1) := by decide +kernel
theorem dX9_valueSwapped_53 : decode cX9_valueSwapped 53 = .ok (.isub, 1) := by decide +kernel
theorem dX9_valueSwapped_54 : decode cX9_valueSwapped 54 = .ok (.iaload, 1) := by decide +kernel
theorem dX9_valueSwapped_55 : decode cX9_valueSwapped 55 = .ok (.istore 5, 2) := by decide +kernel
theorem dX9_valueSwapped_57 : decode cX9_valueSwapped 57 = .ok (.aload 4, 2) := by decide +kernel
theorem dX9_valueSwapped_59 : decode cX9_valueSwapped 59 = .ok (.iload_n 2, 1) := by decide +kernel
theorem dX9_valueSwapped_60 : decode cX9_valueSwapped 60 = .ok (.iconst 1, 1) := by decide +kernel
theorem dX9_valueSwapped_61 : decode cX9_valueSwapped 61 = .ok (.isub, 1) := by decide +kernel
theorem dX9_valueSwapped_62 : decode cX9_valueSwapped 62 = .ok (.aload 4, 2) := by decide +kernel
theorem dX9_valueSwapped_64 : decode cX9_valueSwapped 64 = .ok (.iload_n 3, 1) := by decide +kernel
theorem dX9_valueSwapped_65 : decode cX9_valueSwapped 65 = .ok (.iconst 1, 1) := by decide +kernel
theorem dX9_valueSwapped_66 : decode cX9_valueSwapped 66 = .ok (.isub, 1) := by decide +kernel
theorem dX9_valueSwapped_67 : decode cX9_valueSwapped 67 = .ok (.iaload, 1) := by decide +kernel
theorem dX9_valueSwapped_68 : decode cX9_valueSwapped 68 = .ok (.iastore, 1) := by decide +kernel
theorem dX9_valueSwapped_69 : decode cX9_valueSwapped 69 = .ok (.aload 4, 2) := by decide +kernel
theorem dX9_valueSwapped_71 : decode cX9_valueSwapped 71 = .ok (.iload_n 3, 1) := by decide +kernel
theorem dX9_valueSwapped_72 : decode cX9_valueSwapped 72 = .ok (.iconst 1, 1) := by decide +kernel
theorem dX9_valueSwapped_73 : decode cX9_valueSwapped 73 = .ok (.isub, 1) := by decide +kernel
theorem dX9_valueSwapped_74 : decode cX9_valueSwapped 74 = .ok (.iload 5, 2) := by decide +kernel
theorem dX9_valueSwapped_76 : decode cX9_valueSwapped 76 = .ok (.iastore, 1) := by decide +kernel
theorem dX9_valueSwapped_77 : decode cX9_valueSwapped 77 = .ok (.aload_n 0, 1) := by decide +kernel
theorem dX9_valueSwapped_78 : decode cX9_valueSwapped 78 = .ok (.invokevirtual 386, 3) := by decide +kernel
theorem dX9_valueSwapped_81 : decode cX9_valueSwapped 81 = .ok (.aload_n 0, 1) := by decide +kernel
theorem dX9_valueSwapped_82 : decode cX9_valueSwapped 82 = .ok (.getfield 19, 3) := by decide +kernel
theorem dX9_valueSwapped_85 : decode cX9_valueSwapped 85 = .ok (.iconst 0, 1) := by decide +kernel
theorem dX9_valueSwapped_86 : decode cX9_valueSwapped 86 = .ok (.iconst 0, 1) := by decide +kernel
theorem dX9_valueSwapped_87 : decode cX9_valueSwapped 87 = .ok (.iconst 0, 1) := by decide +kernel
theorem dX9_valueSwapped_88 : decode cX9_valueSwapped 88 = .ok (.iconst 0, 1) := by decide +kernel
theorem dX9_valueSwapped_89 : decode cX9_valueSwapped 89 = .ok (.aload_n 0, 1) := by decide +kernel
theorem dX9_valueSwapped_90 : decode cX9_valueSwapped 90 = .ok (.getfield 68, 3) := by decide +kernel
theorem dX9_valueSwapped_93 : decode cX9_valueSwapped 93 = .ok (.getfield 450, 3) := by decide +kernel
theorem dX9_valueSwapped_96 : decode cX9_valueSwapped 96 = .ok (.invokevirtual 400, 3) := by decide +kernel
theorem dX9_valueSwapped_99 : decode cX9_valueSwapped 99 = .ok (.ireturn, 1) := by decide +kernel
def fX9_valueSwapped (a0 : Nat) (a1 : Int32) (a2 : Int32) (a3 : Int32) (h : hp_T) : Option (Int32 × hp_T) := fx_let (hp_wI h (h.2.2 a0 6) (h.1 (h.2.2 (h.2.2 (h.2.2 a0 11) 0) 4))) fun (h18 : hp_T) => fx_let (hp_wI h18 (h18.2.2 a0 7) (h18.1 (h18.2.2 (h18.2.2 (h18.2.2 a0 11) 1) 4))) fun (h39 : hp_T) => fx_b2 (fX9_trialOf a0 a1 h39) fun (r44 : Nat) (h44 : hp_T) => fx_g (fx_in (a2 - (1 : Int32)) 6) (fx_let (h44.1 r44 (fx_ix (a2 - (1 : Int32)))) fun (x55 : Int32) => fx_g (fx_in (a3 - (1 : Int32)) 6) (fx_g (fx_in (a2 - (1 : Int32)) 6) (fx_let (hp_sI h44 r44 (fx_ix (a2 - (1 : Int32))) (h44.1 r44 (fx_ix (a3 - (1 : Int32))))) fun (h68 : hp_T) => fx_g (fx_in (a3 - (1 : Int32)) 6) (fx_let (hp_sI h68 r44 (fx_ix (a3 - (1 : Int32))) x55) fun (h76 : hp_T) => fx_b1 (fX9_weighTrials a0 h76) fun (h78 : hp_T) => fx_b2 (fX4_valueOf (h78.2.2 a0 1) (0 : Int32) (0 : Int32) (0 : Int32) (0 : Int32) (h78.1 (h78.2.2 a0 11) 5) h78) fun (r96 : Int32) (h96 : hp_T) => some (r96, h96)))))
set_option maxRecDepth 100000 in
set_option maxHeartbeats 4000000 in
theorem mX9_valueSwapped (l : Launch) (G : xr_G) (a0 : Nat) (a1 : Int32) (a2 : Int32) (a3 : Int32) (ta0 : hp_sh a0 = (9, 0)) (h h1 : hp_T) (r : Int32) (hF : fX9_valueSwapped a0 a1 a2 a3 h = some (r, h1)) : xr_M l G yX9_valueSwapped cX9_valueSwapped 6 (xr_R 4 137) (some .int) [.ref (G.2.2.1 a0), .int a1, .int a2, .int a3] h (xr_Qi G r h1) := by
  refine xr_start rfl (Nat.le_of_ble_eq_true rfl) (fun K C => ?_)
  show xr_j l G K 6 h [(0, .ref (G.2.2.1 a0)), (1, .int a1), (2, .int a2), (3, .int a3)] 0 []
  unfold fX9_valueSwapped at hF
  refine xr_aload_n C 0 dX9_valueSwapped_0 rfl rfl ?_
  refine xr_getr C flX9_68 rfl (by decide) dX9_valueSwapped_1 ta0 (fun t1 => ?_)
  refine xr_getr C flX9_126 rfl (by decide) dX9_valueSwapped_4 t1 (fun t4 => ?_)
  refine xr_getr C flX9_447 rfl (by decide) dX9_valueSwapped_7 t4 (fun t7 => ?_)
  refine xr_iconst (v := 0) C dX9_valueSwapped_10 (by decide) ?_
  refine xr_aload_n C 0 dX9_valueSwapped_11 rfl rfl ?_
  refine xr_getr C flX9_45 rfl (by decide) dX9_valueSwapped_12 ta0 (fun t12 => ?_)
  refine xr_iconst (v := 0) C dX9_valueSwapped_15 (by decide) ?_
  refine xr_bipush (v := 6) C dX9_valueSwapped_16 (by decide) ?_
  refine xr_copy C cpX9_422 rfl (by decide) t7 t12 (Nat.le_of_ble_eq_true rfl) (Nat.le_of_ble_eq_true rfl) dX9_valueSwapped_18 (fun h18 e18 => ?_)
  have hF := fx_letE hF h18 e18
  refine xr_aload_n C 0 dX9_valueSwapped_21 rfl rfl ?_
  refine xr_getr C flX9_68 rfl (by decide) dX9_valueSwapped_22 ta0 (fun t22 => ?_)
  refine xr_getr C flX9_131 rfl (by decide) dX9_valueSwapped_25 t22 (fun t25 => ?_)
  refine xr_getr C flX9_447 rfl (by decide) dX9_valueSwapped_28 t25 (fun t28 => ?_)
  refine xr_iconst (v := 0) C dX9_valueSwapped_31 (by decide) ?_
  refine xr_aload_n C 0 dX9_valueSwapped_32 rfl rfl ?_
  refine xr_getr C flX9_48 rfl (by decide) dX9_valueSwapped_33 ta0 (fun t33 => ?_)
  refine xr_iconst (v := 0) C dX9_valueSwapped_36 (by decide) ?_
  refine xr_bipush (v := 6) C dX9_valueSwapped_37 (by decide) ?_
  refine xr_copy C cpX9_422 rfl (by decide) t28 t33 (Nat.le_of_ble_eq_true rfl) (Nat.le_of_ble_eq_true rfl) dX9_valueSwapped_39 (fun h39 e39 => ?_)
  have hF := fx_letE hF h39 e39
  refine xr_aload_n C 0 dX9_valueSwapped_42 rfl rfl ?_
  refine xr_iload_n C 1 dX9_valueSwapped_43 rfl rfl ?_
  obtain ⟨r44, h44, e44, hF⟩ := fx_b2E hF
  refine xr_callVr C mvX9_382 [.int a1] [] (mX9_trialOf l G a0 a1 ta0 h39 h44 r44 e44) ta0 (by decide) vc9 rfl ⟨rfl, rfl, (Nat.le_of_ble_eq_true rfl), (Nat.le_of_ble_eq_true rfl)⟩ rfl (Nat.le_of_ble_eq_true rfl) dX9_valueSwapped_44 (fun t44 => ?_)
  refine xr_astore C [(4, .ref (G.2.2.1 r44)), (0, .ref (G.2.2.1 a0)), (1, .int a1), (2, .int a2), (3, .int a3)] dX9_valueSwapped_47 (Nat.le_of_ble_eq_true rfl) rfl ?_
  refine xr_aload C 0 dX9_valueSwapped_49 rfl ?_
  refine xr_iload_n C 3 dX9_valueSwapped_51 rfl rfl ?_
  refine xr_iconst (v := 1) C dX9_valueSwapped_52 (by decide) ?_
  refine xr_isub C dX9_valueSwapped_53 ?_
  obtain ⟨g54, hF⟩ := fx_gE hF
  refine xr_iald C dX9_valueSwapped_54 t44 g54 ?_
  refine xr_topi (fun x55 e55 => ?_)
  have hF := fx_letE hF x55 e55
  refine xr_istore C [(5, .int x55), (4, .ref (G.2.2.1 r44)), (0, .ref (G.2.2.1 a0)), (1, .int a1), (2, .int a2), (3, .int a3)] dX9_valueSwapped_55 (Nat.le_of_ble_eq_true rfl) rfl ?_
  refine xr_aload C 1 dX9_valueSwapped_57 rfl ?_
  refine xr_iload_n C 4 dX9_valueSwapped_59 rfl rfl ?_
  refine xr_iconst (v := 1) C dX9_valueSwapped_60 (by decide) ?_
  refine xr_isub C dX9_valueSwapped_61 ?_
  refine xr_aload C 1 dX9_valueSwapped_62 rfl ?_
  refine xr_iload_n C 5 dX9_valueSwapped_64 rfl rfl ?_
  refine xr_iconst (v := 1) C dX9_valueSwapped_65 (by decide) ?_
  refine xr_isub C dX9_valueSwapped_66 ?_
  obtain ⟨g67, hF⟩ := fx_gE hF
  refine xr_iald C dX9_valueSwapped_67 t44 g67 ?_
  obtain ⟨g68, hF⟩ := fx_gE hF
  refine xr_iast C dX9_valueSwapped_68 t44 g68 (fun h68 e68 => ?_)
  have hF := fx_letE hF h68 e68
  refine xr_aload C 1 dX9_valueSwapped_69 rfl ?_
  refine xr_iload_n C 5 dX9_valueSwapped_71 rfl rfl ?_
  refine xr_iconst (v := 1) C dX9_valueSwapped_72 (by decide) ?_
  refine xr_isub C dX9_valueSwapped_73 ?_
  refine xr_iload C 0 dX9_valueSwapped_74 rfl ?_
  obtain ⟨g76, hF⟩ := fx_gE hF
  refine xr_iast C dX9_valueSwapped_76 t44 g76 (fun h76 e76 => ?_)
  have hF := fx_letE hF h76 e76
  refine xr_aload_n C 2 dX9_valueSwapped_77 rfl rfl ?_
  obtain ⟨h78, e78, hF⟩ := fx_b1E hF
  refine xr_callVv C mvX9_386 [] [] (mX9_weighTrials l G a0 ta0 h76 h78 e78) ta0 (by decide) vc9 rfl ⟨rfl, rfl, (Nat.le_of_ble_eq_true rfl), (Nat.le_of_ble_eq_true rfl)⟩ rfl (Nat.le_of_ble_eq_true rfl) dX9_valueSwapped_78 ?_
  refine xr_aload_n C 2 dX9_valueSwapped_81 rfl rfl ?_
  refine xr_getr C flX9_19 rfl (by decide) dX9_valueSwapped_82 ta0 (fun t82 => ?_)
  refine xr_iconst (v := 0) C dX9_valueSwapped_85 (by decide) ?_
  refine xr_iconst (v := 0) C dX9_valueSwapped_86 (by decide) ?_
  refine xr_iconst (v := 0) C dX9_valueSwapped_87 (by decide) ?_
  refine xr_iconst (v := 0) C dX9_valueSwapped_88 (by decide) ?_
  refine xr_aload_n C 2 dX9_valueSwapped_89 rfl rfl ?_
  refine xr_getr C flX9_68 rfl (by decide) dX9_valueSwapped_90 ta0 (fun t90 => ?_)
  refine xr_geti C flX9_450 rfl dX9_valueSwapped_93 t90 ?_
  obtain ⟨r96, h96, e96, hF⟩ := fx_b2E hF
  refine xr_callVi C mvX9_400 [.int (0 : Int32), .int (0 : Int32), .int (0 : Int32), .int (0 : Int32), .int (h78.1 (h78.2.2 a0 11) 5)] [] (mX4_valueOf l G (h78.2.2 a0 1) (0 : Int32) (0 : Int32) (0 : Int32) (0 : Int32) (h78.1 (h78.2.2 a0 11) 5) t82 h78 h96 r96 e96) t82 (by decide) vc4 rfl ⟨rfl, rfl, (Nat.le_of_ble_eq_true rfl), (Nat.le_of_ble_eq_true rfl)⟩ rfl (Nat.le_of_ble_eq_true rfl) dX9_valueSwapped_96 ?_
  cases hF
  exact xr_iret C dX9_valueSwapped_99
theorem dX9_ifSwapped_0 : decode cX9_ifSwapped 0 = .ok (.aload_n 0, 1) := by decide +kernel
theorem dX9_ifSwapped_1 : decode cX9_ifSwapped 1 = .ok (.iload_n 1, 1) := by decide +kernel
theorem dX9_ifSwapped_2 : decode cX9_ifSwapped 2 = .ok (.invokevirtual 99, 3) := by decide +kernel
theorem dX9_ifSwapped_5 : decode cX9_ifSwapped 5 = .ok (.ifCond .eq 22, 3) := by decide +kernel
theorem dX9_ifSwapped_8 : decode cX9_ifSwapped 8 = .ok (.iload_n 2, 1) := by decide +kernel
theorem dX9_ifSwapped_9 : decode cX9_ifSwapped 9 = .ok (.invokestatic 201, 3) := by decide +kernel
theorem dX9_ifSwapped_12 : decode cX9_ifSwapped 12 = .ok (.ifCond .eq 15, 3) := by decide +kernel
theorem dX9_ifSwapped_15 : decode cX9_ifSwapped 15 = .ok (.iload_n 3, 1) := by decide +kernel
theorem dX9_ifSwapped_16 : decode cX9_ifSwapped 16 = .ok (.invokestatic 201, 3) := by decide +kernel
theorem dX9_ifSwapped_19 : decode cX9_ifSwapped 19 = .ok (.ifCond .eq 8, 3) := by decide +kernel
theorem dX9_ifSwapped_22 : decode cX9_ifSwapped 22 = .ok (.iload_n 2, 1) := by decide +kernel
theorem dX9_ifSwapped_23 : decode cX9_ifSwapped 23 = .ok (.iload_n 3, 1) := by decide +kernel
theorem dX9_ifSwapped_24 : decode cX9_ifSwapped 24 = .ok (.if_icmp .ne 5, 3) := by decide +kernel
theorem dX9_ifSwapped_27 : decode cX9_ifSwapped 27 = .ok (.iconst (-1), 1) := by decide +kernel
theorem dX9_ifSwapped_28 : decode cX9_ifSwapped 28 = .ok (.ireturn, 1) := by decide +kernel
theorem dX9_ifSwapped_29 : decode cX9_ifSwapped 29 = .ok (.aload_n 0, 1) := by decide +kernel
theorem dX9_ifSwapped_30 : decode cX9_ifSwapped 30 = .ok (.iload_n 1, 1) := by decide +kernel
theorem dX9_ifSwapped_31 : decode cX9_ifSwapped 31 = .ok (.iload_n 2, 1) := by decide +kernel
theorem dX9_ifSwapped_32 : decode cX9_ifSwapped 32 = .ok (.iload_n 3, 1) := by decide +kernel
theorem dX9_ifSwapped_33 : decode cX9_ifSwapped 33 = .ok (.invokevirtual 441, 3) := by decide +kernel
theorem dX9_ifSwapped_36 : decode cX9_ifSwapped 36 = .ok (.ireturn, 1) := by decide +kernel
def fX9_ifSwapped (a0 : Nat) (a1 : Int32) (a2 : Int32) (a3 : Int32) (h : hp_T) : Option (Int32 × hp_T) := fx_b2 (fX9_isSide a0 a1 h) fun (r2 : Int32) (h2 : hp_T) => if r2 = 0 then (some ((-1 : Int32), h2)) else (fx_b2 (fX9_isSpot a2 h2) fun (r9 : Int32) (h9 : hp_T) => if r9 = 0 then (some ((-1 : Int32), h9)) else (fx_b2 (fX9_isSpot a3 h9) fun (r16 : Int32) (h16 : hp_T) => if r16 = 0 then (some ((-1 : Int32), h16)) else (if a2 = a3 then (some ((-1 : Int32), h16)) else (fx_b2 (fX9_valueSwapped a0 a1 a2 a3 h16) fun (r33 : Int32) (h33 : hp_T) => some (r33, h33)))))
set_option maxRecDepth 100000 in
set_option maxHeartbeats 4000000 in
theorem mX9_ifSwapped (l : Launch) (G : xr_G) (a0 : Nat) (a1 : Int32) (a2 : Int32) (a3 : Int32) (ta0 : hp_sh a0 = (9, 0)) (h h1 : hp_T) (r : Int32) (hF : fX9_ifSwapped a0 a1 a2 a3 h = some (r, h1)) : xr_M l G yX9_ifSwapped cX9_ifSwapped 4 (xr_R 5 162) (some .int) [.ref (G.2.2.1 a0), .int a1, .int a2, .int a3] h (xr_Qi G r h1) := by
  refine xr_start rfl (Nat.le_of_ble_eq_true rfl) (fun K C => ?_)
  show xr_j l G K 4 h [(0, .ref (G.2.2.1 a0)), (1, .int a1), (2, .int a2), (3, .int a3)] 0 []
  unfold fX9_ifSwapped at hF
  refine xr_aload_n C 0 dX9_ifSwapped_0 rfl rfl ?_
  refine xr_iload_n C 1 dX9_ifSwapped_1 rfl rfl ?_
  obtain ⟨r2, h2, e2, hF⟩ := fx_b2E hF
  refine xr_callVi C mvX9_99 [.int a1] [] (mX9_isSide l G a0 a1 ta0 h h2 r2 e2) ta0 (by decide) vc9 rfl ⟨rfl, rfl, (Nat.le_of_ble_eq_true rfl), (Nat.le_of_ble_eq_true rfl)⟩ rfl (Nat.le_of_ble_eq_true rfl) dX9_ifSwapped_2 ?_
  refine xr_if_eq C 27 dX9_ifSwapped_5 (by decide) (fun c5 => ?_) (fun c5 => ?_)
  · have hF := fx_pos hF c5
    refine xr_iconst (v := -1) C dX9_ifSwapped_27 (by decide) ?_
    cases hF
    exact xr_iret C dX9_ifSwapped_28
  · have hF := fx_neg hF c5
    refine xr_iload_n C 2 dX9_ifSwapped_8 rfl rfl ?_
    obtain ⟨r9, h9, e9, hF⟩ := fx_b2E hF
    refine xr_callSi C mvX9_201 [.int a2] [] (mX9_isSpot l G a2  h2 h9 r9 e9) rfl ⟨rfl, rfl, (Nat.le_of_ble_eq_true rfl), (Nat.le_of_ble_eq_true rfl)⟩ rfl (Nat.le_of_ble_eq_true rfl) dX9_ifSwapped_9 ?_
    refine xr_if_eq C 27 dX9_ifSwapped_12 (by decide) (fun c12 => ?_) (fun c12 => ?_)
    · have hF := fx_pos hF c12
      refine xr_iconst (v := -1) C dX9_ifSwapped_27 (by decide) ?_
      cases hF
      exact xr_iret C dX9_ifSwapped_28
    · have hF := fx_neg hF c12
      refine xr_iload_n C 3 dX9_ifSwapped_15 rfl rfl ?_
      obtain ⟨r16, h16, e16, hF⟩ := fx_b2E hF
      refine xr_callSi C mvX9_201 [.int a3] [] (mX9_isSpot l G a3  h9 h16 r16 e16) rfl ⟨rfl, rfl, (Nat.le_of_ble_eq_true rfl), (Nat.le_of_ble_eq_true rfl)⟩ rfl (Nat.le_of_ble_eq_true rfl) dX9_ifSwapped_16 ?_
      refine xr_if_eq C 27 dX9_ifSwapped_19 (by decide) (fun c19 => ?_) (fun c19 => ?_)
      · have hF := fx_pos hF c19
        refine xr_iconst (v := -1) C dX9_ifSwapped_27 (by decide) ?_
        cases hF
        exact xr_iret C dX9_ifSwapped_28
      · have hF := fx_neg hF c19
        refine xr_iload_n C 2 dX9_ifSwapped_22 rfl rfl ?_
        refine xr_iload_n C 3 dX9_ifSwapped_23 rfl rfl ?_
        refine xr_icmp_ne C 29 dX9_ifSwapped_24 (by decide) (fun c24 => ?_) (fun c24 => ?_)
        · have hF := fx_neg hF c24
          refine xr_aload_n C 0 dX9_ifSwapped_29 rfl rfl ?_
          refine xr_iload_n C 1 dX9_ifSwapped_30 rfl rfl ?_
          refine xr_iload_n C 2 dX9_ifSwapped_31 rfl rfl ?_
          refine xr_iload_n C 3 dX9_ifSwapped_32 rfl rfl ?_
          obtain ⟨r33, h33, e33, hF⟩ := fx_b2E hF
          refine xr_callVi C mvX9_441 [.int a1, .int a2, .int a3] [] (mX9_valueSwapped l G a0 a1 a2 a3 ta0 h16 h33 r33 e33) ta0 (by decide) vc9 rfl ⟨rfl, rfl, (Nat.le_of_ble_eq_true rfl), (Nat.le_of_ble_eq_true rfl)⟩ rfl (Nat.le_of_ble_eq_true rfl) dX9_ifSwapped_33 ?_
          cases hF
          exact xr_iret C dX9_ifSwapped_36
        · have hF := fx_pos hF c24
          refine xr_iconst (v := -1) C dX9_ifSwapped_27 (by decide) ?_
          cases hF
          exact xr_iret C dX9_ifSwapped_28
