theorem dX10_isTurn_0 : decode cX10_isTurn 0 = .ok (.aload_n 0, 1) := by decide +kernel
theorem dX10_isTurn_1 : decode cX10_isTurn 1 = .ok (.getfield 59, 3) := by decide +kernel
theorem dX10_isTurn_4 : decode cX10_isTurn 4 = .ok (.ifCond .eq 17, 3) := by decide +kernel
theorem dX10_isTurn_7 : decode cX10_isTurn 7 = .ok (.iload_n 1, 1) := by decide +kernel
theorem dX10_isTurn_8 : decode cX10_isTurn 8 = .ok (.ifCond .lt 13, 3) := by decide +kernel
theorem dX10_isTurn_11 : decode cX10_isTurn 11 = .ok (.iload_n 1, 1) := by decide +kernel
theorem dX10_isTurn_12 : decode cX10_isTurn 12 = .ok (.bipush 6, 2) := by decide +kernel
theorem dX10_isTurn_14 : decode cX10_isTurn 14 = .ok (.if_icmp .ge 7, 3) := by decide +kernel
theorem dX10_isTurn_17 : decode cX10_isTurn 17 = .ok (.iconst 1, 1) := by decide +kernel
theorem dX10_isTurn_18 : decode cX10_isTurn 18 = .ok (.goto 4, 3) := by decide +kernel
theorem dX10_isTurn_21 : decode cX10_isTurn 21 = .ok (.iconst 0, 1) := by decide +kernel
theorem dX10_isTurn_22 : decode cX10_isTurn 22 = .ok (.ireturn, 1) := by decide +kernel
def fX10_isTurn (a0 : Nat) (a1 : Int32) (h : hp_T) : Option (Int32 × hp_T) := if (h.1 a0 7) = 0 then (some ((0 : Int32), h)) else (if a1 < 0 then (some ((0 : Int32), h)) else (if (6 : Int32) ≤ a1 then (some ((0 : Int32), h)) else (some ((1 : Int32), h))))
set_option maxRecDepth 100000 in
set_option maxHeartbeats 4000000 in
theorem mX10_isTurn (l : Launch) (G : xr_G) (a0 : Nat) (a1 : Int32) (ta0 : hp_sh a0 = (10, 0)) (h h1 : hp_T) (r : Int32) (hF : fX10_isTurn a0 a1 h = some (r, h1)) : xr_M l G yX10_isTurn cX10_isTurn 2 (xr_R 0 0) (some .boolean) [.ref (G.2.2.1 a0), .int a1] h (xr_Qi G r h1) := by
  refine xr_start rfl (Nat.le_of_ble_eq_true rfl) (fun K C => ?_)
  show xr_j l G K 2 h [(0, .ref (G.2.2.1 a0)), (1, .int a1)] 0 []
  unfold fX10_isTurn at hF
  refine xr_aload_n C 0 dX10_isTurn_0 rfl rfl ?_
  refine xr_geti C flX10_59 rfl dX10_isTurn_1 ta0 ?_
  refine xr_if_eq C 21 dX10_isTurn_4 (by decide) (fun c4 => ?_) (fun c4 => ?_)
  · have hF := fx_pos hF c4
    refine xr_iconst (v := 0) C dX10_isTurn_21 (by decide) ?_
    cases hF
    exact xr_zret C rfl dX10_isTurn_22
  · have hF := fx_neg hF c4
    refine xr_iload_n C 1 dX10_isTurn_7 rfl rfl ?_
    refine xr_if_lt C 21 dX10_isTurn_8 (by decide) (fun c8 => ?_) (fun c8 => ?_)
    · have hF := fx_pos hF c8
      refine xr_iconst (v := 0) C dX10_isTurn_21 (by decide) ?_
      cases hF
      exact xr_zret C rfl dX10_isTurn_22
    · have hF := fx_neg hF c8
      refine xr_iload_n C 1 dX10_isTurn_11 rfl rfl ?_
      refine xr_bipush (v := 6) C dX10_isTurn_12 (by decide) ?_
      refine xr_icmp_ge C 21 dX10_isTurn_14 (by decide) (fun c14 => ?_) (fun c14 => ?_)
      · have hF := fx_pos hF c14
        refine xr_iconst (v := 0) C dX10_isTurn_21 (by decide) ?_
        cases hF
        exact xr_zret C rfl dX10_isTurn_22
      · have hF := fx_neg hF c14
        refine xr_iconst (v := 1) C dX10_isTurn_17 (by decide) ?_
        refine xr_goto C 22 dX10_isTurn_18 (by decide) ?_
        cases hF
        exact xr_zret C rfl dX10_isTurn_22
theorem dX10_chanceAt_0 : decode cX10_chanceAt 0 = .ok (.aload_n 0, 1) := by decide +kernel
theorem dX10_chanceAt_1 : decode cX10_chanceAt 1 = .ok (.iconst 0, 1) := by decide +kernel
theorem dX10_chanceAt_2 : decode cX10_chanceAt 2 = .ok (.putfield 63, 3) := by decide +kernel
theorem dX10_chanceAt_5 : decode cX10_chanceAt 5 = .ok (.aload_n 0, 1) := by decide +kernel
theorem dX10_chanceAt_6 : decode cX10_chanceAt 6 = .ok (.iload_n 1, 1) := by decide +kernel
theorem dX10_chanceAt_7 : decode cX10_chanceAt 7 = .ok (.invokevirtual 259, 3) := by decide +kernel
theorem dX10_chanceAt_10 : decode cX10_chanceAt 10 = .ok (.ifCond .eq 19, 3) := by decide +kernel
theorem dX10_chanceAt_13 : decode cX10_chanceAt 13 = .ok (.aload_n 0, 1) := by decide +kernel
theorem dX10_chanceAt_14 : decode cX10_chanceAt 14 = .ok (.iload_n 2, 1) := by decide +kernel
theorem dX10_chanceAt_15 : decode cX10_chanceAt 15 = .ok (.invokevirtual 259, 3) := by decide +kernel
theorem dX10_chanceAt_18 : decode cX10_chanceAt 18 = .ok (.ifCond .eq 11, 3) := by decide +kernel
theorem dX10_chanceAt_21 : decode cX10_chanceAt 21 = .ok (.aload_n 0, 1) := by decide +kernel
theorem dX10_chanceAt_22 : decode cX10_chanceAt 22 = .ok (.iload_n 3, 1) := by decide +kernel
theorem dX10_chanceAt_23 : decode cX10_chanceAt 23 = .ok (.invokevirtual 180, 3) := by decide +kernel
theorem dX10_chanceAt_26 : decode cX10_chanceAt 26 = .ok (.ifCond .ne 5, 3) := by decide +kernel
theorem dX10_chanceAt_29 : decode cX10_chanceAt 29 = .ok (.iconst (-1), 1) := by decide +kernel
theorem dX10_chanceAt_30 : decode cX10_chanceAt 30 = .ok (.ireturn, 1) := by decide +kernel
theorem dX10_chanceAt_31 : decode cX10_chanceAt 31 = .ok (.aload_n 0, 1) := by decide +kernel
theorem dX10_chanceAt_32 : decode cX10_chanceAt 32 = .ok (.invokevirtual 262, 3) := by decide +kernel
theorem dX10_chanceAt_35 : decode cX10_chanceAt 35 = .ok (.aload_n 0, 1) := by decide +kernel
theorem dX10_chanceAt_36 : decode cX10_chanceAt 36 = .ok (.iload_n 1, 1) := by decide +kernel
theorem dX10_chanceAt_37 : decode cX10_chanceAt 37 = .ok (.iload_n 2, 1) := by decide +kernel
theorem dX10_chanceAt_38 : decode cX10_chanceAt 38 = .ok (.iload_n 3, 1) := by decide +kernel
theorem dX10_chanceAt_39 : decode cX10_chanceAt 39 = .ok (.invokevirtual 256, 3) := by decide +kernel
theorem dX10_chanceAt_42 : decode cX10_chanceAt 42 = .ok (.ireturn, 1) := by decide +kernel
def fX10_chanceAt (a0 : Nat) (a1 : Int32) (a2 : Int32) (a3 : Int32) (h : hp_T) : Option (Int32 × hp_T) := fx_let (hp_sI h a0 0 (0 : Int32)) fun (h2 : hp_T) => fx_b2 (fX10_isTurn a0 a1 h2) fun (r7 : Int32) (h7 : hp_T) => if r7 = 0 then (some ((-1 : Int32), h7)) else (fx_b2 (fX10_isTurn a0 a2 h7) fun (r15 : Int32) (h15 : hp_T) => if r15 = 0 then (some ((-1 : Int32), h15)) else (fx_b2 (fX10_isSide a0 a3 h15) fun (r23 : Int32) (h23 : hp_T) => if r23 = 0 then (some ((-1 : Int32), h23)) else (fx_b1 (fX10_takesLines a0 h23) fun (h32 : hp_T) => fx_b2 (fX10_chanceOf a0 a1 a2 a3 h32) fun (r39 : Int32) (h39 : hp_T) => some (r39, h39))))
set_option maxRecDepth 100000 in
set_option maxHeartbeats 4000000 in
theorem mX10_chanceAt (l : Launch) (G : xr_G) (a0 : Nat) (a1 : Int32) (a2 : Int32) (a3 : Int32) (ta0 : hp_sh a0 = (10, 0)) (h h1 : hp_T) (r : Int32) (hF : fX10_chanceAt a0 a1 a2 a3 h = some (r, h1)) : xr_M l G yX10_chanceAt cX10_chanceAt 4 (xr_R 4 97) (some .int) [.ref (G.2.2.1 a0), .int a1, .int a2, .int a3] h (xr_Qi G r h1) := by
  refine xr_start rfl (Nat.le_of_ble_eq_true rfl) (fun K C => ?_)
  show xr_j l G K 4 h [(0, .ref (G.2.2.1 a0)), (1, .int a1), (2, .int a2), (3, .int a3)] 0 []
  unfold fX10_chanceAt at hF
  refine xr_aload_n C 0 dX10_chanceAt_0 rfl rfl ?_
  refine xr_iconst (v := 0) C dX10_chanceAt_1 (by decide) ?_
  refine xr_puti C fpX10_63 rfl rfl rfl dX10_chanceAt_2 ta0 (fun h2 e2 => ?_)
  have hF := fx_letE hF h2 e2
  refine xr_aload_n C 0 dX10_chanceAt_5 rfl rfl ?_
  refine xr_iload_n C 1 dX10_chanceAt_6 rfl rfl ?_
  obtain ⟨r7, h7, e7, hF⟩ := fx_b2E hF
  refine xr_callVi C mvX10_259 [.int a1] [] (mX10_isTurn l G a0 a1 ta0 h2 h7 r7 e7) ta0 (by decide) vc10 rfl ⟨rfl, rfl, (Nat.le_of_ble_eq_true rfl), (Nat.le_of_ble_eq_true rfl)⟩ rfl (Nat.le_of_ble_eq_true rfl) dX10_chanceAt_7 ?_
  refine xr_if_eq C 29 dX10_chanceAt_10 (by decide) (fun c10 => ?_) (fun c10 => ?_)
  · have hF := fx_pos hF c10
    refine xr_iconst (v := -1) C dX10_chanceAt_29 (by decide) ?_
    cases hF
    exact xr_iret C dX10_chanceAt_30
  · have hF := fx_neg hF c10
    refine xr_aload_n C 0 dX10_chanceAt_13 rfl rfl ?_
    refine xr_iload_n C 2 dX10_chanceAt_14 rfl rfl ?_
    obtain ⟨r15, h15, e15, hF⟩ := fx_b2E hF
    refine xr_callVi C mvX10_259 [.int a2] [] (mX10_isTurn l G a0 a2 ta0 h7 h15 r15 e15) ta0 (by decide) vc10 rfl ⟨rfl, rfl, (Nat.le_of_ble_eq_true rfl), (Nat.le_of_ble_eq_true rfl)⟩ rfl (Nat.le_of_ble_eq_true rfl) dX10_chanceAt_15 ?_
    refine xr_if_eq C 29 dX10_chanceAt_18 (by decide) (fun c18 => ?_) (fun c18 => ?_)
    · have hF := fx_pos hF c18
      refine xr_iconst (v := -1) C dX10_chanceAt_29 (by decide) ?_
      cases hF
      exact xr_iret C dX10_chanceAt_30
    · have hF := fx_neg hF c18
      refine xr_aload_n C 0 dX10_chanceAt_21 rfl rfl ?_
      refine xr_iload_n C 3 dX10_chanceAt_22 rfl rfl ?_
      obtain ⟨r23, h23, e23, hF⟩ := fx_b2E hF
      refine xr_callVi C mvX10_180 [.int a3] [] (mX10_isSide l G a0 a3 ta0 h15 h23 r23 e23) ta0 (by decide) vc10 rfl ⟨rfl, rfl, (Nat.le_of_ble_eq_true rfl), (Nat.le_of_ble_eq_true rfl)⟩ rfl (Nat.le_of_ble_eq_true rfl) dX10_chanceAt_23 ?_
      refine xr_if_ne C 31 dX10_chanceAt_26 (by decide) (fun c26 => ?_) (fun c26 => ?_)
      · have hF := fx_neg hF c26
        refine xr_aload_n C 0 dX10_chanceAt_31 rfl rfl ?_
        obtain ⟨h32, e32, hF⟩ := fx_b1E hF
        refine xr_callVv C mvX10_262 [] [] (mX10_takesLines l G a0 ta0 h23 h32 e32) ta0 (by decide) vc10 rfl ⟨rfl, rfl, (Nat.le_of_ble_eq_true rfl), (Nat.le_of_ble_eq_true rfl)⟩ rfl (Nat.le_of_ble_eq_true rfl) dX10_chanceAt_32 ?_
        refine xr_aload_n C 0 dX10_chanceAt_35 rfl rfl ?_
        refine xr_iload_n C 1 dX10_chanceAt_36 rfl rfl ?_
        refine xr_iload_n C 2 dX10_chanceAt_37 rfl rfl ?_
        refine xr_iload_n C 3 dX10_chanceAt_38 rfl rfl ?_
        obtain ⟨r39, h39, e39, hF⟩ := fx_b2E hF
        refine xr_callVi C mvX10_256 [.int a1, .int a2, .int a3] [] (mX10_chanceOf l G a0 a1 a2 a3 ta0 h32 h39 r39 e39) ta0 (by decide) vc10 rfl ⟨rfl, rfl, (Nat.le_of_ble_eq_true rfl), (Nat.le_of_ble_eq_true rfl)⟩ rfl (Nat.le_of_ble_eq_true rfl) dX10_chanceAt_39 ?_
        cases hF
        exact xr_iret C dX10_chanceAt_42
      · have hF := fx_pos hF c26
        refine xr_iconst (v := -1) C dX10_chanceAt_29 (by decide) ?_
        cases hF
        exact xr_iret C dX10_chanceAt_30
theorem dX10_at_0 : decode cX10_at 0 = .ok (.bipush 72, 2) := by decide +kernel
theorem dX10_at_2 : decode cX10_at 2 = .ok (.bipush 26, 2) := by decide +kernel
theorem dX10_at_4 : decode cX10_at 4 = .ok (.iload_n 0, 1) := by decide +kernel
theorem dX10_at_5 : decode cX10_at 5 = .ok (.imul, 1) := by decide +kernel
theorem dX10_at_6 : decode cX10_at 6 = .ok (.iload_n 1, 1) := by decide +kernel
theorem dX10_at_7 : decode cX10_at 7 = .ok (.iadd, 1) := by decide +kernel
theorem dX10_at_8 : decode cX10_at 8 = .ok (.imul, 1) := by decide +kernel
theorem dX10_at_9 : decode cX10_at 9 = .ok (.bipush 12, 2) := by decide +kernel
theorem dX10_at_11 : decode cX10_at 11 = .ok (.iload_n 2, 1) := by decide +kernel
theorem dX10_at_12 : decode cX10_at 12 = .ok (.imul, 1) := by decide +kernel
theorem dX10_at_13 : decode cX10_at 13 = .ok (.iadd, 1) := by decide +kernel
theorem dX10_at_14 : decode cX10_at 14 = .ok (.iconst 2, 1) := by decide +kernel
theorem dX10_at_15 : decode cX10_at 15 = .ok (.iload_n 3, 1) := by decide +kernel
theorem dX10_at_16 : decode cX10_at 16 = .ok (.imul, 1) := by decide +kernel
theorem dX10_at_17 : decode cX10_at 17 = .ok (.iadd, 1) := by decide +kernel
theorem dX10_at_18 : decode cX10_at 18 = .ok (.iload 4, 2) := by decide +kernel
theorem dX10_at_20 : decode cX10_at 20 = .ok (.iadd, 1) := by decide +kernel
theorem dX10_at_21 : decode cX10_at 21 = .ok (.ireturn, 1) := by decide +kernel
def fX10_at (a0 : Int32) (a1 : Int32) (a2 : Int32) (a3 : Int32) (a4 : Int32) (h : hp_T) : Option (Int32 × hp_T) := some ((((((72 : Int32) * (((26 : Int32) * a0) + a1)) + ((12 : Int32) * a2)) + ((2 : Int32) * a3)) + a4), h)
set_option maxRecDepth 100000 in
set_option maxHeartbeats 4000000 in
theorem mX10_at (l : Launch) (G : xr_G) (a0 : Int32) (a1 : Int32) (a2 : Int32) (a3 : Int32) (a4 : Int32)  (h h1 : hp_T) (r : Int32) (hF : fX10_at a0 a1 a2 a3 a4 h = some (r, h1)) : xr_M l G yX10_at cX10_at 5 (xr_R 0 0) (some .int) [.int a0, .int a1, .int a2, .int a3, .int a4] h (xr_Qi G r h1) := by
  refine xr_start rfl (Nat.le_of_ble_eq_true rfl) (fun K C => ?_)
  show xr_j l G K 5 h [(0, .int a0), (1, .int a1), (2, .int a2), (3, .int a3), (4, .int a4)] 0 []
  unfold fX10_at at hF
  refine xr_bipush (v := 72) C dX10_at_0 (by decide) ?_
  refine xr_bipush (v := 26) C dX10_at_2 (by decide) ?_
  refine xr_iload_n C 0 dX10_at_4 rfl rfl ?_
  refine xr_imul C dX10_at_5 ?_
  refine xr_iload_n C 1 dX10_at_6 rfl rfl ?_
  refine xr_iadd C dX10_at_7 ?_
  refine xr_imul C dX10_at_8 ?_
  refine xr_bipush (v := 12) C dX10_at_9 (by decide) ?_
  refine xr_iload_n C 2 dX10_at_11 rfl rfl ?_
  refine xr_imul C dX10_at_12 ?_
  refine xr_iadd C dX10_at_13 ?_
  refine xr_iconst (v := 2) C dX10_at_14 (by decide) ?_
  refine xr_iload_n C 3 dX10_at_15 rfl rfl ?_
  refine xr_imul C dX10_at_16 ?_
  refine xr_iadd C dX10_at_17 ?_
  refine xr_iload C 4 dX10_at_18 rfl ?_
  refine xr_iadd C dX10_at_20 ?_
  cases hF
  exact xr_iret C dX10_at_21
theorem dX10_valueBy_0 : decode cX10_valueBy 0 = .ok (.aload_n 0, 1) := by decide +kernel
theorem dX10_valueBy_1 : decode cX10_valueBy 1 = .ok (.getfield 52, 3) := by decide +kernel
theorem dX10_valueBy_4 : decode cX10_valueBy 4 = .ok (.bipush 12, 2) := by decide +kernel
theorem dX10_valueBy_6 : decode cX10_valueBy 6 = .ok (.iload_n 3, 1) := by decide +kernel
theorem dX10_valueBy_7 : decode cX10_valueBy 7 = .ok (.imul, 1) := by decide +kernel
theorem dX10_valueBy_8 : decode cX10_valueBy 8 = .ok (.iconst 2, 1) := by decide +kernel
theorem dX10_valueBy_9 : decode cX10_valueBy 9 = .ok (.iload 4, 2) := by decide +kernel
theorem dX10_valueBy_11 : decode cX10_valueBy 11 = .ok (.imul, 1) := by decide +kernel
theorem dX10_valueBy_12 : decode cX10_valueBy 12 = .ok (.iadd, 1) := by decide +kernel
theorem dX10_valueBy_13 : decode cX10_valueBy 13 = .ok (.iload 5, 2) := by decide +kernel
theorem dX10_valueBy_15 : decode cX10_valueBy 15 = .ok (.iadd, 1) := by decide +kernel
theorem dX10_valueBy_16 : decode cX10_valueBy 16 = .ok (.iaload, 1) := by decide +kernel
theorem dX10_valueBy_17 : decode cX10_valueBy 17 = .ok (.i2l, 1) := by decide +kernel
theorem dX10_valueBy_18 : decode cX10_valueBy 18 = .ok (.lstore 6, 2) := by decide +kernel
theorem dX10_valueBy_20 : decode cX10_valueBy 20 = .ok (.iload 5, 2) := by decide +kernel
theorem dX10_valueBy_22 : decode cX10_valueBy 22 = .ok (.ifCond .ne 23, 3) := by decide +kernel
theorem dX10_valueBy_25 : decode cX10_valueBy 25 = .ok (.aload_n 0, 1) := by decide +kernel
theorem dX10_valueBy_26 : decode cX10_valueBy 26 = .ok (.getfield 49, 3) := by decide +kernel
theorem dX10_valueBy_29 : decode cX10_valueBy 29 = .ok (.iload_n 1, 1) := by decide +kernel
theorem dX10_valueBy_30 : decode cX10_valueBy 30 = .ok (.iconst 1, 1) := by decide +kernel
theorem dX10_valueBy_31 : decode cX10_valueBy 31 = .ok (.iadd, 1) := by decide +kernel
theorem dX10_valueBy_32 : decode cX10_valueBy 32 = .ok (.iload_n 2, 1) := by decide +kernel
theorem dX10_valueBy_33 : decode cX10_valueBy 33 = .ok (.iload_n 3, 1) := by decide +kernel
theorem dX10_valueBy_34 : decode cX10_valueBy 34 = .ok (.iload 4, 2) := by decide +kernel
theorem dX10_valueBy_36 : decode cX10_valueBy 36 = .ok (.iconst 0, 1) := by decide +kernel
theorem dX10_valueBy_37 : decode cX10_valueBy 37 = .ok (.invokestatic 270, 3) := by decide +kernel
theorem dX10_valueBy_40 : decode cX10_valueBy 40 = .ok (.iaload, 1) := by decide +kernel
theorem dX10_valueBy_41 : decode cX10_valueBy 41 = .ok (.i2l, 1) := by decide +kernel
theorem dX10_valueBy_42 : decode cX10_valueBy 42 = .ok (.goto 20, 3) := by decide +kernel
theorem dX10_valueBy_45 : decode cX10_valueBy 45 = .ok (.aload_n 0, 1) := by decide +kernel
theorem dX10_valueBy_46 : decode cX10_valueBy 46 = .ok (.getfield 49, 3) := by decide +kernel
theorem dX10_valueBy_49 : decode cX10_valueBy 49 = .ok (.iload_n 1, 1) := by decide +kernel
theorem dX10_valueBy_50 : decode cX10_valueBy 50 = .ok (.iload_n 2, 1) := by decide +kernel
theorem dX10_valueBy_51 : decode cX10_valueBy 51 = .ok (.iconst 1, 1) := by decide +kernel
theorem dX10_valueBy_52 : decode cX10_valueBy 52 = .ok (.iadd, 1) := by decide +kernel
theorem dX10_valueBy_53 : decode cX10_valueBy 53 = .ok (.iload_n 3, 1) := by decide +kernel
theorem dX10_valueBy_54 : decode cX10_valueBy 54 = .ok (.iload 4, 2) := by decide +kernel
theorem dX10_valueBy_56 : decode cX10_valueBy 56 = .ok (.iconst 1, 1) := by decide +kernel
theorem dX10_valueBy_57 : decode cX10_valueBy 57 = .ok (.invokestatic 270, 3) := by decide +kernel
theorem dX10_valueBy_60 : decode cX10_valueBy 60 = .ok (.iaload, 1) := by decide +kernel
theorem dX10_valueBy_61 : decode cX10_valueBy 61 = .ok (.i2l, 1) := by decide +kernel
theorem dX10_valueBy_62 : decode cX10_valueBy 62 = .ok (.lstore 8, 2) := by decide +kernel
theorem dX10_valueBy_64 : decode cX10_valueBy 64 = .ok (.iload 5, 2) := by decide +kernel
theorem dX10_valueBy_66 : decode cX10_valueBy 66 = .ok (.ifCond .ne 28, 3) := by decide +kernel
theorem dX10_valueBy_69 : decode cX10_valueBy 69 = .ok (.aload_n 0, 1) := by decide +kernel
theorem dX10_valueBy_70 : decode cX10_valueBy 70 = .ok (.getfield 49, 3) := by decide +kernel
theorem dX10_valueBy_73 : decode cX10_valueBy 73 = .ok (.iload_n 1, 1) := by decide +kernel
theorem dX10_valueBy_74 : decode cX10_valueBy 74 = .ok (.iload_n 2, 1) := by decide +kernel
theorem dX10_valueBy_75 : decode cX10_valueBy 75 = .ok (.iconst 1, 1) := by decide +kernel
theorem dX10_valueBy_76 : decode cX10_valueBy 76 = .ok (.iadd, 1) := by decide +kernel
theorem dX10_valueBy_77 : decode cX10_valueBy 77 = .ok (.iload_n 3, 1) := by decide +kernel
theorem dX10_valueBy_78 : decode cX10_valueBy 78 = .ok (.iload 4, 2) := by decide +kernel
theorem dX10_valueBy_80 : decode cX10_valueBy 80 = .ok (.iconst 1, 1) := by decide +kernel
theorem dX10_valueBy_81 : decode cX10_valueBy 81 = .ok (.iadd, 1) := by decide +kernel
theorem dX10_valueBy_82 : decode cX10_valueBy 82 = .ok (.bipush 6, 2) := by decide +kernel
theorem dX10_valueBy_84 : decode cX10_valueBy 84 = .ok (.irem, 1) := by decide +kernel
theorem dX10_valueBy_85 : decode cX10_valueBy 85 = .ok (.iconst 1, 1) := by decide +kernel
theorem dX10_valueBy_86 : decode cX10_valueBy 86 = .ok (.invokestatic 270, 3) := by decide +kernel
theorem dX10_valueBy_89 : decode cX10_valueBy 89 = .ok (.iaload, 1) := by decide +kernel
theorem dX10_valueBy_90 : decode cX10_valueBy 90 = .ok (.i2l, 1) := by decide +kernel
theorem dX10_valueBy_91 : decode cX10_valueBy 91 = .ok (.goto 25, 3) := by decide +kernel
theorem dX10_valueBy_94 : decode cX10_valueBy 94 = .ok (.aload_n 0, 1) := by decide +kernel
theorem dX10_valueBy_95 : decode cX10_valueBy 95 = .ok (.getfield 49, 3) := by decide +kernel
theorem dX10_valueBy_98 : decode cX10_valueBy 98 = .ok (.iload_n 1, 1) := by decide +kernel
theorem dX10_valueBy_99 : decode cX10_valueBy 99 = .ok (.iconst 1, 1) := by decide +kernel
theorem dX10_valueBy_100 : decode cX10_valueBy 100 = .ok (.iadd, 1) := by decide +kernel
theorem dX10_valueBy_101 : decode cX10_valueBy 101 = .ok (.iload_n 2, 1) := by decide +kernel
theorem dX10_valueBy_102 : decode cX10_valueBy 102 = .ok (.iload_n 3, 1) := by decide +kernel
theorem dX10_valueBy_103 : decode cX10_valueBy 103 = .ok (.iconst 1, 1) := by decide +kernel
theorem dX10_valueBy_104 : decode cX10_valueBy 104 = .ok (.iadd, 1) := by decide +kernel
theorem dX10_valueBy_105 : decode cX10_valueBy 105 = .ok (.bipush 6, 2) := by decide +kernel
theorem dX10_valueBy_107 : decode cX10_valueBy 107 = .ok (.irem, 1) := by decide +kernel
theorem dX10_valueBy_108 : decode cX10_valueBy 108 = .ok (.iload 4, 2) := by decide +kernel
theorem dX10_valueBy_110 : decode cX10_valueBy 110 = .ok (.iconst 0, 1) := by decide +kernel
theorem dX10_valueBy_111 : decode cX10_valueBy 111 = .ok (.invokestatic 270, 3) := by decide +kernel
theorem dX10_valueBy_114 : decode cX10_valueBy 114 = .ok (.iaload, 1) := by decide +kernel
theorem dX10_valueBy_115 : decode cX10_valueBy 115 = .ok (.i2l, 1) := by decide +kernel
theorem dX10_valueBy_116 : decode cX10_valueBy 116 = .ok (.lstore 10, 2) := by decide +kernel
theorem dX10_valueBy_118 : decode cX10_valueBy 118 = .ok (.lload 6, 2) := by decide +kernel
theorem dX10_valueBy_120 : decode cX10_valueBy 120 = .ok (.lload 8, 2) := by decide +kernel
theorem dX10_valueBy_122 : decode cX10_valueBy 122 = .ok (.lmul, 1) := by decide +kernel
theorem dX10_valueBy_123 : decode cX10_valueBy 123 = .ok (.ldc2_w 272, 3) := by decide +kernel
theorem dX10_valueBy_126 : decode cX10_valueBy 126 = .ok (.lload 6, 2) := by decide +kernel
theorem dX10_valueBy_128 : decode cX10_valueBy 128 = .ok (.lsub, 1) := by decide +kernel
theorem dX10_valueBy_129 : decode cX10_valueBy 129 = .ok (.lload 10, 2) := by decide +kernel
theorem dX10_valueBy_131 : decode cX10_valueBy 131 = .ok (.lmul, 1) := by decide +kernel
theorem dX10_valueBy_132 : decode cX10_valueBy 132 = .ok (.ladd, 1) := by decide +kernel
theorem dX10_valueBy_133 : decode cX10_valueBy 133 = .ok (.ldc2_w 272, 3) := by decide +kernel
theorem dX10_valueBy_136 : decode cX10_valueBy 136 = .ok (.ldiv, 1) := by decide +kernel
theorem dX10_valueBy_137 : decode cX10_valueBy 137 = .ok (.l2i, 1) := by decide +kernel
theorem dX10_valueBy_138 : decode cX10_valueBy 138 = .ok (.ireturn, 1) := by decide +kernel
def fX10_valueBy_116  (a6 : Int64) (a8 : Int64) (s0 : Int64) (h : hp_T) : Option (Int32 × hp_T) := some ((Int64.toInt32 (((a6 * a8) + (((1000 : Int64) - a6) * s0)) / (1000 : Int64))), h)
set_option maxRecDepth 100000 in
set_option maxHeartbeats 4000000 in
theorem bX10_valueBy_116 {l : Launch} {G : xr_G} {K : xr_K} {r : Int32} {h1 : hp_T} (C : xr_C G K cX10_valueBy RX10 12 (xr_R 1 24) (some .int) (some (xr_Qi G r h1)))  (a6 : Int64) (a8 : Int64) (s0 : Int64) (h : hp_T) (hF : fX10_valueBy_116 a6 a8 s0 h = some (r, h1)) : xr_j l G K 12 h [(6, .long a6), (8, .long a8)] 116 [.long s0] := by
  unfold fX10_valueBy_116 at hF
  refine xr_lstore C [(10, .long s0), (6, .long a6), (8, .long a8)] dX10_valueBy_116 (Nat.le_of_ble_eq_true rfl) rfl ?_
  refine xr_lload C 1 dX10_valueBy_118 rfl ?_
  refine xr_lload C 2 dX10_valueBy_120 rfl ?_
  refine xr_lmul C dX10_valueBy_122 ?_
  refine xr_ldc2 C klX10_272 dX10_valueBy_123 ?_
  refine xr_lload C 1 dX10_valueBy_126 rfl ?_
  refine xr_lsub C dX10_valueBy_128 ?_
  refine xr_lload C 0 dX10_valueBy_129 rfl ?_
  refine xr_lmul C dX10_valueBy_131 ?_
  refine xr_ladd C dX10_valueBy_132 ?_
  refine xr_ldc2 C klX10_272 dX10_valueBy_133 ?_
  refine xr_ldiv C dX10_valueBy_136 (by decide) ?_
  refine xr_l2i C dX10_valueBy_137 ?_
  cases hF
  exact xr_iret C dX10_valueBy_138
def fX10_valueBy_62  (a0 : Nat) (a1 : Int32) (a2 : Int32) (a3 : Int32) (a4 : Int32) (a5 : Int32) (a6 : Int64) (s0 : Int64) (h : hp_T) : Option (Int32 × hp_T) := if a5 = 0 then (fx_b2 (fX10_at a1 (a2 + (1 : Int32)) a3 (fx_rem (a4 + (1 : Int32)) (6 : Int32)) (1 : Int32) h) fun (r86 : Int32) (h86 : hp_T) => fx_g (fx_in r86 48672) (fX10_valueBy_116 a6 s0 (Int32.toInt64 (h86.1 (h.2.2 a0 25) (fx_ix r86))) h86)) else (fx_b2 (fX10_at (a1 + (1 : Int32)) a2 (fx_rem (a3 + (1 : Int32)) (6 : Int32)) a4 (0 : Int32) h) fun (r111 : Int32) (h111 : hp_T) => fx_g (fx_in r111 48672) (fX10_valueBy_116 a6 s0 (Int32.toInt64 (h111.1 (h.2.2 a0 25) (fx_ix r111))) h111))
set_option maxRecDepth 100000 in
set_option maxHeartbeats 4000000 in
theorem bX10_valueBy_62 {l : Launch} {G : xr_G} {K : xr_K} {r : Int32} {h1 : hp_T} (C : xr_C G K cX10_valueBy RX10 12 (xr_R 1 24) (some .int) (some (xr_Qi G r h1)))  (a0 : Nat) (a1 : Int32) (a2 : Int32) (a3 : Int32) (a4 : Int32) (a5 : Int32) (a6 : Int64) (s0 : Int64) (ta0 : hp_sh a0 = (10, 0)) (h : hp_T) (hF : fX10_valueBy_62 a0 a1 a2 a3 a4 a5 a6 s0 h = some (r, h1)) : xr_j l G K 12 h [(0, .ref (G.2.2.1 a0)), (1, .int a1), (2, .int a2), (3, .int a3), (4, .int a4), (5, .int a5), (6, .long a6)] 62 [.long s0] := by
  unfold fX10_valueBy_62 at hF
  refine xr_lstore C [(8, .long s0), (0, .ref (G.2.2.1 a0)), (1, .int a1), (2, .int a2), (3, .int a3), (4, .int a4), (5, .int a5), (6, .long a6)] dX10_valueBy_62 (Nat.le_of_ble_eq_true rfl) rfl ?_
  refine xr_iload C 6 dX10_valueBy_64 rfl ?_
  refine xr_if_ne C 94 dX10_valueBy_66 (by decide) (fun c66 => ?_) (fun c66 => ?_)
  · have hF := fx_neg hF c66
    refine xr_aload_n C 1 dX10_valueBy_94 rfl rfl ?_
    refine xr_getr C flX10_49 rfl (by decide) dX10_valueBy_95 ta0 (fun t95 => ?_)
    refine xr_iload_n C 2 dX10_valueBy_98 rfl rfl ?_
    refine xr_iconst (v := 1) C dX10_valueBy_99 (by decide) ?_
    refine xr_iadd C dX10_valueBy_100 ?_
    refine xr_iload_n C 3 dX10_valueBy_101 rfl rfl ?_
    refine xr_iload_n C 4 dX10_valueBy_102 rfl rfl ?_
    refine xr_iconst (v := 1) C dX10_valueBy_103 (by decide) ?_
    refine xr_iadd C dX10_valueBy_104 ?_
    refine xr_bipush (v := 6) C dX10_valueBy_105 (by decide) ?_
    refine xr_irem C dX10_valueBy_107 (by decide) ?_
    refine xr_iload C 5 dX10_valueBy_108 rfl ?_
    refine xr_iconst (v := 0) C dX10_valueBy_110 (by decide) ?_
    obtain ⟨r111, h111, e111, hF⟩ := fx_b2E hF
    refine xr_callSi C mvX10_270 [.int (a1 + (1 : Int32)), .int a2, .int (fx_rem (a3 + (1 : Int32)) (6 : Int32)), .int a4, .int (0 : Int32)] [.ref (G.2.2.1 (h.2.2 a0 25))] (mX10_at l G (a1 + (1 : Int32)) a2 (fx_rem (a3 + (1 : Int32)) (6 : Int32)) a4 (0 : Int32)  h h111 r111 e111) rfl ⟨rfl, rfl, (Nat.le_of_ble_eq_true rfl), (Nat.le_of_ble_eq_true rfl)⟩ rfl (Nat.le_of_ble_eq_true rfl) dX10_valueBy_111 ?_
    obtain ⟨g114, hF⟩ := fx_gE hF
    refine xr_iald C dX10_valueBy_114 t95 g114 ?_
    refine xr_i2l C dX10_valueBy_115 ?_
    refine xr_sub [7, 0] [(6, .long a6), (8, .long s0)] rfl ?_
    exact bX10_valueBy_116 C   a6 s0 (Int32.toInt64 (h111.1 (h.2.2 a0 25) (fx_ix r111))) h111 hF
  · have hF := fx_pos hF c66
    refine xr_aload_n C 1 dX10_valueBy_69 rfl rfl ?_
    refine xr_getr C flX10_49 rfl (by decide) dX10_valueBy_70 ta0 (fun t70 => ?_)
    refine xr_iload_n C 2 dX10_valueBy_73 rfl rfl ?_
    refine xr_iload_n C 3 dX10_valueBy_74 rfl rfl ?_
    refine xr_iconst (v := 1) C dX10_valueBy_75 (by decide) ?_
    refine xr_iadd C dX10_valueBy_76 ?_
    refine xr_iload_n C 4 dX10_valueBy_77 rfl rfl ?_
    refine xr_iload C 5 dX10_valueBy_78 rfl ?_
    refine xr_iconst (v := 1) C dX10_valueBy_80 (by decide) ?_
    refine xr_iadd C dX10_valueBy_81 ?_
    refine xr_bipush (v := 6) C dX10_valueBy_82 (by decide) ?_
    refine xr_irem C dX10_valueBy_84 (by decide) ?_
    refine xr_iconst (v := 1) C dX10_valueBy_85 (by decide) ?_
    obtain ⟨r86, h86, e86, hF⟩ := fx_b2E hF
    refine xr_callSi C mvX10_270 [.int a1, .int (a2 + (1 : Int32)), .int a3, .int (fx_rem (a4 + (1 : Int32)) (6 : Int32)), .int (1 : Int32)] [.ref (G.2.2.1 (h.2.2 a0 25))] (mX10_at l G a1 (a2 + (1 : Int32)) a3 (fx_rem (a4 + (1 : Int32)) (6 : Int32)) (1 : Int32)  h h86 r86 e86) rfl ⟨rfl, rfl, (Nat.le_of_ble_eq_true rfl), (Nat.le_of_ble_eq_true rfl)⟩ rfl (Nat.le_of_ble_eq_true rfl) dX10_valueBy_86 ?_
    obtain ⟨g89, hF⟩ := fx_gE hF
    refine xr_iald C dX10_valueBy_89 t70 g89 ?_
    refine xr_i2l C dX10_valueBy_90 ?_
    refine xr_goto C 116 dX10_valueBy_91 (by decide) ?_
    refine xr_sub [7, 0] [(6, .long a6), (8, .long s0)] rfl ?_
    exact bX10_valueBy_116 C   a6 s0 (Int32.toInt64 (h86.1 (h.2.2 a0 25) (fx_ix r86))) h86 hF
def fX10_valueBy (a0 : Nat) (a1 : Int32) (a2 : Int32) (a3 : Int32) (a4 : Int32) (a5 : Int32) (h : hp_T) : Option (Int32 × hp_T) := fx_g (fx_in ((((12 : Int32) * a3) + ((2 : Int32) * a4)) + a5) 72) (fx_let (Int32.toInt64 (h.1 (h.2.2 a0 26) (fx_ix ((((12 : Int32) * a3) + ((2 : Int32) * a4)) + a5)))) fun (x18 : Int64) => if a5 = 0 then (fx_b2 (fX10_at (a1 + (1 : Int32)) a2 a3 a4 (0 : Int32) h) fun (r37 : Int32) (h37 : hp_T) => fx_g (fx_in r37 48672) (fX10_valueBy_62 a0 a1 a2 a3 a4 a5 x18 (Int32.toInt64 (h37.1 (h.2.2 a0 25) (fx_ix r37))) h37)) else (fx_b2 (fX10_at a1 (a2 + (1 : Int32)) a3 a4 (1 : Int32) h) fun (r57 : Int32) (h57 : hp_T) => fx_g (fx_in r57 48672) (fX10_valueBy_62 a0 a1 a2 a3 a4 a5 x18 (Int32.toInt64 (h57.1 (h.2.2 a0 25) (fx_ix r57))) h57)))
set_option maxRecDepth 100000 in
set_option maxHeartbeats 4000000 in
theorem mX10_valueBy (l : Launch) (G : xr_G) (a0 : Nat) (a1 : Int32) (a2 : Int32) (a3 : Int32) (a4 : Int32) (a5 : Int32) (ta0 : hp_sh a0 = (10, 0)) (h h1 : hp_T) (r : Int32) (hF : fX10_valueBy a0 a1 a2 a3 a4 a5 h = some (r, h1)) : xr_M l G yX10_valueBy cX10_valueBy 12 (xr_R 1 24) (some .int) [.ref (G.2.2.1 a0), .int a1, .int a2, .int a3, .int a4, .int a5] h (xr_Qi G r h1) := by
  refine xr_start rfl (Nat.le_of_ble_eq_true rfl) (fun K C => ?_)
  show xr_j l G K 12 h [(0, .ref (G.2.2.1 a0)), (1, .int a1), (2, .int a2), (3, .int a3), (4, .int a4), (5, .int a5)] 0 []
  unfold fX10_valueBy at hF
  refine xr_aload_n C 0 dX10_valueBy_0 rfl rfl ?_
  refine xr_getr C flX10_52 rfl (by decide) dX10_valueBy_1 ta0 (fun t1 => ?_)
  refine xr_bipush (v := 12) C dX10_valueBy_4 (by decide) ?_
  refine xr_iload_n C 3 dX10_valueBy_6 rfl rfl ?_
  refine xr_imul C dX10_valueBy_7 ?_
  refine xr_iconst (v := 2) C dX10_valueBy_8 (by decide) ?_
  refine xr_iload C 4 dX10_valueBy_9 rfl ?_
  refine xr_imul C dX10_valueBy_11 ?_
  refine xr_iadd C dX10_valueBy_12 ?_
  refine xr_iload C 5 dX10_valueBy_13 rfl ?_
  refine xr_iadd C dX10_valueBy_15 ?_
  obtain ⟨g16, hF⟩ := fx_gE hF
  refine xr_iald C dX10_valueBy_16 t1 g16 ?_
  refine xr_i2l C dX10_valueBy_17 ?_
  refine xr_topl (fun x18 e18 => ?_)
  have hF := fx_letE hF x18 e18
  refine xr_lstore C [(6, .long x18), (0, .ref (G.2.2.1 a0)), (1, .int a1), (2, .int a2), (3, .int a3), (4, .int a4), (5, .int a5)] dX10_valueBy_18 (Nat.le_of_ble_eq_true rfl) rfl ?_
  refine xr_iload C 6 dX10_valueBy_20 rfl ?_
  refine xr_if_ne C 45 dX10_valueBy_22 (by decide) (fun c22 => ?_) (fun c22 => ?_)
  · have hF := fx_neg hF c22
    refine xr_aload_n C 1 dX10_valueBy_45 rfl rfl ?_
    refine xr_getr C flX10_49 rfl (by decide) dX10_valueBy_46 ta0 (fun t46 => ?_)
    refine xr_iload_n C 2 dX10_valueBy_49 rfl rfl ?_
    refine xr_iload_n C 3 dX10_valueBy_50 rfl rfl ?_
    refine xr_iconst (v := 1) C dX10_valueBy_51 (by decide) ?_
    refine xr_iadd C dX10_valueBy_52 ?_
    refine xr_iload_n C 4 dX10_valueBy_53 rfl rfl ?_
    refine xr_iload C 5 dX10_valueBy_54 rfl ?_
    refine xr_iconst (v := 1) C dX10_valueBy_56 (by decide) ?_
    obtain ⟨r57, h57, e57, hF⟩ := fx_b2E hF
    refine xr_callSi C mvX10_270 [.int a1, .int (a2 + (1 : Int32)), .int a3, .int a4, .int (1 : Int32)] [.ref (G.2.2.1 (h.2.2 a0 25))] (mX10_at l G a1 (a2 + (1 : Int32)) a3 a4 (1 : Int32)  h h57 r57 e57) rfl ⟨rfl, rfl, (Nat.le_of_ble_eq_true rfl), (Nat.le_of_ble_eq_true rfl)⟩ rfl (Nat.le_of_ble_eq_true rfl) dX10_valueBy_57 ?_
    obtain ⟨g60, hF⟩ := fx_gE hF
    refine xr_iald C dX10_valueBy_60 t46 g60 ?_
    refine xr_i2l C dX10_valueBy_61 ?_
    refine xr_sub [1, 2, 3, 4, 5, 6, 0] [(0, .ref (G.2.2.1 a0)), (1, .int a1), (2, .int a2), (3, .int a3), (4, .int a4), (5, .int a5), (6, .long x18)] rfl ?_
    exact bX10_valueBy_62 C   a0 a1 a2 a3 a4 a5 x18 (Int32.toInt64 (h57.1 (h.2.2 a0 25) (fx_ix r57))) ta0 h57 hF
  · have hF := fx_pos hF c22
    refine xr_aload_n C 1 dX10_valueBy_25 rfl rfl ?_
    refine xr_getr C flX10_49 rfl (by decide) dX10_valueBy_26 ta0 (fun t26 => ?_)
    refine xr_iload_n C 2 dX10_valueBy_29 rfl rfl ?_
    refine xr_iconst (v := 1) C dX10_valueBy_30 (by decide) ?_
    refine xr_iadd C dX10_valueBy_31 ?_
    refine xr_iload_n C 3 dX10_valueBy_32 rfl rfl ?_
    refine xr_iload_n C 4 dX10_valueBy_33 rfl rfl ?_
    refine xr_iload C 5 dX10_valueBy_34 rfl ?_
    refine xr_iconst (v := 0) C dX10_valueBy_36 (by decide) ?_
    obtain ⟨r37, h37, e37, hF⟩ := fx_b2E hF
    refine xr_callSi C mvX10_270 [.int (a1 + (1 : Int32)), .int a2, .int a3, .int a4, .int (0 : Int32)] [.ref (G.2.2.1 (h.2.2 a0 25))] (mX10_at l G (a1 + (1 : Int32)) a2 a3 a4 (0 : Int32)  h h37 r37 e37) rfl ⟨rfl, rfl, (Nat.le_of_ble_eq_true rfl), (Nat.le_of_ble_eq_true rfl)⟩ rfl (Nat.le_of_ble_eq_true rfl) dX10_valueBy_37 ?_
    obtain ⟨g40, hF⟩ := fx_gE hF
    refine xr_iald C dX10_valueBy_40 t26 g40 ?_
    refine xr_i2l C dX10_valueBy_41 ?_
    refine xr_goto C 62 dX10_valueBy_42 (by decide) ?_
    refine xr_sub [1, 2, 3, 4, 5, 6, 0] [(0, .ref (G.2.2.1 a0)), (1, .int a1), (2, .int a2), (3, .int a3), (4, .int a4), (5, .int a5), (6, .long x18)] rfl ?_
    exact bX10_valueBy_62 C   a0 a1 a2 a3 a4 a5 x18 (Int32.toInt64 (h37.1 (h.2.2 a0 25) (fx_ix r37))) ta0 h37 hF
theorem dX10_laysValues_0 : decode cX10_laysValues 0 = .ok (.iconst 0, 1) := by decide +kernel
theorem dX10_laysValues_1 : decode cX10_laysValues 1 = .ok (.istore_n 1, 1) := by decide +kernel
theorem dX10_laysValues_2 : decode cX10_laysValues 2 = .ok (.iload_n 1, 1) := by decide +kernel
theorem dX10_laysValues_3 : decode cX10_laysValues 3 = .ok (.bipush 72, 2) := by decide +kernel
theorem dX10_laysValues_5 : decode cX10_laysValues 5 = .ok (.if_icmp .ge 32, 3) := by decide +kernel
theorem dX10_laysValues_8 : decode cX10_laysValues 8 = .ok (.aload_n 0, 1) := by decide +kernel
theorem dX10_laysValues_9 : decode cX10_laysValues 9 = .ok (.getfield 52, 3) := by decide +kernel
theorem dX10_laysValues_12 : decode cX10_laysValues 12 = .ok (.iload_n 1, 1) := by decide +kernel
theorem dX10_laysValues_13 : decode cX10_laysValues 13 = .ok (.aload_n 0, 1) := by decide +kernel
theorem dX10_laysValues_14 : decode cX10_laysValues 14 = .ok (.iload_n 1, 1) := by decide +kernel
theorem dX10_laysValues_15 : decode cX10_laysValues 15 = .ok (.bipush 12, 2) := by decide +kernel
theorem dX10_laysValues_17 : decode cX10_laysValues 17 = .ok (.idiv, 1) := by decide +kernel
theorem dX10_laysValues_18 : decode cX10_laysValues 18 = .ok (.iload_n 1, 1) := by decide +kernel
theorem dX10_laysValues_19 : decode cX10_laysValues 19 = .ok (.iconst 2, 1) := by decide +kernel
theorem dX10_laysValues_20 : decode cX10_laysValues 20 = .ok (.idiv, 1) := by decide +kernel
theorem dX10_laysValues_21 : decode cX10_laysValues 21 = .ok (.bipush 6, 2) := by decide +kernel
theorem dX10_laysValues_23 : decode cX10_laysValues 23 = .ok (.irem, 1) := by decide +kernel
theorem dX10_laysValues_24 : decode cX10_laysValues 24 = .ok (.iload_n 1, 1) := by decide +kernel
theorem dX10_laysValues_25 : decode cX10_laysValues 25 = .ok (.iconst 2, 1) := by decide +kernel
theorem dX10_laysValues_26 : decode cX10_laysValues 26 = .ok (.irem, 1) := by decide +kernel
theorem dX10_laysValues_27 : decode cX10_laysValues 27 = .ok (.invokevirtual 256, 3) := by decide +kernel
theorem dX10_laysValues_30 : decode cX10_laysValues 30 = .ok (.iastore, 1) := by decide +kernel
theorem dX10_laysValues_31 : decode cX10_laysValues 31 = .ok (.iinc 1 1, 3) := by decide +kernel
theorem dX10_laysValues_34 : decode cX10_laysValues 34 = .ok (.goto (-32), 3) := by decide +kernel
theorem dX10_laysValues_37 : decode cX10_laysValues 37 = .ok (.aload_n 0, 1) := by decide +kernel
theorem dX10_laysValues_38 : decode cX10_laysValues 38 = .ok (.getfield 13, 3) := by decide +kernel
theorem dX10_laysValues_41 : decode cX10_laysValues 41 = .ok (.iconst 0, 1) := by decide +kernel
theorem dX10_laysValues_42 : decode cX10_laysValues 42 = .ok (.iaload, 1) := by decide +kernel
theorem dX10_laysValues_43 : decode cX10_laysValues 43 = .ok (.istore_n 1, 1) := by decide +kernel
theorem dX10_laysValues_44 : decode cX10_laysValues 44 = .ok (.iload_n 1, 1) := by decide +kernel
theorem dX10_laysValues_45 : decode cX10_laysValues 45 = .ok (.istore_n 2, 1) := by decide +kernel
theorem dX10_laysValues_46 : decode cX10_laysValues 46 = .ok (.iload_n 2, 1) := by decide +kernel
theorem dX10_laysValues_47 : decode cX10_laysValues 47 = .ok (.ifCond .lt 96, 3) := by decide +kernel
theorem dX10_laysValues_50 : decode cX10_laysValues 50 = .ok (.iload_n 1, 1) := by decide +kernel
theorem dX10_laysValues_51 : decode cX10_laysValues 51 = .ok (.istore_n 3, 1) := by decide +kernel
theorem dX10_laysValues_52 : decode cX10_laysValues 52 = .ok (.iload_n 3, 1) := by decide +kernel
theorem dX10_laysValues_53 : decode cX10_laysValues 53 = .ok (.ifCond .lt 84, 3) := by decide +kernel
theorem dX10_laysValues_56 : decode cX10_laysValues 56 = .ok (.iconst 0, 1) := by decide +kernel
theorem dX10_laysValues_57 : decode cX10_laysValues 57 = .ok (.istore 4, 2) := by decide +kernel
theorem dX10_laysValues_59 : decode cX10_laysValues 59 = .ok (.iload 4, 2) := by decide +kernel
theorem dX10_laysValues_61 : decode cX10_laysValues 61 = .ok (.bipush 72, 2) := by decide +kernel
theorem dX10_laysValues_63 : decode cX10_laysValues 63 = .ok (.if_icmp .ge 68, 3) := by decide +kernel
theorem dX10_laysValues_66 : decode cX10_laysValues 66 = .ok (.aload_n 0, 1) := by decide +kernel
theorem dX10_laysValues_67 : decode cX10_laysValues 67 = .ok (.getfield 49, 3) := by decide +kernel
theorem dX10_laysValues_70 : decode cX10_laysValues 70 = .ok (.bipush 72, 2) := by decide +kernel
theorem dX10_laysValues_72 : decode cX10_laysValues 72 = .ok (.bipush 26, 2) := by decide +kernel
theorem dX10_laysValues_74 : decode cX10_laysValues 74 = .ok (.iload_n 2, 1) := by decide +kernel
theorem dX10_laysValues_75 : decode cX10_laysValues 75 = .ok (.imul, 1) := by decide +kernel
theorem dX10_laysValues_76 : decode cX10_laysValues 76 = .ok (.iload_n 3, 1) := by decide +kernel
theorem dX10_laysValues_77 : decode cX10_laysValues 77 = .ok (.iadd, 1) := by decide +kernel
theorem dX10_laysValues_78 : decode cX10_laysValues 78 = .ok (.imul, 1) := by decide +kernel
theorem dX10_laysValues_79 : decode cX10_laysValues 79 = .ok (.iload 4, 2) := by decide +kernel
theorem dX10_laysValues_81 : decode cX10_laysValues 81 = .ok (.iadd, 1) := by decide +kernel
theorem dX10_laysValues_82 : decode cX10_laysValues 82 = .ok (.iload_n 2, 1) := by decide +kernel
theorem dX10_laysValues_83 : decode cX10_laysValues 83 = .ok (.iload_n 1, 1) := by decide +kernel
theorem dX10_laysValues_84 : decode cX10_laysValues 84 = .ok (.if_icmp .ne 9, 3) := by decide +kernel
theorem dX10_laysValues_87 : decode cX10_laysValues 87 = .ok (.ldc_w 265, 3) := by decide +kernel
theorem dX10_laysValues_90 : decode cX10_laysValues 90 = .ok (.goto 34, 3) := by decide +kernel
theorem dX10_laysValues_93 : decode cX10_laysValues 93 = .ok (.iload_n 3, 1) := by decide +kernel
theorem dX10_laysValues_94 : decode cX10_laysValues 94 = .ok (.iload_n 1, 1) := by decide +kernel
theorem dX10_laysValues_95 : decode cX10_laysValues 95 = .ok (.if_icmp .ne 7, 3) := by decide +kernel
theorem dX10_laysValues_98 : decode cX10_laysValues 98 = .ok (.iconst 0, 1) := by decide +kernel
theorem dX10_laysValues_99 : decode cX10_laysValues 99 = .ok (.goto 25, 3) := by decide +kernel
theorem dX10_laysValues_102 : decode cX10_laysValues 102 = .ok (.aload_n 0, 1) := by decide +kernel
theorem dX10_laysValues_103 : decode cX10_laysValues 103 = .ok (.iload_n 2, 1) := by decide +kernel
theorem dX10_laysValues_104 : decode cX10_laysValues 104 = .ok (.iload_n 3, 1) := by decide +kernel
theorem dX10_laysValues_105 : decode cX10_laysValues 105 = .ok (.iload 4, 2) := by decide +kernel
theorem dX10_laysValues_107 : decode cX10_laysValues 107 = .ok (.bipush 12, 2) := by decide +kernel
theorem dX10_laysValues_109 : decode cX10_laysValues 109 = .ok (.idiv, 1) := by decide +kernel
theorem dX10_laysValues_110 : decode cX10_laysValues 110 = .ok (.iload 4, 2) := by decide +kernel
theorem dX10_laysValues_112 : decode cX10_laysValues 112 = .ok (.iconst 2, 1) := by decide +kernel
theorem dX10_laysValues_113 : decode cX10_laysValues 113 = .ok (.idiv, 1) := by decide +kernel
theorem dX10_laysValues_114 : decode cX10_laysValues 114 = .ok (.bipush 6, 2) := by decide +kernel
theorem dX10_laysValues_116 : decode cX10_laysValues 116 = .ok (.irem, 1) := by decide +kernel
theorem dX10_laysValues_117 : decode cX10_laysValues 117 = .ok (.iload 4, 2) := by decide +kernel
theorem dX10_laysValues_119 : decode cX10_laysValues 119 = .ok (.iconst 2, 1) := by decide +kernel
theorem dX10_laysValues_120 : decode cX10_laysValues 120 = .ok (.irem, 1) := by decide +kernel
theorem dX10_laysValues_121 : decode cX10_laysValues 121 = .ok (.invokevirtual 266, 3) := by decide +kernel
theorem dX10_laysValues_124 : decode cX10_laysValues 124 = .ok (.iastore, 1) := by decide +kernel
theorem dX10_laysValues_125 : decode cX10_laysValues 125 = .ok (.iinc 4 1, 3) := by decide +kernel
theorem dX10_laysValues_128 : decode cX10_laysValues 128 = .ok (.goto (-69), 3) := by decide +kernel
theorem dX10_laysValues_131 : decode cX10_laysValues 131 = .ok (.iinc 3 (-1), 3) := by decide +kernel
theorem dX10_laysValues_134 : decode cX10_laysValues 134 = .ok (.goto (-82), 3) := by decide +kernel
theorem dX10_laysValues_137 : decode cX10_laysValues 137 = .ok (.iinc 2 (-1), 3) := by decide +kernel
theorem dX10_laysValues_140 : decode cX10_laysValues 140 = .ok (.goto (-94), 3) := by decide +kernel
theorem dX10_laysValues_143 : decode cX10_laysValues 143 = .ok (.return_, 1) := by decide +kernel
def fX10_laysValues_124 (k46 : Nat → Int32 → Int32 → hp_T → Option hp_T) (k52 : Nat → Int32 → Int32 → Int32 → hp_T → Option hp_T) (k59 : Nat → Int32 → Int32 → Int32 → Int32 → hp_T → Option hp_T) (a0 : Nat) (a1 : Int32) (a2 : Int32) (a3 : Int32) (a4 : Int32) (s0 : Nat) (s1 : Int32) (s2 : Int32) (h : hp_T) : Option hp_T := fx_g (fx_in s1 48672) (fx_let (hp_sI h s0 (fx_ix s1) s2) fun (h124 : hp_T) => fx_let (a4 + (1 : Int32)) fun (x125 : Int32) => k59 a0 a1 a2 a3 x125 h124)
set_option maxRecDepth 100000 in
set_option maxHeartbeats 4000000 in
theorem bX10_laysValues_124 {l : Launch} {G : xr_G} {K : xr_K} {h1 : hp_T} (C : xr_C G K cX10_laysValues RX10 5 (xr_R 4 97) none (some (xr_Qv G h1))) (k46 : Nat → Int32 → Int32 → hp_T → Option hp_T) (j46 : ∀ (a0 : Nat) (a1 : Int32) (a2 : Int32) (ta0 : hp_sh a0 = (10, 0)) (h : hp_T), k46 a0 a1 a2 h = some h1 → xr_j l G K 5 h [(0, .ref (G.2.2.1 a0)), (1, .int a1), (2, .int a2)] 46 []) (k52 : Nat → Int32 → Int32 → Int32 → hp_T → Option hp_T) (j52 : ∀ (a0 : Nat) (a1 : Int32) (a2 : Int32) (a3 : Int32) (ta0 : hp_sh a0 = (10, 0)) (h : hp_T), k52 a0 a1 a2 a3 h = some h1 → xr_j l G K 5 h [(0, .ref (G.2.2.1 a0)), (1, .int a1), (2, .int a2), (3, .int a3)] 52 []) (k59 : Nat → Int32 → Int32 → Int32 → Int32 → hp_T → Option hp_T) (j59 : ∀ (a0 : Nat) (a1 : Int32) (a2 : Int32) (a3 : Int32) (a4 : Int32) (ta0 : hp_sh a0 = (10, 0)) (h : hp_T), k59 a0 a1 a2 a3 a4 h = some h1 → xr_j l G K 5 h [(0, .ref (G.2.2.1 a0)), (1, .int a1), (2, .int a2), (3, .int a3), (4, .int a4)] 59 []) (a0 : Nat) (a1 : Int32) (a2 : Int32) (a3 : Int32) (a4 : Int32) (s0 : Nat) (s1 : Int32) (s2 : Int32) (ta0 : hp_sh a0 = (10, 0)) (ts0 : hp_sh s0 = (20, 48672)) (h : hp_T) (hF : fX10_laysValues_124 k46 k52 k59 a0 a1 a2 a3 a4 s0 s1 s2 h = some h1) : xr_j l G K 5 h [(0, .ref (G.2.2.1 a0)), (1, .int a1), (2, .int a2), (3, .int a3), (4, .int a4)] 124 [.int s2, .int s1, .ref (G.2.2.1 s0)] := by
  unfold fX10_laysValues_124 at hF
  obtain ⟨g124, hF⟩ := fx_gE hF
  refine xr_iast C dX10_laysValues_124 ts0 g124 (fun h124 e124 => ?_)
  have hF := fx_letE hF h124 e124
  obtain ⟨x125, e125⟩ : ∃ y : Int32, y = (a4 + (1 : Int32)) := ⟨_, rfl⟩
  have hF := fx_letE hF x125 e125
  refine xr_iinc C x125 4 [(4, .int x125), (0, .ref (G.2.2.1 a0)), (1, .int a1), (2, .int a2), (3, .int a3)] dX10_laysValues_125 rfl (by rw [e125]; rfl) (Nat.le_of_ble_eq_true rfl) rfl ?_
  refine xr_goto C 59 dX10_laysValues_128 (by decide) ?_
  refine xr_sub [1, 2, 3, 4, 0] [(0, .ref (G.2.2.1 a0)), (1, .int a1), (2, .int a2), (3, .int a3), (4, .int x125)] rfl ?_
  exact j59 a0 a1 a2 a3 x125 ta0 h124 hF
def fX10_laysValues_59 (k46 : Nat → Int32 → Int32 → hp_T → Option hp_T) (k52 : Nat → Int32 → Int32 → Int32 → hp_T → Option hp_T) : Nat → Nat → Int32 → Int32 → Int32 → Int32 → hp_T → Option hp_T
  | 0, _, _, _, _, _, _ => none
  | n + 1, a0, a1, a2, a3, a4, h => if (72 : Int32) ≤ a4 then (fx_let (a3 + (-1 : Int32)) fun (x131 : Int32) => k52 a0 a1 a2 x131 h) else (if a2 = a1 then (fX10_laysValues_124 k46 k52 (fX10_laysValues_59 k46 k52 n) a0 a1 a2 a3 a4 (h.2.2 a0 25) (((72 : Int32) * (((26 : Int32) * a2) + a3)) + a4) (1000000 : Int32) h) else (if a3 = a1 then (fX10_laysValues_124 k46 k52 (fX10_laysValues_59 k46 k52 n) a0 a1 a2 a3 a4 (h.2.2 a0 25) (((72 : Int32) * (((26 : Int32) * a2) + a3)) + a4) (0 : Int32) h) else (fx_b2 (fX10_valueBy a0 a2 a3 (a4 / (12 : Int32)) (fx_rem (a4 / (2 : Int32)) (6 : Int32)) (fx_rem a4 (2 : Int32)) h) fun (r121 : Int32) (h121 : hp_T) => fX10_laysValues_124 k46 k52 (fX10_laysValues_59 k46 k52 n) a0 a1 a2 a3 a4 (h.2.2 a0 25) (((72 : Int32) * (((26 : Int32) * a2) + a3)) + a4) r121 h121)))
set_option maxRecDepth 100000 in
set_option maxHeartbeats 4000000 in
theorem bX10_laysValues_59 {l : Launch} {G : xr_G} {K : xr_K} {h1 : hp_T} (C : xr_C G K cX10_laysValues RX10 5 (xr_R 4 97) none (some (xr_Qv G h1))) (k46 : Nat → Int32 → Int32 → hp_T → Option hp_T) (j46 : ∀ (a0 : Nat) (a1 : Int32) (a2 : Int32) (ta0 : hp_sh a0 = (10, 0)) (h : hp_T), k46 a0 a1 a2 h = some h1 → xr_j l G K 5 h [(0, .ref (G.2.2.1 a0)), (1, .int a1), (2, .int a2)] 46 []) (k52 : Nat → Int32 → Int32 → Int32 → hp_T → Option hp_T) (j52 : ∀ (a0 : Nat) (a1 : Int32) (a2 : Int32) (a3 : Int32) (ta0 : hp_sh a0 = (10, 0)) (h : hp_T), k52 a0 a1 a2 a3 h = some h1 → xr_j l G K 5 h [(0, .ref (G.2.2.1 a0)), (1, .int a1), (2, .int a2), (3, .int a3)] 52 []) : ∀ (n : Nat) (a0 : Nat) (a1 : Int32) (a2 : Int32) (a3 : Int32) (a4 : Int32) (ta0 : hp_sh a0 = (10, 0)) (h : hp_T), fX10_laysValues_59 k46 k52 n a0 a1 a2 a3 a4 h = some h1 → xr_j l G K 5 h [(0, .ref (G.2.2.1 a0)), (1, .int a1), (2, .int a2), (3, .int a3), (4, .int a4)] 59 [] := by
  intro n
  induction n with
  | zero =>
    intro a0 a1 a2 a3 a4 ta0 h hF
    cases hF
  | succ n ih =>
    intro a0 a1 a2 a3 a4 ta0 h hF
    rw [fX10_laysValues_59] at hF
    refine xr_iload C 4 dX10_laysValues_59 rfl ?_
    refine xr_bipush (v := 72) C dX10_laysValues_61 (by decide) ?_
    refine xr_icmp_ge C 131 dX10_laysValues_63 (by decide) (fun c63 => ?_) (fun c63 => ?_)
    · have hF := fx_pos hF c63
      obtain ⟨x131, e131⟩ : ∃ y : Int32, y = (a3 + (-1 : Int32)) := ⟨_, rfl⟩
      have hF := fx_letE hF x131 e131
      refine xr_iinc C x131 3 [(3, .int x131), (0, .ref (G.2.2.1 a0)), (1, .int a1), (2, .int a2), (4, .int a4)] dX10_laysValues_131 rfl (by rw [e131]; rfl) (Nat.le_of_ble_eq_true rfl) rfl ?_
      refine xr_goto C 52 dX10_laysValues_134 (by decide) ?_
      refine xr_sub [1, 2, 3, 0] [(0, .ref (G.2.2.1 a0)), (1, .int a1), (2, .int a2), (3, .int x131)] rfl ?_
      exact j52 a0 a1 a2 x131 ta0 h hF
    · have hF := fx_neg hF c63
      refine xr_aload_n C 0 dX10_laysValues_66 rfl rfl ?_
      refine xr_getr C flX10_49 rfl (by decide) dX10_laysValues_67 ta0 (fun t67 => ?_)
      refine xr_bipush (v := 72) C dX10_laysValues_70 (by decide) ?_
      refine xr_bipush (v := 26) C dX10_laysValues_72 (by decide) ?_
      refine xr_iload_n C 2 dX10_laysValues_74 rfl rfl ?_
      refine xr_imul C dX10_laysValues_75 ?_
      refine xr_iload_n C 3 dX10_laysValues_76 rfl rfl ?_
      refine xr_iadd C dX10_laysValues_77 ?_
      refine xr_imul C dX10_laysValues_78 ?_
      refine xr_iload C 4 dX10_laysValues_79 rfl ?_
      refine xr_iadd C dX10_laysValues_81 ?_
      refine xr_iload_n C 2 dX10_laysValues_82 rfl rfl ?_
      refine xr_iload_n C 1 dX10_laysValues_83 rfl rfl ?_
      refine xr_icmp_ne C 93 dX10_laysValues_84 (by decide) (fun c84 => ?_) (fun c84 => ?_)
      · have hF := fx_neg hF c84
        refine xr_iload_n C 3 dX10_laysValues_93 rfl rfl ?_
        refine xr_iload_n C 1 dX10_laysValues_94 rfl rfl ?_
        refine xr_icmp_ne C 102 dX10_laysValues_95 (by decide) (fun c95 => ?_) (fun c95 => ?_)
        · have hF := fx_neg hF c95
          refine xr_aload_n C 0 dX10_laysValues_102 rfl rfl ?_
          refine xr_iload_n C 2 dX10_laysValues_103 rfl rfl ?_
          refine xr_iload_n C 3 dX10_laysValues_104 rfl rfl ?_
          refine xr_iload C 4 dX10_laysValues_105 rfl ?_
          refine xr_bipush (v := 12) C dX10_laysValues_107 (by decide) ?_
          refine xr_idiv C dX10_laysValues_109 (by decide) ?_
          refine xr_iload C 4 dX10_laysValues_110 rfl ?_
          refine xr_iconst (v := 2) C dX10_laysValues_112 (by decide) ?_
          refine xr_idiv C dX10_laysValues_113 (by decide) ?_
          refine xr_bipush (v := 6) C dX10_laysValues_114 (by decide) ?_
          refine xr_irem C dX10_laysValues_116 (by decide) ?_
          refine xr_iload C 4 dX10_laysValues_117 rfl ?_
          refine xr_iconst (v := 2) C dX10_laysValues_119 (by decide) ?_
          refine xr_irem C dX10_laysValues_120 (by decide) ?_
          obtain ⟨r121, h121, e121, hF⟩ := fx_b2E hF
          refine xr_callVi C mvX10_266 [.int a2, .int a3, .int (a4 / (12 : Int32)), .int (fx_rem (a4 / (2 : Int32)) (6 : Int32)), .int (fx_rem a4 (2 : Int32))] [.int (((72 : Int32) * (((26 : Int32) * a2) + a3)) + a4), .ref (G.2.2.1 (h.2.2 a0 25))] (mX10_valueBy l G a0 a2 a3 (a4 / (12 : Int32)) (fx_rem (a4 / (2 : Int32)) (6 : Int32)) (fx_rem a4 (2 : Int32)) ta0 h h121 r121 e121) ta0 (by decide) vc10 rfl ⟨rfl, rfl, (Nat.le_of_ble_eq_true rfl), (Nat.le_of_ble_eq_true rfl)⟩ rfl (Nat.le_of_ble_eq_true rfl) dX10_laysValues_121 ?_
          exact bX10_laysValues_124 C k46 j46 k52 j52 (fX10_laysValues_59 k46 k52 n) (fun a0 a1 a2 a3 a4 ta0 h hF => ih a0 a1 a2 a3 a4 ta0 h hF)  a0 a1 a2 a3 a4 (h.2.2 a0 25) (((72 : Int32) * (((26 : Int32) * a2) + a3)) + a4) r121 ta0 t67 h121 hF
        · have hF := fx_pos hF c95
          refine xr_iconst (v := 0) C dX10_laysValues_98 (by decide) ?_
          refine xr_goto C 124 dX10_laysValues_99 (by decide) ?_
          exact bX10_laysValues_124 C k46 j46 k52 j52 (fX10_laysValues_59 k46 k52 n) (fun a0 a1 a2 a3 a4 ta0 h hF => ih a0 a1 a2 a3 a4 ta0 h hF)  a0 a1 a2 a3 a4 (h.2.2 a0 25) (((72 : Int32) * (((26 : Int32) * a2) + a3)) + a4) (0 : Int32) ta0 t67 h hF
      · have hF := fx_pos hF c84
        refine xr_ldc_w C kcX10_265 dX10_laysValues_87 ?_
        refine xr_goto C 124 dX10_laysValues_90 (by decide) ?_
        exact bX10_laysValues_124 C k46 j46 k52 j52 (fX10_laysValues_59 k46 k52 n) (fun a0 a1 a2 a3 a4 ta0 h hF => ih a0 a1 a2 a3 a4 ta0 h hF)  a0 a1 a2 a3 a4 (h.2.2 a0 25) (((72 : Int32) * (((26 : Int32) * a2) + a3)) + a4) (1000000 : Int32) ta0 t67 h hF
def fX10_laysValues_52 (k46 : Nat → Int32 → Int32 → hp_T → Option hp_T) : Nat → Nat → Int32 → Int32 → Int32 → hp_T → Option hp_T
  | 0, _, _, _, _, _ => none
  | n + 1, a0, a1, a2, a3, h => if a3 < 0 then (fx_let (a2 + (-1 : Int32)) fun (x137 : Int32) => k46 a0 a1 x137 h) else (fX10_laysValues_59 k46 (fX10_laysValues_52 k46 n) fx_N a0 a1 a2 a3 (0 : Int32) h)
set_option maxRecDepth 100000 in
set_option maxHeartbeats 4000000 in
theorem bX10_laysValues_52 {l : Launch} {G : xr_G} {K : xr_K} {h1 : hp_T} (C : xr_C G K cX10_laysValues RX10 5 (xr_R 4 97) none (some (xr_Qv G h1))) (k46 : Nat → Int32 → Int32 → hp_T → Option hp_T) (j46 : ∀ (a0 : Nat) (a1 : Int32) (a2 : Int32) (ta0 : hp_sh a0 = (10, 0)) (h : hp_T), k46 a0 a1 a2 h = some h1 → xr_j l G K 5 h [(0, .ref (G.2.2.1 a0)), (1, .int a1), (2, .int a2)] 46 []) : ∀ (n : Nat) (a0 : Nat) (a1 : Int32) (a2 : Int32) (a3 : Int32) (ta0 : hp_sh a0 = (10, 0)) (h : hp_T), fX10_laysValues_52 k46 n a0 a1 a2 a3 h = some h1 → xr_j l G K 5 h [(0, .ref (G.2.2.1 a0)), (1, .int a1), (2, .int a2), (3, .int a3)] 52 [] := by
  intro n
  induction n with
  | zero =>
    intro a0 a1 a2 a3 ta0 h hF
    cases hF
  | succ n ih =>
    intro a0 a1 a2 a3 ta0 h hF
    rw [fX10_laysValues_52] at hF
    refine xr_iload_n C 3 dX10_laysValues_52 rfl rfl ?_
    refine xr_if_lt C 137 dX10_laysValues_53 (by decide) (fun c53 => ?_) (fun c53 => ?_)
    · have hF := fx_pos hF c53
      obtain ⟨x137, e137⟩ : ∃ y : Int32, y = (a2 + (-1 : Int32)) := ⟨_, rfl⟩
      have hF := fx_letE hF x137 e137
      refine xr_iinc C x137 2 [(2, .int x137), (0, .ref (G.2.2.1 a0)), (1, .int a1), (3, .int a3)] dX10_laysValues_137 rfl (by rw [e137]; rfl) (Nat.le_of_ble_eq_true rfl) rfl ?_
      refine xr_goto C 46 dX10_laysValues_140 (by decide) ?_
      refine xr_sub [1, 2, 0] [(0, .ref (G.2.2.1 a0)), (1, .int a1), (2, .int x137)] rfl ?_
      exact j46 a0 a1 x137 ta0 h hF
    · have hF := fx_neg hF c53
      refine xr_iconst (v := 0) C dX10_laysValues_56 (by decide) ?_
      refine xr_istore C [(4, .int (0 : Int32)), (0, .ref (G.2.2.1 a0)), (1, .int a1), (2, .int a2), (3, .int a3)] dX10_laysValues_57 (Nat.le_of_ble_eq_true rfl) rfl ?_
      refine xr_sub [1, 2, 3, 4, 0] [(0, .ref (G.2.2.1 a0)), (1, .int a1), (2, .int a2), (3, .int a3), (4, .int (0 : Int32))] rfl ?_
      exact bX10_laysValues_59 C k46 j46 (fX10_laysValues_52 k46 n) (fun a0 a1 a2 a3 ta0 h hF => ih a0 a1 a2 a3 ta0 h hF) fx_N a0 a1 a2 a3 (0 : Int32) ta0 h hF
def fX10_laysValues_46  : Nat → Nat → Int32 → Int32 → hp_T → Option hp_T
  | 0, _, _, _, _ => none
  | n + 1, a0, a1, a2, h => if a2 < 0 then (some h) else (fX10_laysValues_52 (fX10_laysValues_46 n) fx_N a0 a1 a2 a1 h)
set_option maxRecDepth 100000 in
set_option maxHeartbeats 4000000 in
theorem bX10_laysValues_46 {l : Launch} {G : xr_G} {K : xr_K} {h1 : hp_T} (C : xr_C G K cX10_laysValues RX10 5 (xr_R 4 97) none (some (xr_Qv G h1)))  : ∀ (n : Nat) (a0 : Nat) (a1 : Int32) (a2 : Int32) (ta0 : hp_sh a0 = (10, 0)) (h : hp_T), fX10_laysValues_46 n a0 a1 a2 h = some h1 → xr_j l G K 5 h [(0, .ref (G.2.2.1 a0)), (1, .int a1), (2, .int a2)] 46 [] := by
  intro n
  induction n with
  | zero =>
    intro a0 a1 a2 ta0 h hF
    cases hF
  | succ n ih =>
    intro a0 a1 a2 ta0 h hF
    rw [fX10_laysValues_46] at hF
    refine xr_iload_n C 2 dX10_laysValues_46 rfl rfl ?_
    refine xr_if_lt C 143 dX10_laysValues_47 (by decide) (fun c47 => ?_) (fun c47 => ?_)
    · have hF := fx_pos hF c47
      cases hF
      exact xr_vret C dX10_laysValues_143
    · have hF := fx_neg hF c47
      refine xr_iload_n C 1 dX10_laysValues_50 rfl rfl ?_
      refine xr_istore_n C [(3, .int a1), (0, .ref (G.2.2.1 a0)), (1, .int a1), (2, .int a2)] dX10_laysValues_51 rfl (Nat.le_of_ble_eq_true rfl) rfl ?_
      refine xr_sub [1, 2, 3, 0] [(0, .ref (G.2.2.1 a0)), (1, .int a1), (2, .int a2), (3, .int a1)] rfl ?_
      exact bX10_laysValues_52 C (fX10_laysValues_46 n) (fun a0 a1 a2 ta0 h hF => ih a0 a1 a2 ta0 h hF) fx_N a0 a1 a2 a1 ta0 h hF
def fX10_laysValues_2  : Nat → Nat → Int32 → hp_T → Option hp_T
  | 0, _, _, _ => none
  | n + 1, a0, a1, h => if (72 : Int32) ≤ a1 then (fx_let (h.1 (h.2.2 a0 3) (fx_ix (0 : Int32))) fun (x43 : Int32) => fX10_laysValues_46 fx_N a0 x43 x43 h) else (fx_b2 (fX10_chanceOf a0 (a1 / (12 : Int32)) (fx_rem (a1 / (2 : Int32)) (6 : Int32)) (fx_rem a1 (2 : Int32)) h) fun (r27 : Int32) (h27 : hp_T) => fx_g (fx_in a1 72) (fx_let (hp_sI h27 (h.2.2 a0 26) (fx_ix a1) r27) fun (h30 : hp_T) => fx_let (a1 + (1 : Int32)) fun (x31 : Int32) => fX10_laysValues_2 n a0 x31 h30))
set_option maxRecDepth 100000 in
set_option maxHeartbeats 4000000 in
theorem bX10_laysValues_2 {l : Launch} {G : xr_G} {K : xr_K} {h1 : hp_T} (C : xr_C G K cX10_laysValues RX10 5 (xr_R 4 97) none (some (xr_Qv G h1)))  : ∀ (n : Nat) (a0 : Nat) (a1 : Int32) (ta0 : hp_sh a0 = (10, 0)) (h : hp_T), fX10_laysValues_2 n a0 a1 h = some h1 → xr_j l G K 5 h [(0, .ref (G.2.2.1 a0)), (1, .int a1)] 2 [] := by
  intro n
  induction n with
  | zero =>
    intro a0 a1 ta0 h hF
    cases hF
  | succ n ih =>
    intro a0 a1 ta0 h hF
    rw [fX10_laysValues_2] at hF
    refine xr_iload_n C 1 dX10_laysValues_2 rfl rfl ?_
    refine xr_bipush (v := 72) C dX10_laysValues_3 (by decide) ?_
    refine xr_icmp_ge C 37 dX10_laysValues_5 (by decide) (fun c5 => ?_) (fun c5 => ?_)
    · have hF := fx_pos hF c5
      refine xr_aload_n C 0 dX10_laysValues_37 rfl rfl ?_
      refine xr_getr C flX10_13 rfl (by decide) dX10_laysValues_38 ta0 (fun t38 => ?_)
      refine xr_iconst (v := 0) C dX10_laysValues_41 (by decide) ?_
      refine xr_iald C dX10_laysValues_42 t38 (by decide) ?_
      refine xr_topi (fun x43 e43 => ?_)
      have hF := fx_letE hF x43 e43
      refine xr_istore_n C [(1, .int x43), (0, .ref (G.2.2.1 a0))] dX10_laysValues_43 rfl (Nat.le_of_ble_eq_true rfl) rfl ?_
      refine xr_iload_n C 0 dX10_laysValues_44 rfl rfl ?_
      refine xr_istore_n C [(2, .int x43), (1, .int x43), (0, .ref (G.2.2.1 a0))] dX10_laysValues_45 rfl (Nat.le_of_ble_eq_true rfl) rfl ?_
      refine xr_sub [2, 1, 0] [(0, .ref (G.2.2.1 a0)), (1, .int x43), (2, .int x43)] rfl ?_
      exact bX10_laysValues_46 C  fx_N a0 x43 x43 ta0 h hF
    · have hF := fx_neg hF c5
      refine xr_aload_n C 0 dX10_laysValues_8 rfl rfl ?_
      refine xr_getr C flX10_52 rfl (by decide) dX10_laysValues_9 ta0 (fun t9 => ?_)
      refine xr_iload_n C 1 dX10_laysValues_12 rfl rfl ?_
      refine xr_aload_n C 0 dX10_laysValues_13 rfl rfl ?_
      refine xr_iload_n C 1 dX10_laysValues_14 rfl rfl ?_
      refine xr_bipush (v := 12) C dX10_laysValues_15 (by decide) ?_
      refine xr_idiv C dX10_laysValues_17 (by decide) ?_
      refine xr_iload_n C 1 dX10_laysValues_18 rfl rfl ?_
      refine xr_iconst (v := 2) C dX10_laysValues_19 (by decide) ?_
      refine xr_idiv C dX10_laysValues_20 (by decide) ?_
      refine xr_bipush (v := 6) C dX10_laysValues_21 (by decide) ?_
      refine xr_irem C dX10_laysValues_23 (by decide) ?_
      refine xr_iload_n C 1 dX10_laysValues_24 rfl rfl ?_
      refine xr_iconst (v := 2) C dX10_laysValues_25 (by decide) ?_
      refine xr_irem C dX10_laysValues_26 (by decide) ?_
      obtain ⟨r27, h27, e27, hF⟩ := fx_b2E hF
      refine xr_callVi C mvX10_256 [.int (a1 / (12 : Int32)), .int (fx_rem (a1 / (2 : Int32)) (6 : Int32)), .int (fx_rem a1 (2 : Int32))] [.int a1, .ref (G.2.2.1 (h.2.2 a0 26))] (mX10_chanceOf l G a0 (a1 / (12 : Int32)) (fx_rem (a1 / (2 : Int32)) (6 : Int32)) (fx_rem a1 (2 : Int32)) ta0 h h27 r27 e27) ta0 (by decide) vc10 rfl ⟨rfl, rfl, (Nat.le_of_ble_eq_true rfl), (Nat.le_of_ble_eq_true rfl)⟩ rfl (Nat.le_of_ble_eq_true rfl) dX10_laysValues_27 ?_
      obtain ⟨g30, hF⟩ := fx_gE hF
      refine xr_iast C dX10_laysValues_30 t9 g30 (fun h30 e30 => ?_)
      have hF := fx_letE hF h30 e30
      obtain ⟨x31, e31⟩ : ∃ y : Int32, y = (a1 + (1 : Int32)) := ⟨_, rfl⟩
      have hF := fx_letE hF x31 e31
      refine xr_iinc C x31 1 [(1, .int x31), (0, .ref (G.2.2.1 a0))] dX10_laysValues_31 rfl (by rw [e31]; rfl) (Nat.le_of_ble_eq_true rfl) rfl ?_
      refine xr_goto C 2 dX10_laysValues_34 (by decide) ?_
      refine xr_sub [1, 0] [(0, .ref (G.2.2.1 a0)), (1, .int x31)] rfl ?_
      exact ih a0 x31 ta0 h30 hF
def fX10_laysValues (a0 : Nat) (h : hp_T) : Option hp_T := fX10_laysValues_2 fx_N a0 (0 : Int32) h
set_option maxRecDepth 100000 in
set_option maxHeartbeats 4000000 in
theorem mX10_laysValues (l : Launch) (G : xr_G) (a0 : Nat) (ta0 : hp_sh a0 = (10, 0)) (h h1 : hp_T) (hF : fX10_laysValues a0 h = some h1) : xr_M l G yX10_laysValues cX10_laysValues 5 (xr_R 4 97) none [.ref (G.2.2.1 a0)] h (xr_Qv G h1) := by
  refine xr_start rfl (Nat.le_of_ble_eq_true rfl) (fun K C => ?_)
  show xr_j l G K 5 h [(0, .ref (G.2.2.1 a0))] 0 []
  unfold fX10_laysValues at hF
  refine xr_iconst (v := 0) C dX10_laysValues_0 (by decide) ?_
  refine xr_istore_n C [(1, .int (0 : Int32)), (0, .ref (G.2.2.1 a0))] dX10_laysValues_1 rfl (Nat.le_of_ble_eq_true rfl) rfl ?_
  refine xr_sub [1, 0] [(0, .ref (G.2.2.1 a0)), (1, .int (0 : Int32))] rfl ?_
  exact bX10_laysValues_2 C  fx_N a0 (0 : Int32) ta0 h hF
theorem dX10_valueNow_0 : decode cX10_valueNow 0 = .ok (.aload_n 0, 1) := by decide +kernel
theorem dX10_valueNow_1 : decode cX10_valueNow 1 = .ok (.invokevirtual 262, 3) := by decide +kernel
theorem dX10_valueNow_4 : decode cX10_valueNow 4 = .ok (.aload_n 0, 1) := by decide +kernel
theorem dX10_valueNow_5 : decode cX10_valueNow 5 = .ok (.invokevirtual 274, 3) := by decide +kernel
theorem dX10_valueNow_8 : decode cX10_valueNow 8 = .ok (.aload_n 0, 1) := by decide +kernel
theorem dX10_valueNow_9 : decode cX10_valueNow 9 = .ok (.getfield 49, 3) := by decide +kernel
theorem dX10_valueNow_12 : decode cX10_valueNow 12 = .ok (.aload_n 0, 1) := by decide +kernel
theorem dX10_valueNow_13 : decode cX10_valueNow 13 = .ok (.getfield 36, 3) := by decide +kernel
theorem dX10_valueNow_16 : decode cX10_valueNow 16 = .ok (.iconst 0, 1) := by decide +kernel
theorem dX10_valueNow_17 : decode cX10_valueNow 17 = .ok (.iaload, 1) := by decide +kernel
theorem dX10_valueNow_18 : decode cX10_valueNow 18 = .ok (.aload_n 0, 1) := by decide +kernel
theorem dX10_valueNow_19 : decode cX10_valueNow 19 = .ok (.getfield 36, 3) := by decide +kernel
theorem dX10_valueNow_22 : decode cX10_valueNow 22 = .ok (.iconst 1, 1) := by decide +kernel
theorem dX10_valueNow_23 : decode cX10_valueNow 23 = .ok (.iaload, 1) := by decide +kernel
theorem dX10_valueNow_24 : decode cX10_valueNow 24 = .ok (.iconst 0, 1) := by decide +kernel
theorem dX10_valueNow_25 : decode cX10_valueNow 25 = .ok (.iconst 0, 1) := by decide +kernel
theorem dX10_valueNow_26 : decode cX10_valueNow 26 = .ok (.aload_n 0, 1) := by decide +kernel
theorem dX10_valueNow_27 : decode cX10_valueNow 27 = .ok (.getfield 36, 3) := by decide +kernel
theorem dX10_valueNow_30 : decode cX10_valueNow 30 = .ok (.iconst 2, 1) := by decide +kernel
theorem dX10_valueNow_31 : decode cX10_valueNow 31 = .ok (.iaload, 1) := by decide +kernel
theorem dX10_valueNow_32 : decode cX10_valueNow 32 = .ok (.invokestatic 270, 3) := by decide +kernel
theorem dX10_valueNow_35 : decode cX10_valueNow 35 = .ok (.iaload, 1) := by decide +kernel
theorem dX10_valueNow_36 : decode cX10_valueNow 36 = .ok (.ireturn, 1) := by decide +kernel
def fX10_valueNow (a0 : Nat) (h : hp_T) : Option (Int32 × hp_T) := fx_b1 (fX10_takesLines a0 h) fun (h1 : hp_T) => fx_b1 (fX10_laysValues a0 h1) fun (h5 : hp_T) => fx_b2 (fX10_at (h5.1 (h5.2.2 a0 20) (fx_ix (0 : Int32))) (h5.1 (h5.2.2 a0 20) (fx_ix (1 : Int32))) (0 : Int32) (0 : Int32) (h5.1 (h5.2.2 a0 20) (fx_ix (2 : Int32))) h5) fun (r32 : Int32) (h32 : hp_T) => fx_g (fx_in r32 48672) (some ((h32.1 (h5.2.2 a0 25) (fx_ix r32)), h32))
set_option maxRecDepth 100000 in
set_option maxHeartbeats 4000000 in
theorem mX10_valueNow (l : Launch) (G : xr_G) (a0 : Nat) (ta0 : hp_sh a0 = (10, 0)) (h h1 : hp_T) (r : Int32) (hF : fX10_valueNow a0 h = some (r, h1)) : xr_M l G yX10_valueNow cX10_valueNow 1 (xr_R 5 121) (some .int) [.ref (G.2.2.1 a0)] h (xr_Qi G r h1) := by
  refine xr_start rfl (Nat.le_of_ble_eq_true rfl) (fun K C => ?_)
  show xr_j l G K 1 h [(0, .ref (G.2.2.1 a0))] 0 []
  unfold fX10_valueNow at hF
  refine xr_aload_n C 0 dX10_valueNow_0 rfl rfl ?_
  obtain ⟨h1, e1, hF⟩ := fx_b1E hF
  refine xr_callVv C mvX10_262 [] [] (mX10_takesLines l G a0 ta0 h h1 e1) ta0 (by decide) vc10 rfl ⟨rfl, rfl, (Nat.le_of_ble_eq_true rfl), (Nat.le_of_ble_eq_true rfl)⟩ rfl (Nat.le_of_ble_eq_true rfl) dX10_valueNow_1 ?_
  refine xr_aload_n C 0 dX10_valueNow_4 rfl rfl ?_
  obtain ⟨h5, e5, hF⟩ := fx_b1E hF
  refine xr_callVv C mvX10_274 [] [] (mX10_laysValues l G a0 ta0 h1 h5 e5) ta0 (by decide) vc10 rfl ⟨rfl, rfl, (Nat.le_of_ble_eq_true rfl), (Nat.le_of_ble_eq_true rfl)⟩ rfl (Nat.le_of_ble_eq_true rfl) dX10_valueNow_5 ?_
  refine xr_aload_n C 0 dX10_valueNow_8 rfl rfl ?_
  refine xr_getr C flX10_49 rfl (by decide) dX10_valueNow_9 ta0 (fun t9 => ?_)
  refine xr_aload_n C 0 dX10_valueNow_12 rfl rfl ?_
  refine xr_getr C flX10_36 rfl (by decide) dX10_valueNow_13 ta0 (fun t13 => ?_)
  refine xr_iconst (v := 0) C dX10_valueNow_16 (by decide) ?_
  refine xr_iald C dX10_valueNow_17 t13 (by decide) ?_
  refine xr_aload_n C 0 dX10_valueNow_18 rfl rfl ?_
  refine xr_getr C flX10_36 rfl (by decide) dX10_valueNow_19 ta0 (fun t19 => ?_)
  refine xr_iconst (v := 1) C dX10_valueNow_22 (by decide) ?_
  refine xr_iald C dX10_valueNow_23 t19 (by decide) ?_
  refine xr_iconst (v := 0) C dX10_valueNow_24 (by decide) ?_
  refine xr_iconst (v := 0) C dX10_valueNow_25 (by decide) ?_
  refine xr_aload_n C 0 dX10_valueNow_26 rfl rfl ?_
  refine xr_getr C flX10_36 rfl (by decide) dX10_valueNow_27 ta0 (fun t27 => ?_)
  refine xr_iconst (v := 2) C dX10_valueNow_30 (by decide) ?_
  refine xr_iald C dX10_valueNow_31 t27 (by decide) ?_
  obtain ⟨r32, h32, e32, hF⟩ := fx_b2E hF
  refine xr_callSi C mvX10_270 [.int (h5.1 (h5.2.2 a0 20) (fx_ix (0 : Int32))), .int (h5.1 (h5.2.2 a0 20) (fx_ix (1 : Int32))), .int (0 : Int32), .int (0 : Int32), .int (h5.1 (h5.2.2 a0 20) (fx_ix (2 : Int32)))] [.ref (G.2.2.1 (h5.2.2 a0 25))] (mX10_at l G (h5.1 (h5.2.2 a0 20) (fx_ix (0 : Int32))) (h5.1 (h5.2.2 a0 20) (fx_ix (1 : Int32))) (0 : Int32) (0 : Int32) (h5.1 (h5.2.2 a0 20) (fx_ix (2 : Int32)))  h5 h32 r32 e32) rfl ⟨rfl, rfl, (Nat.le_of_ble_eq_true rfl), (Nat.le_of_ble_eq_true rfl)⟩ rfl (Nat.le_of_ble_eq_true rfl) dX10_valueNow_32 ?_
  obtain ⟨g35, hF⟩ := fx_gE hF
  refine xr_iald C dX10_valueNow_35 t9 g35 ?_
  cases hF
  exact xr_iret C dX10_valueNow_36
theorem dX10_value_0 : decode cX10_value 0 = .ok (.aload_n 0, 1) := by decide +kernel
theorem dX10_value_1 : decode cX10_value 1 = .ok (.iconst 0, 1) := by decide +kernel
theorem dX10_value_2 : decode cX10_value 2 = .ok (.putfield 63, 3) := by decide +kernel
theorem dX10_value_5 : decode cX10_value 5 = .ok (.aload_n 0, 1) := by decide +kernel
theorem dX10_value_6 : decode cX10_value 6 = .ok (.getfield 59, 3) := by decide +kernel
theorem dX10_value_9 : decode cX10_value 9 = .ok (.ifCond .eq 10, 3) := by decide +kernel
theorem dX10_value_12 : decode cX10_value 12 = .ok (.aload_n 0, 1) := by decide +kernel
theorem dX10_value_13 : decode cX10_value 13 = .ok (.invokevirtual 277, 3) := by decide +kernel
theorem dX10_value_16 : decode cX10_value 16 = .ok (.goto 4, 3) := by decide +kernel
theorem dX10_value_19 : decode cX10_value 19 = .ok (.iconst (-1), 1) := by decide +kernel
theorem dX10_value_20 : decode cX10_value 20 = .ok (.ireturn, 1) := by decide +kernel
def fX10_value (a0 : Nat) (h : hp_T) : Option (Int32 × hp_T) := fx_let (hp_sI h a0 0 (0 : Int32)) fun (h2 : hp_T) => if (h2.1 a0 7) = 0 then (some ((-1 : Int32), h2)) else (fx_b2 (fX10_valueNow a0 h2) fun (r13 : Int32) (h13 : hp_T) => some (r13, h13))
set_option maxRecDepth 100000 in
set_option maxHeartbeats 4000000 in
theorem mX10_value (l : Launch) (G : xr_G) (a0 : Nat) (ta0 : hp_sh a0 = (10, 0)) (h h1 : hp_T) (r : Int32) (hF : fX10_value a0 h = some (r, h1)) : xr_M l G yX10_value cX10_value 1 (xr_R 6 141) (some .int) [.ref (G.2.2.1 a0)] h (xr_Qi G r h1) := by
  refine xr_start rfl (Nat.le_of_ble_eq_true rfl) (fun K C => ?_)
  show xr_j l G K 1 h [(0, .ref (G.2.2.1 a0))] 0 []
  unfold fX10_value at hF
  refine xr_aload_n C 0 dX10_value_0 rfl rfl ?_
  refine xr_iconst (v := 0) C dX10_value_1 (by decide) ?_
  refine xr_puti C fpX10_63 rfl rfl rfl dX10_value_2 ta0 (fun h2 e2 => ?_)
  have hF := fx_letE hF h2 e2
  refine xr_aload_n C 0 dX10_value_5 rfl rfl ?_
  refine xr_geti C flX10_59 rfl dX10_value_6 ta0 ?_
  refine xr_if_eq C 19 dX10_value_9 (by decide) (fun c9 => ?_) (fun c9 => ?_)
  · have hF := fx_pos hF c9
    refine xr_iconst (v := -1) C dX10_value_19 (by decide) ?_
    cases hF
    exact xr_iret C dX10_value_20
  · have hF := fx_neg hF c9
    refine xr_aload_n C 0 dX10_value_12 rfl rfl ?_
    obtain ⟨r13, h13, e13, hF⟩ := fx_b2E hF
    refine xr_callVi C mvX10_277 [] [] (mX10_valueNow l G a0 ta0 h2 h13 r13 e13) ta0 (by decide) vc10 rfl ⟨rfl, rfl, (Nat.le_of_ble_eq_true rfl), (Nat.le_of_ble_eq_true rfl)⟩ rfl (Nat.le_of_ble_eq_true rfl) dX10_value_13 ?_
    refine xr_goto C 20 dX10_value_16 (by decide) ?_
    cases hF
    exact xr_iret C dX10_value_20
theorem dX10_arePoints_0 : decode cX10_arePoints 0 = .ok (.aload_n 0, 1) := by decide +kernel
theorem dX10_arePoints_1 : decode cX10_arePoints 1 = .ok (.getfield 13, 3) := by decide +kernel
theorem dX10_arePoints_4 : decode cX10_arePoints 4 = .ok (.iconst 0, 1) := by decide +kernel
theorem dX10_arePoints_5 : decode cX10_arePoints 5 = .ok (.iaload, 1) := by decide +kernel
theorem dX10_arePoints_6 : decode cX10_arePoints 6 = .ok (.istore_n 3, 1) := by decide +kernel
theorem dX10_arePoints_7 : decode cX10_arePoints 7 = .ok (.aload_n 0, 1) := by decide +kernel
theorem dX10_arePoints_8 : decode cX10_arePoints 8 = .ok (.getfield 59, 3) := by decide +kernel
theorem dX10_arePoints_11 : decode cX10_arePoints 11 = .ok (.ifCond .eq 35, 3) := by decide +kernel
theorem dX10_arePoints_14 : decode cX10_arePoints 14 = .ok (.iload_n 1, 1) := by decide +kernel
theorem dX10_arePoints_15 : decode cX10_arePoints 15 = .ok (.ifCond .lt 31, 3) := by decide +kernel
theorem dX10_arePoints_18 : decode cX10_arePoints 18 = .ok (.iload_n 1, 1) := by decide +kernel
theorem dX10_arePoints_19 : decode cX10_arePoints 19 = .ok (.iload_n 3, 1) := by decide +kernel
theorem dX10_arePoints_20 : decode cX10_arePoints 20 = .ok (.if_icmp .gt 26, 3) := by decide +kernel
theorem dX10_arePoints_23 : decode cX10_arePoints 23 = .ok (.iload_n 2, 1) := by decide +kernel
theorem dX10_arePoints_24 : decode cX10_arePoints 24 = .ok (.ifCond .lt 22, 3) := by decide +kernel
theorem dX10_arePoints_27 : decode cX10_arePoints 27 = .ok (.iload_n 2, 1) := by decide +kernel
theorem dX10_arePoints_28 : decode cX10_arePoints 28 = .ok (.iload_n 3, 1) := by decide +kernel
theorem dX10_arePoints_29 : decode cX10_arePoints 29 = .ok (.if_icmp .gt 17, 3) := by decide +kernel
theorem dX10_arePoints_32 : decode cX10_arePoints 32 = .ok (.iload_n 1, 1) := by decide +kernel
theorem dX10_arePoints_33 : decode cX10_arePoints 33 = .ok (.iload_n 3, 1) := by decide +kernel
theorem dX10_arePoints_34 : decode cX10_arePoints 34 = .ok (.if_icmp .lt 8, 3) := by decide +kernel
theorem dX10_arePoints_37 : decode cX10_arePoints 37 = .ok (.iload_n 2, 1) := by decide +kernel
theorem dX10_arePoints_38 : decode cX10_arePoints 38 = .ok (.iload_n 3, 1) := by decide +kernel
theorem dX10_arePoints_39 : decode cX10_arePoints 39 = .ok (.if_icmp .ge 7, 3) := by decide +kernel
theorem dX10_arePoints_42 : decode cX10_arePoints 42 = .ok (.iconst 1, 1) := by decide +kernel
theorem dX10_arePoints_43 : decode cX10_arePoints 43 = .ok (.goto 4, 3) := by decide +kernel
theorem dX10_arePoints_46 : decode cX10_arePoints 46 = .ok (.iconst 0, 1) := by decide +kernel
theorem dX10_arePoints_47 : decode cX10_arePoints 47 = .ok (.ireturn, 1) := by decide +kernel
def fX10_arePoints (a0 : Nat) (a1 : Int32) (a2 : Int32) (h : hp_T) : Option (Int32 × hp_T) := fx_let (h.1 (h.2.2 a0 3) (fx_ix (0 : Int32))) fun (x6 : Int32) => if (h.1 a0 7) = 0 then (some ((0 : Int32), h)) else (if a1 < 0 then (some ((0 : Int32), h)) else (if x6 < a1 then (some ((0 : Int32), h)) else (if a2 < 0 then (some ((0 : Int32), h)) else (if x6 < a2 then (some ((0 : Int32), h)) else (if a1 < x6 then (some ((1 : Int32), h)) else (if x6 ≤ a2 then (some ((0 : Int32), h)) else (some ((1 : Int32), h))))))))
set_option maxRecDepth 100000 in
set_option maxHeartbeats 4000000 in
theorem mX10_arePoints (l : Launch) (G : xr_G) (a0 : Nat) (a1 : Int32) (a2 : Int32) (ta0 : hp_sh a0 = (10, 0)) (h h1 : hp_T) (r : Int32) (hF : fX10_arePoints a0 a1 a2 h = some (r, h1)) : xr_M l G yX10_arePoints cX10_arePoints 4 (xr_R 0 0) (some .boolean) [.ref (G.2.2.1 a0), .int a1, .int a2] h (xr_Qi G r h1) := by
  refine xr_start rfl (Nat.le_of_ble_eq_true rfl) (fun K C => ?_)
  show xr_j l G K 4 h [(0, .ref (G.2.2.1 a0)), (1, .int a1), (2, .int a2)] 0 []
  unfold fX10_arePoints at hF
  refine xr_aload_n C 0 dX10_arePoints_0 rfl rfl ?_
  refine xr_getr C flX10_13 rfl (by decide) dX10_arePoints_1 ta0 (fun t1 => ?_)
  refine xr_iconst (v := 0) C dX10_arePoints_4 (by decide) ?_
  refine xr_iald C dX10_arePoints_5 t1 (by decide) ?_
  refine xr_topi (fun x6 e6 => ?_)
  have hF := fx_letE hF x6 e6
  refine xr_istore_n C [(3, .int x6), (0, .ref (G.2.2.1 a0)), (1, .int a1), (2, .int a2)] dX10_arePoints_6 rfl (Nat.le_of_ble_eq_true rfl) rfl ?_
  refine xr_aload_n C 1 dX10_arePoints_7 rfl rfl ?_
  refine xr_geti C flX10_59 rfl dX10_arePoints_8 ta0 ?_
  refine xr_if_eq C 46 dX10_arePoints_11 (by decide) (fun c11 => ?_) (fun c11 => ?_)
  · have hF := fx_pos hF c11
    refine xr_iconst (v := 0) C dX10_arePoints_46 (by decide) ?_
    cases hF
    exact xr_zret C rfl dX10_arePoints_47
  · have hF := fx_neg hF c11
    refine xr_iload_n C 2 dX10_arePoints_14 rfl rfl ?_
    refine xr_if_lt C 46 dX10_arePoints_15 (by decide) (fun c15 => ?_) (fun c15 => ?_)
    · have hF := fx_pos hF c15
      refine xr_iconst (v := 0) C dX10_arePoints_46 (by decide) ?_
      cases hF
      exact xr_zret C rfl dX10_arePoints_47
    · have hF := fx_neg hF c15
      refine xr_iload_n C 2 dX10_arePoints_18 rfl rfl ?_
      refine xr_iload_n C 0 dX10_arePoints_19 rfl rfl ?_
      refine xr_icmp_gt C 46 dX10_arePoints_20 (by decide) (fun c20 => ?_) (fun c20 => ?_)
      · have hF := fx_pos hF c20
        refine xr_iconst (v := 0) C dX10_arePoints_46 (by decide) ?_
        cases hF
        exact xr_zret C rfl dX10_arePoints_47
      · have hF := fx_neg hF c20
        refine xr_iload_n C 3 dX10_arePoints_23 rfl rfl ?_
        refine xr_if_lt C 46 dX10_arePoints_24 (by decide) (fun c24 => ?_) (fun c24 => ?_)
        · have hF := fx_pos hF c24
          refine xr_iconst (v := 0) C dX10_arePoints_46 (by decide) ?_
          cases hF
          exact xr_zret C rfl dX10_arePoints_47
        · have hF := fx_neg hF c24
          refine xr_iload_n C 3 dX10_arePoints_27 rfl rfl ?_
          refine xr_iload_n C 0 dX10_arePoints_28 rfl rfl ?_
          refine xr_icmp_gt C 46 dX10_arePoints_29 (by decide) (fun c29 => ?_) (fun c29 => ?_)
          · have hF := fx_pos hF c29
            refine xr_iconst (v := 0) C dX10_arePoints_46 (by decide) ?_
            cases hF
            exact xr_zret C rfl dX10_arePoints_47
          · have hF := fx_neg hF c29
            refine xr_iload_n C 2 dX10_arePoints_32 rfl rfl ?_
            refine xr_iload_n C 0 dX10_arePoints_33 rfl rfl ?_
            refine xr_icmp_lt C 42 dX10_arePoints_34 (by decide) (fun c34 => ?_) (fun c34 => ?_)
            · have hF := fx_pos hF c34
              refine xr_iconst (v := 1) C dX10_arePoints_42 (by decide) ?_
              refine xr_goto C 47 dX10_arePoints_43 (by decide) ?_
              cases hF
              exact xr_zret C rfl dX10_arePoints_47
            · have hF := fx_neg hF c34
              refine xr_iload_n C 3 dX10_arePoints_37 rfl rfl ?_
              refine xr_iload_n C 0 dX10_arePoints_38 rfl rfl ?_
              refine xr_icmp_ge C 46 dX10_arePoints_39 (by decide) (fun c39 => ?_) (fun c39 => ?_)
              · have hF := fx_pos hF c39
                refine xr_iconst (v := 0) C dX10_arePoints_46 (by decide) ?_
                cases hF
                exact xr_zret C rfl dX10_arePoints_47
              · have hF := fx_neg hF c39
                refine xr_iconst (v := 1) C dX10_arePoints_42 (by decide) ?_
                refine xr_goto C 47 dX10_arePoints_43 (by decide) ?_
                cases hF
                exact xr_zret C rfl dX10_arePoints_47
theorem dX10_valueAt_0 : decode cX10_valueAt 0 = .ok (.aload_n 0, 1) := by decide +kernel
theorem dX10_valueAt_1 : decode cX10_valueAt 1 = .ok (.iconst 0, 1) := by decide +kernel
theorem dX10_valueAt_2 : decode cX10_valueAt 2 = .ok (.putfield 63, 3) := by decide +kernel
theorem dX10_valueAt_5 : decode cX10_valueAt 5 = .ok (.aload_n 0, 1) := by decide +kernel
theorem dX10_valueAt_6 : decode cX10_valueAt 6 = .ok (.iload_n 1, 1) := by decide +kernel
theorem dX10_valueAt_7 : decode cX10_valueAt 7 = .ok (.iload_n 2, 1) := by decide +kernel
theorem dX10_valueAt_8 : decode cX10_valueAt 8 = .ok (.invokevirtual 280, 3) := by decide +kernel
theorem dX10_valueAt_11 : decode cX10_valueAt 11 = .ok (.ifCond .eq 29, 3) := by decide +kernel
theorem dX10_valueAt_14 : decode cX10_valueAt 14 = .ok (.aload_n 0, 1) := by decide +kernel
theorem dX10_valueAt_15 : decode cX10_valueAt 15 = .ok (.iload_n 3, 1) := by decide +kernel
theorem dX10_valueAt_16 : decode cX10_valueAt 16 = .ok (.invokevirtual 259, 3) := by decide +kernel
theorem dX10_valueAt_19 : decode cX10_valueAt 19 = .ok (.ifCond .eq 21, 3) := by decide +kernel
theorem dX10_valueAt_22 : decode cX10_valueAt 22 = .ok (.aload_n 0, 1) := by decide +kernel
theorem dX10_valueAt_23 : decode cX10_valueAt 23 = .ok (.iload 4, 2) := by decide +kernel
theorem dX10_valueAt_25 : decode cX10_valueAt 25 = .ok (.invokevirtual 259, 3) := by decide +kernel
theorem dX10_valueAt_28 : decode cX10_valueAt 28 = .ok (.ifCond .eq 12, 3) := by decide +kernel
theorem dX10_valueAt_31 : decode cX10_valueAt 31 = .ok (.aload_n 0, 1) := by decide +kernel
theorem dX10_valueAt_32 : decode cX10_valueAt 32 = .ok (.iload 5, 2) := by decide +kernel
theorem dX10_valueAt_34 : decode cX10_valueAt 34 = .ok (.invokevirtual 180, 3) := by decide +kernel
theorem dX10_valueAt_37 : decode cX10_valueAt 37 = .ok (.ifCond .ne 5, 3) := by decide +kernel
theorem dX10_valueAt_40 : decode cX10_valueAt 40 = .ok (.iconst (-1), 1) := by decide +kernel
theorem dX10_valueAt_41 : decode cX10_valueAt 41 = .ok (.ireturn, 1) := by decide +kernel
theorem dX10_valueAt_42 : decode cX10_valueAt 42 = .ok (.aload_n 0, 1) := by decide +kernel
theorem dX10_valueAt_43 : decode cX10_valueAt 43 = .ok (.invokevirtual 262, 3) := by decide +kernel
theorem dX10_valueAt_46 : decode cX10_valueAt 46 = .ok (.aload_n 0, 1) := by decide +kernel
theorem dX10_valueAt_47 : decode cX10_valueAt 47 = .ok (.invokevirtual 274, 3) := by decide +kernel
theorem dX10_valueAt_50 : decode cX10_valueAt 50 = .ok (.aload_n 0, 1) := by decide +kernel
theorem dX10_valueAt_51 : decode cX10_valueAt 51 = .ok (.getfield 49, 3) := by decide +kernel
theorem dX10_valueAt_54 : decode cX10_valueAt 54 = .ok (.iload_n 1, 1) := by decide +kernel
theorem dX10_valueAt_55 : decode cX10_valueAt 55 = .ok (.iload_n 2, 1) := by decide +kernel
theorem dX10_valueAt_56 : decode cX10_valueAt 56 = .ok (.iload_n 3, 1) := by decide +kernel
theorem dX10_valueAt_57 : decode cX10_valueAt 57 = .ok (.iload 4, 2) := by decide +kernel
theorem dX10_valueAt_59 : decode cX10_valueAt 59 = .ok (.iload 5, 2) := by decide +kernel
theorem dX10_valueAt_61 : decode cX10_valueAt 61 = .ok (.invokestatic 270, 3) := by decide +kernel
theorem dX10_valueAt_64 : decode cX10_valueAt 64 = .ok (.iaload, 1) := by decide +kernel
theorem dX10_valueAt_65 : decode cX10_valueAt 65 = .ok (.ireturn, 1) := by decide +kernel
def fX10_valueAt (a0 : Nat) (a1 : Int32) (a2 : Int32) (a3 : Int32) (a4 : Int32) (a5 : Int32) (h : hp_T) : Option (Int32 × hp_T) := fx_let (hp_sI h a0 0 (0 : Int32)) fun (h2 : hp_T) => fx_b2 (fX10_arePoints a0 a1 a2 h2) fun (r8 : Int32) (h8 : hp_T) => if r8 = 0 then (some ((-1 : Int32), h8)) else (fx_b2 (fX10_isTurn a0 a3 h8) fun (r16 : Int32) (h16 : hp_T) => if r16 = 0 then (some ((-1 : Int32), h16)) else (fx_b2 (fX10_isTurn a0 a4 h16) fun (r25 : Int32) (h25 : hp_T) => if r25 = 0 then (some ((-1 : Int32), h25)) else (fx_b2 (fX10_isSide a0 a5 h25) fun (r34 : Int32) (h34 : hp_T) => if r34 = 0 then (some ((-1 : Int32), h34)) else (fx_b1 (fX10_takesLines a0 h34) fun (h43 : hp_T) => fx_b1 (fX10_laysValues a0 h43) fun (h47 : hp_T) => fx_b2 (fX10_at a1 a2 a3 a4 a5 h47) fun (r61 : Int32) (h61 : hp_T) => fx_g (fx_in r61 48672) (some ((h61.1 (h47.2.2 a0 25) (fx_ix r61)), h61))))))
set_option maxRecDepth 100000 in
set_option maxHeartbeats 4000000 in
theorem mX10_valueAt (l : Launch) (G : xr_G) (a0 : Nat) (a1 : Int32) (a2 : Int32) (a3 : Int32) (a4 : Int32) (a5 : Int32) (ta0 : hp_sh a0 = (10, 0)) (h h1 : hp_T) (r : Int32) (hF : fX10_valueAt a0 a1 a2 a3 a4 a5 h = some (r, h1)) : xr_M l G yX10_valueAt cX10_valueAt 6 (xr_R 5 121) (some .int) [.ref (G.2.2.1 a0), .int a1, .int a2, .int a3, .int a4, .int a5] h (xr_Qi G r h1) := by
  refine xr_start rfl (Nat.le_of_ble_eq_true rfl) (fun K C => ?_)
  show xr_j l G K 6 h [(0, .ref (G.2.2.1 a0)), (1, .int a1), (2, .int a2), (3, .int a3), (4, .int a4), (5, .int a5)] 0 []
  unfold fX10_valueAt at hF
  refine xr_aload_n C 0 dX10_valueAt_0 rfl rfl ?_
  refine xr_iconst (v := 0) C dX10_valueAt_1 (by decide) ?_
  refine xr_puti C fpX10_63 rfl rfl rfl dX10_valueAt_2 ta0 (fun h2 e2 => ?_)
  have hF := fx_letE hF h2 e2
  refine xr_aload_n C 0 dX10_valueAt_5 rfl rfl ?_
  refine xr_iload_n C 1 dX10_valueAt_6 rfl rfl ?_
  refine xr_iload_n C 2 dX10_valueAt_7 rfl rfl ?_
  obtain ⟨r8, h8, e8, hF⟩ := fx_b2E hF
  refine xr_callVi C mvX10_280 [.int a1, .int a2] [] (mX10_arePoints l G a0 a1 a2 ta0 h2 h8 r8 e8) ta0 (by decide) vc10 rfl ⟨rfl, rfl, (Nat.le_of_ble_eq_true rfl), (Nat.le_of_ble_eq_true rfl)⟩ rfl (Nat.le_of_ble_eq_true rfl) dX10_valueAt_8 ?_
  refine xr_if_eq C 40 dX10_valueAt_11 (by decide) (fun c11 => ?_) (fun c11 => ?_)
  · have hF := fx_pos hF c11
    refine xr_iconst (v := -1) C dX10_valueAt_40 (by decide) ?_
    cases hF
    exact xr_iret C dX10_valueAt_41
  · have hF := fx_neg hF c11
    refine xr_aload_n C 0 dX10_valueAt_14 rfl rfl ?_
    refine xr_iload_n C 3 dX10_valueAt_15 rfl rfl ?_
    obtain ⟨r16, h16, e16, hF⟩ := fx_b2E hF
    refine xr_callVi C mvX10_259 [.int a3] [] (mX10_isTurn l G a0 a3 ta0 h8 h16 r16 e16) ta0 (by decide) vc10 rfl ⟨rfl, rfl, (Nat.le_of_ble_eq_true rfl), (Nat.le_of_ble_eq_true rfl)⟩ rfl (Nat.le_of_ble_eq_true rfl) dX10_valueAt_16 ?_
    refine xr_if_eq C 40 dX10_valueAt_19 (by decide) (fun c19 => ?_) (fun c19 => ?_)
    · have hF := fx_pos hF c19
      refine xr_iconst (v := -1) C dX10_valueAt_40 (by decide) ?_
      cases hF
      exact xr_iret C dX10_valueAt_41
    · have hF := fx_neg hF c19
      refine xr_aload_n C 0 dX10_valueAt_22 rfl rfl ?_
      refine xr_iload C 4 dX10_valueAt_23 rfl ?_
      obtain ⟨r25, h25, e25, hF⟩ := fx_b2E hF
      refine xr_callVi C mvX10_259 [.int a4] [] (mX10_isTurn l G a0 a4 ta0 h16 h25 r25 e25) ta0 (by decide) vc10 rfl ⟨rfl, rfl, (Nat.le_of_ble_eq_true rfl), (Nat.le_of_ble_eq_true rfl)⟩ rfl (Nat.le_of_ble_eq_true rfl) dX10_valueAt_25 ?_
      refine xr_if_eq C 40 dX10_valueAt_28 (by decide) (fun c28 => ?_) (fun c28 => ?_)
      · have hF := fx_pos hF c28
        refine xr_iconst (v := -1) C dX10_valueAt_40 (by decide) ?_
        cases hF
        exact xr_iret C dX10_valueAt_41
      · have hF := fx_neg hF c28
        refine xr_aload_n C 0 dX10_valueAt_31 rfl rfl ?_
        refine xr_iload C 5 dX10_valueAt_32 rfl ?_
        obtain ⟨r34, h34, e34, hF⟩ := fx_b2E hF
        refine xr_callVi C mvX10_180 [.int a5] [] (mX10_isSide l G a0 a5 ta0 h25 h34 r34 e34) ta0 (by decide) vc10 rfl ⟨rfl, rfl, (Nat.le_of_ble_eq_true rfl), (Nat.le_of_ble_eq_true rfl)⟩ rfl (Nat.le_of_ble_eq_true rfl) dX10_valueAt_34 ?_
        refine xr_if_ne C 42 dX10_valueAt_37 (by decide) (fun c37 => ?_) (fun c37 => ?_)
        · have hF := fx_neg hF c37
          refine xr_aload_n C 0 dX10_valueAt_42 rfl rfl ?_
          obtain ⟨h43, e43, hF⟩ := fx_b1E hF
          refine xr_callVv C mvX10_262 [] [] (mX10_takesLines l G a0 ta0 h34 h43 e43) ta0 (by decide) vc10 rfl ⟨rfl, rfl, (Nat.le_of_ble_eq_true rfl), (Nat.le_of_ble_eq_true rfl)⟩ rfl (Nat.le_of_ble_eq_true rfl) dX10_valueAt_43 ?_
          refine xr_aload_n C 0 dX10_valueAt_46 rfl rfl ?_
          obtain ⟨h47, e47, hF⟩ := fx_b1E hF
          refine xr_callVv C mvX10_274 [] [] (mX10_laysValues l G a0 ta0 h43 h47 e47) ta0 (by decide) vc10 rfl ⟨rfl, rfl, (Nat.le_of_ble_eq_true rfl), (Nat.le_of_ble_eq_true rfl)⟩ rfl (Nat.le_of_ble_eq_true rfl) dX10_valueAt_47 ?_
          refine xr_aload_n C 0 dX10_valueAt_50 rfl rfl ?_
          refine xr_getr C flX10_49 rfl (by decide) dX10_valueAt_51 ta0 (fun t51 => ?_)
          refine xr_iload_n C 1 dX10_valueAt_54 rfl rfl ?_
          refine xr_iload_n C 2 dX10_valueAt_55 rfl rfl ?_
          refine xr_iload_n C 3 dX10_valueAt_56 rfl rfl ?_
          refine xr_iload C 4 dX10_valueAt_57 rfl ?_
          refine xr_iload C 5 dX10_valueAt_59 rfl ?_
          obtain ⟨r61, h61, e61, hF⟩ := fx_b2E hF
          refine xr_callSi C mvX10_270 [.int a1, .int a2, .int a3, .int a4, .int a5] [.ref (G.2.2.1 (h47.2.2 a0 25))] (mX10_at l G a1 a2 a3 a4 a5  h47 h61 r61 e61) rfl ⟨rfl, rfl, (Nat.le_of_ble_eq_true rfl), (Nat.le_of_ble_eq_true rfl)⟩ rfl (Nat.le_of_ble_eq_true rfl) dX10_valueAt_61 ?_
          obtain ⟨g64, hF⟩ := fx_gE hF
          refine xr_iald C dX10_valueAt_64 t51 g64 ?_
          cases hF
          exact xr_iret C dX10_valueAt_65
        · have hF := fx_pos hF c37
          refine xr_iconst (v := -1) C dX10_valueAt_40 (by decide) ?_
          cases hF
          exact xr_iret C dX10_valueAt_41
theorem dX10_laysTable_0 : decode cX10_laysTable 0 = .ok (.aload_n 0, 1) := by decide +kernel
theorem dX10_laysTable_1 : decode cX10_laysTable 1 = .ok (.invokevirtual 283, 3) := by decide +kernel
theorem dX10_laysTable_4 : decode cX10_laysTable 4 = .ok (.aload_n 0, 1) := by decide +kernel
theorem dX10_laysTable_5 : decode cX10_laysTable 5 = .ok (.invokevirtual 274, 3) := by decide +kernel
theorem dX10_laysTable_8 : decode cX10_laysTable 8 = .ok (.return_, 1) := by decide +kernel
def fX10_laysTable (a0 : Nat) (h : hp_T) : Option hp_T := fx_b1 (fX10_takesStart a0 h) fun (h1 : hp_T) => fx_b1 (fX10_laysValues a0 h1) fun (h5 : hp_T) => some h5
set_option maxRecDepth 100000 in
set_option maxHeartbeats 4000000 in
theorem mX10_laysTable (l : Launch) (G : xr_G) (a0 : Nat) (ta0 : hp_sh a0 = (10, 0)) (h h1 : hp_T) (hF : fX10_laysTable a0 h = some h1) : xr_M l G yX10_laysTable cX10_laysTable 1 (xr_R 5 121) none [.ref (G.2.2.1 a0)] h (xr_Qv G h1) := by
  refine xr_start rfl (Nat.le_of_ble_eq_true rfl) (fun K C => ?_)
  show xr_j l G K 1 h [(0, .ref (G.2.2.1 a0))] 0 []
  unfold fX10_laysTable at hF
  refine xr_aload_n C 0 dX10_laysTable_0 rfl rfl ?_
  obtain ⟨h1, e1, hF⟩ := fx_b1E hF
  refine xr_callVv C mvX10_283 [] [] (mX10_takesStart l G a0 ta0 h h1 e1) ta0 (by decide) vc10 rfl ⟨rfl, rfl, (Nat.le_of_ble_eq_true rfl), (Nat.le_of_ble_eq_true rfl)⟩ rfl (Nat.le_of_ble_eq_true rfl) dX10_laysTable_1 ?_
  refine xr_aload_n C 0 dX10_laysTable_4 rfl rfl ?_
  obtain ⟨h5, e5, hF⟩ := fx_b1E hF
  refine xr_callVv C mvX10_274 [] [] (mX10_laysValues l G a0 ta0 h1 h5 e5) ta0 (by decide) vc10 rfl ⟨rfl, rfl, (Nat.le_of_ble_eq_true rfl), (Nat.le_of_ble_eq_true rfl)⟩ rfl (Nat.le_of_ble_eq_true rfl) dX10_laysTable_5 ?_
  cases hF
  exact xr_vret C dX10_laysTable_8
theorem dX10_tableAt_0 : decode cX10_tableAt 0 = .ok (.aload_n 0, 1) := by decide +kernel
theorem dX10_tableAt_1 : decode cX10_tableAt 1 = .ok (.getfield 49, 3) := by decide +kernel
theorem dX10_tableAt_4 : decode cX10_tableAt 4 = .ok (.iconst 0, 1) := by decide +kernel
theorem dX10_tableAt_5 : decode cX10_tableAt 5 = .ok (.iconst 0, 1) := by decide +kernel
theorem dX10_tableAt_6 : decode cX10_tableAt 6 = .ok (.iload_n 1, 1) := by decide +kernel
theorem dX10_tableAt_7 : decode cX10_tableAt 7 = .ok (.iload_n 2, 1) := by decide +kernel
theorem dX10_tableAt_8 : decode cX10_tableAt 8 = .ok (.aload_n 0, 1) := by decide +kernel
theorem dX10_tableAt_9 : decode cX10_tableAt 9 = .ok (.getfield 13, 3) := by decide +kernel
theorem dX10_tableAt_12 : decode cX10_tableAt 12 = .ok (.iconst 3, 1) := by decide +kernel
theorem dX10_tableAt_13 : decode cX10_tableAt 13 = .ok (.iaload, 1) := by decide +kernel
theorem dX10_tableAt_14 : decode cX10_tableAt 14 = .ok (.invokestatic 270, 3) := by decide +kernel
theorem dX10_tableAt_17 : decode cX10_tableAt 17 = .ok (.iaload, 1) := by decide +kernel
theorem dX10_tableAt_18 : decode cX10_tableAt 18 = .ok (.ireturn, 1) := by decide +kernel
def fX10_tableAt (a0 : Nat) (a1 : Int32) (a2 : Int32) (h : hp_T) : Option (Int32 × hp_T) := fx_b2 (fX10_at (0 : Int32) (0 : Int32) a1 a2 (h.1 (h.2.2 a0 3) (fx_ix (3 : Int32))) h) fun (r14 : Int32) (h14 : hp_T) => fx_g (fx_in r14 48672) (some ((h14.1 (h.2.2 a0 25) (fx_ix r14)), h14))
set_option maxRecDepth 100000 in
set_option maxHeartbeats 4000000 in
theorem mX10_tableAt (l : Launch) (G : xr_G) (a0 : Nat) (a1 : Int32) (a2 : Int32) (ta0 : hp_sh a0 = (10, 0)) (h h1 : hp_T) (r : Int32) (hF : fX10_tableAt a0 a1 a2 h = some (r, h1)) : xr_M l G yX10_tableAt cX10_tableAt 3 (xr_R 1 24) (some .int) [.ref (G.2.2.1 a0), .int a1, .int a2] h (xr_Qi G r h1) := by
  refine xr_start rfl (Nat.le_of_ble_eq_true rfl) (fun K C => ?_)
  show xr_j l G K 3 h [(0, .ref (G.2.2.1 a0)), (1, .int a1), (2, .int a2)] 0 []
  unfold fX10_tableAt at hF
  refine xr_aload_n C 0 dX10_tableAt_0 rfl rfl ?_
  refine xr_getr C flX10_49 rfl (by decide) dX10_tableAt_1 ta0 (fun t1 => ?_)
  refine xr_iconst (v := 0) C dX10_tableAt_4 (by decide) ?_
  refine xr_iconst (v := 0) C dX10_tableAt_5 (by decide) ?_
  refine xr_iload_n C 1 dX10_tableAt_6 rfl rfl ?_
  refine xr_iload_n C 2 dX10_tableAt_7 rfl rfl ?_
  refine xr_aload_n C 0 dX10_tableAt_8 rfl rfl ?_
  refine xr_getr C flX10_13 rfl (by decide) dX10_tableAt_9 ta0 (fun t9 => ?_)
  refine xr_iconst (v := 3) C dX10_tableAt_12 (by decide) ?_
  refine xr_iald C dX10_tableAt_13 t9 (by decide) ?_
  obtain ⟨r14, h14, e14, hF⟩ := fx_b2E hF
  refine xr_callSi C mvX10_270 [.int (0 : Int32), .int (0 : Int32), .int a1, .int a2, .int (h.1 (h.2.2 a0 3) (fx_ix (3 : Int32)))] [.ref (G.2.2.1 (h.2.2 a0 25))] (mX10_at l G (0 : Int32) (0 : Int32) a1 a2 (h.1 (h.2.2 a0 3) (fx_ix (3 : Int32)))  h h14 r14 e14) rfl ⟨rfl, rfl, (Nat.le_of_ble_eq_true rfl), (Nat.le_of_ble_eq_true rfl)⟩ rfl (Nat.le_of_ble_eq_true rfl) dX10_tableAt_14 ?_
  obtain ⟨g17, hF⟩ := fx_gE hF
  refine xr_iald C dX10_tableAt_17 t1 g17 ?_
  cases hF
  exact xr_iret C dX10_tableAt_18
theorem dX10_table_0 : decode cX10_table 0 = .ok (.aload_n 0, 1) := by decide +kernel
theorem dX10_table_1 : decode cX10_table 1 = .ok (.iconst 0, 1) := by decide +kernel
theorem dX10_table_2 : decode cX10_table 2 = .ok (.putfield 63, 3) := by decide +kernel
theorem dX10_table_5 : decode cX10_table 5 = .ok (.aload_n 0, 1) := by decide +kernel
theorem dX10_table_6 : decode cX10_table 6 = .ok (.iload_n 1, 1) := by decide +kernel
theorem dX10_table_7 : decode cX10_table 7 = .ok (.invokevirtual 259, 3) := by decide +kernel
theorem dX10_table_10 : decode cX10_table 10 = .ok (.ifCond .eq 11, 3) := by decide +kernel
theorem dX10_table_13 : decode cX10_table 13 = .ok (.aload_n 0, 1) := by decide +kernel
theorem dX10_table_14 : decode cX10_table 14 = .ok (.iload_n 2, 1) := by decide +kernel
theorem dX10_table_15 : decode cX10_table 15 = .ok (.invokevirtual 259, 3) := by decide +kernel
theorem dX10_table_18 : decode cX10_table 18 = .ok (.ifCond .ne 5, 3) := by decide +kernel
theorem dX10_table_21 : decode cX10_table 21 = .ok (.iconst (-1), 1) := by decide +kernel
theorem dX10_table_22 : decode cX10_table 22 = .ok (.ireturn, 1) := by decide +kernel
theorem dX10_table_23 : decode cX10_table 23 = .ok (.aload_n 0, 1) := by decide +kernel
theorem dX10_table_24 : decode cX10_table 24 = .ok (.invokevirtual 286, 3) := by decide +kernel
theorem dX10_table_27 : decode cX10_table 27 = .ok (.aload_n 0, 1) := by decide +kernel
theorem dX10_table_28 : decode cX10_table 28 = .ok (.iload_n 1, 1) := by decide +kernel
theorem dX10_table_29 : decode cX10_table 29 = .ok (.iload_n 2, 1) := by decide +kernel
theorem dX10_table_30 : decode cX10_table 30 = .ok (.invokevirtual 289, 3) := by decide +kernel
theorem dX10_table_33 : decode cX10_table 33 = .ok (.ireturn, 1) := by decide +kernel
def fX10_table (a0 : Nat) (a1 : Int32) (a2 : Int32) (h : hp_T) : Option (Int32 × hp_T) := fx_let (hp_sI h a0 0 (0 : Int32)) fun (h2 : hp_T) => fx_b2 (fX10_isTurn a0 a1 h2) fun (r7 : Int32) (h7 : hp_T) => if r7 = 0 then (some ((-1 : Int32), h7)) else (fx_b2 (fX10_isTurn a0 a2 h7) fun (r15 : Int32) (h15 : hp_T) => if r15 = 0 then (some ((-1 : Int32), h15)) else (fx_b1 (fX10_laysTable a0 h15) fun (h24 : hp_T) => fx_b2 (fX10_tableAt a0 a1 a2 h24) fun (r30 : Int32) (h30 : hp_T) => some (r30, h30)))
set_option maxRecDepth 100000 in
set_option maxHeartbeats 4000000 in
theorem mX10_table (l : Launch) (G : xr_G) (a0 : Nat) (a1 : Int32) (a2 : Int32) (ta0 : hp_sh a0 = (10, 0)) (h h1 : hp_T) (r : Int32) (hF : fX10_table a0 a1 a2 h = some (r, h1)) : xr_M l G yX10_table cX10_table 3 (xr_R 6 141) (some .int) [.ref (G.2.2.1 a0), .int a1, .int a2] h (xr_Qi G r h1) := by
  refine xr_start rfl (Nat.le_of_ble_eq_true rfl) (fun K C => ?_)
  show xr_j l G K 3 h [(0, .ref (G.2.2.1 a0)), (1, .int a1), (2, .int a2)] 0 []
  unfold fX10_table at hF
  refine xr_aload_n C 0 dX10_table_0 rfl rfl ?_
  refine xr_iconst (v := 0) C dX10_table_1 (by decide) ?_
  refine xr_puti C fpX10_63 rfl rfl rfl dX10_table_2 ta0 (fun h2 e2 => ?_)
  have hF := fx_letE hF h2 e2
  refine xr_aload_n C 0 dX10_table_5 rfl rfl ?_
  refine xr_iload_n C 1 dX10_table_6 rfl rfl ?_
  obtain ⟨r7, h7, e7, hF⟩ := fx_b2E hF
  refine xr_callVi C mvX10_259 [.int a1] [] (mX10_isTurn l G a0 a1 ta0 h2 h7 r7 e7) ta0 (by decide) vc10 rfl ⟨rfl, rfl, (Nat.le_of_ble_eq_true rfl), (Nat.le_of_ble_eq_true rfl)⟩ rfl (Nat.le_of_ble_eq_true rfl) dX10_table_7 ?_
  refine xr_if_eq C 21 dX10_table_10 (by decide) (fun c10 => ?_) (fun c10 => ?_)
  · have hF := fx_pos hF c10
    refine xr_iconst (v := -1) C dX10_table_21 (by decide) ?_
    cases hF
    exact xr_iret C dX10_table_22
  · have hF := fx_neg hF c10
    refine xr_aload_n C 0 dX10_table_13 rfl rfl ?_
    refine xr_iload_n C 2 dX10_table_14 rfl rfl ?_
    obtain ⟨r15, h15, e15, hF⟩ := fx_b2E hF
    refine xr_callVi C mvX10_259 [.int a2] [] (mX10_isTurn l G a0 a2 ta0 h7 h15 r15 e15) ta0 (by decide) vc10 rfl ⟨rfl, rfl, (Nat.le_of_ble_eq_true rfl), (Nat.le_of_ble_eq_true rfl)⟩ rfl (Nat.le_of_ble_eq_true rfl) dX10_table_15 ?_
    refine xr_if_ne C 23 dX10_table_18 (by decide) (fun c18 => ?_) (fun c18 => ?_)
    · have hF := fx_neg hF c18
      refine xr_aload_n C 0 dX10_table_23 rfl rfl ?_
      obtain ⟨h24, e24, hF⟩ := fx_b1E hF
      refine xr_callVv C mvX10_286 [] [] (mX10_laysTable l G a0 ta0 h15 h24 e24) ta0 (by decide) vc10 rfl ⟨rfl, rfl, (Nat.le_of_ble_eq_true rfl), (Nat.le_of_ble_eq_true rfl)⟩ rfl (Nat.le_of_ble_eq_true rfl) dX10_table_24 ?_
      refine xr_aload_n C 0 dX10_table_27 rfl rfl ?_
      refine xr_iload_n C 1 dX10_table_28 rfl rfl ?_
      refine xr_iload_n C 2 dX10_table_29 rfl rfl ?_
      obtain ⟨r30, h30, e30, hF⟩ := fx_b2E hF
      refine xr_callVi C mvX10_289 [.int a1, .int a2] [] (mX10_tableAt l G a0 a1 a2 ta0 h24 h30 r30 e30) ta0 (by decide) vc10 rfl ⟨rfl, rfl, (Nat.le_of_ble_eq_true rfl), (Nat.le_of_ble_eq_true rfl)⟩ rfl (Nat.le_of_ble_eq_true rfl) dX10_table_30 ?_
      cases hF
      exact xr_iret C dX10_table_33
    · have hF := fx_pos hF c18
      refine xr_iconst (v := -1) C dX10_table_21 (by decide) ?_
      cases hF
      exact xr_iret C dX10_table_22
theorem dX10_worstOf_0 : decode cX10_worstOf 0 = .ok (.iload_n 1, 1) := by decide +kernel
theorem dX10_worstOf_1 : decode cX10_worstOf 1 = .ok (.ifCond .ne 12, 3) := by decide +kernel
theorem dX10_worstOf_4 : decode cX10_worstOf 4 = .ok (.aload_n 0, 1) := by decide +kernel
theorem dX10_worstOf_5 : decode cX10_worstOf 5 = .ok (.iload_n 2, 1) := by decide +kernel
theorem dX10_worstOf_6 : decode cX10_worstOf 6 = .ok (.iconst 0, 1) := by decide +kernel
theorem dX10_worstOf_7 : decode cX10_worstOf 7 = .ok (.invokevirtual 289, 3) := by decide +kernel
theorem dX10_worstOf_10 : decode cX10_worstOf 10 = .ok (.goto 9, 3) := by decide +kernel
theorem dX10_worstOf_13 : decode cX10_worstOf 13 = .ok (.aload_n 0, 1) := by decide +kernel
theorem dX10_worstOf_14 : decode cX10_worstOf 14 = .ok (.iconst 0, 1) := by decide +kernel
theorem dX10_worstOf_15 : decode cX10_worstOf 15 = .ok (.iload_n 2, 1) := by decide +kernel
theorem dX10_worstOf_16 : decode cX10_worstOf 16 = .ok (.invokevirtual 289, 3) := by decide +kernel
theorem dX10_worstOf_19 : decode cX10_worstOf 19 = .ok (.istore_n 3, 1) := by decide +kernel
theorem dX10_worstOf_20 : decode cX10_worstOf 20 = .ok (.iconst 1, 1) := by decide +kernel
theorem dX10_worstOf_21 : decode cX10_worstOf 21 = .ok (.istore 4, 2) := by decide +kernel
theorem dX10_worstOf_23 : decode cX10_worstOf 23 = .ok (.iload 4, 2) := by decide +kernel
theorem dX10_worstOf_25 : decode cX10_worstOf 25 = .ok (.bipush 6, 2) := by decide +kernel
theorem dX10_worstOf_27 : decode cX10_worstOf 27 = .ok (.if_icmp .ge 52, 3) := by decide +kernel
theorem dX10_worstOf_30 : decode cX10_worstOf 30 = .ok (.iload_n 1, 1) := by decide +kernel
theorem dX10_worstOf_31 : decode cX10_worstOf 31 = .ok (.ifCond .ne 13, 3) := by decide +kernel
theorem dX10_worstOf_34 : decode cX10_worstOf 34 = .ok (.aload_n 0, 1) := by decide +kernel
theorem dX10_worstOf_35 : decode cX10_worstOf 35 = .ok (.iload_n 2, 1) := by decide +kernel
theorem dX10_worstOf_36 : decode cX10_worstOf 36 = .ok (.iload 4, 2) := by decide +kernel
theorem dX10_worstOf_38 : decode cX10_worstOf 38 = .ok (.invokevirtual 289, 3) := by decide +kernel
theorem dX10_worstOf_41 : decode cX10_worstOf 41 = .ok (.goto 10, 3) := by decide +kernel
theorem dX10_worstOf_44 : decode cX10_worstOf 44 = .ok (.aload_n 0, 1) := by decide +kernel
theorem dX10_worstOf_45 : decode cX10_worstOf 45 = .ok (.iload 4, 2) := by decide +kernel
theorem dX10_worstOf_47 : decode cX10_worstOf 47 = .ok (.iload_n 2, 1) := by decide +kernel
theorem dX10_worstOf_48 : decode cX10_worstOf 48 = .ok (.invokevirtual 289, 3) := by decide +kernel
theorem dX10_worstOf_51 : decode cX10_worstOf 51 = .ok (.istore 5, 2) := by decide +kernel
theorem dX10_worstOf_53 : decode cX10_worstOf 53 = .ok (.iload_n 1, 1) := by decide +kernel
theorem dX10_worstOf_54 : decode cX10_worstOf 54 = .ok (.ifCond .ne 12, 3) := by decide +kernel
theorem dX10_worstOf_57 : decode cX10_worstOf 57 = .ok (.iload_n 3, 1) := by decide +kernel
theorem dX10_worstOf_58 : decode cX10_worstOf 58 = .ok (.iload 5, 2) := by decide +kernel
theorem dX10_worstOf_60 : decode cX10_worstOf 60 = .ok (.invokestatic 292, 3) := by decide +kernel
theorem dX10_worstOf_63 : decode cX10_worstOf 63 = .ok (.goto 9, 3) := by decide +kernel
theorem dX10_worstOf_66 : decode cX10_worstOf 66 = .ok (.iload_n 3, 1) := by decide +kernel
theorem dX10_worstOf_67 : decode cX10_worstOf 67 = .ok (.iload 5, 2) := by decide +kernel
theorem dX10_worstOf_69 : decode cX10_worstOf 69 = .ok (.invokestatic 297, 3) := by decide +kernel
theorem dX10_worstOf_72 : decode cX10_worstOf 72 = .ok (.istore_n 3, 1) := by decide +kernel
theorem dX10_worstOf_73 : decode cX10_worstOf 73 = .ok (.iinc 4 1, 3) := by decide +kernel
theorem dX10_worstOf_76 : decode cX10_worstOf 76 = .ok (.goto (-53), 3) := by decide +kernel
theorem dX10_worstOf_79 : decode cX10_worstOf 79 = .ok (.iload_n 3, 1) := by decide +kernel
theorem dX10_worstOf_80 : decode cX10_worstOf 80 = .ok (.ireturn, 1) := by decide +kernel
def fX10_worstOf_72 (k23 : Nat → Int32 → Int32 → Int32 → Int32 → hp_T → Option (Int32 × hp_T)) (a0 : Nat) (a1 : Int32) (a2 : Int32) (a4 : Int32) (s0 : Int32) (h : hp_T) : Option (Int32 × hp_T) := fx_let (a4 + (1 : Int32)) fun (x73 : Int32) => k23 a0 a1 a2 s0 x73 h
set_option maxRecDepth 100000 in
set_option maxHeartbeats 4000000 in
theorem bX10_worstOf_72 {l : Launch} {G : xr_G} {K : xr_K} {r : Int32} {h1 : hp_T} (C : xr_C G K cX10_worstOf RX10 6 (xr_R 2 60) (some .int) (some (xr_Qi G r h1))) (k23 : Nat → Int32 → Int32 → Int32 → Int32 → hp_T → Option (Int32 × hp_T)) (j23 : ∀ (a0 : Nat) (a1 : Int32) (a2 : Int32) (a3 : Int32) (a4 : Int32) (ta0 : hp_sh a0 = (10, 0)) (h : hp_T), k23 a0 a1 a2 a3 a4 h = some (r, h1) → xr_j l G K 6 h [(0, .ref (G.2.2.1 a0)), (1, .int a1), (2, .int a2), (3, .int a3), (4, .int a4)] 23 []) (a0 : Nat) (a1 : Int32) (a2 : Int32) (a4 : Int32) (s0 : Int32) (ta0 : hp_sh a0 = (10, 0)) (h : hp_T) (hF : fX10_worstOf_72 k23 a0 a1 a2 a4 s0 h = some (r, h1)) : xr_j l G K 6 h [(0, .ref (G.2.2.1 a0)), (1, .int a1), (2, .int a2), (4, .int a4)] 72 [.int s0] := by
  unfold fX10_worstOf_72 at hF
  refine xr_istore_n C [(3, .int s0), (0, .ref (G.2.2.1 a0)), (1, .int a1), (2, .int a2), (4, .int a4)] dX10_worstOf_72 rfl (Nat.le_of_ble_eq_true rfl) rfl ?_
  obtain ⟨x73, e73⟩ : ∃ y : Int32, y = (a4 + (1 : Int32)) := ⟨_, rfl⟩
  have hF := fx_letE hF x73 e73
  refine xr_iinc C x73 4 [(4, .int x73), (3, .int s0), (0, .ref (G.2.2.1 a0)), (1, .int a1), (2, .int a2)] dX10_worstOf_73 rfl (by rw [e73]; rfl) (Nat.le_of_ble_eq_true rfl) rfl ?_
  refine xr_goto C 23 dX10_worstOf_76 (by decide) ?_
  refine xr_sub [2, 3, 4, 1, 0] [(0, .ref (G.2.2.1 a0)), (1, .int a1), (2, .int a2), (3, .int s0), (4, .int x73)] rfl ?_
  exact j23 a0 a1 a2 s0 x73 ta0 h hF
def fX10_worstOf_51 (k23 : Nat → Int32 → Int32 → Int32 → Int32 → hp_T → Option (Int32 × hp_T)) (a0 : Nat) (a1 : Int32) (a2 : Int32) (a3 : Int32) (a4 : Int32) (s0 : Int32) (h : hp_T) : Option (Int32 × hp_T) := if a1 = 0 then (fX10_worstOf_72 k23 a0 a1 a2 a4 (fx_min a3 s0) h) else (fX10_worstOf_72 k23 a0 a1 a2 a4 (fx_max a3 s0) h)
set_option maxRecDepth 100000 in
set_option maxHeartbeats 4000000 in
theorem bX10_worstOf_51 {l : Launch} {G : xr_G} {K : xr_K} {r : Int32} {h1 : hp_T} (C : xr_C G K cX10_worstOf RX10 6 (xr_R 2 60) (some .int) (some (xr_Qi G r h1))) (k23 : Nat → Int32 → Int32 → Int32 → Int32 → hp_T → Option (Int32 × hp_T)) (j23 : ∀ (a0 : Nat) (a1 : Int32) (a2 : Int32) (a3 : Int32) (a4 : Int32) (ta0 : hp_sh a0 = (10, 0)) (h : hp_T), k23 a0 a1 a2 a3 a4 h = some (r, h1) → xr_j l G K 6 h [(0, .ref (G.2.2.1 a0)), (1, .int a1), (2, .int a2), (3, .int a3), (4, .int a4)] 23 []) (a0 : Nat) (a1 : Int32) (a2 : Int32) (a3 : Int32) (a4 : Int32) (s0 : Int32) (ta0 : hp_sh a0 = (10, 0)) (h : hp_T) (hF : fX10_worstOf_51 k23 a0 a1 a2 a3 a4 s0 h = some (r, h1)) : xr_j l G K 6 h [(0, .ref (G.2.2.1 a0)), (1, .int a1), (2, .int a2), (3, .int a3), (4, .int a4)] 51 [.int s0] := by
  unfold fX10_worstOf_51 at hF
  refine xr_istore C [(5, .int s0), (0, .ref (G.2.2.1 a0)), (1, .int a1), (2, .int a2), (3, .int a3), (4, .int a4)] dX10_worstOf_51 (Nat.le_of_ble_eq_true rfl) rfl ?_
  refine xr_iload_n C 2 dX10_worstOf_53 rfl rfl ?_
  refine xr_if_ne C 66 dX10_worstOf_54 (by decide) (fun c54 => ?_) (fun c54 => ?_)
  · have hF := fx_neg hF c54
    refine xr_iload_n C 4 dX10_worstOf_66 rfl rfl ?_
    refine xr_iload C 0 dX10_worstOf_67 rfl ?_
    refine xr_mmax C mmX10_297 (Nat.le_of_ble_eq_true rfl) (Nat.le_of_ble_eq_true rfl) dX10_worstOf_69 ?_
    refine xr_sub [1, 2, 3, 5] [(0, .ref (G.2.2.1 a0)), (1, .int a1), (2, .int a2), (4, .int a4)] rfl ?_
    exact bX10_worstOf_72 C k23 j23  a0 a1 a2 a4 (fx_max a3 s0) ta0 h hF
  · have hF := fx_pos hF c54
    refine xr_iload_n C 4 dX10_worstOf_57 rfl rfl ?_
    refine xr_iload C 0 dX10_worstOf_58 rfl ?_
    refine xr_mmin C mmX10_292 (Nat.le_of_ble_eq_true rfl) (Nat.le_of_ble_eq_true rfl) dX10_worstOf_60 ?_
    refine xr_goto C 72 dX10_worstOf_63 (by decide) ?_
    refine xr_sub [1, 2, 3, 5] [(0, .ref (G.2.2.1 a0)), (1, .int a1), (2, .int a2), (4, .int a4)] rfl ?_
    exact bX10_worstOf_72 C k23 j23  a0 a1 a2 a4 (fx_min a3 s0) ta0 h hF
def fX10_worstOf_23  : Nat → Nat → Int32 → Int32 → Int32 → Int32 → hp_T → Option (Int32 × hp_T)
  | 0, _, _, _, _, _, _ => none
  | n + 1, a0, a1, a2, a3, a4, h => if (6 : Int32) ≤ a4 then (some (a3, h)) else (if a1 = 0 then (fx_b2 (fX10_tableAt a0 a2 a4 h) fun (r38 : Int32) (h38 : hp_T) => fX10_worstOf_51 (fX10_worstOf_23 n) a0 a1 a2 a3 a4 r38 h38) else (fx_b2 (fX10_tableAt a0 a4 a2 h) fun (r48 : Int32) (h48 : hp_T) => fX10_worstOf_51 (fX10_worstOf_23 n) a0 a1 a2 a3 a4 r48 h48))
set_option maxRecDepth 100000 in
set_option maxHeartbeats 4000000 in
theorem bX10_worstOf_23 {l : Launch} {G : xr_G} {K : xr_K} {r : Int32} {h1 : hp_T} (C : xr_C G K cX10_worstOf RX10 6 (xr_R 2 60) (some .int) (some (xr_Qi G r h1)))  : ∀ (n : Nat) (a0 : Nat) (a1 : Int32) (a2 : Int32) (a3 : Int32) (a4 : Int32) (ta0 : hp_sh a0 = (10, 0)) (h : hp_T), fX10_worstOf_23 n a0 a1 a2 a3 a4 h = some (r, h1) → xr_j l G K 6 h [(0, .ref (G.2.2.1 a0)), (1, .int a1), (2, .int a2), (3, .int a3), (4, .int a4)] 23 [] := by
  intro n
  induction n with
  | zero =>
    intro a0 a1 a2 a3 a4 ta0 h hF
    cases hF
  | succ n ih =>
    intro a0 a1 a2 a3 a4 ta0 h hF
    rw [fX10_worstOf_23] at hF
    refine xr_iload C 4 dX10_worstOf_23 rfl ?_
    refine xr_bipush (v := 6) C dX10_worstOf_25 (by decide) ?_
    refine xr_icmp_ge C 79 dX10_worstOf_27 (by decide) (fun c27 => ?_) (fun c27 => ?_)
    · have hF := fx_pos hF c27
      refine xr_iload_n C 3 dX10_worstOf_79 rfl rfl ?_
      cases hF
      exact xr_iret C dX10_worstOf_80
    · have hF := fx_neg hF c27
      refine xr_iload_n C 1 dX10_worstOf_30 rfl rfl ?_
      refine xr_if_ne C 44 dX10_worstOf_31 (by decide) (fun c31 => ?_) (fun c31 => ?_)
      · have hF := fx_neg hF c31
        refine xr_aload_n C 0 dX10_worstOf_44 rfl rfl ?_
        refine xr_iload C 4 dX10_worstOf_45 rfl ?_
        refine xr_iload_n C 2 dX10_worstOf_47 rfl rfl ?_
        obtain ⟨r48, h48, e48, hF⟩ := fx_b2E hF
        refine xr_callVi C mvX10_289 [.int a4, .int a2] [] (mX10_tableAt l G a0 a4 a2 ta0 h h48 r48 e48) ta0 (by decide) vc10 rfl ⟨rfl, rfl, (Nat.le_of_ble_eq_true rfl), (Nat.le_of_ble_eq_true rfl)⟩ rfl (Nat.le_of_ble_eq_true rfl) dX10_worstOf_48 ?_
        exact bX10_worstOf_51 C (fX10_worstOf_23 n) (fun a0 a1 a2 a3 a4 ta0 h hF => ih a0 a1 a2 a3 a4 ta0 h hF)  a0 a1 a2 a3 a4 r48 ta0 h48 hF
      · have hF := fx_pos hF c31
        refine xr_aload_n C 0 dX10_worstOf_34 rfl rfl ?_
        refine xr_iload_n C 2 dX10_worstOf_35 rfl rfl ?_
        refine xr_iload C 4 dX10_worstOf_36 rfl ?_
        obtain ⟨r38, h38, e38, hF⟩ := fx_b2E hF
        refine xr_callVi C mvX10_289 [.int a2, .int a4] [] (mX10_tableAt l G a0 a2 a4 ta0 h h38 r38 e38) ta0 (by decide) vc10 rfl ⟨rfl, rfl, (Nat.le_of_ble_eq_true rfl), (Nat.le_of_ble_eq_true rfl)⟩ rfl (Nat.le_of_ble_eq_true rfl) dX10_worstOf_38 ?_
        refine xr_goto C 51 dX10_worstOf_41 (by decide) ?_
        exact bX10_worstOf_51 C (fX10_worstOf_23 n) (fun a0 a1 a2 a3 a4 ta0 h hF => ih a0 a1 a2 a3 a4 ta0 h hF)  a0 a1 a2 a3 a4 r38 ta0 h38 hF
def fX10_worstOf_19  (a0 : Nat) (a1 : Int32) (a2 : Int32) (s0 : Int32) (h : hp_T) : Option (Int32 × hp_T) := fX10_worstOf_23 fx_N a0 a1 a2 s0 (1 : Int32) h
set_option maxRecDepth 100000 in
set_option maxHeartbeats 4000000 in
theorem bX10_worstOf_19 {l : Launch} {G : xr_G} {K : xr_K} {r : Int32} {h1 : hp_T} (C : xr_C G K cX10_worstOf RX10 6 (xr_R 2 60) (some .int) (some (xr_Qi G r h1)))  (a0 : Nat) (a1 : Int32) (a2 : Int32) (s0 : Int32) (ta0 : hp_sh a0 = (10, 0)) (h : hp_T) (hF : fX10_worstOf_19 a0 a1 a2 s0 h = some (r, h1)) : xr_j l G K 6 h [(0, .ref (G.2.2.1 a0)), (1, .int a1), (2, .int a2)] 19 [.int s0] := by
  unfold fX10_worstOf_19 at hF
  refine xr_istore_n C [(3, .int s0), (0, .ref (G.2.2.1 a0)), (1, .int a1), (2, .int a2)] dX10_worstOf_19 rfl (Nat.le_of_ble_eq_true rfl) rfl ?_
  refine xr_iconst (v := 1) C dX10_worstOf_20 (by decide) ?_
  refine xr_istore C [(4, .int (1 : Int32)), (3, .int s0), (0, .ref (G.2.2.1 a0)), (1, .int a1), (2, .int a2)] dX10_worstOf_21 (Nat.le_of_ble_eq_true rfl) rfl ?_
  refine xr_sub [2, 3, 4, 1, 0] [(0, .ref (G.2.2.1 a0)), (1, .int a1), (2, .int a2), (3, .int s0), (4, .int (1 : Int32))] rfl ?_
  exact bX10_worstOf_23 C  fx_N a0 a1 a2 s0 (1 : Int32) ta0 h hF
def fX10_worstOf (a0 : Nat) (a1 : Int32) (a2 : Int32) (h : hp_T) : Option (Int32 × hp_T) := if a1 = 0 then (fx_b2 (fX10_tableAt a0 a2 (0 : Int32) h) fun (r7 : Int32) (h7 : hp_T) => fX10_worstOf_19 a0 a1 a2 r7 h7) else (fx_b2 (fX10_tableAt a0 (0 : Int32) a2 h) fun (r16 : Int32) (h16 : hp_T) => fX10_worstOf_19 a0 a1 a2 r16 h16)
set_option maxRecDepth 100000 in
set_option maxHeartbeats 4000000 in
theorem mX10_worstOf (l : Launch) (G : xr_G) (a0 : Nat) (a1 : Int32) (a2 : Int32) (ta0 : hp_sh a0 = (10, 0)) (h h1 : hp_T) (r : Int32) (hF : fX10_worstOf a0 a1 a2 h = some (r, h1)) : xr_M l G yX10_worstOf cX10_worstOf 6 (xr_R 2 60) (some .int) [.ref (G.2.2.1 a0), .int a1, .int a2] h (xr_Qi G r h1) := by
  refine xr_start rfl (Nat.le_of_ble_eq_true rfl) (fun K C => ?_)
  show xr_j l G K 6 h [(0, .ref (G.2.2.1 a0)), (1, .int a1), (2, .int a2)] 0 []
  unfold fX10_worstOf at hF
  refine xr_iload_n C 1 dX10_worstOf_0 rfl rfl ?_
  refine xr_if_ne C 13 dX10_worstOf_1 (by decide) (fun c1 => ?_) (fun c1 => ?_)
  · have hF := fx_neg hF c1
    refine xr_aload_n C 0 dX10_worstOf_13 rfl rfl ?_
    refine xr_iconst (v := 0) C dX10_worstOf_14 (by decide) ?_
    refine xr_iload_n C 2 dX10_worstOf_15 rfl rfl ?_
    obtain ⟨r16, h16, e16, hF⟩ := fx_b2E hF
    refine xr_callVi C mvX10_289 [.int (0 : Int32), .int a2] [] (mX10_tableAt l G a0 (0 : Int32) a2 ta0 h h16 r16 e16) ta0 (by decide) vc10 rfl ⟨rfl, rfl, (Nat.le_of_ble_eq_true rfl), (Nat.le_of_ble_eq_true rfl)⟩ rfl (Nat.le_of_ble_eq_true rfl) dX10_worstOf_16 ?_
    exact bX10_worstOf_19 C   a0 a1 a2 r16 ta0 h16 hF
  · have hF := fx_pos hF c1
    refine xr_aload_n C 0 dX10_worstOf_4 rfl rfl ?_
    refine xr_iload_n C 2 dX10_worstOf_5 rfl rfl ?_
    refine xr_iconst (v := 0) C dX10_worstOf_6 (by decide) ?_
    obtain ⟨r7, h7, e7, hF⟩ := fx_b2E hF
    refine xr_callVi C mvX10_289 [.int a2, .int (0 : Int32)] [] (mX10_tableAt l G a0 a2 (0 : Int32) ta0 h h7 r7 e7) ta0 (by decide) vc10 rfl ⟨rfl, rfl, (Nat.le_of_ble_eq_true rfl), (Nat.le_of_ble_eq_true rfl)⟩ rfl (Nat.le_of_ble_eq_true rfl) dX10_worstOf_7 ?_
    refine xr_goto C 19 dX10_worstOf_10 (by decide) ?_
    exact bX10_worstOf_19 C   a0 a1 a2 r7 ta0 h7 hF
theorem dX10_safeOf_0 : decode cX10_safeOf 0 = .ok (.iconst 0, 1) := by decide +kernel
theorem dX10_safeOf_1 : decode cX10_safeOf 1 = .ok (.istore_n 2, 1) := by decide +kernel
theorem dX10_safeOf_2 : decode cX10_safeOf 2 = .ok (.iconst 1, 1) := by decide +kernel
theorem dX10_safeOf_3 : decode cX10_safeOf 3 = .ok (.istore_n 3, 1) := by decide +kernel
theorem dX10_safeOf_4 : decode cX10_safeOf 4 = .ok (.iload_n 3, 1) := by decide +kernel
theorem dX10_safeOf_5 : decode cX10_safeOf 5 = .ok (.bipush 6, 2) := by decide +kernel
theorem dX10_safeOf_7 : decode cX10_safeOf 7 = .ok (.if_icmp .ge 69, 3) := by decide +kernel
theorem dX10_safeOf_10 : decode cX10_safeOf 10 = .ok (.iload_n 1, 1) := by decide +kernel
theorem dX10_safeOf_11 : decode cX10_safeOf 11 = .ok (.ifCond .ne 26, 3) := by decide +kernel
theorem dX10_safeOf_14 : decode cX10_safeOf 14 = .ok (.aload_n 0, 1) := by decide +kernel
theorem dX10_safeOf_15 : decode cX10_safeOf 15 = .ok (.iconst 0, 1) := by decide +kernel
theorem dX10_safeOf_16 : decode cX10_safeOf 16 = .ok (.iload_n 3, 1) := by decide +kernel
theorem dX10_safeOf_17 : decode cX10_safeOf 17 = .ok (.invokevirtual 300, 3) := by decide +kernel
theorem dX10_safeOf_20 : decode cX10_safeOf 20 = .ok (.aload_n 0, 1) := by decide +kernel
theorem dX10_safeOf_21 : decode cX10_safeOf 21 = .ok (.iconst 0, 1) := by decide +kernel
theorem dX10_safeOf_22 : decode cX10_safeOf 22 = .ok (.iload_n 2, 1) := by decide +kernel
theorem dX10_safeOf_23 : decode cX10_safeOf 23 = .ok (.invokevirtual 300, 3) := by decide +kernel
theorem dX10_safeOf_26 : decode cX10_safeOf 26 = .ok (.if_icmp .le 7, 3) := by decide +kernel
theorem dX10_safeOf_29 : decode cX10_safeOf 29 = .ok (.iconst 1, 1) := by decide +kernel
theorem dX10_safeOf_30 : decode cX10_safeOf 30 = .ok (.goto 27, 3) := by decide +kernel
theorem dX10_safeOf_33 : decode cX10_safeOf 33 = .ok (.iconst 0, 1) := by decide +kernel
theorem dX10_safeOf_34 : decode cX10_safeOf 34 = .ok (.goto 23, 3) := by decide +kernel
theorem dX10_safeOf_37 : decode cX10_safeOf 37 = .ok (.aload_n 0, 1) := by decide +kernel
theorem dX10_safeOf_38 : decode cX10_safeOf 38 = .ok (.iconst 1, 1) := by decide +kernel
theorem dX10_safeOf_39 : decode cX10_safeOf 39 = .ok (.iload_n 3, 1) := by decide +kernel
theorem dX10_safeOf_40 : decode cX10_safeOf 40 = .ok (.invokevirtual 300, 3) := by decide +kernel
theorem dX10_safeOf_43 : decode cX10_safeOf 43 = .ok (.aload_n 0, 1) := by decide +kernel
theorem dX10_safeOf_44 : decode cX10_safeOf 44 = .ok (.iconst 1, 1) := by decide +kernel
theorem dX10_safeOf_45 : decode cX10_safeOf 45 = .ok (.iload_n 2, 1) := by decide +kernel
theorem dX10_safeOf_46 : decode cX10_safeOf 46 = .ok (.invokevirtual 300, 3) := by decide +kernel
theorem dX10_safeOf_49 : decode cX10_safeOf 49 = .ok (.if_icmp .ge 7, 3) := by decide +kernel
theorem dX10_safeOf_52 : decode cX10_safeOf 52 = .ok (.iconst 1, 1) := by decide +kernel
theorem dX10_safeOf_53 : decode cX10_safeOf 53 = .ok (.goto 4, 3) := by decide +kernel
theorem dX10_safeOf_56 : decode cX10_safeOf 56 = .ok (.iconst 0, 1) := by decide +kernel
theorem dX10_safeOf_57 : decode cX10_safeOf 57 = .ok (.istore 4, 2) := by decide +kernel
theorem dX10_safeOf_59 : decode cX10_safeOf 59 = .ok (.iload 4, 2) := by decide +kernel
theorem dX10_safeOf_61 : decode cX10_safeOf 61 = .ok (.ifCond .eq 7, 3) := by decide +kernel
theorem dX10_safeOf_64 : decode cX10_safeOf 64 = .ok (.iload_n 3, 1) := by decide +kernel
theorem dX10_safeOf_65 : decode cX10_safeOf 65 = .ok (.goto 4, 3) := by decide +kernel
theorem dX10_safeOf_68 : decode cX10_safeOf 68 = .ok (.iload_n 2, 1) := by decide +kernel
theorem dX10_safeOf_69 : decode cX10_safeOf 69 = .ok (.istore_n 2, 1) := by decide +kernel
theorem dX10_safeOf_70 : decode cX10_safeOf 70 = .ok (.iinc 3 1, 3) := by decide +kernel
theorem dX10_safeOf_73 : decode cX10_safeOf 73 = .ok (.goto (-69), 3) := by decide +kernel
theorem dX10_safeOf_76 : decode cX10_safeOf 76 = .ok (.iload_n 2, 1) := by decide +kernel
theorem dX10_safeOf_77 : decode cX10_safeOf 77 = .ok (.ireturn, 1) := by decide +kernel
def fX10_safeOf_69 (k4 : Nat → Int32 → Int32 → Int32 → hp_T → Option (Int32 × hp_T)) (a0 : Nat) (a1 : Int32) (a3 : Int32) (s0 : Int32) (h : hp_T) : Option (Int32 × hp_T) := fx_let (a3 + (1 : Int32)) fun (x70 : Int32) => k4 a0 a1 s0 x70 h
set_option maxRecDepth 100000 in
set_option maxHeartbeats 4000000 in
theorem bX10_safeOf_69 {l : Launch} {G : xr_G} {K : xr_K} {r : Int32} {h1 : hp_T} (C : xr_C G K cX10_safeOf RX10 5 (xr_R 3 85) (some .int) (some (xr_Qi G r h1))) (k4 : Nat → Int32 → Int32 → Int32 → hp_T → Option (Int32 × hp_T)) (j4 : ∀ (a0 : Nat) (a1 : Int32) (a2 : Int32) (a3 : Int32) (ta0 : hp_sh a0 = (10, 0)) (h : hp_T), k4 a0 a1 a2 a3 h = some (r, h1) → xr_j l G K 5 h [(0, .ref (G.2.2.1 a0)), (1, .int a1), (2, .int a2), (3, .int a3)] 4 []) (a0 : Nat) (a1 : Int32) (a3 : Int32) (s0 : Int32) (ta0 : hp_sh a0 = (10, 0)) (h : hp_T) (hF : fX10_safeOf_69 k4 a0 a1 a3 s0 h = some (r, h1)) : xr_j l G K 5 h [(0, .ref (G.2.2.1 a0)), (1, .int a1), (3, .int a3)] 69 [.int s0] := by
  unfold fX10_safeOf_69 at hF
  refine xr_istore_n C [(2, .int s0), (0, .ref (G.2.2.1 a0)), (1, .int a1), (3, .int a3)] dX10_safeOf_69 rfl (Nat.le_of_ble_eq_true rfl) rfl ?_
  obtain ⟨x70, e70⟩ : ∃ y : Int32, y = (a3 + (1 : Int32)) := ⟨_, rfl⟩
  have hF := fx_letE hF x70 e70
  refine xr_iinc C x70 3 [(3, .int x70), (2, .int s0), (0, .ref (G.2.2.1 a0)), (1, .int a1)] dX10_safeOf_70 rfl (by rw [e70]; rfl) (Nat.le_of_ble_eq_true rfl) rfl ?_
  refine xr_goto C 4 dX10_safeOf_73 (by decide) ?_
  refine xr_sub [2, 3, 1, 0] [(0, .ref (G.2.2.1 a0)), (1, .int a1), (2, .int s0), (3, .int x70)] rfl ?_
  exact j4 a0 a1 s0 x70 ta0 h hF
def fX10_safeOf_57 (k4 : Nat → Int32 → Int32 → Int32 → hp_T → Option (Int32 × hp_T)) (a0 : Nat) (a1 : Int32) (a2 : Int32) (a3 : Int32) (s0 : Int32) (h : hp_T) : Option (Int32 × hp_T) := if s0 = 0 then (fX10_safeOf_69 k4 a0 a1 a3 a2 h) else (fX10_safeOf_69 k4 a0 a1 a3 a3 h)
set_option maxRecDepth 100000 in
set_option maxHeartbeats 4000000 in
theorem bX10_safeOf_57 {l : Launch} {G : xr_G} {K : xr_K} {r : Int32} {h1 : hp_T} (C : xr_C G K cX10_safeOf RX10 5 (xr_R 3 85) (some .int) (some (xr_Qi G r h1))) (k4 : Nat → Int32 → Int32 → Int32 → hp_T → Option (Int32 × hp_T)) (j4 : ∀ (a0 : Nat) (a1 : Int32) (a2 : Int32) (a3 : Int32) (ta0 : hp_sh a0 = (10, 0)) (h : hp_T), k4 a0 a1 a2 a3 h = some (r, h1) → xr_j l G K 5 h [(0, .ref (G.2.2.1 a0)), (1, .int a1), (2, .int a2), (3, .int a3)] 4 []) (a0 : Nat) (a1 : Int32) (a2 : Int32) (a3 : Int32) (s0 : Int32) (ta0 : hp_sh a0 = (10, 0)) (h : hp_T) (hF : fX10_safeOf_57 k4 a0 a1 a2 a3 s0 h = some (r, h1)) : xr_j l G K 5 h [(0, .ref (G.2.2.1 a0)), (1, .int a1), (2, .int a2), (3, .int a3)] 57 [.int s0] := by
  unfold fX10_safeOf_57 at hF
  refine xr_istore C [(4, .int s0), (0, .ref (G.2.2.1 a0)), (1, .int a1), (2, .int a2), (3, .int a3)] dX10_safeOf_57 (Nat.le_of_ble_eq_true rfl) rfl ?_
  refine xr_iload C 0 dX10_safeOf_59 rfl ?_
  refine xr_if_eq C 68 dX10_safeOf_61 (by decide) (fun c61 => ?_) (fun c61 => ?_)
  · have hF := fx_pos hF c61
    refine xr_iload_n C 3 dX10_safeOf_68 rfl rfl ?_
    refine xr_sub [1, 2, 4] [(0, .ref (G.2.2.1 a0)), (1, .int a1), (3, .int a3)] rfl ?_
    exact bX10_safeOf_69 C k4 j4  a0 a1 a3 a2 ta0 h hF
  · have hF := fx_neg hF c61
    refine xr_iload_n C 4 dX10_safeOf_64 rfl rfl ?_
    refine xr_goto C 69 dX10_safeOf_65 (by decide) ?_
    refine xr_sub [1, 2, 4] [(0, .ref (G.2.2.1 a0)), (1, .int a1), (3, .int a3)] rfl ?_
    exact bX10_safeOf_69 C k4 j4  a0 a1 a3 a3 ta0 h hF
def fX10_safeOf_4  : Nat → Nat → Int32 → Int32 → Int32 → hp_T → Option (Int32 × hp_T)
  | 0, _, _, _, _, _ => none
  | n + 1, a0, a1, a2, a3, h => if (6 : Int32) ≤ a3 then (some (a2, h)) else (if a1 = 0 then (fx_b2 (fX10_worstOf a0 (0 : Int32) a3 h) fun (r17 : Int32) (h17 : hp_T) => fx_b2 (fX10_worstOf a0 (0 : Int32) a2 h17) fun (r23 : Int32) (h23 : hp_T) => if r17 ≤ r23 then (fX10_safeOf_57 (fX10_safeOf_4 n) a0 a1 a2 a3 (0 : Int32) h23) else (fX10_safeOf_57 (fX10_safeOf_4 n) a0 a1 a2 a3 (1 : Int32) h23)) else (fx_b2 (fX10_worstOf a0 (1 : Int32) a3 h) fun (r40 : Int32) (h40 : hp_T) => fx_b2 (fX10_worstOf a0 (1 : Int32) a2 h40) fun (r46 : Int32) (h46 : hp_T) => if r46 ≤ r40 then (fX10_safeOf_57 (fX10_safeOf_4 n) a0 a1 a2 a3 (0 : Int32) h46) else (fX10_safeOf_57 (fX10_safeOf_4 n) a0 a1 a2 a3 (1 : Int32) h46)))
set_option maxRecDepth 100000 in
set_option maxHeartbeats 4000000 in
theorem bX10_safeOf_4 {l : Launch} {G : xr_G} {K : xr_K} {r : Int32} {h1 : hp_T} (C : xr_C G K cX10_safeOf RX10 5 (xr_R 3 85) (some .int) (some (xr_Qi G r h1)))  : ∀ (n : Nat) (a0 : Nat) (a1 : Int32) (a2 : Int32) (a3 : Int32) (ta0 : hp_sh a0 = (10, 0)) (h : hp_T), fX10_safeOf_4 n a0 a1 a2 a3 h = some (r, h1) → xr_j l G K 5 h [(0, .ref (G.2.2.1 a0)), (1, .int a1), (2, .int a2), (3, .int a3)] 4 [] := by
  intro n
  induction n with
  | zero =>
    intro a0 a1 a2 a3 ta0 h hF
    cases hF
  | succ n ih =>
    intro a0 a1 a2 a3 ta0 h hF
    rw [fX10_safeOf_4] at hF
    refine xr_iload_n C 3 dX10_safeOf_4 rfl rfl ?_
    refine xr_bipush (v := 6) C dX10_safeOf_5 (by decide) ?_
    refine xr_icmp_ge C 76 dX10_safeOf_7 (by decide) (fun c7 => ?_) (fun c7 => ?_)
    · have hF := fx_pos hF c7
      refine xr_iload_n C 2 dX10_safeOf_76 rfl rfl ?_
      cases hF
      exact xr_iret C dX10_safeOf_77
    · have hF := fx_neg hF c7
      refine xr_iload_n C 1 dX10_safeOf_10 rfl rfl ?_
      refine xr_if_ne C 37 dX10_safeOf_11 (by decide) (fun c11 => ?_) (fun c11 => ?_)
      · have hF := fx_neg hF c11
        refine xr_aload_n C 0 dX10_safeOf_37 rfl rfl ?_
        refine xr_iconst (v := 1) C dX10_safeOf_38 (by decide) ?_
        refine xr_iload_n C 3 dX10_safeOf_39 rfl rfl ?_
        obtain ⟨r40, h40, e40, hF⟩ := fx_b2E hF
        refine xr_callVi C mvX10_300 [.int (1 : Int32), .int a3] [] (mX10_worstOf l G a0 (1 : Int32) a3 ta0 h h40 r40 e40) ta0 (by decide) vc10 rfl ⟨rfl, rfl, (Nat.le_of_ble_eq_true rfl), (Nat.le_of_ble_eq_true rfl)⟩ rfl (Nat.le_of_ble_eq_true rfl) dX10_safeOf_40 ?_
        refine xr_aload_n C 0 dX10_safeOf_43 rfl rfl ?_
        refine xr_iconst (v := 1) C dX10_safeOf_44 (by decide) ?_
        refine xr_iload_n C 2 dX10_safeOf_45 rfl rfl ?_
        obtain ⟨r46, h46, e46, hF⟩ := fx_b2E hF
        refine xr_callVi C mvX10_300 [.int (1 : Int32), .int a2] [.int r40] (mX10_worstOf l G a0 (1 : Int32) a2 ta0 h40 h46 r46 e46) ta0 (by decide) vc10 rfl ⟨rfl, rfl, (Nat.le_of_ble_eq_true rfl), (Nat.le_of_ble_eq_true rfl)⟩ rfl (Nat.le_of_ble_eq_true rfl) dX10_safeOf_46 ?_
        refine xr_icmp_ge C 56 dX10_safeOf_49 (by decide) (fun c49 => ?_) (fun c49 => ?_)
        · have hF := fx_pos hF c49
          refine xr_iconst (v := 0) C dX10_safeOf_56 (by decide) ?_
          exact bX10_safeOf_57 C (fX10_safeOf_4 n) (fun a0 a1 a2 a3 ta0 h hF => ih a0 a1 a2 a3 ta0 h hF)  a0 a1 a2 a3 (0 : Int32) ta0 h46 hF
        · have hF := fx_neg hF c49
          refine xr_iconst (v := 1) C dX10_safeOf_52 (by decide) ?_
          refine xr_goto C 57 dX10_safeOf_53 (by decide) ?_
          exact bX10_safeOf_57 C (fX10_safeOf_4 n) (fun a0 a1 a2 a3 ta0 h hF => ih a0 a1 a2 a3 ta0 h hF)  a0 a1 a2 a3 (1 : Int32) ta0 h46 hF
      · have hF := fx_pos hF c11
        refine xr_aload_n C 0 dX10_safeOf_14 rfl rfl ?_
        refine xr_iconst (v := 0) C dX10_safeOf_15 (by decide) ?_
        refine xr_iload_n C 3 dX10_safeOf_16 rfl rfl ?_
        obtain ⟨r17, h17, e17, hF⟩ := fx_b2E hF
        refine xr_callVi C mvX10_300 [.int (0 : Int32), .int a3] [] (mX10_worstOf l G a0 (0 : Int32) a3 ta0 h h17 r17 e17) ta0 (by decide) vc10 rfl ⟨rfl, rfl, (Nat.le_of_ble_eq_true rfl), (Nat.le_of_ble_eq_true rfl)⟩ rfl (Nat.le_of_ble_eq_true rfl) dX10_safeOf_17 ?_
        refine xr_aload_n C 0 dX10_safeOf_20 rfl rfl ?_
        refine xr_iconst (v := 0) C dX10_safeOf_21 (by decide) ?_
        refine xr_iload_n C 2 dX10_safeOf_22 rfl rfl ?_
        obtain ⟨r23, h23, e23, hF⟩ := fx_b2E hF
        refine xr_callVi C mvX10_300 [.int (0 : Int32), .int a2] [.int r17] (mX10_worstOf l G a0 (0 : Int32) a2 ta0 h17 h23 r23 e23) ta0 (by decide) vc10 rfl ⟨rfl, rfl, (Nat.le_of_ble_eq_true rfl), (Nat.le_of_ble_eq_true rfl)⟩ rfl (Nat.le_of_ble_eq_true rfl) dX10_safeOf_23 ?_
        refine xr_icmp_le C 33 dX10_safeOf_26 (by decide) (fun c26 => ?_) (fun c26 => ?_)
        · have hF := fx_pos hF c26
          refine xr_iconst (v := 0) C dX10_safeOf_33 (by decide) ?_
          refine xr_goto C 57 dX10_safeOf_34 (by decide) ?_
          exact bX10_safeOf_57 C (fX10_safeOf_4 n) (fun a0 a1 a2 a3 ta0 h hF => ih a0 a1 a2 a3 ta0 h hF)  a0 a1 a2 a3 (0 : Int32) ta0 h23 hF
        · have hF := fx_neg hF c26
          refine xr_iconst (v := 1) C dX10_safeOf_29 (by decide) ?_
          refine xr_goto C 57 dX10_safeOf_30 (by decide) ?_
          exact bX10_safeOf_57 C (fX10_safeOf_4 n) (fun a0 a1 a2 a3 ta0 h hF => ih a0 a1 a2 a3 ta0 h hF)  a0 a1 a2 a3 (1 : Int32) ta0 h23 hF
def fX10_safeOf (a0 : Nat) (a1 : Int32) (h : hp_T) : Option (Int32 × hp_T) := fX10_safeOf_4 fx_N a0 a1 (0 : Int32) (1 : Int32) h
set_option maxRecDepth 100000 in
set_option maxHeartbeats 4000000 in
theorem mX10_safeOf (l : Launch) (G : xr_G) (a0 : Nat) (a1 : Int32) (ta0 : hp_sh a0 = (10, 0)) (h h1 : hp_T) (r : Int32) (hF : fX10_safeOf a0 a1 h = some (r, h1)) : xr_M l G yX10_safeOf cX10_safeOf 5 (xr_R 3 85) (some .int) [.ref (G.2.2.1 a0), .int a1] h (xr_Qi G r h1) := by
  refine xr_start rfl (Nat.le_of_ble_eq_true rfl) (fun K C => ?_)
  show xr_j l G K 5 h [(0, .ref (G.2.2.1 a0)), (1, .int a1)] 0 []
  unfold fX10_safeOf at hF
  refine xr_iconst (v := 0) C dX10_safeOf_0 (by decide) ?_
  refine xr_istore_n C [(2, .int (0 : Int32)), (0, .ref (G.2.2.1 a0)), (1, .int a1)] dX10_safeOf_1 rfl (Nat.le_of_ble_eq_true rfl) rfl ?_
  refine xr_iconst (v := 1) C dX10_safeOf_2 (by decide) ?_
  refine xr_istore_n C [(3, .int (1 : Int32)), (2, .int (0 : Int32)), (0, .ref (G.2.2.1 a0)), (1, .int a1)] dX10_safeOf_3 rfl (Nat.le_of_ble_eq_true rfl) rfl ?_
  refine xr_sub [2, 3, 1, 0] [(0, .ref (G.2.2.1 a0)), (1, .int a1), (2, .int (0 : Int32)), (3, .int (1 : Int32))] rfl ?_
  exact bX10_safeOf_4 C  fx_N a0 a1 (0 : Int32) (1 : Int32) ta0 h hF
theorem dX10_safe_0 : decode cX10_safe 0 = .ok (.aload_n 0, 1) := by decide +kernel
theorem dX10_safe_1 : decode cX10_safe 1 = .ok (.iconst 0, 1) := by decide +kernel
theorem dX10_safe_2 : decode cX10_safe 2 = .ok (.putfield 63, 3) := by decide +kernel
theorem dX10_safe_5 : decode cX10_safe 5 = .ok (.aload_n 0, 1) := by decide +kernel
theorem dX10_safe_6 : decode cX10_safe 6 = .ok (.iload_n 1, 1) := by decide +kernel
theorem dX10_safe_7 : decode cX10_safe 7 = .ok (.invokevirtual 180, 3) := by decide +kernel
theorem dX10_safe_10 : decode cX10_safe 10 = .ok (.ifCond .eq 12, 3) := by decide +kernel
theorem dX10_safe_13 : decode cX10_safe 13 = .ok (.iload_n 2, 1) := by decide +kernel
theorem dX10_safe_14 : decode cX10_safe 14 = .ok (.ifCond .lt 8, 3) := by decide +kernel
theorem dX10_safe_17 : decode cX10_safe 17 = .ok (.iload_n 2, 1) := by decide +kernel
theorem dX10_safe_18 : decode cX10_safe 18 = .ok (.iconst 1, 1) := by decide +kernel
theorem dX10_safe_19 : decode cX10_safe 19 = .ok (.if_icmp .le 5, 3) := by decide +kernel
theorem dX10_safe_22 : decode cX10_safe 22 = .ok (.iconst (-1), 1) := by decide +kernel
theorem dX10_safe_23 : decode cX10_safe 23 = .ok (.ireturn, 1) := by decide +kernel
theorem dX10_safe_24 : decode cX10_safe 24 = .ok (.aload_n 0, 1) := by decide +kernel
theorem dX10_safe_25 : decode cX10_safe 25 = .ok (.invokevirtual 286, 3) := by decide +kernel
theorem dX10_safe_28 : decode cX10_safe 28 = .ok (.aload_n 0, 1) := by decide +kernel
theorem dX10_safe_29 : decode cX10_safe 29 = .ok (.iload_n 1, 1) := by decide +kernel
theorem dX10_safe_30 : decode cX10_safe 30 = .ok (.invokevirtual 303, 3) := by decide +kernel
theorem dX10_safe_33 : decode cX10_safe 33 = .ok (.istore_n 3, 1) := by decide +kernel
theorem dX10_safe_34 : decode cX10_safe 34 = .ok (.iload_n 2, 1) := by decide +kernel
theorem dX10_safe_35 : decode cX10_safe 35 = .ok (.ifCond .ne 7, 3) := by decide +kernel
theorem dX10_safe_38 : decode cX10_safe 38 = .ok (.iload_n 3, 1) := by decide +kernel
theorem dX10_safe_39 : decode cX10_safe 39 = .ok (.goto 9, 3) := by decide +kernel
theorem dX10_safe_42 : decode cX10_safe 42 = .ok (.aload_n 0, 1) := by decide +kernel
theorem dX10_safe_43 : decode cX10_safe 43 = .ok (.iload_n 1, 1) := by decide +kernel
theorem dX10_safe_44 : decode cX10_safe 44 = .ok (.iload_n 3, 1) := by decide +kernel
theorem dX10_safe_45 : decode cX10_safe 45 = .ok (.invokevirtual 300, 3) := by decide +kernel
theorem dX10_safe_48 : decode cX10_safe 48 = .ok (.ireturn, 1) := by decide +kernel
def fX10_safe (a0 : Nat) (a1 : Int32) (a2 : Int32) (h : hp_T) : Option (Int32 × hp_T) := fx_let (hp_sI h a0 0 (0 : Int32)) fun (h2 : hp_T) => fx_b2 (fX10_isSide a0 a1 h2) fun (r7 : Int32) (h7 : hp_T) => if r7 = 0 then (some ((-1 : Int32), h7)) else (if a2 < 0 then (some ((-1 : Int32), h7)) else (if a2 ≤ (1 : Int32) then (fx_b1 (fX10_laysTable a0 h7) fun (h25 : hp_T) => fx_b2 (fX10_safeOf a0 a1 h25) fun (r30 : Int32) (h30 : hp_T) => if a2 = 0 then (some (r30, h30)) else (fx_b2 (fX10_worstOf a0 a1 r30 h30) fun (r45 : Int32) (h45 : hp_T) => some (r45, h45))) else (some ((-1 : Int32), h7))))
set_option maxRecDepth 100000 in
set_option maxHeartbeats 4000000 in
theorem mX10_safe (l : Launch) (G : xr_G) (a0 : Nat) (a1 : Int32) (a2 : Int32) (ta0 : hp_sh a0 = (10, 0)) (h h1 : hp_T) (r : Int32) (hF : fX10_safe a0 a1 a2 h = some (r, h1)) : xr_M l G yX10_safe cX10_safe 4 (xr_R 6 141) (some .int) [.ref (G.2.2.1 a0), .int a1, .int a2] h (xr_Qi G r h1) := by
  refine xr_start rfl (Nat.le_of_ble_eq_true rfl) (fun K C => ?_)
  show xr_j l G K 4 h [(0, .ref (G.2.2.1 a0)), (1, .int a1), (2, .int a2)] 0 []
  unfold fX10_safe at hF
  refine xr_aload_n C 0 dX10_safe_0 rfl rfl ?_
  refine xr_iconst (v := 0) C dX10_safe_1 (by decide) ?_
  refine xr_puti C fpX10_63 rfl rfl rfl dX10_safe_2 ta0 (fun h2 e2 => ?_)
  have hF := fx_letE hF h2 e2
  refine xr_aload_n C 0 dX10_safe_5 rfl rfl ?_
  refine xr_iload_n C 1 dX10_safe_6 rfl rfl ?_
  obtain ⟨r7, h7, e7, hF⟩ := fx_b2E hF
  refine xr_callVi C mvX10_180 [.int a1] [] (mX10_isSide l G a0 a1 ta0 h2 h7 r7 e7) ta0 (by decide) vc10 rfl ⟨rfl, rfl, (Nat.le_of_ble_eq_true rfl), (Nat.le_of_ble_eq_true rfl)⟩ rfl (Nat.le_of_ble_eq_true rfl) dX10_safe_7 ?_
  refine xr_if_eq C 22 dX10_safe_10 (by decide) (fun c10 => ?_) (fun c10 => ?_)
  · have hF := fx_pos hF c10
    refine xr_iconst (v := -1) C dX10_safe_22 (by decide) ?_
    cases hF
    exact xr_iret C dX10_safe_23
  · have hF := fx_neg hF c10
    refine xr_iload_n C 2 dX10_safe_13 rfl rfl ?_
    refine xr_if_lt C 22 dX10_safe_14 (by decide) (fun c14 => ?_) (fun c14 => ?_)
    · have hF := fx_pos hF c14
      refine xr_iconst (v := -1) C dX10_safe_22 (by decide) ?_
      cases hF
      exact xr_iret C dX10_safe_23
    · have hF := fx_neg hF c14
      refine xr_iload_n C 2 dX10_safe_17 rfl rfl ?_
      refine xr_iconst (v := 1) C dX10_safe_18 (by decide) ?_
      refine xr_icmp_le C 24 dX10_safe_19 (by decide) (fun c19 => ?_) (fun c19 => ?_)
      · have hF := fx_pos hF c19
        refine xr_aload_n C 0 dX10_safe_24 rfl rfl ?_
        obtain ⟨h25, e25, hF⟩ := fx_b1E hF
        refine xr_callVv C mvX10_286 [] [] (mX10_laysTable l G a0 ta0 h7 h25 e25) ta0 (by decide) vc10 rfl ⟨rfl, rfl, (Nat.le_of_ble_eq_true rfl), (Nat.le_of_ble_eq_true rfl)⟩ rfl (Nat.le_of_ble_eq_true rfl) dX10_safe_25 ?_
        refine xr_aload_n C 0 dX10_safe_28 rfl rfl ?_
        refine xr_iload_n C 1 dX10_safe_29 rfl rfl ?_
        obtain ⟨r30, h30, e30, hF⟩ := fx_b2E hF
        refine xr_callVi C mvX10_303 [.int a1] [] (mX10_safeOf l G a0 a1 ta0 h25 h30 r30 e30) ta0 (by decide) vc10 rfl ⟨rfl, rfl, (Nat.le_of_ble_eq_true rfl), (Nat.le_of_ble_eq_true rfl)⟩ rfl (Nat.le_of_ble_eq_true rfl) dX10_safe_30 ?_
        refine xr_istore_n C [(3, .int r30), (0, .ref (G.2.2.1 a0)), (1, .int a1), (2, .int a2)] dX10_safe_33 rfl (Nat.le_of_ble_eq_true rfl) rfl ?_
        refine xr_iload_n C 3 dX10_safe_34 rfl rfl ?_
        refine xr_if_ne C 42 dX10_safe_35 (by decide) (fun c35 => ?_) (fun c35 => ?_)
        · have hF := fx_neg hF c35
          refine xr_aload_n C 1 dX10_safe_42 rfl rfl ?_
          refine xr_iload_n C 2 dX10_safe_43 rfl rfl ?_
          refine xr_iload_n C 0 dX10_safe_44 rfl rfl ?_
          obtain ⟨r45, h45, e45, hF⟩ := fx_b2E hF
          refine xr_callVi C mvX10_300 [.int a1, .int r30] [] (mX10_worstOf l G a0 a1 r30 ta0 h30 h45 r45 e45) ta0 (by decide) vc10 rfl ⟨rfl, rfl, (Nat.le_of_ble_eq_true rfl), (Nat.le_of_ble_eq_true rfl)⟩ rfl (Nat.le_of_ble_eq_true rfl) dX10_safe_45 ?_
          cases hF
          exact xr_iret C dX10_safe_48
        · have hF := fx_pos hF c35
          refine xr_iload_n C 0 dX10_safe_38 rfl rfl ?_
          refine xr_goto C 48 dX10_safe_39 (by decide) ?_
          cases hF
          exact xr_iret C dX10_safe_48
      · have hF := fx_neg hF c19
        refine xr_iconst (v := -1) C dX10_safe_22 (by decide) ?_
        cases hF
        exact xr_iret C dX10_safe_23
theorem dX10_saddle_0 : decode cX10_saddle 0 = .ok (.aload_n 0, 1) := by decide +kernel
theorem dX10_saddle_1 : decode cX10_saddle 1 = .ok (.iconst 0, 1) := by decide +kernel
theorem dX10_saddle_2 : decode cX10_saddle 2 = .ok (.putfield 63, 3) := by decide +kernel
theorem dX10_saddle_5 : decode cX10_saddle 5 = .ok (.aload_n 0, 1) := by decide +kernel
theorem dX10_saddle_6 : decode cX10_saddle 6 = .ok (.getfield 59, 3) := by decide +kernel
theorem dX10_saddle_9 : decode cX10_saddle 9 = .ok (.ifCond .ne 5, 3) := by decide +kernel
theorem dX10_saddle_12 : decode cX10_saddle 12 = .ok (.iconst (-1), 1) := by decide +kernel
theorem dX10_saddle_13 : decode cX10_saddle 13 = .ok (.ireturn, 1) := by decide +kernel
theorem dX10_saddle_14 : decode cX10_saddle 14 = .ok (.aload_n 0, 1) := by decide +kernel
theorem dX10_saddle_15 : decode cX10_saddle 15 = .ok (.invokevirtual 286, 3) := by decide +kernel
theorem dX10_saddle_18 : decode cX10_saddle 18 = .ok (.aload_n 0, 1) := by decide +kernel
theorem dX10_saddle_19 : decode cX10_saddle 19 = .ok (.iconst 0, 1) := by decide +kernel
theorem dX10_saddle_20 : decode cX10_saddle 20 = .ok (.aload_n 0, 1) := by decide +kernel
theorem dX10_saddle_21 : decode cX10_saddle 21 = .ok (.iconst 0, 1) := by decide +kernel
theorem dX10_saddle_22 : decode cX10_saddle 22 = .ok (.invokevirtual 303, 3) := by decide +kernel
theorem dX10_saddle_25 : decode cX10_saddle 25 = .ok (.invokevirtual 300, 3) := by decide +kernel
theorem dX10_saddle_28 : decode cX10_saddle 28 = .ok (.aload_n 0, 1) := by decide +kernel
theorem dX10_saddle_29 : decode cX10_saddle 29 = .ok (.iconst 1, 1) := by decide +kernel
theorem dX10_saddle_30 : decode cX10_saddle 30 = .ok (.aload_n 0, 1) := by decide +kernel
theorem dX10_saddle_31 : decode cX10_saddle 31 = .ok (.iconst 1, 1) := by decide +kernel
theorem dX10_saddle_32 : decode cX10_saddle 32 = .ok (.invokevirtual 303, 3) := by decide +kernel
theorem dX10_saddle_35 : decode cX10_saddle 35 = .ok (.invokevirtual 300, 3) := by decide +kernel
theorem dX10_saddle_38 : decode cX10_saddle 38 = .ok (.if_icmp .ne 7, 3) := by decide +kernel
theorem dX10_saddle_41 : decode cX10_saddle 41 = .ok (.iconst 1, 1) := by decide +kernel
theorem dX10_saddle_42 : decode cX10_saddle 42 = .ok (.goto 4, 3) := by decide +kernel
theorem dX10_saddle_45 : decode cX10_saddle 45 = .ok (.iconst 0, 1) := by decide +kernel
theorem dX10_saddle_46 : decode cX10_saddle 46 = .ok (.ireturn, 1) := by decide +kernel
def fX10_saddle (a0 : Nat) (h : hp_T) : Option (Int32 × hp_T) := fx_let (hp_sI h a0 0 (0 : Int32)) fun (h2 : hp_T) => if (h2.1 a0 7) = 0 then (some ((-1 : Int32), h2)) else (fx_b1 (fX10_laysTable a0 h2) fun (h15 : hp_T) => fx_b2 (fX10_safeOf a0 (0 : Int32) h15) fun (r22 : Int32) (h22 : hp_T) => fx_b2 (fX10_worstOf a0 (0 : Int32) r22 h22) fun (r25 : Int32) (h25 : hp_T) => fx_b2 (fX10_safeOf a0 (1 : Int32) h25) fun (r32 : Int32) (h32 : hp_T) => fx_b2 (fX10_worstOf a0 (1 : Int32) r32 h32) fun (r35 : Int32) (h35 : hp_T) => if r25 = r35 then (some ((1 : Int32), h35)) else (some ((0 : Int32), h35)))
set_option maxRecDepth 100000 in
set_option maxHeartbeats 4000000 in
theorem mX10_saddle (l : Launch) (G : xr_G) (a0 : Nat) (ta0 : hp_sh a0 = (10, 0)) (h h1 : hp_T) (r : Int32) (hF : fX10_saddle a0 h = some (r, h1)) : xr_M l G yX10_saddle cX10_saddle 1 (xr_R 6 141) (some .int) [.ref (G.2.2.1 a0)] h (xr_Qi G r h1) := by
  refine xr_start rfl (Nat.le_of_ble_eq_true rfl) (fun K C => ?_)
  show xr_j l G K 1 h [(0, .ref (G.2.2.1 a0))] 0 []
  unfold fX10_saddle at hF
  refine xr_aload_n C 0 dX10_saddle_0 rfl rfl ?_
  refine xr_iconst (v := 0) C dX10_saddle_1 (by decide) ?_
  refine xr_puti C fpX10_63 rfl rfl rfl dX10_saddle_2 ta0 (fun h2 e2 => ?_)
  have hF := fx_letE hF h2 e2
  refine xr_aload_n C 0 dX10_saddle_5 rfl rfl ?_
  refine xr_geti C flX10_59 rfl dX10_saddle_6 ta0 ?_
  refine xr_if_ne C 14 dX10_saddle_9 (by decide) (fun c9 => ?_) (fun c9 => ?_)
  · have hF := fx_neg hF c9
    refine xr_aload_n C 0 dX10_saddle_14 rfl rfl ?_
    obtain ⟨h15, e15, hF⟩ := fx_b1E hF
    refine xr_callVv C mvX10_286 [] [] (mX10_laysTable l G a0 ta0 h2 h15 e15) ta0 (by decide) vc10 rfl ⟨rfl, rfl, (Nat.le_of_ble_eq_true rfl), (Nat.le_of_ble_eq_true rfl)⟩ rfl (Nat.le_of_ble_eq_true rfl) dX10_saddle_15 ?_
    refine xr_aload_n C 0 dX10_saddle_18 rfl rfl ?_
    refine xr_iconst (v := 0) C dX10_saddle_19 (by decide) ?_
    refine xr_aload_n C 0 dX10_saddle_20 rfl rfl ?_
    refine xr_iconst (v := 0) C dX10_saddle_21 (by decide) ?_
    obtain ⟨r22, h22, e22, hF⟩ := fx_b2E hF
    refine xr_callVi C mvX10_303 [.int (0 : Int32)] [.int (0 : Int32), .ref (G.2.2.1 a0)] (mX10_safeOf l G a0 (0 : Int32) ta0 h15 h22 r22 e22) ta0 (by decide) vc10 rfl ⟨rfl, rfl, (Nat.le_of_ble_eq_true rfl), (Nat.le_of_ble_eq_true rfl)⟩ rfl (Nat.le_of_ble_eq_true rfl) dX10_saddle_22 ?_
    obtain ⟨r25, h25, e25, hF⟩ := fx_b2E hF
    refine xr_callVi C mvX10_300 [.int (0 : Int32), .int r22] [] (mX10_worstOf l G a0 (0 : Int32) r22 ta0 h22 h25 r25 e25) ta0 (by decide) vc10 rfl ⟨rfl, rfl, (Nat.le_of_ble_eq_true rfl), (Nat.le_of_ble_eq_true rfl)⟩ rfl (Nat.le_of_ble_eq_true rfl) dX10_saddle_25 ?_
    refine xr_aload_n C 0 dX10_saddle_28 rfl rfl ?_
    refine xr_iconst (v := 1) C dX10_saddle_29 (by decide) ?_
    refine xr_aload_n C 0 dX10_saddle_30 rfl rfl ?_
    refine xr_iconst (v := 1) C dX10_saddle_31 (by decide) ?_
    obtain ⟨r32, h32, e32, hF⟩ := fx_b2E hF
    refine xr_callVi C mvX10_303 [.int (1 : Int32)] [.int (1 : Int32), .ref (G.2.2.1 a0), .int r25] (mX10_safeOf l G a0 (1 : Int32) ta0 h25 h32 r32 e32) ta0 (by decide) vc10 rfl ⟨rfl, rfl, (Nat.le_of_ble_eq_true rfl), (Nat.le_of_ble_eq_true rfl)⟩ rfl (Nat.le_of_ble_eq_true rfl) dX10_saddle_32 ?_
    obtain ⟨r35, h35, e35, hF⟩ := fx_b2E hF
    refine xr_callVi C mvX10_300 [.int (1 : Int32), .int r32] [.int r25] (mX10_worstOf l G a0 (1 : Int32) r32 ta0 h32 h35 r35 e35) ta0 (by decide) vc10 rfl ⟨rfl, rfl, (Nat.le_of_ble_eq_true rfl), (Nat.le_of_ble_eq_true rfl)⟩ rfl (Nat.le_of_ble_eq_true rfl) dX10_saddle_35 ?_
    refine xr_icmp_ne C 45 dX10_saddle_38 (by decide) (fun c38 => ?_) (fun c38 => ?_)
    · have hF := fx_neg hF c38
      refine xr_iconst (v := 0) C dX10_saddle_45 (by decide) ?_
      cases hF
      exact xr_iret C dX10_saddle_46
    · have hF := fx_pos hF c38
      refine xr_iconst (v := 1) C dX10_saddle_41 (by decide) ?_
      refine xr_goto C 46 dX10_saddle_42 (by decide) ?_
      cases hF
      exact xr_iret C dX10_saddle_46
  · have hF := fx_pos hF c9
    refine xr_iconst (v := -1) C dX10_saddle_12 (by decide) ?_
    cases hF
    exact xr_iret C dX10_saddle_13
theorem dX10_reply_0 : decode cX10_reply 0 = .ok (.aload_n 0, 1) := by decide +kernel
theorem dX10_reply_1 : decode cX10_reply 1 = .ok (.iconst 0, 1) := by decide +kernel
theorem dX10_reply_2 : decode cX10_reply 2 = .ok (.putfield 63, 3) := by decide +kernel
theorem dX10_reply_5 : decode cX10_reply 5 = .ok (.aload_n 0, 1) := by decide +kernel
theorem dX10_reply_6 : decode cX10_reply 6 = .ok (.iload_n 1, 1) := by decide +kernel
theorem dX10_reply_7 : decode cX10_reply 7 = .ok (.invokevirtual 180, 3) := by decide +kernel
theorem dX10_reply_10 : decode cX10_reply 10 = .ok (.ifCond .eq 11, 3) := by decide +kernel
theorem dX10_reply_13 : decode cX10_reply 13 = .ok (.aload_n 0, 1) := by decide +kernel
theorem dX10_reply_14 : decode cX10_reply 14 = .ok (.iload_n 2, 1) := by decide +kernel
theorem dX10_reply_15 : decode cX10_reply 15 = .ok (.invokevirtual 259, 3) := by decide +kernel
theorem dX10_reply_18 : decode cX10_reply 18 = .ok (.ifCond .ne 5, 3) := by decide +kernel
theorem dX10_reply_21 : decode cX10_reply 21 = .ok (.iconst (-1), 1) := by decide +kernel
theorem dX10_reply_22 : decode cX10_reply 22 = .ok (.ireturn, 1) := by decide +kernel
theorem dX10_reply_23 : decode cX10_reply 23 = .ok (.aload_n 0, 1) := by decide +kernel
theorem dX10_reply_24 : decode cX10_reply 24 = .ok (.invokevirtual 286, 3) := by decide +kernel
theorem dX10_reply_27 : decode cX10_reply 27 = .ok (.iconst 0, 1) := by decide +kernel
theorem dX10_reply_28 : decode cX10_reply 28 = .ok (.istore_n 3, 1) := by decide +kernel
theorem dX10_reply_29 : decode cX10_reply 29 = .ok (.iconst 1, 1) := by decide +kernel
theorem dX10_reply_30 : decode cX10_reply 30 = .ok (.istore 4, 2) := by decide +kernel
theorem dX10_reply_32 : decode cX10_reply 32 = .ok (.iload 4, 2) := by decide +kernel
theorem dX10_reply_34 : decode cX10_reply 34 = .ok (.bipush 6, 2) := by decide +kernel
theorem dX10_reply_36 : decode cX10_reply 36 = .ok (.if_icmp .ge 72, 3) := by decide +kernel
theorem dX10_reply_39 : decode cX10_reply 39 = .ok (.iload_n 1, 1) := by decide +kernel
theorem dX10_reply_40 : decode cX10_reply 40 = .ok (.ifCond .ne 27, 3) := by decide +kernel
theorem dX10_reply_43 : decode cX10_reply 43 = .ok (.aload_n 0, 1) := by decide +kernel
theorem dX10_reply_44 : decode cX10_reply 44 = .ok (.iload 4, 2) := by decide +kernel
theorem dX10_reply_46 : decode cX10_reply 46 = .ok (.iload_n 2, 1) := by decide +kernel
theorem dX10_reply_47 : decode cX10_reply 47 = .ok (.invokevirtual 289, 3) := by decide +kernel
theorem dX10_reply_50 : decode cX10_reply 50 = .ok (.aload_n 0, 1) := by decide +kernel
theorem dX10_reply_51 : decode cX10_reply 51 = .ok (.iload_n 3, 1) := by decide +kernel
theorem dX10_reply_52 : decode cX10_reply 52 = .ok (.iload_n 2, 1) := by decide +kernel
theorem dX10_reply_53 : decode cX10_reply 53 = .ok (.invokevirtual 289, 3) := by decide +kernel
theorem dX10_reply_56 : decode cX10_reply 56 = .ok (.if_icmp .le 7, 3) := by decide +kernel
theorem dX10_reply_59 : decode cX10_reply 59 = .ok (.iconst 1, 1) := by decide +kernel
theorem dX10_reply_60 : decode cX10_reply 60 = .ok (.goto 28, 3) := by decide +kernel
theorem dX10_reply_63 : decode cX10_reply 63 = .ok (.iconst 0, 1) := by decide +kernel
theorem dX10_reply_64 : decode cX10_reply 64 = .ok (.goto 24, 3) := by decide +kernel
theorem dX10_reply_67 : decode cX10_reply 67 = .ok (.aload_n 0, 1) := by decide +kernel
theorem dX10_reply_68 : decode cX10_reply 68 = .ok (.iload_n 2, 1) := by decide +kernel
theorem dX10_reply_69 : decode cX10_reply 69 = .ok (.iload 4, 2) := by decide +kernel
theorem dX10_reply_71 : decode cX10_reply 71 = .ok (.invokevirtual 289, 3) := by decide +kernel
theorem dX10_reply_74 : decode cX10_reply 74 = .ok (.aload_n 0, 1) := by decide +kernel
theorem dX10_reply_75 : decode cX10_reply 75 = .ok (.iload_n 2, 1) := by decide +kernel
theorem dX10_reply_76 : decode cX10_reply 76 = .ok (.iload_n 3, 1) := by decide +kernel
theorem dX10_reply_77 : decode cX10_reply 77 = .ok (.invokevirtual 289, 3) := by decide +kernel
theorem dX10_reply_80 : decode cX10_reply 80 = .ok (.if_icmp .ge 7, 3) := by decide +kernel
theorem dX10_reply_83 : decode cX10_reply 83 = .ok (.iconst 1, 1) := by decide +kernel
theorem dX10_reply_84 : decode cX10_reply 84 = .ok (.goto 4, 3) := by decide +kernel
theorem dX10_reply_87 : decode cX10_reply 87 = .ok (.iconst 0, 1) := by decide +kernel
theorem dX10_reply_88 : decode cX10_reply 88 = .ok (.istore 5, 2) := by decide +kernel
theorem dX10_reply_90 : decode cX10_reply 90 = .ok (.iload 5, 2) := by decide +kernel
theorem dX10_reply_92 : decode cX10_reply 92 = .ok (.ifCond .eq 8, 3) := by decide +kernel
theorem dX10_reply_95 : decode cX10_reply 95 = .ok (.iload 4, 2) := by decide +kernel
theorem dX10_reply_97 : decode cX10_reply 97 = .ok (.goto 4, 3) := by decide +kernel
theorem dX10_reply_100 : decode cX10_reply 100 = .ok (.iload_n 3, 1) := by decide +kernel
theorem dX10_reply_101 : decode cX10_reply 101 = .ok (.istore_n 3, 1) := by decide +kernel
theorem dX10_reply_102 : decode cX10_reply 102 = .ok (.iinc 4 1, 3) := by decide +kernel
theorem dX10_reply_105 : decode cX10_reply 105 = .ok (.goto (-73), 3) := by decide +kernel
theorem dX10_reply_108 : decode cX10_reply 108 = .ok (.iload_n 3, 1) := by decide +kernel
theorem dX10_reply_109 : decode cX10_reply 109 = .ok (.ireturn, 1) := by decide +kernel
def fX10_reply_101 (k32 : Nat → Int32 → Int32 → Int32 → Int32 → hp_T → Option (Int32 × hp_T)) (a0 : Nat) (a1 : Int32) (a2 : Int32) (a4 : Int32) (s0 : Int32) (h : hp_T) : Option (Int32 × hp_T) := fx_let (a4 + (1 : Int32)) fun (x102 : Int32) => k32 a0 a1 a2 s0 x102 h
set_option maxRecDepth 100000 in
set_option maxHeartbeats 4000000 in
theorem bX10_reply_101 {l : Launch} {G : xr_G} {K : xr_K} {r : Int32} {h1 : hp_T} (C : xr_C G K cX10_reply RX10 6 (xr_R 6 141) (some .int) (some (xr_Qi G r h1))) (k32 : Nat → Int32 → Int32 → Int32 → Int32 → hp_T → Option (Int32 × hp_T)) (j32 : ∀ (a0 : Nat) (a1 : Int32) (a2 : Int32) (a3 : Int32) (a4 : Int32) (ta0 : hp_sh a0 = (10, 0)) (h : hp_T), k32 a0 a1 a2 a3 a4 h = some (r, h1) → xr_j l G K 6 h [(0, .ref (G.2.2.1 a0)), (1, .int a1), (2, .int a2), (3, .int a3), (4, .int a4)] 32 []) (a0 : Nat) (a1 : Int32) (a2 : Int32) (a4 : Int32) (s0 : Int32) (ta0 : hp_sh a0 = (10, 0)) (h : hp_T) (hF : fX10_reply_101 k32 a0 a1 a2 a4 s0 h = some (r, h1)) : xr_j l G K 6 h [(0, .ref (G.2.2.1 a0)), (1, .int a1), (2, .int a2), (4, .int a4)] 101 [.int s0] := by
  unfold fX10_reply_101 at hF
  refine xr_istore_n C [(3, .int s0), (0, .ref (G.2.2.1 a0)), (1, .int a1), (2, .int a2), (4, .int a4)] dX10_reply_101 rfl (Nat.le_of_ble_eq_true rfl) rfl ?_
  obtain ⟨x102, e102⟩ : ∃ y : Int32, y = (a4 + (1 : Int32)) := ⟨_, rfl⟩
  have hF := fx_letE hF x102 e102
  refine xr_iinc C x102 4 [(4, .int x102), (3, .int s0), (0, .ref (G.2.2.1 a0)), (1, .int a1), (2, .int a2)] dX10_reply_102 rfl (by rw [e102]; rfl) (Nat.le_of_ble_eq_true rfl) rfl ?_
  refine xr_goto C 32 dX10_reply_105 (by decide) ?_
  refine xr_sub [2, 3, 4, 1, 0] [(0, .ref (G.2.2.1 a0)), (1, .int a1), (2, .int a2), (3, .int s0), (4, .int x102)] rfl ?_
  exact j32 a0 a1 a2 s0 x102 ta0 h hF
def fX10_reply_88 (k32 : Nat → Int32 → Int32 → Int32 → Int32 → hp_T → Option (Int32 × hp_T)) (a0 : Nat) (a1 : Int32) (a2 : Int32) (a3 : Int32) (a4 : Int32) (s0 : Int32) (h : hp_T) : Option (Int32 × hp_T) := if s0 = 0 then (fX10_reply_101 k32 a0 a1 a2 a4 a3 h) else (fX10_reply_101 k32 a0 a1 a2 a4 a4 h)
set_option maxRecDepth 100000 in
set_option maxHeartbeats 4000000 in
theorem bX10_reply_88 {l : Launch} {G : xr_G} {K : xr_K} {r : Int32} {h1 : hp_T} (C : xr_C G K cX10_reply RX10 6 (xr_R 6 141) (some .int) (some (xr_Qi G r h1))) (k32 : Nat → Int32 → Int32 → Int32 → Int32 → hp_T → Option (Int32 × hp_T)) (j32 : ∀ (a0 : Nat) (a1 : Int32) (a2 : Int32) (a3 : Int32) (a4 : Int32) (ta0 : hp_sh a0 = (10, 0)) (h : hp_T), k32 a0 a1 a2 a3 a4 h = some (r, h1) → xr_j l G K 6 h [(0, .ref (G.2.2.1 a0)), (1, .int a1), (2, .int a2), (3, .int a3), (4, .int a4)] 32 []) (a0 : Nat) (a1 : Int32) (a2 : Int32) (a3 : Int32) (a4 : Int32) (s0 : Int32) (ta0 : hp_sh a0 = (10, 0)) (h : hp_T) (hF : fX10_reply_88 k32 a0 a1 a2 a3 a4 s0 h = some (r, h1)) : xr_j l G K 6 h [(0, .ref (G.2.2.1 a0)), (1, .int a1), (2, .int a2), (3, .int a3), (4, .int a4)] 88 [.int s0] := by
  unfold fX10_reply_88 at hF
  refine xr_istore C [(5, .int s0), (0, .ref (G.2.2.1 a0)), (1, .int a1), (2, .int a2), (3, .int a3), (4, .int a4)] dX10_reply_88 (Nat.le_of_ble_eq_true rfl) rfl ?_
  refine xr_iload C 0 dX10_reply_90 rfl ?_
  refine xr_if_eq C 100 dX10_reply_92 (by decide) (fun c92 => ?_) (fun c92 => ?_)
  · have hF := fx_pos hF c92
    refine xr_iload_n C 4 dX10_reply_100 rfl rfl ?_
    refine xr_sub [1, 2, 3, 5] [(0, .ref (G.2.2.1 a0)), (1, .int a1), (2, .int a2), (4, .int a4)] rfl ?_
    exact bX10_reply_101 C k32 j32  a0 a1 a2 a4 a3 ta0 h hF
  · have hF := fx_neg hF c92
    refine xr_iload C 5 dX10_reply_95 rfl ?_
    refine xr_goto C 101 dX10_reply_97 (by decide) ?_
    refine xr_sub [1, 2, 3, 5] [(0, .ref (G.2.2.1 a0)), (1, .int a1), (2, .int a2), (4, .int a4)] rfl ?_
    exact bX10_reply_101 C k32 j32  a0 a1 a2 a4 a4 ta0 h hF
def fX10_reply_32  : Nat → Nat → Int32 → Int32 → Int32 → Int32 → hp_T → Option (Int32 × hp_T)
  | 0, _, _, _, _, _, _ => none
  | n + 1, a0, a1, a2, a3, a4, h => if (6 : Int32) ≤ a4 then (some (a3, h)) else (if a1 = 0 then (fx_b2 (fX10_tableAt a0 a4 a2 h) fun (r47 : Int32) (h47 : hp_T) => fx_b2 (fX10_tableAt a0 a3 a2 h47) fun (r53 : Int32) (h53 : hp_T) => if r47 ≤ r53 then (fX10_reply_88 (fX10_reply_32 n) a0 a1 a2 a3 a4 (0 : Int32) h53) else (fX10_reply_88 (fX10_reply_32 n) a0 a1 a2 a3 a4 (1 : Int32) h53)) else (fx_b2 (fX10_tableAt a0 a2 a4 h) fun (r71 : Int32) (h71 : hp_T) => fx_b2 (fX10_tableAt a0 a2 a3 h71) fun (r77 : Int32) (h77 : hp_T) => if r77 ≤ r71 then (fX10_reply_88 (fX10_reply_32 n) a0 a1 a2 a3 a4 (0 : Int32) h77) else (fX10_reply_88 (fX10_reply_32 n) a0 a1 a2 a3 a4 (1 : Int32) h77)))
set_option maxRecDepth 100000 in
set_option maxHeartbeats 4000000 in
theorem bX10_reply_32 {l : Launch} {G : xr_G} {K : xr_K} {r : Int32} {h1 : hp_T} (C : xr_C G K cX10_reply RX10 6 (xr_R 6 141) (some .int) (some (xr_Qi G r h1)))  : ∀ (n : Nat) (a0 : Nat) (a1 : Int32) (a2 : Int32) (a3 : Int32) (a4 : Int32) (ta0 : hp_sh a0 = (10, 0)) (h : hp_T), fX10_reply_32 n a0 a1 a2 a3 a4 h = some (r, h1) → xr_j l G K 6 h [(0, .ref (G.2.2.1 a0)), (1, .int a1), (2, .int a2), (3, .int a3), (4, .int a4)] 32 [] := by
  intro n
  induction n with
  | zero =>
    intro a0 a1 a2 a3 a4 ta0 h hF
    cases hF
  | succ n ih =>
    intro a0 a1 a2 a3 a4 ta0 h hF
    rw [fX10_reply_32] at hF
    refine xr_iload C 4 dX10_reply_32 rfl ?_
    refine xr_bipush (v := 6) C dX10_reply_34 (by decide) ?_
    refine xr_icmp_ge C 108 dX10_reply_36 (by decide) (fun c36 => ?_) (fun c36 => ?_)
    · have hF := fx_pos hF c36
      refine xr_iload_n C 3 dX10_reply_108 rfl rfl ?_
      cases hF
      exact xr_iret C dX10_reply_109
    · have hF := fx_neg hF c36
      refine xr_iload_n C 1 dX10_reply_39 rfl rfl ?_
      refine xr_if_ne C 67 dX10_reply_40 (by decide) (fun c40 => ?_) (fun c40 => ?_)
      · have hF := fx_neg hF c40
        refine xr_aload_n C 0 dX10_reply_67 rfl rfl ?_
        refine xr_iload_n C 2 dX10_reply_68 rfl rfl ?_
        refine xr_iload C 4 dX10_reply_69 rfl ?_
        obtain ⟨r71, h71, e71, hF⟩ := fx_b2E hF
        refine xr_callVi C mvX10_289 [.int a2, .int a4] [] (mX10_tableAt l G a0 a2 a4 ta0 h h71 r71 e71) ta0 (by decide) vc10 rfl ⟨rfl, rfl, (Nat.le_of_ble_eq_true rfl), (Nat.le_of_ble_eq_true rfl)⟩ rfl (Nat.le_of_ble_eq_true rfl) dX10_reply_71 ?_
        refine xr_aload_n C 0 dX10_reply_74 rfl rfl ?_
        refine xr_iload_n C 2 dX10_reply_75 rfl rfl ?_
        refine xr_iload_n C 3 dX10_reply_76 rfl rfl ?_
        obtain ⟨r77, h77, e77, hF⟩ := fx_b2E hF
        refine xr_callVi C mvX10_289 [.int a2, .int a3] [.int r71] (mX10_tableAt l G a0 a2 a3 ta0 h71 h77 r77 e77) ta0 (by decide) vc10 rfl ⟨rfl, rfl, (Nat.le_of_ble_eq_true rfl), (Nat.le_of_ble_eq_true rfl)⟩ rfl (Nat.le_of_ble_eq_true rfl) dX10_reply_77 ?_
        refine xr_icmp_ge C 87 dX10_reply_80 (by decide) (fun c80 => ?_) (fun c80 => ?_)
        · have hF := fx_pos hF c80
          refine xr_iconst (v := 0) C dX10_reply_87 (by decide) ?_
          exact bX10_reply_88 C (fX10_reply_32 n) (fun a0 a1 a2 a3 a4 ta0 h hF => ih a0 a1 a2 a3 a4 ta0 h hF)  a0 a1 a2 a3 a4 (0 : Int32) ta0 h77 hF
        · have hF := fx_neg hF c80
          refine xr_iconst (v := 1) C dX10_reply_83 (by decide) ?_
          refine xr_goto C 88 dX10_reply_84 (by decide) ?_
          exact bX10_reply_88 C (fX10_reply_32 n) (fun a0 a1 a2 a3 a4 ta0 h hF => ih a0 a1 a2 a3 a4 ta0 h hF)  a0 a1 a2 a3 a4 (1 : Int32) ta0 h77 hF
      · have hF := fx_pos hF c40
        refine xr_aload_n C 0 dX10_reply_43 rfl rfl ?_
        refine xr_iload C 4 dX10_reply_44 rfl ?_
        refine xr_iload_n C 2 dX10_reply_46 rfl rfl ?_
        obtain ⟨r47, h47, e47, hF⟩ := fx_b2E hF
        refine xr_callVi C mvX10_289 [.int a4, .int a2] [] (mX10_tableAt l G a0 a4 a2 ta0 h h47 r47 e47) ta0 (by decide) vc10 rfl ⟨rfl, rfl, (Nat.le_of_ble_eq_true rfl), (Nat.le_of_ble_eq_true rfl)⟩ rfl (Nat.le_of_ble_eq_true rfl) dX10_reply_47 ?_
        refine xr_aload_n C 0 dX10_reply_50 rfl rfl ?_
        refine xr_iload_n C 3 dX10_reply_51 rfl rfl ?_
        refine xr_iload_n C 2 dX10_reply_52 rfl rfl ?_
        obtain ⟨r53, h53, e53, hF⟩ := fx_b2E hF
        refine xr_callVi C mvX10_289 [.int a3, .int a2] [.int r47] (mX10_tableAt l G a0 a3 a2 ta0 h47 h53 r53 e53) ta0 (by decide) vc10 rfl ⟨rfl, rfl, (Nat.le_of_ble_eq_true rfl), (Nat.le_of_ble_eq_true rfl)⟩ rfl (Nat.le_of_ble_eq_true rfl) dX10_reply_53 ?_
        refine xr_icmp_le C 63 dX10_reply_56 (by decide) (fun c56 => ?_) (fun c56 => ?_)
        · have hF := fx_pos hF c56
          refine xr_iconst (v := 0) C dX10_reply_63 (by decide) ?_
          refine xr_goto C 88 dX10_reply_64 (by decide) ?_
          exact bX10_reply_88 C (fX10_reply_32 n) (fun a0 a1 a2 a3 a4 ta0 h hF => ih a0 a1 a2 a3 a4 ta0 h hF)  a0 a1 a2 a3 a4 (0 : Int32) ta0 h53 hF
        · have hF := fx_neg hF c56
          refine xr_iconst (v := 1) C dX10_reply_59 (by decide) ?_
          refine xr_goto C 88 dX10_reply_60 (by decide) ?_
          exact bX10_reply_88 C (fX10_reply_32 n) (fun a0 a1 a2 a3 a4 ta0 h hF => ih a0 a1 a2 a3 a4 ta0 h hF)  a0 a1 a2 a3 a4 (1 : Int32) ta0 h53 hF
def fX10_reply (a0 : Nat) (a1 : Int32) (a2 : Int32) (h : hp_T) : Option (Int32 × hp_T) := fx_let (hp_sI h a0 0 (0 : Int32)) fun (h2 : hp_T) => fx_b2 (fX10_isSide a0 a1 h2) fun (r7 : Int32) (h7 : hp_T) => if r7 = 0 then (some ((-1 : Int32), h7)) else (fx_b2 (fX10_isTurn a0 a2 h7) fun (r15 : Int32) (h15 : hp_T) => if r15 = 0 then (some ((-1 : Int32), h15)) else (fx_b1 (fX10_laysTable a0 h15) fun (h24 : hp_T) => fX10_reply_32 fx_N a0 a1 a2 (0 : Int32) (1 : Int32) h24))
set_option maxRecDepth 100000 in
set_option maxHeartbeats 4000000 in
theorem mX10_reply (l : Launch) (G : xr_G) (a0 : Nat) (a1 : Int32) (a2 : Int32) (ta0 : hp_sh a0 = (10, 0)) (h h1 : hp_T) (r : Int32) (hF : fX10_reply a0 a1 a2 h = some (r, h1)) : xr_M l G yX10_reply cX10_reply 6 (xr_R 6 141) (some .int) [.ref (G.2.2.1 a0), .int a1, .int a2] h (xr_Qi G r h1) := by
  refine xr_start rfl (Nat.le_of_ble_eq_true rfl) (fun K C => ?_)
  show xr_j l G K 6 h [(0, .ref (G.2.2.1 a0)), (1, .int a1), (2, .int a2)] 0 []
  unfold fX10_reply at hF
  refine xr_aload_n C 0 dX10_reply_0 rfl rfl ?_
  refine xr_iconst (v := 0) C dX10_reply_1 (by decide) ?_
  refine xr_puti C fpX10_63 rfl rfl rfl dX10_reply_2 ta0 (fun h2 e2 => ?_)
  have hF := fx_letE hF h2 e2
  refine xr_aload_n C 0 dX10_reply_5 rfl rfl ?_
  refine xr_iload_n C 1 dX10_reply_6 rfl rfl ?_
  obtain ⟨r7, h7, e7, hF⟩ := fx_b2E hF
  refine xr_callVi C mvX10_180 [.int a1] [] (mX10_isSide l G a0 a1 ta0 h2 h7 r7 e7) ta0 (by decide) vc10 rfl ⟨rfl, rfl, (Nat.le_of_ble_eq_true rfl), (Nat.le_of_ble_eq_true rfl)⟩ rfl (Nat.le_of_ble_eq_true rfl) dX10_reply_7 ?_
  refine xr_if_eq C 21 dX10_reply_10 (by decide) (fun c10 => ?_) (fun c10 => ?_)
  · have hF := fx_pos hF c10
    refine xr_iconst (v := -1) C dX10_reply_21 (by decide) ?_
    cases hF
    exact xr_iret C dX10_reply_22
  · have hF := fx_neg hF c10
    refine xr_aload_n C 0 dX10_reply_13 rfl rfl ?_
    refine xr_iload_n C 2 dX10_reply_14 rfl rfl ?_
    obtain ⟨r15, h15, e15, hF⟩ := fx_b2E hF
    refine xr_callVi C mvX10_259 [.int a2] [] (mX10_isTurn l G a0 a2 ta0 h7 h15 r15 e15) ta0 (by decide) vc10 rfl ⟨rfl, rfl, (Nat.le_of_ble_eq_true rfl), (Nat.le_of_ble_eq_true rfl)⟩ rfl (Nat.le_of_ble_eq_true rfl) dX10_reply_15 ?_
    refine xr_if_ne C 23 dX10_reply_18 (by decide) (fun c18 => ?_) (fun c18 => ?_)
    · have hF := fx_neg hF c18
      refine xr_aload_n C 0 dX10_reply_23 rfl rfl ?_
      obtain ⟨h24, e24, hF⟩ := fx_b1E hF
      refine xr_callVv C mvX10_286 [] [] (mX10_laysTable l G a0 ta0 h15 h24 e24) ta0 (by decide) vc10 rfl ⟨rfl, rfl, (Nat.le_of_ble_eq_true rfl), (Nat.le_of_ble_eq_true rfl)⟩ rfl (Nat.le_of_ble_eq_true rfl) dX10_reply_24 ?_
      refine xr_iconst (v := 0) C dX10_reply_27 (by decide) ?_
      refine xr_istore_n C [(3, .int (0 : Int32)), (0, .ref (G.2.2.1 a0)), (1, .int a1), (2, .int a2)] dX10_reply_28 rfl (Nat.le_of_ble_eq_true rfl) rfl ?_
      refine xr_iconst (v := 1) C dX10_reply_29 (by decide) ?_
      refine xr_istore C [(4, .int (1 : Int32)), (3, .int (0 : Int32)), (0, .ref (G.2.2.1 a0)), (1, .int a1), (2, .int a2)] dX10_reply_30 (Nat.le_of_ble_eq_true rfl) rfl ?_
      refine xr_sub [2, 3, 4, 1, 0] [(0, .ref (G.2.2.1 a0)), (1, .int a1), (2, .int a2), (3, .int (0 : Int32)), (4, .int (1 : Int32))] rfl ?_
      exact bX10_reply_32 C  fx_N a0 a1 a2 (0 : Int32) (1 : Int32) ta0 h24 hF
    · have hF := fx_pos hF c18
      refine xr_iconst (v := -1) C dX10_reply_21 (by decide) ?_
      cases hF
      exact xr_iret C dX10_reply_22
theorem dX10_worth_0 : decode cX10_worth 0 = .ok (.aload_n 0, 1) := by decide +kernel
theorem dX10_worth_1 : decode cX10_worth 1 = .ok (.iconst 0, 1) := by decide +kernel
theorem dX10_worth_2 : decode cX10_worth 2 = .ok (.putfield 63, 3) := by decide +kernel
theorem dX10_worth_5 : decode cX10_worth 5 = .ok (.aload_n 0, 1) := by decide +kernel
theorem dX10_worth_6 : decode cX10_worth 6 = .ok (.iload_n 1, 1) := by decide +kernel
theorem dX10_worth_7 : decode cX10_worth 7 = .ok (.invokevirtual 180, 3) := by decide +kernel
theorem dX10_worth_10 : decode cX10_worth 10 = .ok (.ifCond .eq 10, 3) := by decide +kernel
theorem dX10_worth_13 : decode cX10_worth 13 = .ok (.aload_n 0, 1) := by decide +kernel
theorem dX10_worth_14 : decode cX10_worth 14 = .ok (.invokevirtual 215, 3) := by decide +kernel
theorem dX10_worth_17 : decode cX10_worth 17 = .ok (.ifCond .eq 7, 3) := by decide +kernel
theorem dX10_worth_20 : decode cX10_worth 20 = .ok (.ldc_w 306, 3) := by decide +kernel
theorem dX10_worth_23 : decode cX10_worth 23 = .ok (.ireturn, 1) := by decide +kernel
theorem dX10_worth_24 : decode cX10_worth 24 = .ok (.aload_n 0, 1) := by decide +kernel
theorem dX10_worth_25 : decode cX10_worth 25 = .ok (.invokevirtual 277, 3) := by decide +kernel
theorem dX10_worth_28 : decode cX10_worth 28 = .ok (.istore_n 2, 1) := by decide +kernel
theorem dX10_worth_29 : decode cX10_worth 29 = .ok (.aload_n 0, 1) := by decide +kernel
theorem dX10_worth_30 : decode cX10_worth 30 = .ok (.getfield 36, 3) := by decide +kernel
theorem dX10_worth_33 : decode cX10_worth 33 = .ok (.iconst 2, 1) := by decide +kernel
theorem dX10_worth_34 : decode cX10_worth 34 = .ok (.iaload, 1) := by decide +kernel
theorem dX10_worth_35 : decode cX10_worth 35 = .ok (.iload_n 1, 1) := by decide +kernel
theorem dX10_worth_36 : decode cX10_worth 36 = .ok (.if_icmp .ne 7, 3) := by decide +kernel
theorem dX10_worth_39 : decode cX10_worth 39 = .ok (.iconst 0, 1) := by decide +kernel
theorem dX10_worth_40 : decode cX10_worth 40 = .ok (.goto 4, 3) := by decide +kernel
theorem dX10_worth_43 : decode cX10_worth 43 = .ok (.iconst 1, 1) := by decide +kernel
theorem dX10_worth_44 : decode cX10_worth 44 = .ok (.istore_n 3, 1) := by decide +kernel
theorem dX10_worth_45 : decode cX10_worth 45 = .ok (.aload_n 0, 1) := by decide +kernel
theorem dX10_worth_46 : decode cX10_worth 46 = .ok (.getfield 36, 3) := by decide +kernel
theorem dX10_worth_49 : decode cX10_worth 49 = .ok (.iconst 0, 1) := by decide +kernel
theorem dX10_worth_50 : decode cX10_worth 50 = .ok (.iaload, 1) := by decide +kernel
theorem dX10_worth_51 : decode cX10_worth 51 = .ok (.iload_n 1, 1) := by decide +kernel
theorem dX10_worth_52 : decode cX10_worth 52 = .ok (.ifCond .ne 7, 3) := by decide +kernel
theorem dX10_worth_55 : decode cX10_worth 55 = .ok (.iconst 1, 1) := by decide +kernel
theorem dX10_worth_56 : decode cX10_worth 56 = .ok (.goto 4, 3) := by decide +kernel
theorem dX10_worth_59 : decode cX10_worth 59 = .ok (.iconst 0, 1) := by decide +kernel
theorem dX10_worth_60 : decode cX10_worth 60 = .ok (.iadd, 1) := by decide +kernel
theorem dX10_worth_61 : decode cX10_worth 61 = .ok (.istore 4, 2) := by decide +kernel
theorem dX10_worth_63 : decode cX10_worth 63 = .ok (.aload_n 0, 1) := by decide +kernel
theorem dX10_worth_64 : decode cX10_worth 64 = .ok (.getfield 36, 3) := by decide +kernel
theorem dX10_worth_67 : decode cX10_worth 67 = .ok (.iconst 1, 1) := by decide +kernel
theorem dX10_worth_68 : decode cX10_worth 68 = .ok (.iaload, 1) := by decide +kernel
theorem dX10_worth_69 : decode cX10_worth 69 = .ok (.iload_n 1, 1) := by decide +kernel
theorem dX10_worth_70 : decode cX10_worth 70 = .ok (.iconst 1, 1) := by decide +kernel
theorem dX10_worth_71 : decode cX10_worth 71 = .ok (.if_icmp .ne 7, 3) := by decide +kernel
theorem dX10_worth_74 : decode cX10_worth 74 = .ok (.iconst 1, 1) := by decide +kernel
theorem dX10_worth_75 : decode cX10_worth 75 = .ok (.goto 4, 3) := by decide +kernel
theorem dX10_worth_78 : decode cX10_worth 78 = .ok (.iconst 0, 1) := by decide +kernel
theorem dX10_worth_79 : decode cX10_worth 79 = .ok (.iadd, 1) := by decide +kernel
theorem dX10_worth_80 : decode cX10_worth 80 = .ok (.istore 5, 2) := by decide +kernel
theorem dX10_worth_82 : decode cX10_worth 82 = .ok (.aload_n 0, 1) := by decide +kernel
theorem dX10_worth_83 : decode cX10_worth 83 = .ok (.getfield 49, 3) := by decide +kernel
theorem dX10_worth_86 : decode cX10_worth 86 = .ok (.iload 4, 2) := by decide +kernel
theorem dX10_worth_88 : decode cX10_worth 88 = .ok (.iload 5, 2) := by decide +kernel
theorem dX10_worth_90 : decode cX10_worth 90 = .ok (.iload_n 1, 1) := by decide +kernel
theorem dX10_worth_91 : decode cX10_worth 91 = .ok (.ifCond .ne 7, 3) := by decide +kernel
theorem dX10_worth_94 : decode cX10_worth 94 = .ok (.iload_n 3, 1) := by decide +kernel
theorem dX10_worth_95 : decode cX10_worth 95 = .ok (.goto 4, 3) := by decide +kernel
theorem dX10_worth_98 : decode cX10_worth 98 = .ok (.iconst 0, 1) := by decide +kernel
theorem dX10_worth_99 : decode cX10_worth 99 = .ok (.iload_n 1, 1) := by decide +kernel
theorem dX10_worth_100 : decode cX10_worth 100 = .ok (.iconst 1, 1) := by decide +kernel
theorem dX10_worth_101 : decode cX10_worth 101 = .ok (.if_icmp .ne 7, 3) := by decide +kernel
theorem dX10_worth_104 : decode cX10_worth 104 = .ok (.iload_n 3, 1) := by decide +kernel
theorem dX10_worth_105 : decode cX10_worth 105 = .ok (.goto 4, 3) := by decide +kernel
theorem dX10_worth_108 : decode cX10_worth 108 = .ok (.iconst 0, 1) := by decide +kernel
theorem dX10_worth_109 : decode cX10_worth 109 = .ok (.iload_n 1, 1) := by decide +kernel
theorem dX10_worth_110 : decode cX10_worth 110 = .ok (.invokestatic 270, 3) := by decide +kernel
theorem dX10_worth_113 : decode cX10_worth 113 = .ok (.iaload, 1) := by decide +kernel
theorem dX10_worth_114 : decode cX10_worth 114 = .ok (.iload_n 2, 1) := by decide +kernel
theorem dX10_worth_115 : decode cX10_worth 115 = .ok (.isub, 1) := by decide +kernel
theorem dX10_worth_116 : decode cX10_worth 116 = .ok (.ireturn, 1) := by decide +kernel
def fX10_worth_109  (a1 : Int32) (a2 : Int32) (s0 : Nat) (s1 : Int32) (s2 : Int32) (s3 : Int32) (s4 : Int32) (h : hp_T) : Option (Int32 × hp_T) := fx_b2 (fX10_at s1 s2 s3 s4 a1 h) fun (r110 : Int32) (h110 : hp_T) => fx_g (fx_in r110 48672) (some (((h110.1 s0 (fx_ix r110)) - a2), h110))
set_option maxRecDepth 100000 in
set_option maxHeartbeats 4000000 in
theorem bX10_worth_109 {l : Launch} {G : xr_G} {K : xr_K} {r : Int32} {h1 : hp_T} (C : xr_C G K cX10_worth RX10 6 (xr_R 6 141) (some .int) (some (xr_Qi G r h1)))  (a1 : Int32) (a2 : Int32) (s0 : Nat) (s1 : Int32) (s2 : Int32) (s3 : Int32) (s4 : Int32) (ts0 : hp_sh s0 = (20, 48672)) (h : hp_T) (hF : fX10_worth_109 a1 a2 s0 s1 s2 s3 s4 h = some (r, h1)) : xr_j l G K 6 h [(1, .int a1), (2, .int a2)] 109 [.int s4, .int s3, .int s2, .int s1, .ref (G.2.2.1 s0)] := by
  unfold fX10_worth_109 at hF
  refine xr_iload_n C 0 dX10_worth_109 rfl rfl ?_
  obtain ⟨r110, h110, e110, hF⟩ := fx_b2E hF
  refine xr_callSi C mvX10_270 [.int s1, .int s2, .int s3, .int s4, .int a1] [.ref (G.2.2.1 s0)] (mX10_at l G s1 s2 s3 s4 a1  h h110 r110 e110) rfl ⟨rfl, rfl, (Nat.le_of_ble_eq_true rfl), (Nat.le_of_ble_eq_true rfl)⟩ rfl (Nat.le_of_ble_eq_true rfl) dX10_worth_110 ?_
  obtain ⟨g113, hF⟩ := fx_gE hF
  refine xr_iald C dX10_worth_113 ts0 g113 ?_
  refine xr_iload_n C 1 dX10_worth_114 rfl rfl ?_
  refine xr_isub C dX10_worth_115 ?_
  cases hF
  exact xr_iret C dX10_worth_116
def fX10_worth_99  (a1 : Int32) (a2 : Int32) (a3 : Int32) (s0 : Nat) (s1 : Int32) (s2 : Int32) (s3 : Int32) (h : hp_T) : Option (Int32 × hp_T) := if a1 = (1 : Int32) then (fX10_worth_109 a1 a2 s0 s1 s2 s3 a3 h) else (fX10_worth_109 a1 a2 s0 s1 s2 s3 (0 : Int32) h)
set_option maxRecDepth 100000 in
set_option maxHeartbeats 4000000 in
theorem bX10_worth_99 {l : Launch} {G : xr_G} {K : xr_K} {r : Int32} {h1 : hp_T} (C : xr_C G K cX10_worth RX10 6 (xr_R 6 141) (some .int) (some (xr_Qi G r h1)))  (a1 : Int32) (a2 : Int32) (a3 : Int32) (s0 : Nat) (s1 : Int32) (s2 : Int32) (s3 : Int32) (ts0 : hp_sh s0 = (20, 48672)) (h : hp_T) (hF : fX10_worth_99 a1 a2 a3 s0 s1 s2 s3 h = some (r, h1)) : xr_j l G K 6 h [(1, .int a1), (2, .int a2), (3, .int a3)] 99 [.int s3, .int s2, .int s1, .ref (G.2.2.1 s0)] := by
  unfold fX10_worth_99 at hF
  refine xr_iload_n C 0 dX10_worth_99 rfl rfl ?_
  refine xr_iconst (v := 1) C dX10_worth_100 (by decide) ?_
  refine xr_icmp_ne C 108 dX10_worth_101 (by decide) (fun c101 => ?_) (fun c101 => ?_)
  · have hF := fx_neg hF c101
    refine xr_iconst (v := 0) C dX10_worth_108 (by decide) ?_
    refine xr_sub [0, 1] [(1, .int a1), (2, .int a2)] rfl ?_
    exact bX10_worth_109 C   a1 a2 s0 s1 s2 s3 (0 : Int32) ts0 h hF
  · have hF := fx_pos hF c101
    refine xr_iload_n C 2 dX10_worth_104 rfl rfl ?_
    refine xr_goto C 109 dX10_worth_105 (by decide) ?_
    refine xr_sub [0, 1] [(1, .int a1), (2, .int a2)] rfl ?_
    exact bX10_worth_109 C   a1 a2 s0 s1 s2 s3 a3 ts0 h hF
def fX10_worth_79  (a0 : Nat) (a1 : Int32) (a2 : Int32) (a3 : Int32) (a4 : Int32) (s0 : Int32) (s1 : Int32) (h : hp_T) : Option (Int32 × hp_T) := fx_let (s0 + s1) fun (x80 : Int32) => if a1 = 0 then (fX10_worth_99 a1 a2 a3 (h.2.2 a0 25) a4 x80 a3 h) else (fX10_worth_99 a1 a2 a3 (h.2.2 a0 25) a4 x80 (0 : Int32) h)
set_option maxRecDepth 100000 in
set_option maxHeartbeats 4000000 in
theorem bX10_worth_79 {l : Launch} {G : xr_G} {K : xr_K} {r : Int32} {h1 : hp_T} (C : xr_C G K cX10_worth RX10 6 (xr_R 6 141) (some .int) (some (xr_Qi G r h1)))  (a0 : Nat) (a1 : Int32) (a2 : Int32) (a3 : Int32) (a4 : Int32) (s0 : Int32) (s1 : Int32) (ta0 : hp_sh a0 = (10, 0)) (h : hp_T) (hF : fX10_worth_79 a0 a1 a2 a3 a4 s0 s1 h = some (r, h1)) : xr_j l G K 6 h [(0, .ref (G.2.2.1 a0)), (1, .int a1), (2, .int a2), (3, .int a3), (4, .int a4)] 79 [.int s1, .int s0] := by
  unfold fX10_worth_79 at hF
  refine xr_iadd C dX10_worth_79 ?_
  refine xr_topi (fun x80 e80 => ?_)
  have hF := fx_letE hF x80 e80
  refine xr_istore C [(5, .int x80), (0, .ref (G.2.2.1 a0)), (1, .int a1), (2, .int a2), (3, .int a3), (4, .int a4)] dX10_worth_80 (Nat.le_of_ble_eq_true rfl) rfl ?_
  refine xr_aload_n C 1 dX10_worth_82 rfl rfl ?_
  refine xr_getr C flX10_49 rfl (by decide) dX10_worth_83 ta0 (fun t83 => ?_)
  refine xr_iload C 5 dX10_worth_86 rfl ?_
  refine xr_iload C 0 dX10_worth_88 rfl ?_
  refine xr_iload_n C 2 dX10_worth_90 rfl rfl ?_
  refine xr_if_ne C 98 dX10_worth_91 (by decide) (fun c91 => ?_) (fun c91 => ?_)
  · have hF := fx_neg hF c91
    refine xr_iconst (v := 0) C dX10_worth_98 (by decide) ?_
    refine xr_sub [2, 3, 4] [(1, .int a1), (2, .int a2), (3, .int a3)] rfl ?_
    exact bX10_worth_99 C   a1 a2 a3 (h.2.2 a0 25) a4 x80 (0 : Int32) t83 h hF
  · have hF := fx_pos hF c91
    refine xr_iload_n C 4 dX10_worth_94 rfl rfl ?_
    refine xr_goto C 99 dX10_worth_95 (by decide) ?_
    refine xr_sub [2, 3, 4] [(1, .int a1), (2, .int a2), (3, .int a3)] rfl ?_
    exact bX10_worth_99 C   a1 a2 a3 (h.2.2 a0 25) a4 x80 a3 t83 h hF
def fX10_worth_60  (a0 : Nat) (a1 : Int32) (a2 : Int32) (a3 : Int32) (s0 : Int32) (s1 : Int32) (h : hp_T) : Option (Int32 × hp_T) := fx_let (s0 + s1) fun (x61 : Int32) => if a1 = (1 : Int32) then (fX10_worth_79 a0 a1 a2 a3 x61 (h.1 (h.2.2 a0 20) (fx_ix (1 : Int32))) (1 : Int32) h) else (fX10_worth_79 a0 a1 a2 a3 x61 (h.1 (h.2.2 a0 20) (fx_ix (1 : Int32))) (0 : Int32) h)
set_option maxRecDepth 100000 in
set_option maxHeartbeats 4000000 in
theorem bX10_worth_60 {l : Launch} {G : xr_G} {K : xr_K} {r : Int32} {h1 : hp_T} (C : xr_C G K cX10_worth RX10 6 (xr_R 6 141) (some .int) (some (xr_Qi G r h1)))  (a0 : Nat) (a1 : Int32) (a2 : Int32) (a3 : Int32) (s0 : Int32) (s1 : Int32) (ta0 : hp_sh a0 = (10, 0)) (h : hp_T) (hF : fX10_worth_60 a0 a1 a2 a3 s0 s1 h = some (r, h1)) : xr_j l G K 6 h [(0, .ref (G.2.2.1 a0)), (1, .int a1), (2, .int a2), (3, .int a3)] 60 [.int s1, .int s0] := by
  unfold fX10_worth_60 at hF
  refine xr_iadd C dX10_worth_60 ?_
  refine xr_topi (fun x61 e61 => ?_)
  have hF := fx_letE hF x61 e61
  refine xr_istore C [(4, .int x61), (0, .ref (G.2.2.1 a0)), (1, .int a1), (2, .int a2), (3, .int a3)] dX10_worth_61 (Nat.le_of_ble_eq_true rfl) rfl ?_
  refine xr_aload_n C 1 dX10_worth_63 rfl rfl ?_
  refine xr_getr C flX10_36 rfl (by decide) dX10_worth_64 ta0 (fun t64 => ?_)
  refine xr_iconst (v := 1) C dX10_worth_67 (by decide) ?_
  refine xr_iald C dX10_worth_68 t64 (by decide) ?_
  refine xr_iload_n C 2 dX10_worth_69 rfl rfl ?_
  refine xr_iconst (v := 1) C dX10_worth_70 (by decide) ?_
  refine xr_icmp_ne C 78 dX10_worth_71 (by decide) (fun c71 => ?_) (fun c71 => ?_)
  · have hF := fx_neg hF c71
    refine xr_iconst (v := 0) C dX10_worth_78 (by decide) ?_
    refine xr_sub [1, 2, 3, 4, 0] [(0, .ref (G.2.2.1 a0)), (1, .int a1), (2, .int a2), (3, .int a3), (4, .int x61)] rfl ?_
    exact bX10_worth_79 C   a0 a1 a2 a3 x61 (h.1 (h.2.2 a0 20) (fx_ix (1 : Int32))) (0 : Int32) ta0 h hF
  · have hF := fx_pos hF c71
    refine xr_iconst (v := 1) C dX10_worth_74 (by decide) ?_
    refine xr_goto C 79 dX10_worth_75 (by decide) ?_
    refine xr_sub [1, 2, 3, 4, 0] [(0, .ref (G.2.2.1 a0)), (1, .int a1), (2, .int a2), (3, .int a3), (4, .int x61)] rfl ?_
    exact bX10_worth_79 C   a0 a1 a2 a3 x61 (h.1 (h.2.2 a0 20) (fx_ix (1 : Int32))) (1 : Int32) ta0 h hF
def fX10_worth_44  (a0 : Nat) (a1 : Int32) (a2 : Int32) (s0 : Int32) (h : hp_T) : Option (Int32 × hp_T) := if a1 = 0 then (fX10_worth_60 a0 a1 a2 s0 (h.1 (h.2.2 a0 20) (fx_ix (0 : Int32))) (1 : Int32) h) else (fX10_worth_60 a0 a1 a2 s0 (h.1 (h.2.2 a0 20) (fx_ix (0 : Int32))) (0 : Int32) h)
set_option maxRecDepth 100000 in
set_option maxHeartbeats 4000000 in
theorem bX10_worth_44 {l : Launch} {G : xr_G} {K : xr_K} {r : Int32} {h1 : hp_T} (C : xr_C G K cX10_worth RX10 6 (xr_R 6 141) (some .int) (some (xr_Qi G r h1)))  (a0 : Nat) (a1 : Int32) (a2 : Int32) (s0 : Int32) (ta0 : hp_sh a0 = (10, 0)) (h : hp_T) (hF : fX10_worth_44 a0 a1 a2 s0 h = some (r, h1)) : xr_j l G K 6 h [(0, .ref (G.2.2.1 a0)), (1, .int a1), (2, .int a2)] 44 [.int s0] := by
  unfold fX10_worth_44 at hF
  refine xr_istore_n C [(3, .int s0), (0, .ref (G.2.2.1 a0)), (1, .int a1), (2, .int a2)] dX10_worth_44 rfl (Nat.le_of_ble_eq_true rfl) rfl ?_
  refine xr_aload_n C 1 dX10_worth_45 rfl rfl ?_
  refine xr_getr C flX10_36 rfl (by decide) dX10_worth_46 ta0 (fun t46 => ?_)
  refine xr_iconst (v := 0) C dX10_worth_49 (by decide) ?_
  refine xr_iald C dX10_worth_50 t46 (by decide) ?_
  refine xr_iload_n C 2 dX10_worth_51 rfl rfl ?_
  refine xr_if_ne C 59 dX10_worth_52 (by decide) (fun c52 => ?_) (fun c52 => ?_)
  · have hF := fx_neg hF c52
    refine xr_iconst (v := 0) C dX10_worth_59 (by decide) ?_
    refine xr_sub [1, 2, 3, 0] [(0, .ref (G.2.2.1 a0)), (1, .int a1), (2, .int a2), (3, .int s0)] rfl ?_
    exact bX10_worth_60 C   a0 a1 a2 s0 (h.1 (h.2.2 a0 20) (fx_ix (0 : Int32))) (0 : Int32) ta0 h hF
  · have hF := fx_pos hF c52
    refine xr_iconst (v := 1) C dX10_worth_55 (by decide) ?_
    refine xr_goto C 60 dX10_worth_56 (by decide) ?_
    refine xr_sub [1, 2, 3, 0] [(0, .ref (G.2.2.1 a0)), (1, .int a1), (2, .int a2), (3, .int s0)] rfl ?_
    exact bX10_worth_60 C   a0 a1 a2 s0 (h.1 (h.2.2 a0 20) (fx_ix (0 : Int32))) (1 : Int32) ta0 h hF
def fX10_worth (a0 : Nat) (a1 : Int32) (h : hp_T) : Option (Int32 × hp_T) := fx_let (hp_sI h a0 0 (0 : Int32)) fun (h2 : hp_T) => fx_b2 (fX10_isSide a0 a1 h2) fun (r7 : Int32) (h7 : hp_T) => if r7 = 0 then (some ((-2000000 : Int32), h7)) else (fx_b2 (fX10_isOver a0 h7) fun (r14 : Int32) (h14 : hp_T) => if r14 = 0 then (fx_b2 (fX10_valueNow a0 h14) fun (r25 : Int32) (h25 : hp_T) => if (h25.1 (h25.2.2 a0 20) (fx_ix (2 : Int32))) = a1 then (fX10_worth_44 a0 a1 r25 (0 : Int32) h25) else (fX10_worth_44 a0 a1 r25 (1 : Int32) h25)) else (some ((-2000000 : Int32), h14)))
set_option maxRecDepth 100000 in
set_option maxHeartbeats 4000000 in
theorem mX10_worth (l : Launch) (G : xr_G) (a0 : Nat) (a1 : Int32) (ta0 : hp_sh a0 = (10, 0)) (h h1 : hp_T) (r : Int32) (hF : fX10_worth a0 a1 h = some (r, h1)) : xr_M l G yX10_worth cX10_worth 6 (xr_R 6 141) (some .int) [.ref (G.2.2.1 a0), .int a1] h (xr_Qi G r h1) := by
  refine xr_start rfl (Nat.le_of_ble_eq_true rfl) (fun K C => ?_)
  show xr_j l G K 6 h [(0, .ref (G.2.2.1 a0)), (1, .int a1)] 0 []
  unfold fX10_worth at hF
  refine xr_aload_n C 0 dX10_worth_0 rfl rfl ?_
  refine xr_iconst (v := 0) C dX10_worth_1 (by decide) ?_
  refine xr_puti C fpX10_63 rfl rfl rfl dX10_worth_2 ta0 (fun h2 e2 => ?_)
  have hF := fx_letE hF h2 e2
  refine xr_aload_n C 0 dX10_worth_5 rfl rfl ?_
  refine xr_iload_n C 1 dX10_worth_6 rfl rfl ?_
  obtain ⟨r7, h7, e7, hF⟩ := fx_b2E hF
  refine xr_callVi C mvX10_180 [.int a1] [] (mX10_isSide l G a0 a1 ta0 h2 h7 r7 e7) ta0 (by decide) vc10 rfl ⟨rfl, rfl, (Nat.le_of_ble_eq_true rfl), (Nat.le_of_ble_eq_true rfl)⟩ rfl (Nat.le_of_ble_eq_true rfl) dX10_worth_7 ?_
  refine xr_if_eq C 20 dX10_worth_10 (by decide) (fun c10 => ?_) (fun c10 => ?_)
  · have hF := fx_pos hF c10
    refine xr_ldc_w C kcX10_306 dX10_worth_20 ?_
    cases hF
    exact xr_iret C dX10_worth_23
  · have hF := fx_neg hF c10
    refine xr_aload_n C 0 dX10_worth_13 rfl rfl ?_
    obtain ⟨r14, h14, e14, hF⟩ := fx_b2E hF
    refine xr_callVi C mvX10_215 [] [] (mX10_isOver l G a0 ta0 h7 h14 r14 e14) ta0 (by decide) vc10 rfl ⟨rfl, rfl, (Nat.le_of_ble_eq_true rfl), (Nat.le_of_ble_eq_true rfl)⟩ rfl (Nat.le_of_ble_eq_true rfl) dX10_worth_14 ?_
    refine xr_if_eq C 24 dX10_worth_17 (by decide) (fun c17 => ?_) (fun c17 => ?_)
    · have hF := fx_pos hF c17
      refine xr_aload_n C 0 dX10_worth_24 rfl rfl ?_
      obtain ⟨r25, h25, e25, hF⟩ := fx_b2E hF
      refine xr_callVi C mvX10_277 [] [] (mX10_valueNow l G a0 ta0 h14 h25 r25 e25) ta0 (by decide) vc10 rfl ⟨rfl, rfl, (Nat.le_of_ble_eq_true rfl), (Nat.le_of_ble_eq_true rfl)⟩ rfl (Nat.le_of_ble_eq_true rfl) dX10_worth_25 ?_
      refine xr_istore_n C [(2, .int r25), (0, .ref (G.2.2.1 a0)), (1, .int a1)] dX10_worth_28 rfl (Nat.le_of_ble_eq_true rfl) rfl ?_
      refine xr_aload_n C 1 dX10_worth_29 rfl rfl ?_
      refine xr_getr C flX10_36 rfl (by decide) dX10_worth_30 ta0 (fun t30 => ?_)
      refine xr_iconst (v := 2) C dX10_worth_33 (by decide) ?_
      refine xr_iald C dX10_worth_34 t30 (by decide) ?_
      refine xr_iload_n C 2 dX10_worth_35 rfl rfl ?_
      refine xr_icmp_ne C 43 dX10_worth_36 (by decide) (fun c36 => ?_) (fun c36 => ?_)
      · have hF := fx_neg hF c36
        refine xr_iconst (v := 1) C dX10_worth_43 (by decide) ?_
        refine xr_sub [1, 2, 0] [(0, .ref (G.2.2.1 a0)), (1, .int a1), (2, .int r25)] rfl ?_
        exact bX10_worth_44 C   a0 a1 r25 (1 : Int32) ta0 h25 hF
      · have hF := fx_pos hF c36
        refine xr_iconst (v := 0) C dX10_worth_39 (by decide) ?_
        refine xr_goto C 44 dX10_worth_40 (by decide) ?_
        refine xr_sub [1, 2, 0] [(0, .ref (G.2.2.1 a0)), (1, .int a1), (2, .int r25)] rfl ?_
        exact bX10_worth_44 C   a0 a1 r25 (0 : Int32) ta0 h25 hF
    · have hF := fx_neg hF c17
      refine xr_ldc_w C kcX10_306 dX10_worth_20 ?_
      cases hF
      exact xr_iret C dX10_worth_23
theorem dX10_valueBehind_0 : decode cX10_valueBehind 0 = .ok (.aload_n 0, 1) := by decide +kernel
theorem dX10_valueBehind_1 : decode cX10_valueBehind 1 = .ok (.iload_n 1, 1) := by decide +kernel
theorem dX10_valueBehind_2 : decode cX10_valueBehind 2 = .ok (.iload_n 2, 1) := by decide +kernel
theorem dX10_valueBehind_3 : decode cX10_valueBehind 3 = .ok (.invokevirtual 199, 3) := by decide +kernel
theorem dX10_valueBehind_6 : decode cX10_valueBehind 6 = .ok (.istore 4, 2) := by decide +kernel
theorem dX10_valueBehind_8 : decode cX10_valueBehind 8 = .ok (.aload_n 0, 1) := by decide +kernel
theorem dX10_valueBehind_9 : decode cX10_valueBehind 9 = .ok (.iload_n 1, 1) := by decide +kernel
theorem dX10_valueBehind_10 : decode cX10_valueBehind 10 = .ok (.iload 4, 2) := by decide +kernel
theorem dX10_valueBehind_12 : decode cX10_valueBehind 12 = .ok (.iload_n 3, 1) := by decide +kernel
theorem dX10_valueBehind_13 : decode cX10_valueBehind 13 = .ok (.invokevirtual 211, 3) := by decide +kernel
theorem dX10_valueBehind_16 : decode cX10_valueBehind 16 = .ok (.aload_n 0, 1) := by decide +kernel
theorem dX10_valueBehind_17 : decode cX10_valueBehind 17 = .ok (.invokevirtual 277, 3) := by decide +kernel
theorem dX10_valueBehind_20 : decode cX10_valueBehind 20 = .ok (.istore 5, 2) := by decide +kernel
theorem dX10_valueBehind_22 : decode cX10_valueBehind 22 = .ok (.aload_n 0, 1) := by decide +kernel
theorem dX10_valueBehind_23 : decode cX10_valueBehind 23 = .ok (.iload_n 1, 1) := by decide +kernel
theorem dX10_valueBehind_24 : decode cX10_valueBehind 24 = .ok (.iload 4, 2) := by decide +kernel
theorem dX10_valueBehind_26 : decode cX10_valueBehind 26 = .ok (.iload_n 2, 1) := by decide +kernel
theorem dX10_valueBehind_27 : decode cX10_valueBehind 27 = .ok (.invokevirtual 211, 3) := by decide +kernel
theorem dX10_valueBehind_30 : decode cX10_valueBehind 30 = .ok (.iload 5, 2) := by decide +kernel
theorem dX10_valueBehind_32 : decode cX10_valueBehind 32 = .ok (.ireturn, 1) := by decide +kernel
def fX10_valueBehind (a0 : Nat) (a1 : Int32) (a2 : Int32) (a3 : Int32) (h : hp_T) : Option (Int32 × hp_T) := fx_b2 (fX10_spotOf a0 a1 a2 h) fun (r3 : Int32) (h3 : hp_T) => fx_b1 (fX10_puts a0 a1 r3 a3 h3) fun (h13 : hp_T) => fx_b2 (fX10_valueNow a0 h13) fun (r17 : Int32) (h17 : hp_T) => fx_b1 (fX10_puts a0 a1 r3 a2 h17) fun (h27 : hp_T) => some (r17, h27)
set_option maxRecDepth 100000 in
set_option maxHeartbeats 4000000 in
theorem mX10_valueBehind (l : Launch) (G : xr_G) (a0 : Nat) (a1 : Int32) (a2 : Int32) (a3 : Int32) (ta0 : hp_sh a0 = (10, 0)) (h h1 : hp_T) (r : Int32) (hF : fX10_valueBehind a0 a1 a2 a3 h = some (r, h1)) : xr_M l G yX10_valueBehind cX10_valueBehind 6 (xr_R 6 141) (some .int) [.ref (G.2.2.1 a0), .int a1, .int a2, .int a3] h (xr_Qi G r h1) := by
  refine xr_start rfl (Nat.le_of_ble_eq_true rfl) (fun K C => ?_)
  show xr_j l G K 6 h [(0, .ref (G.2.2.1 a0)), (1, .int a1), (2, .int a2), (3, .int a3)] 0 []
  unfold fX10_valueBehind at hF
  refine xr_aload_n C 0 dX10_valueBehind_0 rfl rfl ?_
  refine xr_iload_n C 1 dX10_valueBehind_1 rfl rfl ?_
  refine xr_iload_n C 2 dX10_valueBehind_2 rfl rfl ?_
  obtain ⟨r3, h3, e3, hF⟩ := fx_b2E hF
  refine xr_callVi C mvX10_199 [.int a1, .int a2] [] (mX10_spotOf l G a0 a1 a2 ta0 h h3 r3 e3) ta0 (by decide) vc10 rfl ⟨rfl, rfl, (Nat.le_of_ble_eq_true rfl), (Nat.le_of_ble_eq_true rfl)⟩ rfl (Nat.le_of_ble_eq_true rfl) dX10_valueBehind_3 ?_
  refine xr_istore C [(4, .int r3), (0, .ref (G.2.2.1 a0)), (1, .int a1), (2, .int a2), (3, .int a3)] dX10_valueBehind_6 (Nat.le_of_ble_eq_true rfl) rfl ?_
  refine xr_aload_n C 1 dX10_valueBehind_8 rfl rfl ?_
  refine xr_iload_n C 2 dX10_valueBehind_9 rfl rfl ?_
  refine xr_iload C 0 dX10_valueBehind_10 rfl ?_
  refine xr_iload_n C 4 dX10_valueBehind_12 rfl rfl ?_
  obtain ⟨h13, e13, hF⟩ := fx_b1E hF
  refine xr_callVv C mvX10_211 [.int a1, .int r3, .int a3] [] (mX10_puts l G a0 a1 r3 a3 ta0 h3 h13 e13) ta0 (by decide) vc10 rfl ⟨rfl, rfl, (Nat.le_of_ble_eq_true rfl), (Nat.le_of_ble_eq_true rfl)⟩ rfl (Nat.le_of_ble_eq_true rfl) dX10_valueBehind_13 ?_
  refine xr_aload_n C 1 dX10_valueBehind_16 rfl rfl ?_
  obtain ⟨r17, h17, e17, hF⟩ := fx_b2E hF
  refine xr_callVi C mvX10_277 [] [] (mX10_valueNow l G a0 ta0 h13 h17 r17 e17) ta0 (by decide) vc10 rfl ⟨rfl, rfl, (Nat.le_of_ble_eq_true rfl), (Nat.le_of_ble_eq_true rfl)⟩ rfl (Nat.le_of_ble_eq_true rfl) dX10_valueBehind_17 ?_
  refine xr_istore C [(5, .int r17), (4, .int r3), (0, .ref (G.2.2.1 a0)), (1, .int a1), (2, .int a2), (3, .int a3)] dX10_valueBehind_20 (Nat.le_of_ble_eq_true rfl) rfl ?_
  refine xr_aload_n C 2 dX10_valueBehind_22 rfl rfl ?_
  refine xr_iload_n C 3 dX10_valueBehind_23 rfl rfl ?_
  refine xr_iload C 1 dX10_valueBehind_24 rfl ?_
  refine xr_iload_n C 4 dX10_valueBehind_26 rfl rfl ?_
  obtain ⟨h27, e27, hF⟩ := fx_b1E hF
  refine xr_callVv C mvX10_211 [.int a1, .int r3, .int a2] [] (mX10_puts l G a0 a1 r3 a2 ta0 h17 h27 e27) ta0 (by decide) vc10 rfl ⟨rfl, rfl, (Nat.le_of_ble_eq_true rfl), (Nat.le_of_ble_eq_true rfl)⟩ rfl (Nat.le_of_ble_eq_true rfl) dX10_valueBehind_27 ?_
  refine xr_iload C 0 dX10_valueBehind_30 rfl ?_
  cases hF
  exact xr_iret C dX10_valueBehind_32
theorem dX10_ifSub_0 : decode cX10_ifSub 0 = .ok (.aload_n 0, 1) := by decide +kernel
theorem dX10_ifSub_1 : decode cX10_ifSub 1 = .ok (.iconst 0, 1) := by decide +kernel
theorem dX10_ifSub_2 : decode cX10_ifSub 2 = .ok (.putfield 63, 3) := by decide +kernel
theorem dX10_ifSub_5 : decode cX10_ifSub 5 = .ok (.aload_n 0, 1) := by decide +kernel
theorem dX10_ifSub_6 : decode cX10_ifSub 6 = .ok (.iload_n 1, 1) := by decide +kernel
theorem dX10_ifSub_7 : decode cX10_ifSub 7 = .ok (.iload_n 2, 1) := by decide +kernel
theorem dX10_ifSub_8 : decode cX10_ifSub 8 = .ok (.iload_n 3, 1) := by decide +kernel
theorem dX10_ifSub_9 : decode cX10_ifSub 9 = .ok (.invokevirtual 227, 3) := by decide +kernel
theorem dX10_ifSub_12 : decode cX10_ifSub 12 = .ok (.istore 4, 2) := by decide +kernel
theorem dX10_ifSub_14 : decode cX10_ifSub 14 = .ok (.iload 4, 2) := by decide +kernel
theorem dX10_ifSub_16 : decode cX10_ifSub 16 = .ok (.ifCond .eq 8, 3) := by decide +kernel
theorem dX10_ifSub_19 : decode cX10_ifSub 19 = .ok (.iload 4, 2) := by decide +kernel
theorem dX10_ifSub_21 : decode cX10_ifSub 21 = .ok (.goto 10, 3) := by decide +kernel
theorem dX10_ifSub_24 : decode cX10_ifSub 24 = .ok (.aload_n 0, 1) := by decide +kernel
theorem dX10_ifSub_25 : decode cX10_ifSub 25 = .ok (.iload_n 1, 1) := by decide +kernel
theorem dX10_ifSub_26 : decode cX10_ifSub 26 = .ok (.iload_n 2, 1) := by decide +kernel
theorem dX10_ifSub_27 : decode cX10_ifSub 27 = .ok (.iload_n 3, 1) := by decide +kernel
theorem dX10_ifSub_28 : decode cX10_ifSub 28 = .ok (.invokevirtual 307, 3) := by decide +kernel
theorem dX10_ifSub_31 : decode cX10_ifSub 31 = .ok (.ireturn, 1) := by decide +kernel
def fX10_ifSub (a0 : Nat) (a1 : Int32) (a2 : Int32) (a3 : Int32) (h : hp_T) : Option (Int32 × hp_T) := fx_let (hp_sI h a0 0 (0 : Int32)) fun (h2 : hp_T) => fx_b2 (fX10_wrongSub a0 a1 a2 a3 h2) fun (r9 : Int32) (h9 : hp_T) => if r9 = 0 then (fx_b2 (fX10_valueBehind a0 a1 a2 a3 h9) fun (r28 : Int32) (h28 : hp_T) => some (r28, h28)) else (some (r9, h9))
set_option maxRecDepth 100000 in
set_option maxHeartbeats 4000000 in
theorem mX10_ifSub (l : Launch) (G : xr_G) (a0 : Nat) (a1 : Int32) (a2 : Int32) (a3 : Int32) (ta0 : hp_sh a0 = (10, 0)) (h h1 : hp_T) (r : Int32) (hF : fX10_ifSub a0 a1 a2 a3 h = some (r, h1)) : xr_M l G yX10_ifSub cX10_ifSub 5 (xr_R 7 166) (some .int) [.ref (G.2.2.1 a0), .int a1, .int a2, .int a3] h (xr_Qi G r h1) := by
  refine xr_start rfl (Nat.le_of_ble_eq_true rfl) (fun K C => ?_)
  show xr_j l G K 5 h [(0, .ref (G.2.2.1 a0)), (1, .int a1), (2, .int a2), (3, .int a3)] 0 []
  unfold fX10_ifSub at hF
  refine xr_aload_n C 0 dX10_ifSub_0 rfl rfl ?_
  refine xr_iconst (v := 0) C dX10_ifSub_1 (by decide) ?_
  refine xr_puti C fpX10_63 rfl rfl rfl dX10_ifSub_2 ta0 (fun h2 e2 => ?_)
  have hF := fx_letE hF h2 e2
  refine xr_aload_n C 0 dX10_ifSub_5 rfl rfl ?_
  refine xr_iload_n C 1 dX10_ifSub_6 rfl rfl ?_
  refine xr_iload_n C 2 dX10_ifSub_7 rfl rfl ?_
  refine xr_iload_n C 3 dX10_ifSub_8 rfl rfl ?_
  obtain ⟨r9, h9, e9, hF⟩ := fx_b2E hF
  refine xr_callVi C mvX10_227 [.int a1, .int a2, .int a3] [] (mX10_wrongSub l G a0 a1 a2 a3 ta0 h2 h9 r9 e9) ta0 (by decide) vc10 rfl ⟨rfl, rfl, (Nat.le_of_ble_eq_true rfl), (Nat.le_of_ble_eq_true rfl)⟩ rfl (Nat.le_of_ble_eq_true rfl) dX10_ifSub_9 ?_
  refine xr_istore C [(4, .int r9), (0, .ref (G.2.2.1 a0)), (1, .int a1), (2, .int a2), (3, .int a3)] dX10_ifSub_12 (Nat.le_of_ble_eq_true rfl) rfl ?_
  refine xr_iload C 0 dX10_ifSub_14 rfl ?_
  refine xr_if_eq C 24 dX10_ifSub_16 (by decide) (fun c16 => ?_) (fun c16 => ?_)
  · have hF := fx_pos hF c16
    refine xr_aload_n C 1 dX10_ifSub_24 rfl rfl ?_
    refine xr_iload_n C 2 dX10_ifSub_25 rfl rfl ?_
    refine xr_iload_n C 3 dX10_ifSub_26 rfl rfl ?_
    refine xr_iload_n C 4 dX10_ifSub_27 rfl rfl ?_
    obtain ⟨r28, h28, e28, hF⟩ := fx_b2E hF
    refine xr_callVi C mvX10_307 [.int a1, .int a2, .int a3] [] (mX10_valueBehind l G a0 a1 a2 a3 ta0 h9 h28 r28 e28) ta0 (by decide) vc10 rfl ⟨rfl, rfl, (Nat.le_of_ble_eq_true rfl), (Nat.le_of_ble_eq_true rfl)⟩ rfl (Nat.le_of_ble_eq_true rfl) dX10_ifSub_28 ?_
    cases hF
    exact xr_iret C dX10_ifSub_31
  · have hF := fx_neg hF c16
    refine xr_iload C 0 dX10_ifSub_19 rfl ?_
    refine xr_goto C 31 dX10_ifSub_21 (by decide) ?_
    cases hF
    exact xr_iret C dX10_ifSub_31
theorem dX10_bestSub_0 : decode cX10_bestSub 0 = .ok (.aload_n 0, 1) := by decide +kernel
theorem dX10_bestSub_1 : decode cX10_bestSub 1 = .ok (.iconst 0, 1) := by decide +kernel
theorem dX10_bestSub_2 : decode cX10_bestSub 2 = .ok (.putfield 63, 3) := by decide +kernel
theorem dX10_bestSub_5 : decode cX10_bestSub 5 = .ok (.aload_n 0, 1) := by decide +kernel
theorem dX10_bestSub_6 : decode cX10_bestSub 6 = .ok (.iload_n 1, 1) := by decide +kernel
theorem dX10_bestSub_7 : decode cX10_bestSub 7 = .ok (.invokevirtual 180, 3) := by decide +kernel
theorem dX10_bestSub_10 : decode cX10_bestSub 10 = .ok (.ifCond .eq 12, 3) := by decide +kernel
theorem dX10_bestSub_13 : decode cX10_bestSub 13 = .ok (.iload_n 2, 1) := by decide +kernel
theorem dX10_bestSub_14 : decode cX10_bestSub 14 = .ok (.ifCond .lt 8, 3) := by decide +kernel
theorem dX10_bestSub_17 : decode cX10_bestSub 17 = .ok (.iload_n 2, 1) := by decide +kernel
theorem dX10_bestSub_18 : decode cX10_bestSub 18 = .ok (.iconst 2, 1) := by decide +kernel
theorem dX10_bestSub_19 : decode cX10_bestSub 19 = .ok (.if_icmp .le 5, 3) := by decide +kernel
theorem dX10_bestSub_22 : decode cX10_bestSub 22 = .ok (.iconst (-1), 1) := by decide +kernel
theorem dX10_bestSub_23 : decode cX10_bestSub 23 = .ok (.ireturn, 1) := by decide +kernel
theorem dX10_bestSub_24 : decode cX10_bestSub 24 = .ok (.bipush (-2), 2) := by decide +kernel
theorem dX10_bestSub_26 : decode cX10_bestSub 26 = .ok (.istore_n 3, 1) := by decide +kernel
theorem dX10_bestSub_27 : decode cX10_bestSub 27 = .ok (.bipush (-2), 2) := by decide +kernel
theorem dX10_bestSub_29 : decode cX10_bestSub 29 = .ok (.istore 4, 2) := by decide +kernel
theorem dX10_bestSub_31 : decode cX10_bestSub 31 = .ok (.bipush (-2), 2) := by decide +kernel
theorem dX10_bestSub_33 : decode cX10_bestSub 33 = .ok (.istore 5, 2) := by decide +kernel
theorem dX10_bestSub_35 : decode cX10_bestSub 35 = .ok (.iconst 0, 1) := by decide +kernel
theorem dX10_bestSub_36 : decode cX10_bestSub 36 = .ok (.istore 6, 2) := by decide +kernel
theorem dX10_bestSub_38 : decode cX10_bestSub 38 = .ok (.iload 6, 2) := by decide +kernel
theorem dX10_bestSub_40 : decode cX10_bestSub 40 = .ok (.aload_n 0, 1) := by decide +kernel
theorem dX10_bestSub_41 : decode cX10_bestSub 41 = .ok (.getfield 13, 3) := by decide +kernel
theorem dX10_bestSub_44 : decode cX10_bestSub 44 = .ok (.iconst 5, 1) := by decide +kernel
theorem dX10_bestSub_45 : decode cX10_bestSub 45 = .ok (.iload_n 1, 1) := by decide +kernel
theorem dX10_bestSub_46 : decode cX10_bestSub 46 = .ok (.iadd, 1) := by decide +kernel
theorem dX10_bestSub_47 : decode cX10_bestSub 47 = .ok (.iaload, 1) := by decide +kernel
theorem dX10_bestSub_48 : decode cX10_bestSub 48 = .ok (.if_icmp .ge 110, 3) := by decide +kernel
theorem dX10_bestSub_51 : decode cX10_bestSub 51 = .ok (.iconst 0, 1) := by decide +kernel
theorem dX10_bestSub_52 : decode cX10_bestSub 52 = .ok (.istore 7, 2) := by decide +kernel
theorem dX10_bestSub_54 : decode cX10_bestSub 54 = .ok (.iload 7, 2) := by decide +kernel
theorem dX10_bestSub_56 : decode cX10_bestSub 56 = .ok (.aload_n 0, 1) := by decide +kernel
theorem dX10_bestSub_57 : decode cX10_bestSub 57 = .ok (.getfield 13, 3) := by decide +kernel
theorem dX10_bestSub_60 : decode cX10_bestSub 60 = .ok (.iconst 5, 1) := by decide +kernel
theorem dX10_bestSub_61 : decode cX10_bestSub 61 = .ok (.iload_n 1, 1) := by decide +kernel
theorem dX10_bestSub_62 : decode cX10_bestSub 62 = .ok (.iadd, 1) := by decide +kernel
theorem dX10_bestSub_63 : decode cX10_bestSub 63 = .ok (.iaload, 1) := by decide +kernel
theorem dX10_bestSub_64 : decode cX10_bestSub 64 = .ok (.if_icmp .ge 88, 3) := by decide +kernel
theorem dX10_bestSub_67 : decode cX10_bestSub 67 = .ok (.aload_n 0, 1) := by decide +kernel
theorem dX10_bestSub_68 : decode cX10_bestSub 68 = .ok (.iload_n 1, 1) := by decide +kernel
theorem dX10_bestSub_69 : decode cX10_bestSub 69 = .ok (.iload 6, 2) := by decide +kernel
theorem dX10_bestSub_71 : decode cX10_bestSub 71 = .ok (.iload 7, 2) := by decide +kernel
theorem dX10_bestSub_73 : decode cX10_bestSub 73 = .ok (.invokevirtual 227, 3) := by decide +kernel
theorem dX10_bestSub_76 : decode cX10_bestSub 76 = .ok (.ifCond .eq 6, 3) := by decide +kernel
theorem dX10_bestSub_79 : decode cX10_bestSub 79 = .ok (.goto 67, 3) := by decide +kernel
theorem dX10_bestSub_82 : decode cX10_bestSub 82 = .ok (.aload_n 0, 1) := by decide +kernel
theorem dX10_bestSub_83 : decode cX10_bestSub 83 = .ok (.iload_n 1, 1) := by decide +kernel
theorem dX10_bestSub_84 : decode cX10_bestSub 84 = .ok (.iload 6, 2) := by decide +kernel
theorem dX10_bestSub_86 : decode cX10_bestSub 86 = .ok (.iload 7, 2) := by decide +kernel
theorem dX10_bestSub_88 : decode cX10_bestSub 88 = .ok (.invokevirtual 307, 3) := by decide +kernel
theorem dX10_bestSub_91 : decode cX10_bestSub 91 = .ok (.istore 8, 2) := by decide +kernel
theorem dX10_bestSub_93 : decode cX10_bestSub 93 = .ok (.iload_n 3, 1) := by decide +kernel
theorem dX10_bestSub_94 : decode cX10_bestSub 94 = .ok (.bipush (-2), 2) := by decide +kernel
theorem dX10_bestSub_96 : decode cX10_bestSub 96 = .ok (.if_icmp .eq 24, 3) := by decide +kernel
theorem dX10_bestSub_99 : decode cX10_bestSub 99 = .ok (.iload_n 1, 1) := by decide +kernel
theorem dX10_bestSub_100 : decode cX10_bestSub 100 = .ok (.ifCond .ne 13, 3) := by decide +kernel
theorem dX10_bestSub_103 : decode cX10_bestSub 103 = .ok (.iload 8, 2) := by decide +kernel
theorem dX10_bestSub_105 : decode cX10_bestSub 105 = .ok (.iload 5, 2) := by decide +kernel
theorem dX10_bestSub_107 : decode cX10_bestSub 107 = .ok (.if_icmp .le 17, 3) := by decide +kernel
theorem dX10_bestSub_110 : decode cX10_bestSub 110 = .ok (.goto 10, 3) := by decide +kernel
theorem dX10_bestSub_113 : decode cX10_bestSub 113 = .ok (.iload 8, 2) := by decide +kernel
theorem dX10_bestSub_115 : decode cX10_bestSub 115 = .ok (.iload 5, 2) := by decide +kernel
theorem dX10_bestSub_117 : decode cX10_bestSub 117 = .ok (.if_icmp .ge 7, 3) := by decide +kernel
theorem dX10_bestSub_120 : decode cX10_bestSub 120 = .ok (.iconst 1, 1) := by decide +kernel
theorem dX10_bestSub_121 : decode cX10_bestSub 121 = .ok (.goto 4, 3) := by decide +kernel
theorem dX10_bestSub_124 : decode cX10_bestSub 124 = .ok (.iconst 0, 1) := by decide +kernel
theorem dX10_bestSub_125 : decode cX10_bestSub 125 = .ok (.istore 9, 2) := by decide +kernel
theorem dX10_bestSub_127 : decode cX10_bestSub 127 = .ok (.iload 9, 2) := by decide +kernel
theorem dX10_bestSub_129 : decode cX10_bestSub 129 = .ok (.ifCond .ne 6, 3) := by decide +kernel
theorem dX10_bestSub_132 : decode cX10_bestSub 132 = .ok (.goto 14, 3) := by decide +kernel
theorem dX10_bestSub_135 : decode cX10_bestSub 135 = .ok (.iload 6, 2) := by decide +kernel
theorem dX10_bestSub_137 : decode cX10_bestSub 137 = .ok (.istore_n 3, 1) := by decide +kernel
theorem dX10_bestSub_138 : decode cX10_bestSub 138 = .ok (.iload 7, 2) := by decide +kernel
theorem dX10_bestSub_140 : decode cX10_bestSub 140 = .ok (.istore 4, 2) := by decide +kernel
theorem dX10_bestSub_142 : decode cX10_bestSub 142 = .ok (.iload 8, 2) := by decide +kernel
theorem dX10_bestSub_144 : decode cX10_bestSub 144 = .ok (.istore 5, 2) := by decide +kernel
theorem dX10_bestSub_146 : decode cX10_bestSub 146 = .ok (.iinc 7 1, 3) := by decide +kernel
theorem dX10_bestSub_149 : decode cX10_bestSub 149 = .ok (.goto (-95), 3) := by decide +kernel
theorem dX10_bestSub_152 : decode cX10_bestSub 152 = .ok (.iinc 6 1, 3) := by decide +kernel
theorem dX10_bestSub_155 : decode cX10_bestSub 155 = .ok (.goto (-117), 3) := by decide +kernel
theorem dX10_bestSub_158 : decode cX10_bestSub 158 = .ok (.iload_n 2, 1) := by decide +kernel
theorem dX10_bestSub_159 : decode cX10_bestSub 159 = .ok (.ifCond .ne 7, 3) := by decide +kernel
theorem dX10_bestSub_162 : decode cX10_bestSub 162 = .ok (.iload_n 3, 1) := by decide +kernel
theorem dX10_bestSub_163 : decode cX10_bestSub 163 = .ok (.goto 15, 3) := by decide +kernel
theorem dX10_bestSub_166 : decode cX10_bestSub 166 = .ok (.iload_n 2, 1) := by decide +kernel
theorem dX10_bestSub_167 : decode cX10_bestSub 167 = .ok (.iconst 1, 1) := by decide +kernel
theorem dX10_bestSub_168 : decode cX10_bestSub 168 = .ok (.if_icmp .ne 8, 3) := by decide +kernel
theorem dX10_bestSub_171 : decode cX10_bestSub 171 = .ok (.iload 4, 2) := by decide +kernel
theorem dX10_bestSub_173 : decode cX10_bestSub 173 = .ok (.goto 5, 3) := by decide +kernel
theorem dX10_bestSub_176 : decode cX10_bestSub 176 = .ok (.iload 5, 2) := by decide +kernel
theorem dX10_bestSub_178 : decode cX10_bestSub 178 = .ok (.ireturn, 1) := by decide +kernel
def fX10_bestSub_146 (k38 : Nat → Int32 → Int32 → Int32 → Int32 → Int32 → Int32 → hp_T → Option (Int32 × hp_T)) (k54 : Nat → Int32 → Int32 → Int32 → Int32 → Int32 → Int32 → Int32 → hp_T → Option (Int32 × hp_T)) (a0 : Nat) (a1 : Int32) (a2 : Int32) (a3 : Int32) (a4 : Int32) (a5 : Int32) (a6 : Int32) (a7 : Int32) (h : hp_T) : Option (Int32 × hp_T) := fx_let (a7 + (1 : Int32)) fun (x146 : Int32) => k54 a0 a1 a2 a3 a4 a5 a6 x146 h
set_option maxRecDepth 100000 in
set_option maxHeartbeats 4000000 in
theorem bX10_bestSub_146 {l : Launch} {G : xr_G} {K : xr_K} {r : Int32} {h1 : hp_T} (C : xr_C G K cX10_bestSub RX10 10 (xr_R 7 166) (some .int) (some (xr_Qi G r h1))) (k38 : Nat → Int32 → Int32 → Int32 → Int32 → Int32 → Int32 → hp_T → Option (Int32 × hp_T)) (j38 : ∀ (a0 : Nat) (a1 : Int32) (a2 : Int32) (a3 : Int32) (a4 : Int32) (a5 : Int32) (a6 : Int32) (ta0 : hp_sh a0 = (10, 0)) (h : hp_T), k38 a0 a1 a2 a3 a4 a5 a6 h = some (r, h1) → xr_j l G K 10 h [(0, .ref (G.2.2.1 a0)), (1, .int a1), (2, .int a2), (3, .int a3), (4, .int a4), (5, .int a5), (6, .int a6)] 38 []) (k54 : Nat → Int32 → Int32 → Int32 → Int32 → Int32 → Int32 → Int32 → hp_T → Option (Int32 × hp_T)) (j54 : ∀ (a0 : Nat) (a1 : Int32) (a2 : Int32) (a3 : Int32) (a4 : Int32) (a5 : Int32) (a6 : Int32) (a7 : Int32) (ta0 : hp_sh a0 = (10, 0)) (h : hp_T), k54 a0 a1 a2 a3 a4 a5 a6 a7 h = some (r, h1) → xr_j l G K 10 h [(0, .ref (G.2.2.1 a0)), (1, .int a1), (2, .int a2), (3, .int a3), (4, .int a4), (5, .int a5), (6, .int a6), (7, .int a7)] 54 []) (a0 : Nat) (a1 : Int32) (a2 : Int32) (a3 : Int32) (a4 : Int32) (a5 : Int32) (a6 : Int32) (a7 : Int32) (ta0 : hp_sh a0 = (10, 0)) (h : hp_T) (hF : fX10_bestSub_146 k38 k54 a0 a1 a2 a3 a4 a5 a6 a7 h = some (r, h1)) : xr_j l G K 10 h [(0, .ref (G.2.2.1 a0)), (1, .int a1), (2, .int a2), (3, .int a3), (4, .int a4), (5, .int a5), (6, .int a6), (7, .int a7)] 146 [] := by
  unfold fX10_bestSub_146 at hF
  obtain ⟨x146, e146⟩ : ∃ y : Int32, y = (a7 + (1 : Int32)) := ⟨_, rfl⟩
  have hF := fx_letE hF x146 e146
  refine xr_iinc C x146 7 [(7, .int x146), (0, .ref (G.2.2.1 a0)), (1, .int a1), (2, .int a2), (3, .int a3), (4, .int a4), (5, .int a5), (6, .int a6)] dX10_bestSub_146 rfl (by rw [e146]; rfl) (Nat.le_of_ble_eq_true rfl) rfl ?_
  refine xr_goto C 54 dX10_bestSub_149 (by decide) ?_
  refine xr_sub [1, 2, 3, 4, 5, 6, 7, 0] [(0, .ref (G.2.2.1 a0)), (1, .int a1), (2, .int a2), (3, .int a3), (4, .int a4), (5, .int a5), (6, .int a6), (7, .int x146)] rfl ?_
  exact j54 a0 a1 a2 a3 a4 a5 a6 x146 ta0 h hF
def fX10_bestSub_125 (k38 : Nat → Int32 → Int32 → Int32 → Int32 → Int32 → Int32 → hp_T → Option (Int32 × hp_T)) (k54 : Nat → Int32 → Int32 → Int32 → Int32 → Int32 → Int32 → Int32 → hp_T → Option (Int32 × hp_T)) (a0 : Nat) (a1 : Int32) (a2 : Int32) (a3 : Int32) (a4 : Int32) (a5 : Int32) (a6 : Int32) (a7 : Int32) (a8 : Int32) (s0 : Int32) (h : hp_T) : Option (Int32 × hp_T) := if s0 = 0 then (fX10_bestSub_146 k38 k54 a0 a1 a2 a3 a4 a5 a6 a7 h) else (fX10_bestSub_146 k38 k54 a0 a1 a2 a6 a7 a8 a6 a7 h)
set_option maxRecDepth 100000 in
set_option maxHeartbeats 4000000 in
theorem bX10_bestSub_125 {l : Launch} {G : xr_G} {K : xr_K} {r : Int32} {h1 : hp_T} (C : xr_C G K cX10_bestSub RX10 10 (xr_R 7 166) (some .int) (some (xr_Qi G r h1))) (k38 : Nat → Int32 → Int32 → Int32 → Int32 → Int32 → Int32 → hp_T → Option (Int32 × hp_T)) (j38 : ∀ (a0 : Nat) (a1 : Int32) (a2 : Int32) (a3 : Int32) (a4 : Int32) (a5 : Int32) (a6 : Int32) (ta0 : hp_sh a0 = (10, 0)) (h : hp_T), k38 a0 a1 a2 a3 a4 a5 a6 h = some (r, h1) → xr_j l G K 10 h [(0, .ref (G.2.2.1 a0)), (1, .int a1), (2, .int a2), (3, .int a3), (4, .int a4), (5, .int a5), (6, .int a6)] 38 []) (k54 : Nat → Int32 → Int32 → Int32 → Int32 → Int32 → Int32 → Int32 → hp_T → Option (Int32 × hp_T)) (j54 : ∀ (a0 : Nat) (a1 : Int32) (a2 : Int32) (a3 : Int32) (a4 : Int32) (a5 : Int32) (a6 : Int32) (a7 : Int32) (ta0 : hp_sh a0 = (10, 0)) (h : hp_T), k54 a0 a1 a2 a3 a4 a5 a6 a7 h = some (r, h1) → xr_j l G K 10 h [(0, .ref (G.2.2.1 a0)), (1, .int a1), (2, .int a2), (3, .int a3), (4, .int a4), (5, .int a5), (6, .int a6), (7, .int a7)] 54 []) (a0 : Nat) (a1 : Int32) (a2 : Int32) (a3 : Int32) (a4 : Int32) (a5 : Int32) (a6 : Int32) (a7 : Int32) (a8 : Int32) (s0 : Int32) (ta0 : hp_sh a0 = (10, 0)) (h : hp_T) (hF : fX10_bestSub_125 k38 k54 a0 a1 a2 a3 a4 a5 a6 a7 a8 s0 h = some (r, h1)) : xr_j l G K 10 h [(0, .ref (G.2.2.1 a0)), (1, .int a1), (2, .int a2), (3, .int a3), (4, .int a4), (5, .int a5), (6, .int a6), (7, .int a7), (8, .int a8)] 125 [.int s0] := by
  unfold fX10_bestSub_125 at hF
  refine xr_istore C [(9, .int s0), (0, .ref (G.2.2.1 a0)), (1, .int a1), (2, .int a2), (3, .int a3), (4, .int a4), (5, .int a5), (6, .int a6), (7, .int a7), (8, .int a8)] dX10_bestSub_125 (Nat.le_of_ble_eq_true rfl) rfl ?_
  refine xr_iload C 0 dX10_bestSub_127 rfl ?_
  refine xr_if_ne C 135 dX10_bestSub_129 (by decide) (fun c129 => ?_) (fun c129 => ?_)
  · have hF := fx_neg hF c129
    refine xr_iload C 7 dX10_bestSub_135 rfl ?_
    refine xr_istore_n C [(3, .int a6), (9, .int s0), (0, .ref (G.2.2.1 a0)), (1, .int a1), (2, .int a2), (4, .int a4), (5, .int a5), (6, .int a6), (7, .int a7), (8, .int a8)] dX10_bestSub_137 rfl (Nat.le_of_ble_eq_true rfl) rfl ?_
    refine xr_iload C 8 dX10_bestSub_138 rfl ?_
    refine xr_istore C [(4, .int a7), (3, .int a6), (9, .int s0), (0, .ref (G.2.2.1 a0)), (1, .int a1), (2, .int a2), (5, .int a5), (6, .int a6), (7, .int a7), (8, .int a8)] dX10_bestSub_140 (Nat.le_of_ble_eq_true rfl) rfl ?_
    refine xr_iload C 9 dX10_bestSub_142 rfl ?_
    refine xr_istore C [(5, .int a8), (4, .int a7), (3, .int a6), (9, .int s0), (0, .ref (G.2.2.1 a0)), (1, .int a1), (2, .int a2), (6, .int a6), (7, .int a7), (8, .int a8)] dX10_bestSub_144 (Nat.le_of_ble_eq_true rfl) rfl ?_
    refine xr_sub [4, 5, 6, 2, 1, 0, 7, 8] [(0, .ref (G.2.2.1 a0)), (1, .int a1), (2, .int a2), (3, .int a6), (4, .int a7), (5, .int a8), (6, .int a6), (7, .int a7)] rfl ?_
    exact bX10_bestSub_146 C k38 j38 k54 j54  a0 a1 a2 a6 a7 a8 a6 a7 ta0 h hF
  · have hF := fx_pos hF c129
    refine xr_goto C 146 dX10_bestSub_132 (by decide) ?_
    refine xr_sub [1, 2, 3, 4, 5, 6, 7, 8] [(0, .ref (G.2.2.1 a0)), (1, .int a1), (2, .int a2), (3, .int a3), (4, .int a4), (5, .int a5), (6, .int a6), (7, .int a7)] rfl ?_
    exact bX10_bestSub_146 C k38 j38 k54 j54  a0 a1 a2 a3 a4 a5 a6 a7 ta0 h hF
def fX10_bestSub_124 (k38 : Nat → Int32 → Int32 → Int32 → Int32 → Int32 → Int32 → hp_T → Option (Int32 × hp_T)) (k54 : Nat → Int32 → Int32 → Int32 → Int32 → Int32 → Int32 → Int32 → hp_T → Option (Int32 × hp_T)) (a0 : Nat) (a1 : Int32) (a2 : Int32) (a3 : Int32) (a4 : Int32) (a5 : Int32) (a6 : Int32) (a7 : Int32) (a8 : Int32) (h : hp_T) : Option (Int32 × hp_T) := fX10_bestSub_125 k38 k54 a0 a1 a2 a3 a4 a5 a6 a7 a8 (0 : Int32) h
set_option maxRecDepth 100000 in
set_option maxHeartbeats 4000000 in
theorem bX10_bestSub_124 {l : Launch} {G : xr_G} {K : xr_K} {r : Int32} {h1 : hp_T} (C : xr_C G K cX10_bestSub RX10 10 (xr_R 7 166) (some .int) (some (xr_Qi G r h1))) (k38 : Nat → Int32 → Int32 → Int32 → Int32 → Int32 → Int32 → hp_T → Option (Int32 × hp_T)) (j38 : ∀ (a0 : Nat) (a1 : Int32) (a2 : Int32) (a3 : Int32) (a4 : Int32) (a5 : Int32) (a6 : Int32) (ta0 : hp_sh a0 = (10, 0)) (h : hp_T), k38 a0 a1 a2 a3 a4 a5 a6 h = some (r, h1) → xr_j l G K 10 h [(0, .ref (G.2.2.1 a0)), (1, .int a1), (2, .int a2), (3, .int a3), (4, .int a4), (5, .int a5), (6, .int a6)] 38 []) (k54 : Nat → Int32 → Int32 → Int32 → Int32 → Int32 → Int32 → Int32 → hp_T → Option (Int32 × hp_T)) (j54 : ∀ (a0 : Nat) (a1 : Int32) (a2 : Int32) (a3 : Int32) (a4 : Int32) (a5 : Int32) (a6 : Int32) (a7 : Int32) (ta0 : hp_sh a0 = (10, 0)) (h : hp_T), k54 a0 a1 a2 a3 a4 a5 a6 a7 h = some (r, h1) → xr_j l G K 10 h [(0, .ref (G.2.2.1 a0)), (1, .int a1), (2, .int a2), (3, .int a3), (4, .int a4), (5, .int a5), (6, .int a6), (7, .int a7)] 54 []) (a0 : Nat) (a1 : Int32) (a2 : Int32) (a3 : Int32) (a4 : Int32) (a5 : Int32) (a6 : Int32) (a7 : Int32) (a8 : Int32) (ta0 : hp_sh a0 = (10, 0)) (h : hp_T) (hF : fX10_bestSub_124 k38 k54 a0 a1 a2 a3 a4 a5 a6 a7 a8 h = some (r, h1)) : xr_j l G K 10 h [(0, .ref (G.2.2.1 a0)), (1, .int a1), (2, .int a2), (3, .int a3), (4, .int a4), (5, .int a5), (6, .int a6), (7, .int a7), (8, .int a8)] 124 [] := by
  unfold fX10_bestSub_124 at hF
  refine xr_iconst (v := 0) C dX10_bestSub_124 (by decide) ?_
  exact bX10_bestSub_125 C k38 j38 k54 j54  a0 a1 a2 a3 a4 a5 a6 a7 a8 (0 : Int32) ta0 h hF
def fX10_bestSub_120 (k38 : Nat → Int32 → Int32 → Int32 → Int32 → Int32 → Int32 → hp_T → Option (Int32 × hp_T)) (k54 : Nat → Int32 → Int32 → Int32 → Int32 → Int32 → Int32 → Int32 → hp_T → Option (Int32 × hp_T)) (a0 : Nat) (a1 : Int32) (a2 : Int32) (a3 : Int32) (a4 : Int32) (a5 : Int32) (a6 : Int32) (a7 : Int32) (a8 : Int32) (h : hp_T) : Option (Int32 × hp_T) := fX10_bestSub_125 k38 k54 a0 a1 a2 a3 a4 a5 a6 a7 a8 (1 : Int32) h
set_option maxRecDepth 100000 in
set_option maxHeartbeats 4000000 in
theorem bX10_bestSub_120 {l : Launch} {G : xr_G} {K : xr_K} {r : Int32} {h1 : hp_T} (C : xr_C G K cX10_bestSub RX10 10 (xr_R 7 166) (some .int) (some (xr_Qi G r h1))) (k38 : Nat → Int32 → Int32 → Int32 → Int32 → Int32 → Int32 → hp_T → Option (Int32 × hp_T)) (j38 : ∀ (a0 : Nat) (a1 : Int32) (a2 : Int32) (a3 : Int32) (a4 : Int32) (a5 : Int32) (a6 : Int32) (ta0 : hp_sh a0 = (10, 0)) (h : hp_T), k38 a0 a1 a2 a3 a4 a5 a6 h = some (r, h1) → xr_j l G K 10 h [(0, .ref (G.2.2.1 a0)), (1, .int a1), (2, .int a2), (3, .int a3), (4, .int a4), (5, .int a5), (6, .int a6)] 38 []) (k54 : Nat → Int32 → Int32 → Int32 → Int32 → Int32 → Int32 → Int32 → hp_T → Option (Int32 × hp_T)) (j54 : ∀ (a0 : Nat) (a1 : Int32) (a2 : Int32) (a3 : Int32) (a4 : Int32) (a5 : Int32) (a6 : Int32) (a7 : Int32) (ta0 : hp_sh a0 = (10, 0)) (h : hp_T), k54 a0 a1 a2 a3 a4 a5 a6 a7 h = some (r, h1) → xr_j l G K 10 h [(0, .ref (G.2.2.1 a0)), (1, .int a1), (2, .int a2), (3, .int a3), (4, .int a4), (5, .int a5), (6, .int a6), (7, .int a7)] 54 []) (a0 : Nat) (a1 : Int32) (a2 : Int32) (a3 : Int32) (a4 : Int32) (a5 : Int32) (a6 : Int32) (a7 : Int32) (a8 : Int32) (ta0 : hp_sh a0 = (10, 0)) (h : hp_T) (hF : fX10_bestSub_120 k38 k54 a0 a1 a2 a3 a4 a5 a6 a7 a8 h = some (r, h1)) : xr_j l G K 10 h [(0, .ref (G.2.2.1 a0)), (1, .int a1), (2, .int a2), (3, .int a3), (4, .int a4), (5, .int a5), (6, .int a6), (7, .int a7), (8, .int a8)] 120 [] := by
  unfold fX10_bestSub_120 at hF
  refine xr_iconst (v := 1) C dX10_bestSub_120 (by decide) ?_
  refine xr_goto C 125 dX10_bestSub_121 (by decide) ?_
  exact bX10_bestSub_125 C k38 j38 k54 j54  a0 a1 a2 a3 a4 a5 a6 a7 a8 (1 : Int32) ta0 h hF
def fX10_bestSub_54 (k38 : Nat → Int32 → Int32 → Int32 → Int32 → Int32 → Int32 → hp_T → Option (Int32 × hp_T)) : Nat → Nat → Int32 → Int32 → Int32 → Int32 → Int32 → Int32 → Int32 → hp_T → Option (Int32 × hp_T)
  | 0, _, _, _, _, _, _, _, _, _ => none
  | n + 1, a0, a1, a2, a3, a4, a5, a6, a7, h => fx_g (fx_in ((5 : Int32) + a1) 117) (if (h.1 (h.2.2 a0 3) (fx_ix ((5 : Int32) + a1))) ≤ a7 then (fx_let (a6 + (1 : Int32)) fun (x152 : Int32) => k38 a0 a1 a2 a3 a4 a5 x152 h) else (fx_b2 (fX10_wrongSub a0 a1 a6 a7 h) fun (r73 : Int32) (h73 : hp_T) => if r73 = 0 then (fx_b2 (fX10_valueBehind a0 a1 a6 a7 h73) fun (r88 : Int32) (h88 : hp_T) => if a3 = (-2 : Int32) then (fX10_bestSub_120 k38 (fX10_bestSub_54 k38 n) a0 a1 a2 a3 a4 a5 a6 a7 r88 h88) else (if a1 = 0 then (if r88 ≤ a5 then (fX10_bestSub_124 k38 (fX10_bestSub_54 k38 n) a0 a1 a2 a3 a4 a5 a6 a7 r88 h88) else (fX10_bestSub_120 k38 (fX10_bestSub_54 k38 n) a0 a1 a2 a3 a4 a5 a6 a7 r88 h88)) else (if a5 ≤ r88 then (fX10_bestSub_124 k38 (fX10_bestSub_54 k38 n) a0 a1 a2 a3 a4 a5 a6 a7 r88 h88) else (fX10_bestSub_120 k38 (fX10_bestSub_54 k38 n) a0 a1 a2 a3 a4 a5 a6 a7 r88 h88)))) else (fX10_bestSub_146 k38 (fX10_bestSub_54 k38 n) a0 a1 a2 a3 a4 a5 a6 a7 h73)))
set_option maxRecDepth 100000 in
set_option maxHeartbeats 4000000 in
theorem bX10_bestSub_54 {l : Launch} {G : xr_G} {K : xr_K} {r : Int32} {h1 : hp_T} (C : xr_C G K cX10_bestSub RX10 10 (xr_R 7 166) (some .int) (some (xr_Qi G r h1))) (k38 : Nat → Int32 → Int32 → Int32 → Int32 → Int32 → Int32 → hp_T → Option (Int32 × hp_T)) (j38 : ∀ (a0 : Nat) (a1 : Int32) (a2 : Int32) (a3 : Int32) (a4 : Int32) (a5 : Int32) (a6 : Int32) (ta0 : hp_sh a0 = (10, 0)) (h : hp_T), k38 a0 a1 a2 a3 a4 a5 a6 h = some (r, h1) → xr_j l G K 10 h [(0, .ref (G.2.2.1 a0)), (1, .int a1), (2, .int a2), (3, .int a3), (4, .int a4), (5, .int a5), (6, .int a6)] 38 []) : ∀ (n : Nat) (a0 : Nat) (a1 : Int32) (a2 : Int32) (a3 : Int32) (a4 : Int32) (a5 : Int32) (a6 : Int32) (a7 : Int32) (ta0 : hp_sh a0 = (10, 0)) (h : hp_T), fX10_bestSub_54 k38 n a0 a1 a2 a3 a4 a5 a6 a7 h = some (r, h1) → xr_j l G K 10 h [(0, .ref (G.2.2.1 a0)), (1, .int a1), (2, .int a2), (3, .int a3), (4, .int a4), (5, .int a5), (6, .int a6), (7, .int a7)] 54 [] := by
  intro n
  induction n with
  | zero =>
    intro a0 a1 a2 a3 a4 a5 a6 a7 ta0 h hF
    cases hF
  | succ n ih =>
    intro a0 a1 a2 a3 a4 a5 a6 a7 ta0 h hF
    rw [fX10_bestSub_54] at hF
    refine xr_iload C 7 dX10_bestSub_54 rfl ?_
    refine xr_aload_n C 0 dX10_bestSub_56 rfl rfl ?_
    refine xr_getr C flX10_13 rfl (by decide) dX10_bestSub_57 ta0 (fun t57 => ?_)
    refine xr_iconst (v := 5) C dX10_bestSub_60 (by decide) ?_
    refine xr_iload_n C 1 dX10_bestSub_61 rfl rfl ?_
    refine xr_iadd C dX10_bestSub_62 ?_
    obtain ⟨g63, hF⟩ := fx_gE hF
    refine xr_iald C dX10_bestSub_63 t57 g63 ?_
    refine xr_icmp_ge C 152 dX10_bestSub_64 (by decide) (fun c64 => ?_) (fun c64 => ?_)
    · have hF := fx_pos hF c64
      obtain ⟨x152, e152⟩ : ∃ y : Int32, y = (a6 + (1 : Int32)) := ⟨_, rfl⟩
      have hF := fx_letE hF x152 e152
      refine xr_iinc C x152 6 [(6, .int x152), (0, .ref (G.2.2.1 a0)), (1, .int a1), (2, .int a2), (3, .int a3), (4, .int a4), (5, .int a5), (7, .int a7)] dX10_bestSub_152 rfl (by rw [e152]; rfl) (Nat.le_of_ble_eq_true rfl) rfl ?_
      refine xr_goto C 38 dX10_bestSub_155 (by decide) ?_
      refine xr_sub [1, 2, 3, 4, 5, 6, 0] [(0, .ref (G.2.2.1 a0)), (1, .int a1), (2, .int a2), (3, .int a3), (4, .int a4), (5, .int a5), (6, .int x152)] rfl ?_
      exact j38 a0 a1 a2 a3 a4 a5 x152 ta0 h hF
    · have hF := fx_neg hF c64
      refine xr_aload_n C 0 dX10_bestSub_67 rfl rfl ?_
      refine xr_iload_n C 1 dX10_bestSub_68 rfl rfl ?_
      refine xr_iload C 6 dX10_bestSub_69 rfl ?_
      refine xr_iload C 7 dX10_bestSub_71 rfl ?_
      obtain ⟨r73, h73, e73, hF⟩ := fx_b2E hF
      refine xr_callVi C mvX10_227 [.int a1, .int a6, .int a7] [] (mX10_wrongSub l G a0 a1 a6 a7 ta0 h h73 r73 e73) ta0 (by decide) vc10 rfl ⟨rfl, rfl, (Nat.le_of_ble_eq_true rfl), (Nat.le_of_ble_eq_true rfl)⟩ rfl (Nat.le_of_ble_eq_true rfl) dX10_bestSub_73 ?_
      refine xr_if_eq C 82 dX10_bestSub_76 (by decide) (fun c76 => ?_) (fun c76 => ?_)
      · have hF := fx_pos hF c76
        refine xr_aload_n C 0 dX10_bestSub_82 rfl rfl ?_
        refine xr_iload_n C 1 dX10_bestSub_83 rfl rfl ?_
        refine xr_iload C 6 dX10_bestSub_84 rfl ?_
        refine xr_iload C 7 dX10_bestSub_86 rfl ?_
        obtain ⟨r88, h88, e88, hF⟩ := fx_b2E hF
        refine xr_callVi C mvX10_307 [.int a1, .int a6, .int a7] [] (mX10_valueBehind l G a0 a1 a6 a7 ta0 h73 h88 r88 e88) ta0 (by decide) vc10 rfl ⟨rfl, rfl, (Nat.le_of_ble_eq_true rfl), (Nat.le_of_ble_eq_true rfl)⟩ rfl (Nat.le_of_ble_eq_true rfl) dX10_bestSub_88 ?_
        refine xr_istore C [(8, .int r88), (0, .ref (G.2.2.1 a0)), (1, .int a1), (2, .int a2), (3, .int a3), (4, .int a4), (5, .int a5), (6, .int a6), (7, .int a7)] dX10_bestSub_91 (Nat.le_of_ble_eq_true rfl) rfl ?_
        refine xr_iload_n C 4 dX10_bestSub_93 rfl rfl ?_
        refine xr_bipush (v := -2) C dX10_bestSub_94 (by decide) ?_
        refine xr_icmp_eq C 120 dX10_bestSub_96 (by decide) (fun c96 => ?_) (fun c96 => ?_)
        · have hF := fx_pos hF c96
          refine xr_sub [1, 2, 3, 4, 5, 6, 7, 8, 0] [(0, .ref (G.2.2.1 a0)), (1, .int a1), (2, .int a2), (3, .int a3), (4, .int a4), (5, .int a5), (6, .int a6), (7, .int a7), (8, .int r88)] rfl ?_
          exact bX10_bestSub_120 C k38 j38 (fX10_bestSub_54 k38 n) (fun a0 a1 a2 a3 a4 a5 a6 a7 ta0 h hF => ih a0 a1 a2 a3 a4 a5 a6 a7 ta0 h hF)  a0 a1 a2 a3 a4 a5 a6 a7 r88 ta0 h88 hF
        · have hF := fx_neg hF c96
          refine xr_iload_n C 2 dX10_bestSub_99 rfl rfl ?_
          refine xr_if_ne C 113 dX10_bestSub_100 (by decide) (fun c100 => ?_) (fun c100 => ?_)
          · have hF := fx_neg hF c100
            refine xr_iload C 0 dX10_bestSub_113 rfl ?_
            refine xr_iload C 6 dX10_bestSub_115 rfl ?_
            refine xr_icmp_ge C 124 dX10_bestSub_117 (by decide) (fun c117 => ?_) (fun c117 => ?_)
            · have hF := fx_pos hF c117
              refine xr_sub [1, 2, 3, 4, 5, 6, 7, 8, 0] [(0, .ref (G.2.2.1 a0)), (1, .int a1), (2, .int a2), (3, .int a3), (4, .int a4), (5, .int a5), (6, .int a6), (7, .int a7), (8, .int r88)] rfl ?_
              exact bX10_bestSub_124 C k38 j38 (fX10_bestSub_54 k38 n) (fun a0 a1 a2 a3 a4 a5 a6 a7 ta0 h hF => ih a0 a1 a2 a3 a4 a5 a6 a7 ta0 h hF)  a0 a1 a2 a3 a4 a5 a6 a7 r88 ta0 h88 hF
            · have hF := fx_neg hF c117
              refine xr_sub [1, 2, 3, 4, 5, 6, 7, 8, 0] [(0, .ref (G.2.2.1 a0)), (1, .int a1), (2, .int a2), (3, .int a3), (4, .int a4), (5, .int a5), (6, .int a6), (7, .int a7), (8, .int r88)] rfl ?_
              exact bX10_bestSub_120 C k38 j38 (fX10_bestSub_54 k38 n) (fun a0 a1 a2 a3 a4 a5 a6 a7 ta0 h hF => ih a0 a1 a2 a3 a4 a5 a6 a7 ta0 h hF)  a0 a1 a2 a3 a4 a5 a6 a7 r88 ta0 h88 hF
          · have hF := fx_pos hF c100
            refine xr_iload C 0 dX10_bestSub_103 rfl ?_
            refine xr_iload C 6 dX10_bestSub_105 rfl ?_
            refine xr_icmp_le C 124 dX10_bestSub_107 (by decide) (fun c107 => ?_) (fun c107 => ?_)
            · have hF := fx_pos hF c107
              refine xr_sub [1, 2, 3, 4, 5, 6, 7, 8, 0] [(0, .ref (G.2.2.1 a0)), (1, .int a1), (2, .int a2), (3, .int a3), (4, .int a4), (5, .int a5), (6, .int a6), (7, .int a7), (8, .int r88)] rfl ?_
              exact bX10_bestSub_124 C k38 j38 (fX10_bestSub_54 k38 n) (fun a0 a1 a2 a3 a4 a5 a6 a7 ta0 h hF => ih a0 a1 a2 a3 a4 a5 a6 a7 ta0 h hF)  a0 a1 a2 a3 a4 a5 a6 a7 r88 ta0 h88 hF
            · have hF := fx_neg hF c107
              refine xr_goto C 120 dX10_bestSub_110 (by decide) ?_
              refine xr_sub [1, 2, 3, 4, 5, 6, 7, 8, 0] [(0, .ref (G.2.2.1 a0)), (1, .int a1), (2, .int a2), (3, .int a3), (4, .int a4), (5, .int a5), (6, .int a6), (7, .int a7), (8, .int r88)] rfl ?_
              exact bX10_bestSub_120 C k38 j38 (fX10_bestSub_54 k38 n) (fun a0 a1 a2 a3 a4 a5 a6 a7 ta0 h hF => ih a0 a1 a2 a3 a4 a5 a6 a7 ta0 h hF)  a0 a1 a2 a3 a4 a5 a6 a7 r88 ta0 h88 hF
      · have hF := fx_neg hF c76
        refine xr_goto C 146 dX10_bestSub_79 (by decide) ?_
        exact bX10_bestSub_146 C k38 j38 (fX10_bestSub_54 k38 n) (fun a0 a1 a2 a3 a4 a5 a6 a7 ta0 h hF => ih a0 a1 a2 a3 a4 a5 a6 a7 ta0 h hF)  a0 a1 a2 a3 a4 a5 a6 a7 ta0 h73 hF
def fX10_bestSub_38  : Nat → Nat → Int32 → Int32 → Int32 → Int32 → Int32 → Int32 → hp_T → Option (Int32 × hp_T)
  | 0, _, _, _, _, _, _, _, _ => none
  | n + 1, a0, a1, a2, a3, a4, a5, a6, h => fx_g (fx_in ((5 : Int32) + a1) 117) (if (h.1 (h.2.2 a0 3) (fx_ix ((5 : Int32) + a1))) ≤ a6 then (if a2 = 0 then (some (a3, h)) else (if a2 = (1 : Int32) then (some (a4, h)) else (some (a5, h)))) else (fX10_bestSub_54 (fX10_bestSub_38 n) fx_N a0 a1 a2 a3 a4 a5 a6 (0 : Int32) h))
set_option maxRecDepth 100000 in
set_option maxHeartbeats 4000000 in
theorem bX10_bestSub_38 {l : Launch} {G : xr_G} {K : xr_K} {r : Int32} {h1 : hp_T} (C : xr_C G K cX10_bestSub RX10 10 (xr_R 7 166) (some .int) (some (xr_Qi G r h1)))  : ∀ (n : Nat) (a0 : Nat) (a1 : Int32) (a2 : Int32) (a3 : Int32) (a4 : Int32) (a5 : Int32) (a6 : Int32) (ta0 : hp_sh a0 = (10, 0)) (h : hp_T), fX10_bestSub_38 n a0 a1 a2 a3 a4 a5 a6 h = some (r, h1) → xr_j l G K 10 h [(0, .ref (G.2.2.1 a0)), (1, .int a1), (2, .int a2), (3, .int a3), (4, .int a4), (5, .int a5), (6, .int a6)] 38 [] := by
  intro n
  induction n with
  | zero =>
    intro a0 a1 a2 a3 a4 a5 a6 ta0 h hF
    cases hF
  | succ n ih =>
    intro a0 a1 a2 a3 a4 a5 a6 ta0 h hF
    rw [fX10_bestSub_38] at hF
    refine xr_iload C 6 dX10_bestSub_38 rfl ?_
    refine xr_aload_n C 0 dX10_bestSub_40 rfl rfl ?_
    refine xr_getr C flX10_13 rfl (by decide) dX10_bestSub_41 ta0 (fun t41 => ?_)
    refine xr_iconst (v := 5) C dX10_bestSub_44 (by decide) ?_
    refine xr_iload_n C 1 dX10_bestSub_45 rfl rfl ?_
    refine xr_iadd C dX10_bestSub_46 ?_
    obtain ⟨g47, hF⟩ := fx_gE hF
    refine xr_iald C dX10_bestSub_47 t41 g47 ?_
    refine xr_icmp_ge C 158 dX10_bestSub_48 (by decide) (fun c48 => ?_) (fun c48 => ?_)
    · have hF := fx_pos hF c48
      refine xr_iload_n C 2 dX10_bestSub_158 rfl rfl ?_
      refine xr_if_ne C 166 dX10_bestSub_159 (by decide) (fun c159 => ?_) (fun c159 => ?_)
      · have hF := fx_neg hF c159
        refine xr_iload_n C 2 dX10_bestSub_166 rfl rfl ?_
        refine xr_iconst (v := 1) C dX10_bestSub_167 (by decide) ?_
        refine xr_icmp_ne C 176 dX10_bestSub_168 (by decide) (fun c168 => ?_) (fun c168 => ?_)
        · have hF := fx_neg hF c168
          refine xr_iload C 5 dX10_bestSub_176 rfl ?_
          cases hF
          exact xr_iret C dX10_bestSub_178
        · have hF := fx_pos hF c168
          refine xr_iload C 4 dX10_bestSub_171 rfl ?_
          refine xr_goto C 178 dX10_bestSub_173 (by decide) ?_
          cases hF
          exact xr_iret C dX10_bestSub_178
      · have hF := fx_pos hF c159
        refine xr_iload_n C 3 dX10_bestSub_162 rfl rfl ?_
        refine xr_goto C 178 dX10_bestSub_163 (by decide) ?_
        cases hF
        exact xr_iret C dX10_bestSub_178
    · have hF := fx_neg hF c48
      refine xr_iconst (v := 0) C dX10_bestSub_51 (by decide) ?_
      refine xr_istore C [(7, .int (0 : Int32)), (0, .ref (G.2.2.1 a0)), (1, .int a1), (2, .int a2), (3, .int a3), (4, .int a4), (5, .int a5), (6, .int a6)] dX10_bestSub_52 (Nat.le_of_ble_eq_true rfl) rfl ?_
      refine xr_sub [1, 2, 3, 4, 5, 6, 7, 0] [(0, .ref (G.2.2.1 a0)), (1, .int a1), (2, .int a2), (3, .int a3), (4, .int a4), (5, .int a5), (6, .int a6), (7, .int (0 : Int32))] rfl ?_
      exact bX10_bestSub_54 C (fX10_bestSub_38 n) (fun a0 a1 a2 a3 a4 a5 a6 ta0 h hF => ih a0 a1 a2 a3 a4 a5 a6 ta0 h hF) fx_N a0 a1 a2 a3 a4 a5 a6 (0 : Int32) ta0 h hF
def fX10_bestSub (a0 : Nat) (a1 : Int32) (a2 : Int32) (h : hp_T) : Option (Int32 × hp_T) := fx_let (hp_sI h a0 0 (0 : Int32)) fun (h2 : hp_T) => fx_b2 (fX10_isSide a0 a1 h2) fun (r7 : Int32) (h7 : hp_T) => if r7 = 0 then (some ((-1 : Int32), h7)) else (if a2 < 0 then (some ((-1 : Int32), h7)) else (if a2 ≤ (2 : Int32) then (fX10_bestSub_38 fx_N a0 a1 a2 (-2 : Int32) (-2 : Int32) (-2 : Int32) (0 : Int32) h7) else (some ((-1 : Int32), h7))))
set_option maxRecDepth 100000 in
set_option maxHeartbeats 4000000 in
theorem mX10_bestSub (l : Launch) (G : xr_G) (a0 : Nat) (a1 : Int32) (a2 : Int32) (ta0 : hp_sh a0 = (10, 0)) (h h1 : hp_T) (r : Int32) (hF : fX10_bestSub a0 a1 a2 h = some (r, h1)) : xr_M l G yX10_bestSub cX10_bestSub 10 (xr_R 7 166) (some .int) [.ref (G.2.2.1 a0), .int a1, .int a2] h (xr_Qi G r h1) := by
  refine xr_start rfl (Nat.le_of_ble_eq_true rfl) (fun K C => ?_)
  show xr_j l G K 10 h [(0, .ref (G.2.2.1 a0)), (1, .int a1), (2, .int a2)] 0 []
  unfold fX10_bestSub at hF
  refine xr_aload_n C 0 dX10_bestSub_0 rfl rfl ?_
  refine xr_iconst (v := 0) C dX10_bestSub_1 (by decide) ?_
  refine xr_puti C fpX10_63 rfl rfl rfl dX10_bestSub_2 ta0 (fun h2 e2 => ?_)
  have hF := fx_letE hF h2 e2
  refine xr_aload_n C 0 dX10_bestSub_5 rfl rfl ?_
  refine xr_iload_n C 1 dX10_bestSub_6 rfl rfl ?_
  obtain ⟨r7, h7, e7, hF⟩ := fx_b2E hF
  refine xr_callVi C mvX10_180 [.int a1] [] (mX10_isSide l G a0 a1 ta0 h2 h7 r7 e7) ta0 (by decide) vc10 rfl ⟨rfl, rfl, (Nat.le_of_ble_eq_true rfl), (Nat.le_of_ble_eq_true rfl)⟩ rfl (Nat.le_of_ble_eq_true rfl) dX10_bestSub_7 ?_
  refine xr_if_eq C 22 dX10_bestSub_10 (by decide) (fun c10 => ?_) (fun c10 => ?_)
  · have hF := fx_pos hF c10
    refine xr_iconst (v := -1) C dX10_bestSub_22 (by decide) ?_
    cases hF
    exact xr_iret C dX10_bestSub_23
  · have hF := fx_neg hF c10
    refine xr_iload_n C 2 dX10_bestSub_13 rfl rfl ?_
    refine xr_if_lt C 22 dX10_bestSub_14 (by decide) (fun c14 => ?_) (fun c14 => ?_)
    · have hF := fx_pos hF c14
      refine xr_iconst (v := -1) C dX10_bestSub_22 (by decide) ?_
      cases hF
      exact xr_iret C dX10_bestSub_23
    · have hF := fx_neg hF c14
      refine xr_iload_n C 2 dX10_bestSub_17 rfl rfl ?_
      refine xr_iconst (v := 2) C dX10_bestSub_18 (by decide) ?_
      refine xr_icmp_le C 24 dX10_bestSub_19 (by decide) (fun c19 => ?_) (fun c19 => ?_)
      · have hF := fx_pos hF c19
        refine xr_bipush (v := -2) C dX10_bestSub_24 (by decide) ?_
        refine xr_istore_n C [(3, .int (-2 : Int32)), (0, .ref (G.2.2.1 a0)), (1, .int a1), (2, .int a2)] dX10_bestSub_26 rfl (Nat.le_of_ble_eq_true rfl) rfl ?_
        refine xr_bipush (v := -2) C dX10_bestSub_27 (by decide) ?_
        refine xr_istore C [(4, .int (-2 : Int32)), (3, .int (-2 : Int32)), (0, .ref (G.2.2.1 a0)), (1, .int a1), (2, .int a2)] dX10_bestSub_29 (Nat.le_of_ble_eq_true rfl) rfl ?_
        refine xr_bipush (v := -2) C dX10_bestSub_31 (by decide) ?_
        refine xr_istore C [(5, .int (-2 : Int32)), (4, .int (-2 : Int32)), (3, .int (-2 : Int32)), (0, .ref (G.2.2.1 a0)), (1, .int a1), (2, .int a2)] dX10_bestSub_33 (Nat.le_of_ble_eq_true rfl) rfl ?_
        refine xr_iconst (v := 0) C dX10_bestSub_35 (by decide) ?_
        refine xr_istore C [(6, .int (0 : Int32)), (5, .int (-2 : Int32)), (4, .int (-2 : Int32)), (3, .int (-2 : Int32)), (0, .ref (G.2.2.1 a0)), (1, .int a1), (2, .int a2)] dX10_bestSub_36 (Nat.le_of_ble_eq_true rfl) rfl ?_
        refine xr_sub [4, 5, 6, 3, 2, 1, 0] [(0, .ref (G.2.2.1 a0)), (1, .int a1), (2, .int a2), (3, .int (-2 : Int32)), (4, .int (-2 : Int32)), (5, .int (-2 : Int32)), (6, .int (0 : Int32))] rfl ?_
        exact bX10_bestSub_38 C  fx_N a0 a1 a2 (-2 : Int32) (-2 : Int32) (-2 : Int32) (0 : Int32) ta0 h7 hF
      · have hF := fx_neg hF c19
        refine xr_iconst (v := -1) C dX10_bestSub_22 (by decide) ?_
        cases hF
        exact xr_iret C dX10_bestSub_23
