theorem dX9_till_0 : decode cX9_till 0 = .ok (.aload_n 0, 1) := by decide +kernel
theorem dX9_till_1 : decode cX9_till 1 = .ok (.iload_n 1, 1) := by decide +kernel
theorem dX9_till_2 : decode cX9_till 2 = .ok (.iload_n 2, 1) := by decide +kernel
theorem dX9_till_3 : decode cX9_till 3 = .ok (.invokevirtual 153, 3) := by decide +kernel
theorem dX9_till_6 : decode cX9_till 6 = .ok (.ifCond .eq 10, 3) := by decide +kernel
theorem dX9_till_9 : decode cX9_till 9 = .ok (.iload_n 3, 1) := by decide +kernel
theorem dX9_till_10 : decode cX9_till 10 = .ok (.invokestatic 201, 3) := by decide +kernel
theorem dX9_till_13 : decode cX9_till 13 = .ok (.ifCond .ne 5, 3) := by decide +kernel
theorem dX9_till_16 : decode cX9_till 16 = .ok (.iconst (-1), 1) := by decide +kernel
theorem dX9_till_17 : decode cX9_till 17 = .ok (.ireturn, 1) := by decide +kernel
theorem dX9_till_18 : decode cX9_till 18 = .ok (.aload_n 0, 1) := by decide +kernel
theorem dX9_till_19 : decode cX9_till 19 = .ok (.getfield 33, 3) := by decide +kernel
theorem dX9_till_22 : decode cX9_till 22 = .ok (.iload_n 1, 1) := by decide +kernel
theorem dX9_till_23 : decode cX9_till 23 = .ok (.invokevirtual 207, 3) := by decide +kernel
theorem dX9_till_26 : decode cX9_till 26 = .ok (.iload_n 2, 1) := by decide +kernel
theorem dX9_till_27 : decode cX9_till 27 = .ok (.invokevirtual 232, 3) := by decide +kernel
theorem dX9_till_30 : decode cX9_till 30 = .ok (.istore 4, 2) := by decide +kernel
theorem dX9_till_32 : decode cX9_till 32 = .ok (.iload 4, 2) := by decide +kernel
theorem dX9_till_34 : decode cX9_till 34 = .ok (.ifCond .ne 8, 3) := by decide +kernel
theorem dX9_till_37 : decode cX9_till 37 = .ok (.bipush (-2), 2) := by decide +kernel
theorem dX9_till_39 : decode cX9_till 39 = .ok (.goto 13, 3) := by decide +kernel
theorem dX9_till_42 : decode cX9_till 42 = .ok (.iload 4, 2) := by decide +kernel
theorem dX9_till_44 : decode cX9_till 44 = .ok (.iload_n 3, 1) := by decide +kernel
theorem dX9_till_45 : decode cX9_till 45 = .ok (.isub, 1) := by decide +kernel
theorem dX9_till_46 : decode cX9_till 46 = .ok (.bipush 6, 2) := by decide +kernel
theorem dX9_till_48 : decode cX9_till 48 = .ok (.iadd, 1) := by decide +kernel
theorem dX9_till_49 : decode cX9_till 49 = .ok (.bipush 6, 2) := by decide +kernel
theorem dX9_till_51 : decode cX9_till 51 = .ok (.irem, 1) := by decide +kernel
theorem dX9_till_52 : decode cX9_till 52 = .ok (.ireturn, 1) := by decide +kernel
def fX9_till (a0 : Nat) (a1 : Int32) (a2 : Int32) (a3 : Int32) (h : hp_T) : Option (Int32 × hp_T) := fx_b2 (fX9_isPlayer a0 a1 a2 h) fun (r3 : Int32) (h3 : hp_T) => if r3 = 0 then (some ((-1 : Int32), h3)) else (fx_b2 (fX9_isSpot a3 h3) fun (r10 : Int32) (h10 : hp_T) => if r10 = 0 then (some ((-1 : Int32), h10)) else (fx_b2 (fX1_team (h10.2.2 a0 3) a1 h10) fun (r23 : Nat) (h23 : hp_T) => fx_b2 (fX6_spotOf r23 a2 h23) fun (r27 : Int32) (h27 : hp_T) => if r27 = 0 then (some ((-2 : Int32), h27)) else (some ((fx_rem ((r27 - a3) + (6 : Int32)) (6 : Int32)), h27))))
set_option maxRecDepth 100000 in
set_option maxHeartbeats 4000000 in
theorem mX9_till (l : Launch) (G : xr_G) (a0 : Nat) (a1 : Int32) (a2 : Int32) (a3 : Int32) (ta0 : hp_sh a0 = (9, 0)) (h h1 : hp_T) (r : Int32) (hF : fX9_till a0 a1 a2 a3 h = some (r, h1)) : xr_M l G yX9_till cX9_till 5 (xr_R 2 43) (some .int) [.ref (G.2.2.1 a0), .int a1, .int a2, .int a3] h (xr_Qi G r h1) := by
  refine xr_start rfl (Nat.le_of_ble_eq_true rfl) (fun K C => ?_)
  show xr_j l G K 5 h [(0, .ref (G.2.2.1 a0)), (1, .int a1), (2, .int a2), (3, .int a3)] 0 []
  unfold fX9_till at hF
  refine xr_aload_n C 0 dX9_till_0 rfl rfl ?_
  refine xr_iload_n C 1 dX9_till_1 rfl rfl ?_
  refine xr_iload_n C 2 dX9_till_2 rfl rfl ?_
  obtain ⟨r3, h3, e3, hF⟩ := fx_b2E hF
  refine xr_callVi C mvX9_153 [.int a1, .int a2] [] (mX9_isPlayer l G a0 a1 a2 ta0 h h3 r3 e3) ta0 (by decide) vc9 rfl ⟨rfl, rfl, (Nat.le_of_ble_eq_true rfl), (Nat.le_of_ble_eq_true rfl)⟩ rfl (Nat.le_of_ble_eq_true rfl) dX9_till_3 ?_
  refine xr_if_eq C 16 dX9_till_6 (by decide) (fun c6 => ?_) (fun c6 => ?_)
  · have hF := fx_pos hF c6
    refine xr_iconst (v := -1) C dX9_till_16 (by decide) ?_
    cases hF
    exact xr_iret C dX9_till_17
  · have hF := fx_neg hF c6
    refine xr_iload_n C 3 dX9_till_9 rfl rfl ?_
    obtain ⟨r10, h10, e10, hF⟩ := fx_b2E hF
    refine xr_callSi C mvX9_201 [.int a3] [] (mX9_isSpot l G a3  h3 h10 r10 e10) rfl ⟨rfl, rfl, (Nat.le_of_ble_eq_true rfl), (Nat.le_of_ble_eq_true rfl)⟩ rfl (Nat.le_of_ble_eq_true rfl) dX9_till_10 ?_
    refine xr_if_ne C 18 dX9_till_13 (by decide) (fun c13 => ?_) (fun c13 => ?_)
    · have hF := fx_neg hF c13
      refine xr_aload_n C 0 dX9_till_18 rfl rfl ?_
      refine xr_getr C flX9_33 rfl (by decide) dX9_till_19 ta0 (fun t19 => ?_)
      refine xr_iload_n C 1 dX9_till_22 rfl rfl ?_
      obtain ⟨r23, h23, e23, hF⟩ := fx_b2E hF
      refine xr_callVr C mvX9_207 [.int a1] [] (mX1_team l G (h10.2.2 a0 3) a1 t19 h10 h23 r23 e23) t19 (by decide) vc1 rfl ⟨rfl, rfl, (Nat.le_of_ble_eq_true rfl), (Nat.le_of_ble_eq_true rfl)⟩ rfl (Nat.le_of_ble_eq_true rfl) dX9_till_23 (fun t23 => ?_)
      refine xr_iload_n C 2 dX9_till_26 rfl rfl ?_
      obtain ⟨r27, h27, e27, hF⟩ := fx_b2E hF
      refine xr_callVi C mvX9_232 [.int a2] [] (mX6_spotOf l G r23 a2 t23 h23 h27 r27 e27) t23 (by decide) vc6 rfl ⟨rfl, rfl, (Nat.le_of_ble_eq_true rfl), (Nat.le_of_ble_eq_true rfl)⟩ rfl (Nat.le_of_ble_eq_true rfl) dX9_till_27 ?_
      refine xr_istore C [(4, .int r27), (0, .ref (G.2.2.1 a0)), (1, .int a1), (2, .int a2), (3, .int a3)] dX9_till_30 (Nat.le_of_ble_eq_true rfl) rfl ?_
      refine xr_iload C 0 dX9_till_32 rfl ?_
      refine xr_if_ne C 42 dX9_till_34 (by decide) (fun c34 => ?_) (fun c34 => ?_)
      · have hF := fx_neg hF c34
        refine xr_iload C 0 dX9_till_42 rfl ?_
        refine xr_iload_n C 4 dX9_till_44 rfl rfl ?_
        refine xr_isub C dX9_till_45 ?_
        refine xr_bipush (v := 6) C dX9_till_46 (by decide) ?_
        refine xr_iadd C dX9_till_48 ?_
        refine xr_bipush (v := 6) C dX9_till_49 (by decide) ?_
        refine xr_irem C dX9_till_51 (by decide) ?_
        cases hF
        exact xr_iret C dX9_till_52
      · have hF := fx_pos hF c34
        refine xr_bipush (v := -2) C dX9_till_37 (by decide) ?_
        refine xr_goto C 52 dX9_till_39 (by decide) ?_
        cases hF
        exact xr_iret C dX9_till_52
    · have hF := fx_pos hF c13
      refine xr_iconst (v := -1) C dX9_till_16 (by decide) ?_
      cases hF
      exact xr_iret C dX9_till_17
theorem dX9_isRear_0 : decode cX9_isRear 0 = .ok (.iload_n 0, 1) := by decide +kernel
theorem dX9_isRear_1 : decode cX9_isRear 1 = .ok (.invokestatic 201, 3) := by decide +kernel
theorem dX9_isRear_4 : decode cX9_isRear 4 = .ok (.ifCond .eq 14, 3) := by decide +kernel
theorem dX9_isRear_7 : decode cX9_isRear 7 = .ok (.iload_n 0, 1) := by decide +kernel
theorem dX9_isRear_8 : decode cX9_isRear 8 = .ok (.invokestatic 238, 3) := by decide +kernel
theorem dX9_isRear_11 : decode cX9_isRear 11 = .ok (.ifCond .ne 7, 3) := by decide +kernel
theorem dX9_isRear_14 : decode cX9_isRear 14 = .ok (.iconst 1, 1) := by decide +kernel
theorem dX9_isRear_15 : decode cX9_isRear 15 = .ok (.goto 4, 3) := by decide +kernel
theorem dX9_isRear_18 : decode cX9_isRear 18 = .ok (.iconst 0, 1) := by decide +kernel
theorem dX9_isRear_19 : decode cX9_isRear 19 = .ok (.ireturn, 1) := by decide +kernel
def fX9_isRear (a0 : Int32) (h : hp_T) : Option (Int32 × hp_T) := fx_b2 (fX9_isSpot a0 h) fun (r1 : Int32) (h1 : hp_T) => if r1 = 0 then (some ((0 : Int32), h1)) else (fx_b2 (fX9_isFront a0 h1) fun (r8 : Int32) (h8 : hp_T) => if r8 = 0 then (some ((1 : Int32), h8)) else (some ((0 : Int32), h8)))
set_option maxRecDepth 100000 in
set_option maxHeartbeats 4000000 in
theorem mX9_isRear (l : Launch) (G : xr_G) (a0 : Int32)  (h h1 : hp_T) (r : Int32) (hF : fX9_isRear a0 h = some (r, h1)) : xr_M l G yX9_isRear cX9_isRear 1 (xr_R 1 20) (some .boolean) [.int a0] h (xr_Qi G r h1) := by
  refine xr_start rfl (Nat.le_of_ble_eq_true rfl) (fun K C => ?_)
  show xr_j l G K 1 h [(0, .int a0)] 0 []
  unfold fX9_isRear at hF
  refine xr_iload_n C 0 dX9_isRear_0 rfl rfl ?_
  obtain ⟨r1, h1, e1, hF⟩ := fx_b2E hF
  refine xr_callSi C mvX9_201 [.int a0] [] (mX9_isSpot l G a0  h h1 r1 e1) rfl ⟨rfl, rfl, (Nat.le_of_ble_eq_true rfl), (Nat.le_of_ble_eq_true rfl)⟩ rfl (Nat.le_of_ble_eq_true rfl) dX9_isRear_1 ?_
  refine xr_if_eq C 18 dX9_isRear_4 (by decide) (fun c4 => ?_) (fun c4 => ?_)
  · have hF := fx_pos hF c4
    refine xr_iconst (v := 0) C dX9_isRear_18 (by decide) ?_
    cases hF
    exact xr_zret C rfl dX9_isRear_19
  · have hF := fx_neg hF c4
    refine xr_iload_n C 0 dX9_isRear_7 rfl rfl ?_
    obtain ⟨r8, h8, e8, hF⟩ := fx_b2E hF
    refine xr_callSi C mvX9_238 [.int a0] [] (mX9_isFront l G a0  h1 h8 r8 e8) rfl ⟨rfl, rfl, (Nat.le_of_ble_eq_true rfl), (Nat.le_of_ble_eq_true rfl)⟩ rfl (Nat.le_of_ble_eq_true rfl) dX9_isRear_8 ?_
    refine xr_if_ne C 18 dX9_isRear_11 (by decide) (fun c11 => ?_) (fun c11 => ?_)
    · have hF := fx_neg hF c11
      refine xr_iconst (v := 0) C dX9_isRear_18 (by decide) ?_
      cases hF
      exact xr_zret C rfl dX9_isRear_19
    · have hF := fx_pos hF c11
      refine xr_iconst (v := 1) C dX9_isRear_14 (by decide) ?_
      refine xr_goto C 19 dX9_isRear_15 (by decide) ?_
      cases hF
      exact xr_zret C rfl dX9_isRear_19
theorem dX9_spotOnCourt_0 : decode cX9_spotOnCourt 0 = .ok (.aload_n 0, 1) := by decide +kernel
theorem dX9_spotOnCourt_1 : decode cX9_spotOnCourt 1 = .ok (.getfield 33, 3) := by decide +kernel
theorem dX9_spotOnCourt_4 : decode cX9_spotOnCourt 4 = .ok (.iload_n 1, 1) := by decide +kernel
theorem dX9_spotOnCourt_5 : decode cX9_spotOnCourt 5 = .ok (.invokevirtual 207, 3) := by decide +kernel
theorem dX9_spotOnCourt_8 : decode cX9_spotOnCourt 8 = .ok (.astore_n 3, 1) := by decide +kernel
theorem dX9_spotOnCourt_9 : decode cX9_spotOnCourt 9 = .ok (.iload_n 2, 1) := by decide +kernel
theorem dX9_spotOnCourt_10 : decode cX9_spotOnCourt 10 = .ok (.aload_n 0, 1) := by decide +kernel
theorem dX9_spotOnCourt_11 : decode cX9_spotOnCourt 11 = .ok (.getfield 68, 3) := by decide +kernel
theorem dX9_spotOnCourt_14 : decode cX9_spotOnCourt 14 = .ok (.iload_n 1, 1) := by decide +kernel
theorem dX9_spotOnCourt_15 : decode cX9_spotOnCourt 15 = .ok (.invokevirtual 103, 3) := by decide +kernel
theorem dX9_spotOnCourt_18 : decode cX9_spotOnCourt 18 = .ok (.getfield 173, 3) := by decide +kernel
theorem dX9_spotOnCourt_21 : decode cX9_spotOnCourt 21 = .ok (.if_icmp .ne 8, 3) := by decide +kernel
theorem dX9_spotOnCourt_24 : decode cX9_spotOnCourt 24 = .ok (.aload_n 3, 1) := by decide +kernel
theorem dX9_spotOnCourt_25 : decode cX9_spotOnCourt 25 = .ok (.getfield 241, 3) := by decide +kernel
theorem dX9_spotOnCourt_28 : decode cX9_spotOnCourt 28 = .ok (.ireturn, 1) := by decide +kernel
theorem dX9_spotOnCourt_29 : decode cX9_spotOnCourt 29 = .ok (.aload_n 3, 1) := by decide +kernel
theorem dX9_spotOnCourt_30 : decode cX9_spotOnCourt 30 = .ok (.iload_n 2, 1) := by decide +kernel
theorem dX9_spotOnCourt_31 : decode cX9_spotOnCourt 31 = .ok (.invokevirtual 232, 3) := by decide +kernel
theorem dX9_spotOnCourt_34 : decode cX9_spotOnCourt 34 = .ok (.istore 4, 2) := by decide +kernel
theorem dX9_spotOnCourt_36 : decode cX9_spotOnCourt 36 = .ok (.iload 4, 2) := by decide +kernel
theorem dX9_spotOnCourt_38 : decode cX9_spotOnCourt 38 = .ok (.aload_n 3, 1) := by decide +kernel
theorem dX9_spotOnCourt_39 : decode cX9_spotOnCourt 39 = .ok (.getfield 241, 3) := by decide +kernel
theorem dX9_spotOnCourt_42 : decode cX9_spotOnCourt 42 = .ok (.if_icmp .ne 7, 3) := by decide +kernel
theorem dX9_spotOnCourt_45 : decode cX9_spotOnCourt 45 = .ok (.iconst 0, 1) := by decide +kernel
theorem dX9_spotOnCourt_46 : decode cX9_spotOnCourt 46 = .ok (.goto 5, 3) := by decide +kernel
theorem dX9_spotOnCourt_49 : decode cX9_spotOnCourt 49 = .ok (.iload 4, 2) := by decide +kernel
theorem dX9_spotOnCourt_51 : decode cX9_spotOnCourt 51 = .ok (.ireturn, 1) := by decide +kernel
def fX9_spotOnCourt (a0 : Nat) (a1 : Int32) (a2 : Int32) (h : hp_T) : Option (Int32 × hp_T) := fx_b2 (fX1_team (h.2.2 a0 3) a1 h) fun (r5 : Nat) (h5 : hp_T) => fx_b2 (fX8_squad (h5.2.2 a0 11) a1 h5) fun (r15 : Nat) (h15 : hp_T) => if a2 = (h15.1 r15 7) then (some ((h15.1 r5 4), h15)) else (fx_b2 (fX6_spotOf r5 a2 h15) fun (r31 : Int32) (h31 : hp_T) => if r31 = (h31.1 r5 4) then (some ((0 : Int32), h31)) else (some (r31, h31)))
set_option maxRecDepth 100000 in
set_option maxHeartbeats 4000000 in
theorem mX9_spotOnCourt (l : Launch) (G : xr_G) (a0 : Nat) (a1 : Int32) (a2 : Int32) (ta0 : hp_sh a0 = (9, 0)) (h h1 : hp_T) (r : Int32) (hF : fX9_spotOnCourt a0 a1 a2 h = some (r, h1)) : xr_M l G yX9_spotOnCourt cX9_spotOnCourt 5 (xr_R 1 22) (some .int) [.ref (G.2.2.1 a0), .int a1, .int a2] h (xr_Qi G r h1) := by
  refine xr_start rfl (Nat.le_of_ble_eq_true rfl) (fun K C => ?_)
  show xr_j l G K 5 h [(0, .ref (G.2.2.1 a0)), (1, .int a1), (2, .int a2)] 0 []
  unfold fX9_spotOnCourt at hF
  refine xr_aload_n C 0 dX9_spotOnCourt_0 rfl rfl ?_
  refine xr_getr C flX9_33 rfl (by decide) dX9_spotOnCourt_1 ta0 (fun t1 => ?_)
  refine xr_iload_n C 1 dX9_spotOnCourt_4 rfl rfl ?_
  obtain ⟨r5, h5, e5, hF⟩ := fx_b2E hF
  refine xr_callVr C mvX9_207 [.int a1] [] (mX1_team l G (h.2.2 a0 3) a1 t1 h h5 r5 e5) t1 (by decide) vc1 rfl ⟨rfl, rfl, (Nat.le_of_ble_eq_true rfl), (Nat.le_of_ble_eq_true rfl)⟩ rfl (Nat.le_of_ble_eq_true rfl) dX9_spotOnCourt_5 (fun t5 => ?_)
  refine xr_astore_n C [(3, .ref (G.2.2.1 r5)), (0, .ref (G.2.2.1 a0)), (1, .int a1), (2, .int a2)] dX9_spotOnCourt_8 rfl (Nat.le_of_ble_eq_true rfl) rfl ?_
  refine xr_iload_n C 3 dX9_spotOnCourt_9 rfl rfl ?_
  refine xr_aload_n C 1 dX9_spotOnCourt_10 rfl rfl ?_
  refine xr_getr C flX9_68 rfl (by decide) dX9_spotOnCourt_11 ta0 (fun t11 => ?_)
  refine xr_iload_n C 2 dX9_spotOnCourt_14 rfl rfl ?_
  obtain ⟨r15, h15, e15, hF⟩ := fx_b2E hF
  refine xr_callVr C mvX9_103 [.int a1] [.int a2] (mX8_squad l G (h5.2.2 a0 11) a1 t11 h5 h15 r15 e15) t11 (by decide) vc8 rfl ⟨rfl, rfl, (Nat.le_of_ble_eq_true rfl), (Nat.le_of_ble_eq_true rfl)⟩ rfl (Nat.le_of_ble_eq_true rfl) dX9_spotOnCourt_15 (fun t15 => ?_)
  refine xr_geti C flX9_173 rfl dX9_spotOnCourt_18 t15 ?_
  refine xr_icmp_ne C 29 dX9_spotOnCourt_21 (by decide) (fun c21 => ?_) (fun c21 => ?_)
  · have hF := fx_neg hF c21
    refine xr_aload_n C 0 dX9_spotOnCourt_29 rfl rfl ?_
    refine xr_iload_n C 3 dX9_spotOnCourt_30 rfl rfl ?_
    obtain ⟨r31, h31, e31, hF⟩ := fx_b2E hF
    refine xr_callVi C mvX9_232 [.int a2] [] (mX6_spotOf l G r5 a2 t5 h15 h31 r31 e31) t5 (by decide) vc6 rfl ⟨rfl, rfl, (Nat.le_of_ble_eq_true rfl), (Nat.le_of_ble_eq_true rfl)⟩ rfl (Nat.le_of_ble_eq_true rfl) dX9_spotOnCourt_31 ?_
    refine xr_istore C [(4, .int r31), (3, .ref (G.2.2.1 r5)), (0, .ref (G.2.2.1 a0)), (1, .int a1), (2, .int a2)] dX9_spotOnCourt_34 (Nat.le_of_ble_eq_true rfl) rfl ?_
    refine xr_iload C 0 dX9_spotOnCourt_36 rfl ?_
    refine xr_aload_n C 1 dX9_spotOnCourt_38 rfl rfl ?_
    refine xr_geti C flX9_241 rfl dX9_spotOnCourt_39 t5 ?_
    refine xr_icmp_ne C 49 dX9_spotOnCourt_42 (by decide) (fun c42 => ?_) (fun c42 => ?_)
    · have hF := fx_neg hF c42
      refine xr_iload C 0 dX9_spotOnCourt_49 rfl ?_
      cases hF
      exact xr_iret C dX9_spotOnCourt_51
    · have hF := fx_pos hF c42
      refine xr_iconst (v := 0) C dX9_spotOnCourt_45 (by decide) ?_
      refine xr_goto C 51 dX9_spotOnCourt_46 (by decide) ?_
      cases hF
      exact xr_iret C dX9_spotOnCourt_51
  · have hF := fx_pos hF c21
    refine xr_aload_n C 0 dX9_spotOnCourt_24 rfl rfl ?_
    refine xr_geti C flX9_241 rfl dX9_spotOnCourt_25 t5 ?_
    cases hF
    exact xr_iret C dX9_spotOnCourt_28
theorem dX9_roleOf_0 : decode cX9_roleOf 0 = .ok (.aload_n 0, 1) := by decide +kernel
theorem dX9_roleOf_1 : decode cX9_roleOf 1 = .ok (.getfield 68, 3) := by decide +kernel
theorem dX9_roleOf_4 : decode cX9_roleOf 4 = .ok (.iload_n 1, 1) := by decide +kernel
theorem dX9_roleOf_5 : decode cX9_roleOf 5 = .ok (.invokevirtual 103, 3) := by decide +kernel
theorem dX9_roleOf_8 : decode cX9_roleOf 8 = .ok (.iload_n 2, 1) := by decide +kernel
theorem dX9_roleOf_9 : decode cX9_roleOf 9 = .ok (.invokevirtual 244, 3) := by decide +kernel
theorem dX9_roleOf_12 : decode cX9_roleOf 12 = .ok (.ifCond .eq 5, 3) := by decide +kernel
theorem dX9_roleOf_15 : decode cX9_roleOf 15 = .ok (.iconst 0, 1) := by decide +kernel
theorem dX9_roleOf_16 : decode cX9_roleOf 16 = .ok (.ireturn, 1) := by decide +kernel
theorem dX9_roleOf_17 : decode cX9_roleOf 17 = .ok (.aload_n 0, 1) := by decide +kernel
theorem dX9_roleOf_18 : decode cX9_roleOf 18 = .ok (.getfield 33, 3) := by decide +kernel
theorem dX9_roleOf_21 : decode cX9_roleOf 21 = .ok (.iload_n 1, 1) := by decide +kernel
theorem dX9_roleOf_22 : decode cX9_roleOf 22 = .ok (.invokevirtual 207, 3) := by decide +kernel
theorem dX9_roleOf_25 : decode cX9_roleOf 25 = .ok (.getfield 247, 3) := by decide +kernel
theorem dX9_roleOf_28 : decode cX9_roleOf 28 = .ok (.iload_n 2, 1) := by decide +kernel
theorem dX9_roleOf_29 : decode cX9_roleOf 29 = .ok (.iaload, 1) := by decide +kernel
theorem dX9_roleOf_30 : decode cX9_roleOf 30 = .ok (.iconst (-1), 1) := by decide +kernel
theorem dX9_roleOf_31 : decode cX9_roleOf 31 = .ok (.if_icmp .eq 7, 3) := by decide +kernel
theorem dX9_roleOf_34 : decode cX9_roleOf 34 = .ok (.iconst 1, 1) := by decide +kernel
theorem dX9_roleOf_35 : decode cX9_roleOf 35 = .ok (.goto 4, 3) := by decide +kernel
theorem dX9_roleOf_38 : decode cX9_roleOf 38 = .ok (.iconst 2, 1) := by decide +kernel
theorem dX9_roleOf_39 : decode cX9_roleOf 39 = .ok (.ireturn, 1) := by decide +kernel
def fX9_roleOf (a0 : Nat) (a1 : Int32) (a2 : Int32) (h : hp_T) : Option (Int32 × hp_T) := fx_b2 (fX8_squad (h.2.2 a0 11) a1 h) fun (r5 : Nat) (h5 : hp_T) => fx_b2 (fX7_isStarter r5 a2 h5) fun (r9 : Int32) (h9 : hp_T) => if r9 = 0 then (fx_b2 (fX1_team (h9.2.2 a0 3) a1 h9) fun (r22 : Nat) (h22 : hp_T) => fx_g (fx_in a2 12) (if (h22.1 (h22.2.2 r22 1) (fx_ix a2)) = (-1 : Int32) then (some ((2 : Int32), h22)) else (some ((1 : Int32), h22)))) else (some ((0 : Int32), h9))
set_option maxRecDepth 100000 in
set_option maxHeartbeats 4000000 in
theorem mX9_roleOf (l : Launch) (G : xr_G) (a0 : Nat) (a1 : Int32) (a2 : Int32) (ta0 : hp_sh a0 = (9, 0)) (h h1 : hp_T) (r : Int32) (hF : fX9_roleOf a0 a1 a2 h = some (r, h1)) : xr_M l G yX9_roleOf cX9_roleOf 3 (xr_R 1 22) (some .int) [.ref (G.2.2.1 a0), .int a1, .int a2] h (xr_Qi G r h1) := by
  refine xr_start rfl (Nat.le_of_ble_eq_true rfl) (fun K C => ?_)
  show xr_j l G K 3 h [(0, .ref (G.2.2.1 a0)), (1, .int a1), (2, .int a2)] 0 []
  unfold fX9_roleOf at hF
  refine xr_aload_n C 0 dX9_roleOf_0 rfl rfl ?_
  refine xr_getr C flX9_68 rfl (by decide) dX9_roleOf_1 ta0 (fun t1 => ?_)
  refine xr_iload_n C 1 dX9_roleOf_4 rfl rfl ?_
  obtain ⟨r5, h5, e5, hF⟩ := fx_b2E hF
  refine xr_callVr C mvX9_103 [.int a1] [] (mX8_squad l G (h.2.2 a0 11) a1 t1 h h5 r5 e5) t1 (by decide) vc8 rfl ⟨rfl, rfl, (Nat.le_of_ble_eq_true rfl), (Nat.le_of_ble_eq_true rfl)⟩ rfl (Nat.le_of_ble_eq_true rfl) dX9_roleOf_5 (fun t5 => ?_)
  refine xr_iload_n C 2 dX9_roleOf_8 rfl rfl ?_
  obtain ⟨r9, h9, e9, hF⟩ := fx_b2E hF
  refine xr_callVi C mvX9_244 [.int a2] [] (mX7_isStarter l G r5 a2 t5 h5 h9 r9 e9) t5 (by decide) vc7 rfl ⟨rfl, rfl, (Nat.le_of_ble_eq_true rfl), (Nat.le_of_ble_eq_true rfl)⟩ rfl (Nat.le_of_ble_eq_true rfl) dX9_roleOf_9 ?_
  refine xr_if_eq C 17 dX9_roleOf_12 (by decide) (fun c12 => ?_) (fun c12 => ?_)
  · have hF := fx_pos hF c12
    refine xr_aload_n C 0 dX9_roleOf_17 rfl rfl ?_
    refine xr_getr C flX9_33 rfl (by decide) dX9_roleOf_18 ta0 (fun t18 => ?_)
    refine xr_iload_n C 1 dX9_roleOf_21 rfl rfl ?_
    obtain ⟨r22, h22, e22, hF⟩ := fx_b2E hF
    refine xr_callVr C mvX9_207 [.int a1] [] (mX1_team l G (h9.2.2 a0 3) a1 t18 h9 h22 r22 e22) t18 (by decide) vc1 rfl ⟨rfl, rfl, (Nat.le_of_ble_eq_true rfl), (Nat.le_of_ble_eq_true rfl)⟩ rfl (Nat.le_of_ble_eq_true rfl) dX9_roleOf_22 (fun t22 => ?_)
    refine xr_getr C flX9_247 rfl (by decide) dX9_roleOf_25 t22 (fun t25 => ?_)
    refine xr_iload_n C 2 dX9_roleOf_28 rfl rfl ?_
    obtain ⟨g29, hF⟩ := fx_gE hF
    refine xr_iald C dX9_roleOf_29 t25 g29 ?_
    refine xr_iconst (v := -1) C dX9_roleOf_30 (by decide) ?_
    refine xr_icmp_eq C 38 dX9_roleOf_31 (by decide) (fun c31 => ?_) (fun c31 => ?_)
    · have hF := fx_pos hF c31
      refine xr_iconst (v := 2) C dX9_roleOf_38 (by decide) ?_
      cases hF
      exact xr_iret C dX9_roleOf_39
    · have hF := fx_neg hF c31
      refine xr_iconst (v := 1) C dX9_roleOf_34 (by decide) ?_
      refine xr_goto C 39 dX9_roleOf_35 (by decide) ?_
      cases hF
      exact xr_iret C dX9_roleOf_39
  · have hF := fx_neg hF c12
    refine xr_iconst (v := 0) C dX9_roleOf_15 (by decide) ?_
    cases hF
    exact xr_iret C dX9_roleOf_16
theorem dX9_mateOf_0 : decode cX9_mateOf 0 = .ok (.aload_n 0, 1) := by decide +kernel
theorem dX9_mateOf_1 : decode cX9_mateOf 1 = .ok (.getfield 33, 3) := by decide +kernel
theorem dX9_mateOf_4 : decode cX9_mateOf 4 = .ok (.iload_n 1, 1) := by decide +kernel
theorem dX9_mateOf_5 : decode cX9_mateOf 5 = .ok (.invokevirtual 207, 3) := by decide +kernel
theorem dX9_mateOf_8 : decode cX9_mateOf 8 = .ok (.getfield 247, 3) := by decide +kernel
theorem dX9_mateOf_11 : decode cX9_mateOf 11 = .ok (.iload_n 2, 1) := by decide +kernel
theorem dX9_mateOf_12 : decode cX9_mateOf 12 = .ok (.iaload, 1) := by decide +kernel
theorem dX9_mateOf_13 : decode cX9_mateOf 13 = .ok (.istore_n 3, 1) := by decide +kernel
theorem dX9_mateOf_14 : decode cX9_mateOf 14 = .ok (.iload_n 3, 1) := by decide +kernel
theorem dX9_mateOf_15 : decode cX9_mateOf 15 = .ok (.iconst (-1), 1) := by decide +kernel
theorem dX9_mateOf_16 : decode cX9_mateOf 16 = .ok (.if_icmp .ne 8, 3) := by decide +kernel
theorem dX9_mateOf_19 : decode cX9_mateOf 19 = .ok (.bipush (-2), 2) := by decide +kernel
theorem dX9_mateOf_21 : decode cX9_mateOf 21 = .ok (.goto 4, 3) := by decide +kernel
theorem dX9_mateOf_24 : decode cX9_mateOf 24 = .ok (.iload_n 3, 1) := by decide +kernel
theorem dX9_mateOf_25 : decode cX9_mateOf 25 = .ok (.ireturn, 1) := by decide +kernel
def fX9_mateOf (a0 : Nat) (a1 : Int32) (a2 : Int32) (h : hp_T) : Option (Int32 × hp_T) := fx_b2 (fX1_team (h.2.2 a0 3) a1 h) fun (r5 : Nat) (h5 : hp_T) => fx_g (fx_in a2 12) (fx_let (h5.1 (h5.2.2 r5 1) (fx_ix a2)) fun (x13 : Int32) => if x13 = (-1 : Int32) then (some ((-2 : Int32), h5)) else (some (x13, h5)))
set_option maxRecDepth 100000 in
set_option maxHeartbeats 4000000 in
theorem mX9_mateOf (l : Launch) (G : xr_G) (a0 : Nat) (a1 : Int32) (a2 : Int32) (ta0 : hp_sh a0 = (9, 0)) (h h1 : hp_T) (r : Int32) (hF : fX9_mateOf a0 a1 a2 h = some (r, h1)) : xr_M l G yX9_mateOf cX9_mateOf 4 (xr_R 1 21) (some .int) [.ref (G.2.2.1 a0), .int a1, .int a2] h (xr_Qi G r h1) := by
  refine xr_start rfl (Nat.le_of_ble_eq_true rfl) (fun K C => ?_)
  show xr_j l G K 4 h [(0, .ref (G.2.2.1 a0)), (1, .int a1), (2, .int a2)] 0 []
  unfold fX9_mateOf at hF
  refine xr_aload_n C 0 dX9_mateOf_0 rfl rfl ?_
  refine xr_getr C flX9_33 rfl (by decide) dX9_mateOf_1 ta0 (fun t1 => ?_)
  refine xr_iload_n C 1 dX9_mateOf_4 rfl rfl ?_
  obtain ⟨r5, h5, e5, hF⟩ := fx_b2E hF
  refine xr_callVr C mvX9_207 [.int a1] [] (mX1_team l G (h.2.2 a0 3) a1 t1 h h5 r5 e5) t1 (by decide) vc1 rfl ⟨rfl, rfl, (Nat.le_of_ble_eq_true rfl), (Nat.le_of_ble_eq_true rfl)⟩ rfl (Nat.le_of_ble_eq_true rfl) dX9_mateOf_5 (fun t5 => ?_)
  refine xr_getr C flX9_247 rfl (by decide) dX9_mateOf_8 t5 (fun t8 => ?_)
  refine xr_iload_n C 2 dX9_mateOf_11 rfl rfl ?_
  obtain ⟨g12, hF⟩ := fx_gE hF
  refine xr_iald C dX9_mateOf_12 t8 g12 ?_
  refine xr_topi (fun x13 e13 => ?_)
  have hF := fx_letE hF x13 e13
  refine xr_istore_n C [(3, .int x13), (0, .ref (G.2.2.1 a0)), (1, .int a1), (2, .int a2)] dX9_mateOf_13 rfl (Nat.le_of_ble_eq_true rfl) rfl ?_
  refine xr_iload_n C 0 dX9_mateOf_14 rfl rfl ?_
  refine xr_iconst (v := -1) C dX9_mateOf_15 (by decide) ?_
  refine xr_icmp_ne C 24 dX9_mateOf_16 (by decide) (fun c16 => ?_) (fun c16 => ?_)
  · have hF := fx_neg hF c16
    refine xr_iload_n C 0 dX9_mateOf_24 rfl rfl ?_
    cases hF
    exact xr_iret C dX9_mateOf_25
  · have hF := fx_pos hF c16
    refine xr_bipush (v := -2) C dX9_mateOf_19 (by decide) ?_
    refine xr_goto C 25 dX9_mateOf_21 (by decide) ?_
    cases hF
    exact xr_iret C dX9_mateOf_25
theorem dX9_isOver_0 : decode cX9_isOver 0 = .ok (.aload_n 0, 1) := by decide +kernel
theorem dX9_isOver_1 : decode cX9_isOver 1 = .ok (.getfield 33, 3) := by decide +kernel
theorem dX9_isOver_4 : decode cX9_isOver 4 = .ok (.getfield 296, 3) := by decide +kernel
theorem dX9_isOver_7 : decode cX9_isOver 7 = .ok (.getfield 299, 3) := by decide +kernel
theorem dX9_isOver_10 : decode cX9_isOver 10 = .ok (.aload_n 0, 1) := by decide +kernel
theorem dX9_isOver_11 : decode cX9_isOver 11 = .ok (.getfield 68, 3) := by decide +kernel
theorem dX9_isOver_14 : decode cX9_isOver 14 = .ok (.getfield 117, 3) := by decide +kernel
theorem dX9_isOver_17 : decode cX9_isOver 17 = .ok (.if_icmp .ge 23, 3) := by decide +kernel
theorem dX9_isOver_20 : decode cX9_isOver 20 = .ok (.aload_n 0, 1) := by decide +kernel
theorem dX9_isOver_21 : decode cX9_isOver 21 = .ok (.getfield 33, 3) := by decide +kernel
theorem dX9_isOver_24 : decode cX9_isOver 24 = .ok (.getfield 302, 3) := by decide +kernel
theorem dX9_isOver_27 : decode cX9_isOver 27 = .ok (.getfield 299, 3) := by decide +kernel
theorem dX9_isOver_30 : decode cX9_isOver 30 = .ok (.aload_n 0, 1) := by decide +kernel
theorem dX9_isOver_31 : decode cX9_isOver 31 = .ok (.getfield 68, 3) := by decide +kernel
theorem dX9_isOver_34 : decode cX9_isOver 34 = .ok (.getfield 117, 3) := by decide +kernel
theorem dX9_isOver_37 : decode cX9_isOver 37 = .ok (.if_icmp .lt 7, 3) := by decide +kernel
theorem dX9_isOver_40 : decode cX9_isOver 40 = .ok (.iconst 1, 1) := by decide +kernel
theorem dX9_isOver_41 : decode cX9_isOver 41 = .ok (.goto 4, 3) := by decide +kernel
theorem dX9_isOver_44 : decode cX9_isOver 44 = .ok (.iconst 0, 1) := by decide +kernel
theorem dX9_isOver_45 : decode cX9_isOver 45 = .ok (.ireturn, 1) := by decide +kernel
def fX9_isOver (a0 : Nat) (h : hp_T) : Option (Int32 × hp_T) := if (h.1 (h.2.2 a0 11) 2) ≤ (h.1 (h.2.2 (h.2.2 a0 3) 0) 8) then (some ((1 : Int32), h)) else (if (h.1 (h.2.2 (h.2.2 a0 3) 1) 8) < (h.1 (h.2.2 a0 11) 2) then (some ((0 : Int32), h)) else (some ((1 : Int32), h)))
set_option maxRecDepth 100000 in
set_option maxHeartbeats 4000000 in
theorem mX9_isOver (l : Launch) (G : xr_G) (a0 : Nat) (ta0 : hp_sh a0 = (9, 0)) (h h1 : hp_T) (r : Int32) (hF : fX9_isOver a0 h = some (r, h1)) : xr_M l G yX9_isOver cX9_isOver 1 (xr_R 0 0) (some .boolean) [.ref (G.2.2.1 a0)] h (xr_Qi G r h1) := by
  refine xr_start rfl (Nat.le_of_ble_eq_true rfl) (fun K C => ?_)
  show xr_j l G K 1 h [(0, .ref (G.2.2.1 a0))] 0 []
  unfold fX9_isOver at hF
  refine xr_aload_n C 0 dX9_isOver_0 rfl rfl ?_
  refine xr_getr C flX9_33 rfl (by decide) dX9_isOver_1 ta0 (fun t1 => ?_)
  refine xr_getr C flX9_296 rfl (by decide) dX9_isOver_4 t1 (fun t4 => ?_)
  refine xr_geti C flX9_299 rfl dX9_isOver_7 t4 ?_
  refine xr_aload_n C 0 dX9_isOver_10 rfl rfl ?_
  refine xr_getr C flX9_68 rfl (by decide) dX9_isOver_11 ta0 (fun t11 => ?_)
  refine xr_geti C flX9_117 rfl dX9_isOver_14 t11 ?_
  refine xr_icmp_ge C 40 dX9_isOver_17 (by decide) (fun c17 => ?_) (fun c17 => ?_)
  · have hF := fx_pos hF c17
    refine xr_iconst (v := 1) C dX9_isOver_40 (by decide) ?_
    refine xr_goto C 45 dX9_isOver_41 (by decide) ?_
    cases hF
    exact xr_zret C rfl dX9_isOver_45
  · have hF := fx_neg hF c17
    refine xr_aload_n C 0 dX9_isOver_20 rfl rfl ?_
    refine xr_getr C flX9_33 rfl (by decide) dX9_isOver_21 ta0 (fun t21 => ?_)
    refine xr_getr C flX9_302 rfl (by decide) dX9_isOver_24 t21 (fun t24 => ?_)
    refine xr_geti C flX9_299 rfl dX9_isOver_27 t24 ?_
    refine xr_aload_n C 0 dX9_isOver_30 rfl rfl ?_
    refine xr_getr C flX9_68 rfl (by decide) dX9_isOver_31 ta0 (fun t31 => ?_)
    refine xr_geti C flX9_117 rfl dX9_isOver_34 t31 ?_
    refine xr_icmp_lt C 44 dX9_isOver_37 (by decide) (fun c37 => ?_) (fun c37 => ?_)
    · have hF := fx_pos hF c37
      refine xr_iconst (v := 0) C dX9_isOver_44 (by decide) ?_
      cases hF
      exact xr_zret C rfl dX9_isOver_45
    · have hF := fx_neg hF c37
      refine xr_iconst (v := 1) C dX9_isOver_40 (by decide) ?_
      refine xr_goto C 45 dX9_isOver_41 (by decide) ?_
      cases hF
      exact xr_zret C rfl dX9_isOver_45
theorem dX9_remember_0 : decode cX9_remember 0 = .ok (.aload_n 0, 1) := by decide +kernel
theorem dX9_remember_1 : decode cX9_remember 1 = .ok (.getfield 37, 3) := by decide +kernel
theorem dX9_remember_4 : decode cX9_remember 4 = .ok (.aload_n 0, 1) := by decide +kernel
theorem dX9_remember_5 : decode cX9_remember 5 = .ok (.getfield 137, 3) := by decide +kernel
theorem dX9_remember_8 : decode cX9_remember 8 = .ok (.aaload, 1) := by decide +kernel
theorem dX9_remember_9 : decode cX9_remember 9 = .ok (.aload_n 0, 1) := by decide +kernel
theorem dX9_remember_10 : decode cX9_remember 10 = .ok (.getfield 33, 3) := by decide +kernel
theorem dX9_remember_13 : decode cX9_remember 13 = .ok (.invokevirtual 292, 3) := by decide +kernel
theorem dX9_remember_16 : decode cX9_remember 16 = .ok (.aload_n 0, 1) := by decide +kernel
theorem dX9_remember_17 : decode cX9_remember 17 = .ok (.aload_n 0, 1) := by decide +kernel
theorem dX9_remember_18 : decode cX9_remember 18 = .ok (.getfield 137, 3) := by decide +kernel
theorem dX9_remember_21 : decode cX9_remember 21 = .ok (.iconst 1, 1) := by decide +kernel
theorem dX9_remember_22 : decode cX9_remember 22 = .ok (.iadd, 1) := by decide +kernel
theorem dX9_remember_23 : decode cX9_remember 23 = .ok (.bipush 20, 2) := by decide +kernel
theorem dX9_remember_25 : decode cX9_remember 25 = .ok (.irem, 1) := by decide +kernel
theorem dX9_remember_26 : decode cX9_remember 26 = .ok (.putfield 137, 3) := by decide +kernel
theorem dX9_remember_29 : decode cX9_remember 29 = .ok (.aload_n 0, 1) := by decide +kernel
theorem dX9_remember_30 : decode cX9_remember 30 = .ok (.getfield 134, 3) := by decide +kernel
theorem dX9_remember_33 : decode cX9_remember 33 = .ok (.bipush 20, 2) := by decide +kernel
theorem dX9_remember_35 : decode cX9_remember 35 = .ok (.if_icmp .ge 13, 3) := by decide +kernel
theorem dX9_remember_38 : decode cX9_remember 38 = .ok (.aload_n 0, 1) := by decide +kernel
theorem dX9_remember_39 : decode cX9_remember 39 = .ok (.dup, 1) := by decide +kernel
theorem dX9_remember_40 : decode cX9_remember 40 = .ok (.getfield 134, 3) := by decide +kernel
theorem dX9_remember_43 : decode cX9_remember 43 = .ok (.iconst 1, 1) := by decide +kernel
theorem dX9_remember_44 : decode cX9_remember 44 = .ok (.iadd, 1) := by decide +kernel
theorem dX9_remember_45 : decode cX9_remember 45 = .ok (.putfield 134, 3) := by decide +kernel
theorem dX9_remember_48 : decode cX9_remember 48 = .ok (.aload_n 0, 1) := by decide +kernel
theorem dX9_remember_49 : decode cX9_remember 49 = .ok (.invokevirtual 150, 3) := by decide +kernel
theorem dX9_remember_52 : decode cX9_remember 52 = .ok (.return_, 1) := by decide +kernel
def fX9_remember (a0 : Nat) (h : hp_T) : Option hp_T := fx_g (fx_in (h.1 a0 16) 20) (fx_b1 (fX1_copyFrom (h.2.2 (h.2.2 a0 4) (fx_ix (h.1 a0 16))) (h.2.2 a0 3) h) fun (h13 : hp_T) => fx_let (hp_sI h13 a0 16 (fx_rem ((h13.1 a0 16) + (1 : Int32)) (20 : Int32))) fun (h26 : hp_T) => if (20 : Int32) ≤ (h26.1 a0 15) then (fx_b1 (fX9_forgetSubBests a0 h26) fun (h49 : hp_T) => some h49) else (fx_let (hp_sI h26 a0 15 ((h26.1 a0 15) + (1 : Int32))) fun (h45 : hp_T) => fx_b1 (fX9_forgetSubBests a0 h45) fun (h49 : hp_T) => some h49))
set_option maxRecDepth 100000 in
set_option maxHeartbeats 4000000 in
theorem mX9_remember (l : Launch) (G : xr_G) (a0 : Nat) (ta0 : hp_sh a0 = (9, 0)) (h h1 : hp_T) (hF : fX9_remember a0 h = some h1) : xr_M l G yX9_remember cX9_remember 1 (xr_R 3 102) none [.ref (G.2.2.1 a0)] h (xr_Qv G h1) := by
  refine xr_start rfl (Nat.le_of_ble_eq_true rfl) (fun K C => ?_)
  show xr_j l G K 1 h [(0, .ref (G.2.2.1 a0))] 0 []
  unfold fX9_remember at hF
  refine xr_aload_n C 0 dX9_remember_0 rfl rfl ?_
  refine xr_getr C flX9_37 rfl (by decide) dX9_remember_1 ta0 (fun t1 => ?_)
  refine xr_aload_n C 0 dX9_remember_4 rfl rfl ?_
  refine xr_geti C flX9_137 rfl dX9_remember_5 ta0 ?_
  obtain ⟨g8, hF⟩ := fx_gE hF
  refine xr_aald23 C dX9_remember_8 t1 g8 (fun t8 => ?_)
  refine xr_aload_n C 0 dX9_remember_9 rfl rfl ?_
  refine xr_getr C flX9_33 rfl (by decide) dX9_remember_10 ta0 (fun t10 => ?_)
  obtain ⟨h13, e13, hF⟩ := fx_b1E hF
  refine xr_callVv C mvX9_292 [.ref (G.2.2.1 (h.2.2 a0 3))] [] (mX1_copyFrom l G (h.2.2 (h.2.2 a0 4) (fx_ix (h.1 a0 16))) (h.2.2 a0 3) t8 t10 h h13 e13) t8 (by decide) vc1 rfl ⟨rfl, rfl, (Nat.le_of_ble_eq_true rfl), (Nat.le_of_ble_eq_true rfl)⟩ rfl (Nat.le_of_ble_eq_true rfl) dX9_remember_13 ?_
  refine xr_aload_n C 0 dX9_remember_16 rfl rfl ?_
  refine xr_aload_n C 0 dX9_remember_17 rfl rfl ?_
  refine xr_geti C flX9_137 rfl dX9_remember_18 ta0 ?_
  refine xr_iconst (v := 1) C dX9_remember_21 (by decide) ?_
  refine xr_iadd C dX9_remember_22 ?_
  refine xr_bipush (v := 20) C dX9_remember_23 (by decide) ?_
  refine xr_irem C dX9_remember_25 (by decide) ?_
  refine xr_puti C fpX9_137 rfl rfl rfl dX9_remember_26 ta0 (fun h26 e26 => ?_)
  have hF := fx_letE hF h26 e26
  refine xr_aload_n C 0 dX9_remember_29 rfl rfl ?_
  refine xr_geti C flX9_134 rfl dX9_remember_30 ta0 ?_
  refine xr_bipush (v := 20) C dX9_remember_33 (by decide) ?_
  refine xr_icmp_ge C 48 dX9_remember_35 (by decide) (fun c35 => ?_) (fun c35 => ?_)
  · have hF := fx_pos hF c35
    refine xr_aload_n C 0 dX9_remember_48 rfl rfl ?_
    obtain ⟨h49, e49, hF⟩ := fx_b1E hF
    refine xr_callVv C mvX9_150 [] [] (mX9_forgetSubBests l G a0 ta0 h26 h49 e49) ta0 (by decide) vc9 rfl ⟨rfl, rfl, (Nat.le_of_ble_eq_true rfl), (Nat.le_of_ble_eq_true rfl)⟩ rfl (Nat.le_of_ble_eq_true rfl) dX9_remember_49 ?_
    cases hF
    exact xr_vret C dX9_remember_52
  · have hF := fx_neg hF c35
    refine xr_aload_n C 0 dX9_remember_38 rfl rfl ?_
    refine xr_dup C dX9_remember_39 rfl ?_
    refine xr_geti C flX9_134 rfl dX9_remember_40 ta0 ?_
    refine xr_iconst (v := 1) C dX9_remember_43 (by decide) ?_
    refine xr_iadd C dX9_remember_44 ?_
    refine xr_puti C fpX9_134 rfl rfl rfl dX9_remember_45 ta0 (fun h45 e45 => ?_)
    have hF := fx_letE hF h45 e45
    refine xr_aload_n C 0 dX9_remember_48 rfl rfl ?_
    obtain ⟨h49, e49, hF⟩ := fx_b1E hF
    refine xr_callVv C mvX9_150 [] [] (mX9_forgetSubBests l G a0 ta0 h45 h49 e49) ta0 (by decide) vc9 rfl ⟨rfl, rfl, (Nat.le_of_ble_eq_true rfl), (Nat.le_of_ble_eq_true rfl)⟩ rfl (Nat.le_of_ble_eq_true rfl) dX9_remember_49 ?_
    cases hF
    exact xr_vret C dX9_remember_52
theorem dX9_point_0 : decode cX9_point 0 = .ok (.aload_n 0, 1) := by decide +kernel
theorem dX9_point_1 : decode cX9_point 1 = .ok (.iload_n 1, 1) := by decide +kernel
theorem dX9_point_2 : decode cX9_point 2 = .ok (.invokevirtual 99, 3) := by decide +kernel
theorem dX9_point_5 : decode cX9_point 5 = .ok (.ifCond .ne 5, 3) := by decide +kernel
theorem dX9_point_8 : decode cX9_point 8 = .ok (.iconst (-1), 1) := by decide +kernel
theorem dX9_point_9 : decode cX9_point 9 = .ok (.ireturn, 1) := by decide +kernel
theorem dX9_point_10 : decode cX9_point 10 = .ok (.aload_n 0, 1) := by decide +kernel
theorem dX9_point_11 : decode cX9_point 11 = .ok (.invokevirtual 250, 3) := by decide +kernel
theorem dX9_point_14 : decode cX9_point 14 = .ok (.ifCond .eq 6, 3) := by decide +kernel
theorem dX9_point_17 : decode cX9_point 17 = .ok (.bipush (-2), 2) := by decide +kernel
theorem dX9_point_19 : decode cX9_point 19 = .ok (.ireturn, 1) := by decide +kernel
theorem dX9_point_20 : decode cX9_point 20 = .ok (.aload_n 0, 1) := by decide +kernel
theorem dX9_point_21 : decode cX9_point 21 = .ok (.invokevirtual 254, 3) := by decide +kernel
theorem dX9_point_24 : decode cX9_point 24 = .ok (.aload_n 0, 1) := by decide +kernel
theorem dX9_point_25 : decode cX9_point 25 = .ok (.getfield 26, 3) := by decide +kernel
theorem dX9_point_28 : decode cX9_point 28 = .ok (.aload_n 0, 1) := by decide +kernel
theorem dX9_point_29 : decode cX9_point 29 = .ok (.getfield 33, 3) := by decide +kernel
theorem dX9_point_32 : decode cX9_point 32 = .ok (.getfield 186, 3) := by decide +kernel
theorem dX9_point_35 : decode cX9_point 35 = .ok (.iload_n 1, 1) := by decide +kernel
theorem dX9_point_36 : decode cX9_point 36 = .ok (.aload_n 0, 1) := by decide +kernel
theorem dX9_point_37 : decode cX9_point 37 = .ok (.getfield 33, 3) := by decide +kernel
theorem dX9_point_40 : decode cX9_point 40 = .ok (.getfield 257, 3) := by decide +kernel
theorem dX9_point_43 : decode cX9_point 43 = .ok (.aload_n 0, 1) := by decide +kernel
theorem dX9_point_44 : decode cX9_point 44 = .ok (.aload_n 0, 1) := by decide +kernel
theorem dX9_point_45 : decode cX9_point 45 = .ok (.getfield 33, 3) := by decide +kernel
theorem dX9_point_48 : decode cX9_point 48 = .ok (.getfield 257, 3) := by decide +kernel
theorem dX9_point_51 : decode cX9_point 51 = .ok (.iconst 1, 1) := by decide +kernel
theorem dX9_point_52 : decode cX9_point 52 = .ok (.invokevirtual 204, 3) := by decide +kernel
theorem dX9_point_55 : decode cX9_point 55 = .ok (.invokevirtual 260, 3) := by decide +kernel
theorem dX9_point_58 : decode cX9_point 58 = .ok (.aload_n 0, 1) := by decide +kernel
theorem dX9_point_59 : decode cX9_point 59 = .ok (.getfield 33, 3) := by decide +kernel
theorem dX9_point_62 : decode cX9_point 62 = .ok (.iload_n 1, 1) := by decide +kernel
theorem dX9_point_63 : decode cX9_point 63 = .ok (.invokevirtual 264, 3) := by decide +kernel
theorem dX9_point_66 : decode cX9_point 66 = .ok (.aload_n 0, 1) := by decide +kernel
theorem dX9_point_67 : decode cX9_point 67 = .ok (.getfield 33, 3) := by decide +kernel
theorem dX9_point_70 : decode cX9_point 70 = .ok (.getfield 257, 3) := by decide +kernel
theorem dX9_point_73 : decode cX9_point 73 = .ok (.ireturn, 1) := by decide +kernel
def fX9_point (a0 : Nat) (a1 : Int32) (h : hp_T) : Option (Int32 × hp_T) := fx_b2 (fX9_isSide a0 a1 h) fun (r2 : Int32) (h2 : hp_T) => if r2 = 0 then (some ((-1 : Int32), h2)) else (fx_b2 (fX9_isOver a0 h2) fun (r11 : Int32) (h11 : hp_T) => if r11 = 0 then (fx_b1 (fX9_remember a0 h11) fun (h21 : hp_T) => fx_b2 (fX9_whoIsOn a0 (h21.1 (h21.2.2 a0 3) 2) (1 : Int32) h21) fun (r52 : Int32) (h52 : hp_T) => fx_b1 (fX3_note (h21.2.2 a0 2) (h21.1 (h21.2.2 a0 3) 3) a1 (h21.1 (h21.2.2 a0 3) 2) r52 h52) fun (h55 : hp_T) => fx_b1 (fX1_award (h55.2.2 a0 3) a1 h55) fun (h63 : hp_T) => some ((h63.1 (h63.2.2 a0 3) 2), h63)) else (some ((-2 : Int32), h11)))
set_option maxRecDepth 100000 in
set_option maxHeartbeats 4000000 in
theorem mX9_point (l : Launch) (G : xr_G) (a0 : Nat) (a1 : Int32) (ta0 : hp_sh a0 = (9, 0)) (h h1 : hp_T) (r : Int32) (hF : fX9_point a0 a1 h = some (r, h1)) : xr_M l G yX9_point cX9_point 2 (xr_R 4 122) (some .int) [.ref (G.2.2.1 a0), .int a1] h (xr_Qi G r h1) := by
  refine xr_start rfl (Nat.le_of_ble_eq_true rfl) (fun K C => ?_)
  show xr_j l G K 2 h [(0, .ref (G.2.2.1 a0)), (1, .int a1)] 0 []
  unfold fX9_point at hF
  refine xr_aload_n C 0 dX9_point_0 rfl rfl ?_
  refine xr_iload_n C 1 dX9_point_1 rfl rfl ?_
  obtain ⟨r2, h2, e2, hF⟩ := fx_b2E hF
  refine xr_callVi C mvX9_99 [.int a1] [] (mX9_isSide l G a0 a1 ta0 h h2 r2 e2) ta0 (by decide) vc9 rfl ⟨rfl, rfl, (Nat.le_of_ble_eq_true rfl), (Nat.le_of_ble_eq_true rfl)⟩ rfl (Nat.le_of_ble_eq_true rfl) dX9_point_2 ?_
  refine xr_if_ne C 10 dX9_point_5 (by decide) (fun c5 => ?_) (fun c5 => ?_)
  · have hF := fx_neg hF c5
    refine xr_aload_n C 0 dX9_point_10 rfl rfl ?_
    obtain ⟨r11, h11, e11, hF⟩ := fx_b2E hF
    refine xr_callVi C mvX9_250 [] [] (mX9_isOver l G a0 ta0 h2 h11 r11 e11) ta0 (by decide) vc9 rfl ⟨rfl, rfl, (Nat.le_of_ble_eq_true rfl), (Nat.le_of_ble_eq_true rfl)⟩ rfl (Nat.le_of_ble_eq_true rfl) dX9_point_11 ?_
    refine xr_if_eq C 20 dX9_point_14 (by decide) (fun c14 => ?_) (fun c14 => ?_)
    · have hF := fx_pos hF c14
      refine xr_aload_n C 0 dX9_point_20 rfl rfl ?_
      obtain ⟨h21, e21, hF⟩ := fx_b1E hF
      refine xr_callVv C mvX9_254 [] [] (mX9_remember l G a0 ta0 h11 h21 e21) ta0 (by decide) vc9 rfl ⟨rfl, rfl, (Nat.le_of_ble_eq_true rfl), (Nat.le_of_ble_eq_true rfl)⟩ rfl (Nat.le_of_ble_eq_true rfl) dX9_point_21 ?_
      refine xr_aload_n C 0 dX9_point_24 rfl rfl ?_
      refine xr_getr C flX9_26 rfl (by decide) dX9_point_25 ta0 (fun t25 => ?_)
      refine xr_aload_n C 0 dX9_point_28 rfl rfl ?_
      refine xr_getr C flX9_33 rfl (by decide) dX9_point_29 ta0 (fun t29 => ?_)
      refine xr_geti C flX9_186 rfl dX9_point_32 t29 ?_
      refine xr_iload_n C 1 dX9_point_35 rfl rfl ?_
      refine xr_aload_n C 0 dX9_point_36 rfl rfl ?_
      refine xr_getr C flX9_33 rfl (by decide) dX9_point_37 ta0 (fun t37 => ?_)
      refine xr_geti C flX9_257 rfl dX9_point_40 t37 ?_
      refine xr_aload_n C 0 dX9_point_43 rfl rfl ?_
      refine xr_aload_n C 0 dX9_point_44 rfl rfl ?_
      refine xr_getr C flX9_33 rfl (by decide) dX9_point_45 ta0 (fun t45 => ?_)
      refine xr_geti C flX9_257 rfl dX9_point_48 t45 ?_
      refine xr_iconst (v := 1) C dX9_point_51 (by decide) ?_
      obtain ⟨r52, h52, e52, hF⟩ := fx_b2E hF
      refine xr_callVi C mvX9_204 [.int (h21.1 (h21.2.2 a0 3) 2), .int (1 : Int32)] [.int (h21.1 (h21.2.2 a0 3) 2), .int a1, .int (h21.1 (h21.2.2 a0 3) 3), .ref (G.2.2.1 (h21.2.2 a0 2))] (mX9_whoIsOn l G a0 (h21.1 (h21.2.2 a0 3) 2) (1 : Int32) ta0 h21 h52 r52 e52) ta0 (by decide) vc9 rfl ⟨rfl, rfl, (Nat.le_of_ble_eq_true rfl), (Nat.le_of_ble_eq_true rfl)⟩ rfl (Nat.le_of_ble_eq_true rfl) dX9_point_52 ?_
      obtain ⟨h55, e55, hF⟩ := fx_b1E hF
      refine xr_callVv C mvX9_260 [.int (h21.1 (h21.2.2 a0 3) 3), .int a1, .int (h21.1 (h21.2.2 a0 3) 2), .int r52] [] (mX3_note l G (h21.2.2 a0 2) (h21.1 (h21.2.2 a0 3) 3) a1 (h21.1 (h21.2.2 a0 3) 2) r52 t25 h52 h55 e55) t25 (by decide) vc3 rfl ⟨rfl, rfl, (Nat.le_of_ble_eq_true rfl), (Nat.le_of_ble_eq_true rfl)⟩ rfl (Nat.le_of_ble_eq_true rfl) dX9_point_55 ?_
      refine xr_aload_n C 0 dX9_point_58 rfl rfl ?_
      refine xr_getr C flX9_33 rfl (by decide) dX9_point_59 ta0 (fun t59 => ?_)
      refine xr_iload_n C 1 dX9_point_62 rfl rfl ?_
      obtain ⟨h63, e63, hF⟩ := fx_b1E hF
      refine xr_callVv C mvX9_264 [.int a1] [] (mX1_award l G (h55.2.2 a0 3) a1 t59 h55 h63 e63) t59 (by decide) vc1 rfl ⟨rfl, rfl, (Nat.le_of_ble_eq_true rfl), (Nat.le_of_ble_eq_true rfl)⟩ rfl (Nat.le_of_ble_eq_true rfl) dX9_point_63 ?_
      refine xr_aload_n C 0 dX9_point_66 rfl rfl ?_
      refine xr_getr C flX9_33 rfl (by decide) dX9_point_67 ta0 (fun t67 => ?_)
      refine xr_geti C flX9_257 rfl dX9_point_70 t67 ?_
      cases hF
      exact xr_iret C dX9_point_73
    · have hF := fx_neg hF c14
      refine xr_bipush (v := -2) C dX9_point_17 (by decide) ?_
      cases hF
      exact xr_iret C dX9_point_19
  · have hF := fx_pos hF c5
    refine xr_iconst (v := -1) C dX9_point_8 (by decide) ?_
    cases hF
    exact xr_iret C dX9_point_9
theorem dX9_areFit_0 : decode cX9_areFit 0 = .ok (.aload_n 0, 1) := by decide +kernel
theorem dX9_areFit_1 : decode cX9_areFit 1 = .ok (.getfield 33, 3) := by decide +kernel
theorem dX9_areFit_4 : decode cX9_areFit 4 = .ok (.iload_n 1, 1) := by decide +kernel
theorem dX9_areFit_5 : decode cX9_areFit 5 = .ok (.invokevirtual 207, 3) := by decide +kernel
theorem dX9_areFit_8 : decode cX9_areFit 8 = .ok (.astore 4, 2) := by decide +kernel
theorem dX9_areFit_10 : decode cX9_areFit 10 = .ok (.aload_n 0, 1) := by decide +kernel
theorem dX9_areFit_11 : decode cX9_areFit 11 = .ok (.iload_n 1, 1) := by decide +kernel
theorem dX9_areFit_12 : decode cX9_areFit 12 = .ok (.iload_n 2, 1) := by decide +kernel
theorem dX9_areFit_13 : decode cX9_areFit 13 = .ok (.invokevirtual 180, 3) := by decide +kernel
theorem dX9_areFit_16 : decode cX9_areFit 16 = .ok (.istore 5, 2) := by decide +kernel
theorem dX9_areFit_18 : decode cX9_areFit 18 = .ok (.iload 5, 2) := by decide +kernel
theorem dX9_areFit_20 : decode cX9_areFit 20 = .ok (.iconst 1, 1) := by decide +kernel
theorem dX9_areFit_21 : decode cX9_areFit 21 = .ok (.if_icmp .ne 20, 3) := by decide +kernel
theorem dX9_areFit_24 : decode cX9_areFit 24 = .ok (.aload 4, 2) := by decide +kernel
theorem dX9_areFit_26 : decode cX9_areFit 26 = .ok (.getfield 247, 3) := by decide +kernel
theorem dX9_areFit_29 : decode cX9_areFit 29 = .ok (.iload_n 2, 1) := by decide +kernel
theorem dX9_areFit_30 : decode cX9_areFit 30 = .ok (.iaload, 1) := by decide +kernel
theorem dX9_areFit_31 : decode cX9_areFit 31 = .ok (.iload_n 3, 1) := by decide +kernel
theorem dX9_areFit_32 : decode cX9_areFit 32 = .ok (.if_icmp .ne 7, 3) := by decide +kernel
theorem dX9_areFit_35 : decode cX9_areFit 35 = .ok (.iconst 1, 1) := by decide +kernel
theorem dX9_areFit_36 : decode cX9_areFit 36 = .ok (.goto 4, 3) := by decide +kernel
theorem dX9_areFit_39 : decode cX9_areFit 39 = .ok (.iconst 0, 1) := by decide +kernel
theorem dX9_areFit_40 : decode cX9_areFit 40 = .ok (.ireturn, 1) := by decide +kernel
theorem dX9_areFit_41 : decode cX9_areFit 41 = .ok (.iload 5, 2) := by decide +kernel
theorem dX9_areFit_43 : decode cX9_areFit 43 = .ok (.ifCond .ne 28, 3) := by decide +kernel
theorem dX9_areFit_46 : decode cX9_areFit 46 = .ok (.aload 4, 2) := by decide +kernel
theorem dX9_areFit_48 : decode cX9_areFit 48 = .ok (.getfield 247, 3) := by decide +kernel
theorem dX9_areFit_51 : decode cX9_areFit 51 = .ok (.iload_n 2, 1) := by decide +kernel
theorem dX9_areFit_52 : decode cX9_areFit 52 = .ok (.iaload, 1) := by decide +kernel
theorem dX9_areFit_53 : decode cX9_areFit 53 = .ok (.iconst (-1), 1) := by decide +kernel
theorem dX9_areFit_54 : decode cX9_areFit 54 = .ok (.if_icmp .ne 17, 3) := by decide +kernel
theorem dX9_areFit_57 : decode cX9_areFit 57 = .ok (.aload_n 0, 1) := by decide +kernel
theorem dX9_areFit_58 : decode cX9_areFit 58 = .ok (.iload_n 1, 1) := by decide +kernel
theorem dX9_areFit_59 : decode cX9_areFit 59 = .ok (.iload_n 3, 1) := by decide +kernel
theorem dX9_areFit_60 : decode cX9_areFit 60 = .ok (.invokevirtual 180, 3) := by decide +kernel
theorem dX9_areFit_63 : decode cX9_areFit 63 = .ok (.iconst 2, 1) := by decide +kernel
theorem dX9_areFit_64 : decode cX9_areFit 64 = .ok (.if_icmp .ne 7, 3) := by decide +kernel
theorem dX9_areFit_67 : decode cX9_areFit 67 = .ok (.iconst 1, 1) := by decide +kernel
theorem dX9_areFit_68 : decode cX9_areFit 68 = .ok (.goto 4, 3) := by decide +kernel
theorem dX9_areFit_71 : decode cX9_areFit 71 = .ok (.iconst 0, 1) := by decide +kernel
theorem dX9_areFit_72 : decode cX9_areFit 72 = .ok (.ireturn, 1) := by decide +kernel
def fX9_areFit (a0 : Nat) (a1 : Int32) (a2 : Int32) (a3 : Int32) (h : hp_T) : Option (Int32 × hp_T) := fx_b2 (fX1_team (h.2.2 a0 3) a1 h) fun (r5 : Nat) (h5 : hp_T) => fx_b2 (fX9_roleOf a0 a1 a2 h5) fun (r13 : Int32) (h13 : hp_T) => if r13 = (1 : Int32) then (fx_g (fx_in a2 12) (if (h13.1 (h13.2.2 r5 1) (fx_ix a2)) = a3 then (some ((1 : Int32), h13)) else (some ((0 : Int32), h13)))) else (if r13 = 0 then (fx_g (fx_in a2 12) (if (h13.1 (h13.2.2 r5 1) (fx_ix a2)) = (-1 : Int32) then (fx_b2 (fX9_roleOf a0 a1 a3 h13) fun (r60 : Int32) (h60 : hp_T) => if r60 = (2 : Int32) then (some ((1 : Int32), h60)) else (some ((0 : Int32), h60))) else (some ((0 : Int32), h13)))) else (some ((0 : Int32), h13)))
set_option maxRecDepth 100000 in
set_option maxHeartbeats 4000000 in
theorem mX9_areFit (l : Launch) (G : xr_G) (a0 : Nat) (a1 : Int32) (a2 : Int32) (a3 : Int32) (ta0 : hp_sh a0 = (9, 0)) (h h1 : hp_T) (r : Int32) (hF : fX9_areFit a0 a1 a2 a3 h = some (r, h1)) : xr_M l G yX9_areFit cX9_areFit 6 (xr_R 2 44) (some .boolean) [.ref (G.2.2.1 a0), .int a1, .int a2, .int a3] h (xr_Qi G r h1) := by
  refine xr_start rfl (Nat.le_of_ble_eq_true rfl) (fun K C => ?_)
  show xr_j l G K 6 h [(0, .ref (G.2.2.1 a0)), (1, .int a1), (2, .int a2), (3, .int a3)] 0 []
  unfold fX9_areFit at hF
  refine xr_aload_n C 0 dX9_areFit_0 rfl rfl ?_
  refine xr_getr C flX9_33 rfl (by decide) dX9_areFit_1 ta0 (fun t1 => ?_)
  refine xr_iload_n C 1 dX9_areFit_4 rfl rfl ?_
  obtain ⟨r5, h5, e5, hF⟩ := fx_b2E hF
  refine xr_callVr C mvX9_207 [.int a1] [] (mX1_team l G (h.2.2 a0 3) a1 t1 h h5 r5 e5) t1 (by decide) vc1 rfl ⟨rfl, rfl, (Nat.le_of_ble_eq_true rfl), (Nat.le_of_ble_eq_true rfl)⟩ rfl (Nat.le_of_ble_eq_true rfl) dX9_areFit_5 (fun t5 => ?_)
  refine xr_astore C [(4, .ref (G.2.2.1 r5)), (0, .ref (G.2.2.1 a0)), (1, .int a1), (2, .int a2), (3, .int a3)] dX9_areFit_8 (Nat.le_of_ble_eq_true rfl) rfl ?_
  refine xr_aload_n C 1 dX9_areFit_10 rfl rfl ?_
  refine xr_iload_n C 2 dX9_areFit_11 rfl rfl ?_
  refine xr_iload_n C 3 dX9_areFit_12 rfl rfl ?_
  obtain ⟨r13, h13, e13, hF⟩ := fx_b2E hF
  refine xr_callVi C mvX9_180 [.int a1, .int a2] [] (mX9_roleOf l G a0 a1 a2 ta0 h5 h13 r13 e13) ta0 (by decide) vc9 rfl ⟨rfl, rfl, (Nat.le_of_ble_eq_true rfl), (Nat.le_of_ble_eq_true rfl)⟩ rfl (Nat.le_of_ble_eq_true rfl) dX9_areFit_13 ?_
  refine xr_istore C [(5, .int r13), (4, .ref (G.2.2.1 r5)), (0, .ref (G.2.2.1 a0)), (1, .int a1), (2, .int a2), (3, .int a3)] dX9_areFit_16 (Nat.le_of_ble_eq_true rfl) rfl ?_
  refine xr_iload C 0 dX9_areFit_18 rfl ?_
  refine xr_iconst (v := 1) C dX9_areFit_20 (by decide) ?_
  refine xr_icmp_ne C 41 dX9_areFit_21 (by decide) (fun c21 => ?_) (fun c21 => ?_)
  · have hF := fx_neg hF c21
    refine xr_iload C 0 dX9_areFit_41 rfl ?_
    refine xr_if_ne C 71 dX9_areFit_43 (by decide) (fun c43 => ?_) (fun c43 => ?_)
    · have hF := fx_neg hF c43
      refine xr_iconst (v := 0) C dX9_areFit_71 (by decide) ?_
      cases hF
      exact xr_zret C rfl dX9_areFit_72
    · have hF := fx_pos hF c43
      refine xr_aload C 1 dX9_areFit_46 rfl ?_
      refine xr_getr C flX9_247 rfl (by decide) dX9_areFit_48 t5 (fun t48 => ?_)
      refine xr_iload_n C 4 dX9_areFit_51 rfl rfl ?_
      obtain ⟨g52, hF⟩ := fx_gE hF
      refine xr_iald C dX9_areFit_52 t48 g52 ?_
      refine xr_iconst (v := -1) C dX9_areFit_53 (by decide) ?_
      refine xr_icmp_ne C 71 dX9_areFit_54 (by decide) (fun c54 => ?_) (fun c54 => ?_)
      · have hF := fx_neg hF c54
        refine xr_iconst (v := 0) C dX9_areFit_71 (by decide) ?_
        cases hF
        exact xr_zret C rfl dX9_areFit_72
      · have hF := fx_pos hF c54
        refine xr_aload_n C 2 dX9_areFit_57 rfl rfl ?_
        refine xr_iload_n C 3 dX9_areFit_58 rfl rfl ?_
        refine xr_iload_n C 5 dX9_areFit_59 rfl rfl ?_
        obtain ⟨r60, h60, e60, hF⟩ := fx_b2E hF
        refine xr_callVi C mvX9_180 [.int a1, .int a3] [] (mX9_roleOf l G a0 a1 a3 ta0 h13 h60 r60 e60) ta0 (by decide) vc9 rfl ⟨rfl, rfl, (Nat.le_of_ble_eq_true rfl), (Nat.le_of_ble_eq_true rfl)⟩ rfl (Nat.le_of_ble_eq_true rfl) dX9_areFit_60 ?_
        refine xr_iconst (v := 2) C dX9_areFit_63 (by decide) ?_
        refine xr_icmp_ne C 71 dX9_areFit_64 (by decide) (fun c64 => ?_) (fun c64 => ?_)
        · have hF := fx_neg hF c64
          refine xr_iconst (v := 0) C dX9_areFit_71 (by decide) ?_
          cases hF
          exact xr_zret C rfl dX9_areFit_72
        · have hF := fx_pos hF c64
          refine xr_iconst (v := 1) C dX9_areFit_67 (by decide) ?_
          refine xr_goto C 72 dX9_areFit_68 (by decide) ?_
          cases hF
          exact xr_zret C rfl dX9_areFit_72
  · have hF := fx_pos hF c21
    refine xr_aload C 1 dX9_areFit_24 rfl ?_
    refine xr_getr C flX9_247 rfl (by decide) dX9_areFit_26 t5 (fun t26 => ?_)
    refine xr_iload_n C 4 dX9_areFit_29 rfl rfl ?_
    obtain ⟨g30, hF⟩ := fx_gE hF
    refine xr_iald C dX9_areFit_30 t26 g30 ?_
    refine xr_iload_n C 5 dX9_areFit_31 rfl rfl ?_
    refine xr_icmp_ne C 39 dX9_areFit_32 (by decide) (fun c32 => ?_) (fun c32 => ?_)
    · have hF := fx_neg hF c32
      refine xr_iconst (v := 0) C dX9_areFit_39 (by decide) ?_
      cases hF
      exact xr_zret C rfl dX9_areFit_40
    · have hF := fx_pos hF c32
      refine xr_iconst (v := 1) C dX9_areFit_35 (by decide) ?_
      refine xr_goto C 40 dX9_areFit_36 (by decide) ?_
      cases hF
      exact xr_zret C rfl dX9_areFit_40
theorem dX9_judgeSub_0 : decode cX9_judgeSub 0 = .ok (.aload_n 0, 1) := by decide +kernel
theorem dX9_judgeSub_1 : decode cX9_judgeSub 1 = .ok (.iload_n 1, 1) := by decide +kernel
theorem dX9_judgeSub_2 : decode cX9_judgeSub 2 = .ok (.iload_n 2, 1) := by decide +kernel
theorem dX9_judgeSub_3 : decode cX9_judgeSub 3 = .ok (.invokevirtual 153, 3) := by decide +kernel
theorem dX9_judgeSub_6 : decode cX9_judgeSub 6 = .ok (.ifCond .eq 12, 3) := by decide +kernel
theorem dX9_judgeSub_9 : decode cX9_judgeSub 9 = .ok (.aload_n 0, 1) := by decide +kernel
theorem dX9_judgeSub_10 : decode cX9_judgeSub 10 = .ok (.iload_n 1, 1) := by decide +kernel
theorem dX9_judgeSub_11 : decode cX9_judgeSub 11 = .ok (.iload_n 3, 1) := by decide +kernel
theorem dX9_judgeSub_12 : decode cX9_judgeSub 12 = .ok (.invokevirtual 153, 3) := by decide +kernel
theorem dX9_judgeSub_15 : decode cX9_judgeSub 15 = .ok (.ifCond .ne 5, 3) := by decide +kernel
theorem dX9_judgeSub_18 : decode cX9_judgeSub 18 = .ok (.iconst (-1), 1) := by decide +kernel
theorem dX9_judgeSub_19 : decode cX9_judgeSub 19 = .ok (.ireturn, 1) := by decide +kernel
theorem dX9_judgeSub_20 : decode cX9_judgeSub 20 = .ok (.aload_n 0, 1) := by decide +kernel
theorem dX9_judgeSub_21 : decode cX9_judgeSub 21 = .ok (.invokevirtual 250, 3) := by decide +kernel
theorem dX9_judgeSub_24 : decode cX9_judgeSub 24 = .ok (.ifCond .eq 6, 3) := by decide +kernel
theorem dX9_judgeSub_27 : decode cX9_judgeSub 27 = .ok (.bipush (-2), 2) := by decide +kernel
theorem dX9_judgeSub_29 : decode cX9_judgeSub 29 = .ok (.ireturn, 1) := by decide +kernel
theorem dX9_judgeSub_30 : decode cX9_judgeSub 30 = .ok (.aload_n 0, 1) := by decide +kernel
theorem dX9_judgeSub_31 : decode cX9_judgeSub 31 = .ok (.getfield 33, 3) := by decide +kernel
theorem dX9_judgeSub_34 : decode cX9_judgeSub 34 = .ok (.iload_n 1, 1) := by decide +kernel
theorem dX9_judgeSub_35 : decode cX9_judgeSub 35 = .ok (.invokevirtual 207, 3) := by decide +kernel
theorem dX9_judgeSub_38 : decode cX9_judgeSub 38 = .ok (.astore 4, 2) := by decide +kernel
theorem dX9_judgeSub_40 : decode cX9_judgeSub 40 = .ok (.aload_n 0, 1) := by decide +kernel
theorem dX9_judgeSub_41 : decode cX9_judgeSub 41 = .ok (.getfield 68, 3) := by decide +kernel
theorem dX9_judgeSub_44 : decode cX9_judgeSub 44 = .ok (.iload_n 1, 1) := by decide +kernel
theorem dX9_judgeSub_45 : decode cX9_judgeSub 45 = .ok (.invokevirtual 103, 3) := by decide +kernel
theorem dX9_judgeSub_48 : decode cX9_judgeSub 48 = .ok (.astore 5, 2) := by decide +kernel
theorem dX9_judgeSub_50 : decode cX9_judgeSub 50 = .ok (.aload 4, 2) := by decide +kernel
theorem dX9_judgeSub_52 : decode cX9_judgeSub 52 = .ok (.getfield 274, 3) := by decide +kernel
theorem dX9_judgeSub_55 : decode cX9_judgeSub 55 = .ok (.ifCond .gt 6, 3) := by decide +kernel
theorem dX9_judgeSub_58 : decode cX9_judgeSub 58 = .ok (.bipush (-3), 2) := by decide +kernel
theorem dX9_judgeSub_60 : decode cX9_judgeSub 60 = .ok (.ireturn, 1) := by decide +kernel
theorem dX9_judgeSub_61 : decode cX9_judgeSub 61 = .ok (.iload_n 2, 1) := by decide +kernel
theorem dX9_judgeSub_62 : decode cX9_judgeSub 62 = .ok (.aload 5, 2) := by decide +kernel
theorem dX9_judgeSub_64 : decode cX9_judgeSub 64 = .ok (.getfield 173, 3) := by decide +kernel
theorem dX9_judgeSub_67 : decode cX9_judgeSub 67 = .ok (.if_icmp .eq 12, 3) := by decide +kernel
theorem dX9_judgeSub_70 : decode cX9_judgeSub 70 = .ok (.aload_n 0, 1) := by decide +kernel
theorem dX9_judgeSub_71 : decode cX9_judgeSub 71 = .ok (.iload_n 1, 1) := by decide +kernel
theorem dX9_judgeSub_72 : decode cX9_judgeSub 72 = .ok (.iload_n 2, 1) := by decide +kernel
theorem dX9_judgeSub_73 : decode cX9_judgeSub 73 = .ok (.invokevirtual 176, 3) := by decide +kernel
theorem dX9_judgeSub_76 : decode cX9_judgeSub 76 = .ok (.ifCond .ne 6, 3) := by decide +kernel
theorem dX9_judgeSub_79 : decode cX9_judgeSub 79 = .ok (.bipush (-4), 2) := by decide +kernel
theorem dX9_judgeSub_81 : decode cX9_judgeSub 81 = .ok (.ireturn, 1) := by decide +kernel
theorem dX9_judgeSub_82 : decode cX9_judgeSub 82 = .ok (.iload_n 3, 1) := by decide +kernel
theorem dX9_judgeSub_83 : decode cX9_judgeSub 83 = .ok (.aload 5, 2) := by decide +kernel
theorem dX9_judgeSub_85 : decode cX9_judgeSub 85 = .ok (.getfield 173, 3) := by decide +kernel
theorem dX9_judgeSub_88 : decode cX9_judgeSub 88 = .ok (.if_icmp .eq 12, 3) := by decide +kernel
theorem dX9_judgeSub_91 : decode cX9_judgeSub 91 = .ok (.aload 4, 2) := by decide +kernel
theorem dX9_judgeSub_93 : decode cX9_judgeSub 93 = .ok (.iload_n 3, 1) := by decide +kernel
theorem dX9_judgeSub_94 : decode cX9_judgeSub 94 = .ok (.invokevirtual 232, 3) := by decide +kernel
theorem dX9_judgeSub_97 : decode cX9_judgeSub 97 = .ok (.ifCond .eq 6, 3) := by decide +kernel
theorem dX9_judgeSub_100 : decode cX9_judgeSub 100 = .ok (.bipush (-5), 2) := by decide +kernel
theorem dX9_judgeSub_102 : decode cX9_judgeSub 102 = .ok (.ireturn, 1) := by decide +kernel
theorem dX9_judgeSub_103 : decode cX9_judgeSub 103 = .ok (.aload_n 0, 1) := by decide +kernel
theorem dX9_judgeSub_104 : decode cX9_judgeSub 104 = .ok (.iload_n 1, 1) := by decide +kernel
theorem dX9_judgeSub_105 : decode cX9_judgeSub 105 = .ok (.iload_n 2, 1) := by decide +kernel
theorem dX9_judgeSub_106 : decode cX9_judgeSub 106 = .ok (.iload_n 3, 1) := by decide +kernel
theorem dX9_judgeSub_107 : decode cX9_judgeSub 107 = .ok (.invokevirtual 304, 3) := by decide +kernel
theorem dX9_judgeSub_110 : decode cX9_judgeSub 110 = .ok (.ifCond .eq 7, 3) := by decide +kernel
theorem dX9_judgeSub_113 : decode cX9_judgeSub 113 = .ok (.iconst 0, 1) := by decide +kernel
theorem dX9_judgeSub_114 : decode cX9_judgeSub 114 = .ok (.goto 5, 3) := by decide +kernel
theorem dX9_judgeSub_117 : decode cX9_judgeSub 117 = .ok (.bipush (-6), 2) := by decide +kernel
theorem dX9_judgeSub_119 : decode cX9_judgeSub 119 = .ok (.ireturn, 1) := by decide +kernel
def fX9_judgeSub (a0 : Nat) (a1 : Int32) (a2 : Int32) (a3 : Int32) (h : hp_T) : Option (Int32 × hp_T) := fx_b2 (fX9_isPlayer a0 a1 a2 h) fun (r3 : Int32) (h3 : hp_T) => if r3 = 0 then (some ((-1 : Int32), h3)) else (fx_b2 (fX9_isPlayer a0 a1 a3 h3) fun (r12 : Int32) (h12 : hp_T) => if r12 = 0 then (some ((-1 : Int32), h12)) else (fx_b2 (fX9_isOver a0 h12) fun (r21 : Int32) (h21 : hp_T) => if r21 = 0 then (fx_b2 (fX1_team (h21.2.2 a0 3) a1 h21) fun (r35 : Nat) (h35 : hp_T) => fx_b2 (fX8_squad (h35.2.2 a0 11) a1 h35) fun (r45 : Nat) (h45 : hp_T) => if 0 < (h45.1 r35 6) then (if a2 = (h45.1 r45 7) then (some ((-4 : Int32), h45)) else (fx_b2 (fX9_spotOnCourt a0 a1 a2 h45) fun (r73 : Int32) (h73 : hp_T) => if r73 = 0 then (some ((-4 : Int32), h73)) else (if a3 = (h73.1 r45 7) then (some ((-5 : Int32), h73)) else (fx_b2 (fX6_spotOf r35 a3 h73) fun (r94 : Int32) (h94 : hp_T) => if r94 = 0 then (fx_b2 (fX9_areFit a0 a1 a2 a3 h94) fun (r107 : Int32) (h107 : hp_T) => if r107 = 0 then (some ((-6 : Int32), h107)) else (some ((0 : Int32), h107))) else (some ((-5 : Int32), h94)))))) else (some ((-3 : Int32), h45))) else (some ((-2 : Int32), h21))))
set_option maxRecDepth 100000 in
set_option maxHeartbeats 4000000 in
theorem mX9_judgeSub (l : Launch) (G : xr_G) (a0 : Nat) (a1 : Int32) (a2 : Int32) (a3 : Int32) (ta0 : hp_sh a0 = (9, 0)) (h h1 : hp_T) (r : Int32) (hF : fX9_judgeSub a0 a1 a2 a3 h = some (r, h1)) : xr_M l G yX9_judgeSub cX9_judgeSub 6 (xr_R 3 69) (some .int) [.ref (G.2.2.1 a0), .int a1, .int a2, .int a3] h (xr_Qi G r h1) := by
  refine xr_start rfl (Nat.le_of_ble_eq_true rfl) (fun K C => ?_)
  show xr_j l G K 6 h [(0, .ref (G.2.2.1 a0)), (1, .int a1), (2, .int a2), (3, .int a3)] 0 []
  unfold fX9_judgeSub at hF
  refine xr_aload_n C 0 dX9_judgeSub_0 rfl rfl ?_
  refine xr_iload_n C 1 dX9_judgeSub_1 rfl rfl ?_
  refine xr_iload_n C 2 dX9_judgeSub_2 rfl rfl ?_
  obtain ⟨r3, h3, e3, hF⟩ := fx_b2E hF
  refine xr_callVi C mvX9_153 [.int a1, .int a2] [] (mX9_isPlayer l G a0 a1 a2 ta0 h h3 r3 e3) ta0 (by decide) vc9 rfl ⟨rfl, rfl, (Nat.le_of_ble_eq_true rfl), (Nat.le_of_ble_eq_true rfl)⟩ rfl (Nat.le_of_ble_eq_true rfl) dX9_judgeSub_3 ?_
  refine xr_if_eq C 18 dX9_judgeSub_6 (by decide) (fun c6 => ?_) (fun c6 => ?_)
  · have hF := fx_pos hF c6
    refine xr_iconst (v := -1) C dX9_judgeSub_18 (by decide) ?_
    cases hF
    exact xr_iret C dX9_judgeSub_19
  · have hF := fx_neg hF c6
    refine xr_aload_n C 0 dX9_judgeSub_9 rfl rfl ?_
    refine xr_iload_n C 1 dX9_judgeSub_10 rfl rfl ?_
    refine xr_iload_n C 3 dX9_judgeSub_11 rfl rfl ?_
    obtain ⟨r12, h12, e12, hF⟩ := fx_b2E hF
    refine xr_callVi C mvX9_153 [.int a1, .int a3] [] (mX9_isPlayer l G a0 a1 a3 ta0 h3 h12 r12 e12) ta0 (by decide) vc9 rfl ⟨rfl, rfl, (Nat.le_of_ble_eq_true rfl), (Nat.le_of_ble_eq_true rfl)⟩ rfl (Nat.le_of_ble_eq_true rfl) dX9_judgeSub_12 ?_
    refine xr_if_ne C 20 dX9_judgeSub_15 (by decide) (fun c15 => ?_) (fun c15 => ?_)
    · have hF := fx_neg hF c15
      refine xr_aload_n C 0 dX9_judgeSub_20 rfl rfl ?_
      obtain ⟨r21, h21, e21, hF⟩ := fx_b2E hF
      refine xr_callVi C mvX9_250 [] [] (mX9_isOver l G a0 ta0 h12 h21 r21 e21) ta0 (by decide) vc9 rfl ⟨rfl, rfl, (Nat.le_of_ble_eq_true rfl), (Nat.le_of_ble_eq_true rfl)⟩ rfl (Nat.le_of_ble_eq_true rfl) dX9_judgeSub_21 ?_
      refine xr_if_eq C 30 dX9_judgeSub_24 (by decide) (fun c24 => ?_) (fun c24 => ?_)
      · have hF := fx_pos hF c24
        refine xr_aload_n C 0 dX9_judgeSub_30 rfl rfl ?_
        refine xr_getr C flX9_33 rfl (by decide) dX9_judgeSub_31 ta0 (fun t31 => ?_)
        refine xr_iload_n C 1 dX9_judgeSub_34 rfl rfl ?_
        obtain ⟨r35, h35, e35, hF⟩ := fx_b2E hF
        refine xr_callVr C mvX9_207 [.int a1] [] (mX1_team l G (h21.2.2 a0 3) a1 t31 h21 h35 r35 e35) t31 (by decide) vc1 rfl ⟨rfl, rfl, (Nat.le_of_ble_eq_true rfl), (Nat.le_of_ble_eq_true rfl)⟩ rfl (Nat.le_of_ble_eq_true rfl) dX9_judgeSub_35 (fun t35 => ?_)
        refine xr_astore C [(4, .ref (G.2.2.1 r35)), (0, .ref (G.2.2.1 a0)), (1, .int a1), (2, .int a2), (3, .int a3)] dX9_judgeSub_38 (Nat.le_of_ble_eq_true rfl) rfl ?_
        refine xr_aload_n C 1 dX9_judgeSub_40 rfl rfl ?_
        refine xr_getr C flX9_68 rfl (by decide) dX9_judgeSub_41 ta0 (fun t41 => ?_)
        refine xr_iload_n C 2 dX9_judgeSub_44 rfl rfl ?_
        obtain ⟨r45, h45, e45, hF⟩ := fx_b2E hF
        refine xr_callVr C mvX9_103 [.int a1] [] (mX8_squad l G (h35.2.2 a0 11) a1 t41 h35 h45 r45 e45) t41 (by decide) vc8 rfl ⟨rfl, rfl, (Nat.le_of_ble_eq_true rfl), (Nat.le_of_ble_eq_true rfl)⟩ rfl (Nat.le_of_ble_eq_true rfl) dX9_judgeSub_45 (fun t45 => ?_)
        refine xr_astore C [(5, .ref (G.2.2.1 r45)), (4, .ref (G.2.2.1 r35)), (0, .ref (G.2.2.1 a0)), (1, .int a1), (2, .int a2), (3, .int a3)] dX9_judgeSub_48 (Nat.le_of_ble_eq_true rfl) rfl ?_
        refine xr_aload C 1 dX9_judgeSub_50 rfl ?_
        refine xr_geti C flX9_274 rfl dX9_judgeSub_52 t35 ?_
        refine xr_if_gt C 61 dX9_judgeSub_55 (by decide) (fun c55 => ?_) (fun c55 => ?_)
        · have hF := fx_pos hF c55
          refine xr_iload_n C 4 dX9_judgeSub_61 rfl rfl ?_
          refine xr_aload C 0 dX9_judgeSub_62 rfl ?_
          refine xr_geti C flX9_173 rfl dX9_judgeSub_64 t45 ?_
          refine xr_icmp_eq C 79 dX9_judgeSub_67 (by decide) (fun c67 => ?_) (fun c67 => ?_)
          · have hF := fx_pos hF c67
            refine xr_bipush (v := -4) C dX9_judgeSub_79 (by decide) ?_
            cases hF
            exact xr_iret C dX9_judgeSub_81
          · have hF := fx_neg hF c67
            refine xr_aload_n C 2 dX9_judgeSub_70 rfl rfl ?_
            refine xr_iload_n C 3 dX9_judgeSub_71 rfl rfl ?_
            refine xr_iload_n C 4 dX9_judgeSub_72 rfl rfl ?_
            obtain ⟨r73, h73, e73, hF⟩ := fx_b2E hF
            refine xr_callVi C mvX9_176 [.int a1, .int a2] [] (mX9_spotOnCourt l G a0 a1 a2 ta0 h45 h73 r73 e73) ta0 (by decide) vc9 rfl ⟨rfl, rfl, (Nat.le_of_ble_eq_true rfl), (Nat.le_of_ble_eq_true rfl)⟩ rfl (Nat.le_of_ble_eq_true rfl) dX9_judgeSub_73 ?_
            refine xr_if_ne C 82 dX9_judgeSub_76 (by decide) (fun c76 => ?_) (fun c76 => ?_)
            · have hF := fx_neg hF c76
              refine xr_iload_n C 5 dX9_judgeSub_82 rfl rfl ?_
              refine xr_aload C 0 dX9_judgeSub_83 rfl ?_
              refine xr_geti C flX9_173 rfl dX9_judgeSub_85 t45 ?_
              refine xr_icmp_eq C 100 dX9_judgeSub_88 (by decide) (fun c88 => ?_) (fun c88 => ?_)
              · have hF := fx_pos hF c88
                refine xr_bipush (v := -5) C dX9_judgeSub_100 (by decide) ?_
                cases hF
                exact xr_iret C dX9_judgeSub_102
              · have hF := fx_neg hF c88
                refine xr_aload C 1 dX9_judgeSub_91 rfl ?_
                refine xr_iload_n C 5 dX9_judgeSub_93 rfl rfl ?_
                obtain ⟨r94, h94, e94, hF⟩ := fx_b2E hF
                refine xr_callVi C mvX9_232 [.int a3] [] (mX6_spotOf l G r35 a3 t35 h73 h94 r94 e94) t35 (by decide) vc6 rfl ⟨rfl, rfl, (Nat.le_of_ble_eq_true rfl), (Nat.le_of_ble_eq_true rfl)⟩ rfl (Nat.le_of_ble_eq_true rfl) dX9_judgeSub_94 ?_
                refine xr_if_eq C 103 dX9_judgeSub_97 (by decide) (fun c97 => ?_) (fun c97 => ?_)
                · have hF := fx_pos hF c97
                  refine xr_aload_n C 2 dX9_judgeSub_103 rfl rfl ?_
                  refine xr_iload_n C 3 dX9_judgeSub_104 rfl rfl ?_
                  refine xr_iload_n C 4 dX9_judgeSub_105 rfl rfl ?_
                  refine xr_iload_n C 5 dX9_judgeSub_106 rfl rfl ?_
                  obtain ⟨r107, h107, e107, hF⟩ := fx_b2E hF
                  refine xr_callVi C mvX9_304 [.int a1, .int a2, .int a3] [] (mX9_areFit l G a0 a1 a2 a3 ta0 h94 h107 r107 e107) ta0 (by decide) vc9 rfl ⟨rfl, rfl, (Nat.le_of_ble_eq_true rfl), (Nat.le_of_ble_eq_true rfl)⟩ rfl (Nat.le_of_ble_eq_true rfl) dX9_judgeSub_107 ?_
                  refine xr_if_eq C 117 dX9_judgeSub_110 (by decide) (fun c110 => ?_) (fun c110 => ?_)
                  · have hF := fx_pos hF c110
                    refine xr_bipush (v := -6) C dX9_judgeSub_117 (by decide) ?_
                    cases hF
                    exact xr_iret C dX9_judgeSub_119
                  · have hF := fx_neg hF c110
                    refine xr_iconst (v := 0) C dX9_judgeSub_113 (by decide) ?_
                    refine xr_goto C 119 dX9_judgeSub_114 (by decide) ?_
                    cases hF
                    exact xr_iret C dX9_judgeSub_119
                · have hF := fx_neg hF c97
                  refine xr_bipush (v := -5) C dX9_judgeSub_100 (by decide) ?_
                  cases hF
                  exact xr_iret C dX9_judgeSub_102
            · have hF := fx_pos hF c76
              refine xr_bipush (v := -4) C dX9_judgeSub_79 (by decide) ?_
              cases hF
              exact xr_iret C dX9_judgeSub_81
        · have hF := fx_neg hF c55
          refine xr_bipush (v := -3) C dX9_judgeSub_58 (by decide) ?_
          cases hF
          exact xr_iret C dX9_judgeSub_60
      · have hF := fx_neg hF c24
        refine xr_bipush (v := -2) C dX9_judgeSub_27 (by decide) ?_
        cases hF
        exact xr_iret C dX9_judgeSub_29
    · have hF := fx_pos hF c15
      refine xr_iconst (v := -1) C dX9_judgeSub_18 (by decide) ?_
      cases hF
      exact xr_iret C dX9_judgeSub_19
theorem dX9_sub_0 : decode cX9_sub 0 = .ok (.aload_n 0, 1) := by decide +kernel
theorem dX9_sub_1 : decode cX9_sub 1 = .ok (.iload_n 1, 1) := by decide +kernel
theorem dX9_sub_2 : decode cX9_sub 2 = .ok (.iload_n 2, 1) := by decide +kernel
theorem dX9_sub_3 : decode cX9_sub 3 = .ok (.iload_n 3, 1) := by decide +kernel
theorem dX9_sub_4 : decode cX9_sub 4 = .ok (.invokevirtual 267, 3) := by decide +kernel
theorem dX9_sub_7 : decode cX9_sub 7 = .ok (.istore 4, 2) := by decide +kernel
theorem dX9_sub_9 : decode cX9_sub 9 = .ok (.iload 4, 2) := by decide +kernel
theorem dX9_sub_11 : decode cX9_sub 11 = .ok (.ifCond .eq 6, 3) := by decide +kernel
theorem dX9_sub_14 : decode cX9_sub 14 = .ok (.iload 4, 2) := by decide +kernel
theorem dX9_sub_16 : decode cX9_sub 16 = .ok (.ireturn, 1) := by decide +kernel
theorem dX9_sub_17 : decode cX9_sub 17 = .ok (.aload_n 0, 1) := by decide +kernel
theorem dX9_sub_18 : decode cX9_sub 18 = .ok (.invokevirtual 254, 3) := by decide +kernel
theorem dX9_sub_21 : decode cX9_sub 21 = .ok (.aload_n 0, 1) := by decide +kernel
theorem dX9_sub_22 : decode cX9_sub 22 = .ok (.getfield 33, 3) := by decide +kernel
theorem dX9_sub_25 : decode cX9_sub 25 = .ok (.iload_n 1, 1) := by decide +kernel
theorem dX9_sub_26 : decode cX9_sub 26 = .ok (.invokevirtual 207, 3) := by decide +kernel
theorem dX9_sub_29 : decode cX9_sub 29 = .ok (.astore 5, 2) := by decide +kernel
theorem dX9_sub_31 : decode cX9_sub 31 = .ok (.aload 5, 2) := by decide +kernel
theorem dX9_sub_33 : decode cX9_sub 33 = .ok (.iload_n 2, 1) := by decide +kernel
theorem dX9_sub_34 : decode cX9_sub 34 = .ok (.iload_n 3, 1) := by decide +kernel
theorem dX9_sub_35 : decode cX9_sub 35 = .ok (.invokevirtual 270, 3) := by decide +kernel
theorem dX9_sub_38 : decode cX9_sub 38 = .ok (.aload 5, 2) := by decide +kernel
theorem dX9_sub_40 : decode cX9_sub 40 = .ok (.getfield 274, 3) := by decide +kernel
theorem dX9_sub_43 : decode cX9_sub 43 = .ok (.ireturn, 1) := by decide +kernel
def fX9_sub (a0 : Nat) (a1 : Int32) (a2 : Int32) (a3 : Int32) (h : hp_T) : Option (Int32 × hp_T) := fx_b2 (fX9_judgeSub a0 a1 a2 a3 h) fun (r4 : Int32) (h4 : hp_T) => if r4 = 0 then (fx_b1 (fX9_remember a0 h4) fun (h18 : hp_T) => fx_b2 (fX1_team (h18.2.2 a0 3) a1 h18) fun (r26 : Nat) (h26 : hp_T) => fx_b1 (fX6_exchange r26 a2 a3 h26) fun (h35 : hp_T) => some ((h35.1 r26 6), h35)) else (some (r4, h4))
set_option maxRecDepth 100000 in
set_option maxHeartbeats 4000000 in
theorem mX9_sub (l : Launch) (G : xr_G) (a0 : Nat) (a1 : Int32) (a2 : Int32) (a3 : Int32) (ta0 : hp_sh a0 = (9, 0)) (h h1 : hp_T) (r : Int32) (hF : fX9_sub a0 a1 a2 a3 h = some (r, h1)) : xr_M l G yX9_sub cX9_sub 6 (xr_R 4 122) (some .int) [.ref (G.2.2.1 a0), .int a1, .int a2, .int a3] h (xr_Qi G r h1) := by
  refine xr_start rfl (Nat.le_of_ble_eq_true rfl) (fun K C => ?_)
  show xr_j l G K 6 h [(0, .ref (G.2.2.1 a0)), (1, .int a1), (2, .int a2), (3, .int a3)] 0 []
  unfold fX9_sub at hF
  refine xr_aload_n C 0 dX9_sub_0 rfl rfl ?_
  refine xr_iload_n C 1 dX9_sub_1 rfl rfl ?_
  refine xr_iload_n C 2 dX9_sub_2 rfl rfl ?_
  refine xr_iload_n C 3 dX9_sub_3 rfl rfl ?_
  obtain ⟨r4, h4, e4, hF⟩ := fx_b2E hF
  refine xr_callVi C mvX9_267 [.int a1, .int a2, .int a3] [] (mX9_judgeSub l G a0 a1 a2 a3 ta0 h h4 r4 e4) ta0 (by decide) vc9 rfl ⟨rfl, rfl, (Nat.le_of_ble_eq_true rfl), (Nat.le_of_ble_eq_true rfl)⟩ rfl (Nat.le_of_ble_eq_true rfl) dX9_sub_4 ?_
  refine xr_istore C [(4, .int r4), (0, .ref (G.2.2.1 a0)), (1, .int a1), (2, .int a2), (3, .int a3)] dX9_sub_7 (Nat.le_of_ble_eq_true rfl) rfl ?_
  refine xr_iload C 0 dX9_sub_9 rfl ?_
  refine xr_if_eq C 17 dX9_sub_11 (by decide) (fun c11 => ?_) (fun c11 => ?_)
  · have hF := fx_pos hF c11
    refine xr_aload_n C 1 dX9_sub_17 rfl rfl ?_
    obtain ⟨h18, e18, hF⟩ := fx_b1E hF
    refine xr_callVv C mvX9_254 [] [] (mX9_remember l G a0 ta0 h4 h18 e18) ta0 (by decide) vc9 rfl ⟨rfl, rfl, (Nat.le_of_ble_eq_true rfl), (Nat.le_of_ble_eq_true rfl)⟩ rfl (Nat.le_of_ble_eq_true rfl) dX9_sub_18 ?_
    refine xr_aload_n C 1 dX9_sub_21 rfl rfl ?_
    refine xr_getr C flX9_33 rfl (by decide) dX9_sub_22 ta0 (fun t22 => ?_)
    refine xr_iload_n C 2 dX9_sub_25 rfl rfl ?_
    obtain ⟨r26, h26, e26, hF⟩ := fx_b2E hF
    refine xr_callVr C mvX9_207 [.int a1] [] (mX1_team l G (h18.2.2 a0 3) a1 t22 h18 h26 r26 e26) t22 (by decide) vc1 rfl ⟨rfl, rfl, (Nat.le_of_ble_eq_true rfl), (Nat.le_of_ble_eq_true rfl)⟩ rfl (Nat.le_of_ble_eq_true rfl) dX9_sub_26 (fun t26 => ?_)
    refine xr_astore C [(5, .ref (G.2.2.1 r26)), (4, .int r4), (0, .ref (G.2.2.1 a0)), (1, .int a1), (2, .int a2), (3, .int a3)] dX9_sub_29 (Nat.le_of_ble_eq_true rfl) rfl ?_
    refine xr_aload C 0 dX9_sub_31 rfl ?_
    refine xr_iload_n C 4 dX9_sub_33 rfl rfl ?_
    refine xr_iload_n C 5 dX9_sub_34 rfl rfl ?_
    obtain ⟨h35, e35, hF⟩ := fx_b1E hF
    refine xr_callVv C mvX9_270 [.int a2, .int a3] [] (mX6_exchange l G r26 a2 a3 t26 h26 h35 e35) t26 (by decide) vc6 rfl ⟨rfl, rfl, (Nat.le_of_ble_eq_true rfl), (Nat.le_of_ble_eq_true rfl)⟩ rfl (Nat.le_of_ble_eq_true rfl) dX9_sub_35 ?_
    refine xr_aload C 0 dX9_sub_38 rfl ?_
    refine xr_geti C flX9_274 rfl dX9_sub_40 t26 ?_
    cases hF
    exact xr_iret C dX9_sub_43
  · have hF := fx_neg hF c11
    refine xr_iload C 0 dX9_sub_14 rfl ?_
    cases hF
    exact xr_iret C dX9_sub_16
theorem dX9_judgeMove_0 : decode cX9_judgeMove 0 = .ok (.aload_n 0, 1) := by decide +kernel
theorem dX9_judgeMove_1 : decode cX9_judgeMove 1 = .ok (.iload_n 1, 1) := by decide +kernel
theorem dX9_judgeMove_2 : decode cX9_judgeMove 2 = .ok (.invokevirtual 99, 3) := by decide +kernel
theorem dX9_judgeMove_5 : decode cX9_judgeMove 5 = .ok (.ifCond .eq 14, 3) := by decide +kernel
theorem dX9_judgeMove_8 : decode cX9_judgeMove 8 = .ok (.iload_n 2, 1) := by decide +kernel
theorem dX9_judgeMove_9 : decode cX9_judgeMove 9 = .ok (.ifCond .eq 12, 3) := by decide +kernel
theorem dX9_judgeMove_12 : decode cX9_judgeMove 12 = .ok (.iload_n 2, 1) := by decide +kernel
theorem dX9_judgeMove_13 : decode cX9_judgeMove 13 = .ok (.invokestatic 308, 3) := by decide +kernel
theorem dX9_judgeMove_16 : decode cX9_judgeMove 16 = .ok (.ifCond .ne 5, 3) := by decide +kernel
theorem dX9_judgeMove_19 : decode cX9_judgeMove 19 = .ok (.iconst (-1), 1) := by decide +kernel
theorem dX9_judgeMove_20 : decode cX9_judgeMove 20 = .ok (.ireturn, 1) := by decide +kernel
theorem dX9_judgeMove_21 : decode cX9_judgeMove 21 = .ok (.aload_n 0, 1) := by decide +kernel
theorem dX9_judgeMove_22 : decode cX9_judgeMove 22 = .ok (.invokevirtual 250, 3) := by decide +kernel
theorem dX9_judgeMove_25 : decode cX9_judgeMove 25 = .ok (.ifCond .eq 6, 3) := by decide +kernel
theorem dX9_judgeMove_28 : decode cX9_judgeMove 28 = .ok (.bipush (-2), 2) := by decide +kernel
theorem dX9_judgeMove_30 : decode cX9_judgeMove 30 = .ok (.ireturn, 1) := by decide +kernel
theorem dX9_judgeMove_31 : decode cX9_judgeMove 31 = .ok (.aload_n 0, 1) := by decide +kernel
theorem dX9_judgeMove_32 : decode cX9_judgeMove 32 = .ok (.getfield 33, 3) := by decide +kernel
theorem dX9_judgeMove_35 : decode cX9_judgeMove 35 = .ok (.iload_n 1, 1) := by decide +kernel
theorem dX9_judgeMove_36 : decode cX9_judgeMove 36 = .ok (.invokevirtual 207, 3) := by decide +kernel
theorem dX9_judgeMove_39 : decode cX9_judgeMove 39 = .ok (.astore_n 3, 1) := by decide +kernel
theorem dX9_judgeMove_40 : decode cX9_judgeMove 40 = .ok (.iload_n 2, 1) := by decide +kernel
theorem dX9_judgeMove_41 : decode cX9_judgeMove 41 = .ok (.ifCond .eq 7, 3) := by decide +kernel
theorem dX9_judgeMove_44 : decode cX9_judgeMove 44 = .ok (.iconst 1, 1) := by decide +kernel
theorem dX9_judgeMove_45 : decode cX9_judgeMove 45 = .ok (.goto 4, 3) := by decide +kernel
theorem dX9_judgeMove_48 : decode cX9_judgeMove 48 = .ok (.iconst 0, 1) := by decide +kernel
theorem dX9_judgeMove_49 : decode cX9_judgeMove 49 = .ok (.istore 4, 2) := by decide +kernel
theorem dX9_judgeMove_51 : decode cX9_judgeMove 51 = .ok (.aload_n 3, 1) := by decide +kernel
theorem dX9_judgeMove_52 : decode cX9_judgeMove 52 = .ok (.getfield 241, 3) := by decide +kernel
theorem dX9_judgeMove_55 : decode cX9_judgeMove 55 = .ok (.ifCond .eq 7, 3) := by decide +kernel
theorem dX9_judgeMove_58 : decode cX9_judgeMove 58 = .ok (.iconst 1, 1) := by decide +kernel
theorem dX9_judgeMove_59 : decode cX9_judgeMove 59 = .ok (.goto 4, 3) := by decide +kernel
theorem dX9_judgeMove_62 : decode cX9_judgeMove 62 = .ok (.iconst 0, 1) := by decide +kernel
theorem dX9_judgeMove_63 : decode cX9_judgeMove 63 = .ok (.istore 5, 2) := by decide +kernel
theorem dX9_judgeMove_65 : decode cX9_judgeMove 65 = .ok (.aload_n 0, 1) := by decide +kernel
theorem dX9_judgeMove_66 : decode cX9_judgeMove 66 = .ok (.getfield 68, 3) := by decide +kernel
theorem dX9_judgeMove_69 : decode cX9_judgeMove 69 = .ok (.iload_n 1, 1) := by decide +kernel
theorem dX9_judgeMove_70 : decode cX9_judgeMove 70 = .ok (.invokevirtual 103, 3) := by decide +kernel
theorem dX9_judgeMove_73 : decode cX9_judgeMove 73 = .ok (.getfield 173, 3) := by decide +kernel
theorem dX9_judgeMove_76 : decode cX9_judgeMove 76 = .ok (.iconst (-1), 1) := by decide +kernel
theorem dX9_judgeMove_77 : decode cX9_judgeMove 77 = .ok (.if_icmp .eq 10, 3) := by decide +kernel
theorem dX9_judgeMove_80 : decode cX9_judgeMove 80 = .ok (.iload 4, 2) := by decide +kernel
theorem dX9_judgeMove_82 : decode cX9_judgeMove 82 = .ok (.iload 5, 2) := by decide +kernel
theorem dX9_judgeMove_84 : decode cX9_judgeMove 84 = .ok (.if_icmp .ne 6, 3) := by decide +kernel
theorem dX9_judgeMove_87 : decode cX9_judgeMove 87 = .ok (.bipush (-3), 2) := by decide +kernel
theorem dX9_judgeMove_89 : decode cX9_judgeMove 89 = .ok (.ireturn, 1) := by decide +kernel
theorem dX9_judgeMove_90 : decode cX9_judgeMove 90 = .ok (.aload_n 3, 1) := by decide +kernel
theorem dX9_judgeMove_91 : decode cX9_judgeMove 91 = .ok (.getfield 280, 3) := by decide +kernel
theorem dX9_judgeMove_94 : decode cX9_judgeMove 94 = .ok (.ifCond .eq 6, 3) := by decide +kernel
theorem dX9_judgeMove_97 : decode cX9_judgeMove 97 = .ok (.bipush (-4), 2) := by decide +kernel
theorem dX9_judgeMove_99 : decode cX9_judgeMove 99 = .ok (.ireturn, 1) := by decide +kernel
theorem dX9_judgeMove_100 : decode cX9_judgeMove 100 = .ok (.iload_n 2, 1) := by decide +kernel
theorem dX9_judgeMove_101 : decode cX9_judgeMove 101 = .ok (.iconst 1, 1) := by decide +kernel
theorem dX9_judgeMove_102 : decode cX9_judgeMove 102 = .ok (.if_icmp .ne 19, 3) := by decide +kernel
theorem dX9_judgeMove_105 : decode cX9_judgeMove 105 = .ok (.aload_n 0, 1) := by decide +kernel
theorem dX9_judgeMove_106 : decode cX9_judgeMove 106 = .ok (.getfield 33, 3) := by decide +kernel
theorem dX9_judgeMove_109 : decode cX9_judgeMove 109 = .ok (.getfield 257, 3) := by decide +kernel
theorem dX9_judgeMove_112 : decode cX9_judgeMove 112 = .ok (.iload_n 1, 1) := by decide +kernel
theorem dX9_judgeMove_113 : decode cX9_judgeMove 113 = .ok (.if_icmp .ne 8, 3) := by decide +kernel
theorem dX9_judgeMove_116 : decode cX9_judgeMove 116 = .ok (.bipush (-5), 2) := by decide +kernel
theorem dX9_judgeMove_118 : decode cX9_judgeMove 118 = .ok (.goto 4, 3) := by decide +kernel
theorem dX9_judgeMove_121 : decode cX9_judgeMove 121 = .ok (.iconst 0, 1) := by decide +kernel
theorem dX9_judgeMove_122 : decode cX9_judgeMove 122 = .ok (.ireturn, 1) := by decide +kernel
def fX9_judgeMove_63  (a0 : Nat) (a1 : Int32) (a2 : Int32) (a3 : Nat) (a4 : Int32) (s0 : Int32) (h : hp_T) : Option (Int32 × hp_T) := fx_b2 (fX8_squad (h.2.2 a0 11) a1 h) fun (r70 : Nat) (h70 : hp_T) => if (h70.1 r70 7) = (-1 : Int32) then (some ((-3 : Int32), h70)) else (if a4 = s0 then (some ((-3 : Int32), h70)) else (if (h70.1 a3 5) = 0 then (if a2 = (1 : Int32) then (if (h70.1 (h70.2.2 a0 3) 2) = a1 then (some ((-5 : Int32), h70)) else (some ((0 : Int32), h70))) else (some ((0 : Int32), h70))) else (some ((-4 : Int32), h70))))
set_option maxRecDepth 100000 in
set_option maxHeartbeats 4000000 in
theorem bX9_judgeMove_63 {l : Launch} {G : xr_G} {K : xr_K} {r : Int32} {h1 : hp_T} (C : xr_C G K cX9_judgeMove RX9 6 (xr_R 2 40) (some .int) (some (xr_Qi G r h1)))  (a0 : Nat) (a1 : Int32) (a2 : Int32) (a3 : Nat) (a4 : Int32) (s0 : Int32) (ta0 : hp_sh a0 = (9, 0)) (ta3 : hp_sh a3 = (6, 0)) (h : hp_T) (hF : fX9_judgeMove_63 a0 a1 a2 a3 a4 s0 h = some (r, h1)) : xr_j l G K 6 h [(0, .ref (G.2.2.1 a0)), (1, .int a1), (2, .int a2), (3, .ref (G.2.2.1 a3)), (4, .int a4)] 63 [.int s0] := by
  unfold fX9_judgeMove_63 at hF
  refine xr_istore C [(5, .int s0), (0, .ref (G.2.2.1 a0)), (1, .int a1), (2, .int a2), (3, .ref (G.2.2.1 a3)), (4, .int a4)] dX9_judgeMove_63 (Nat.le_of_ble_eq_true rfl) rfl ?_
  refine xr_aload_n C 1 dX9_judgeMove_65 rfl rfl ?_
  refine xr_getr C flX9_68 rfl (by decide) dX9_judgeMove_66 ta0 (fun t66 => ?_)
  refine xr_iload_n C 2 dX9_judgeMove_69 rfl rfl ?_
  obtain ⟨r70, h70, e70, hF⟩ := fx_b2E hF
  refine xr_callVr C mvX9_103 [.int a1] [] (mX8_squad l G (h.2.2 a0 11) a1 t66 h h70 r70 e70) t66 (by decide) vc8 rfl ⟨rfl, rfl, (Nat.le_of_ble_eq_true rfl), (Nat.le_of_ble_eq_true rfl)⟩ rfl (Nat.le_of_ble_eq_true rfl) dX9_judgeMove_70 (fun t70 => ?_)
  refine xr_geti C flX9_173 rfl dX9_judgeMove_73 t70 ?_
  refine xr_iconst (v := -1) C dX9_judgeMove_76 (by decide) ?_
  refine xr_icmp_eq C 87 dX9_judgeMove_77 (by decide) (fun c77 => ?_) (fun c77 => ?_)
  · have hF := fx_pos hF c77
    refine xr_bipush (v := -3) C dX9_judgeMove_87 (by decide) ?_
    cases hF
    exact xr_iret C dX9_judgeMove_89
  · have hF := fx_neg hF c77
    refine xr_iload C 5 dX9_judgeMove_80 rfl ?_
    refine xr_iload C 0 dX9_judgeMove_82 rfl ?_
    refine xr_icmp_ne C 90 dX9_judgeMove_84 (by decide) (fun c84 => ?_) (fun c84 => ?_)
    · have hF := fx_neg hF c84
      refine xr_aload_n C 4 dX9_judgeMove_90 rfl rfl ?_
      refine xr_geti C flX9_280 rfl dX9_judgeMove_91 ta3 ?_
      refine xr_if_eq C 100 dX9_judgeMove_94 (by decide) (fun c94 => ?_) (fun c94 => ?_)
      · have hF := fx_pos hF c94
        refine xr_iload_n C 3 dX9_judgeMove_100 rfl rfl ?_
        refine xr_iconst (v := 1) C dX9_judgeMove_101 (by decide) ?_
        refine xr_icmp_ne C 121 dX9_judgeMove_102 (by decide) (fun c102 => ?_) (fun c102 => ?_)
        · have hF := fx_neg hF c102
          refine xr_iconst (v := 0) C dX9_judgeMove_121 (by decide) ?_
          cases hF
          exact xr_iret C dX9_judgeMove_122
        · have hF := fx_pos hF c102
          refine xr_aload_n C 1 dX9_judgeMove_105 rfl rfl ?_
          refine xr_getr C flX9_33 rfl (by decide) dX9_judgeMove_106 ta0 (fun t106 => ?_)
          refine xr_geti C flX9_257 rfl dX9_judgeMove_109 t106 ?_
          refine xr_iload_n C 2 dX9_judgeMove_112 rfl rfl ?_
          refine xr_icmp_ne C 121 dX9_judgeMove_113 (by decide) (fun c113 => ?_) (fun c113 => ?_)
          · have hF := fx_neg hF c113
            refine xr_iconst (v := 0) C dX9_judgeMove_121 (by decide) ?_
            cases hF
            exact xr_iret C dX9_judgeMove_122
          · have hF := fx_pos hF c113
            refine xr_bipush (v := -5) C dX9_judgeMove_116 (by decide) ?_
            refine xr_goto C 122 dX9_judgeMove_118 (by decide) ?_
            cases hF
            exact xr_iret C dX9_judgeMove_122
      · have hF := fx_neg hF c94
        refine xr_bipush (v := -4) C dX9_judgeMove_97 (by decide) ?_
        cases hF
        exact xr_iret C dX9_judgeMove_99
    · have hF := fx_pos hF c84
      refine xr_bipush (v := -3) C dX9_judgeMove_87 (by decide) ?_
      cases hF
      exact xr_iret C dX9_judgeMove_89
def fX9_judgeMove_49  (a0 : Nat) (a1 : Int32) (a2 : Int32) (a3 : Nat) (s0 : Int32) (h : hp_T) : Option (Int32 × hp_T) := if (h.1 a3 4) = 0 then (fX9_judgeMove_63 a0 a1 a2 a3 s0 (0 : Int32) h) else (fX9_judgeMove_63 a0 a1 a2 a3 s0 (1 : Int32) h)
set_option maxRecDepth 100000 in
set_option maxHeartbeats 4000000 in
theorem bX9_judgeMove_49 {l : Launch} {G : xr_G} {K : xr_K} {r : Int32} {h1 : hp_T} (C : xr_C G K cX9_judgeMove RX9 6 (xr_R 2 40) (some .int) (some (xr_Qi G r h1)))  (a0 : Nat) (a1 : Int32) (a2 : Int32) (a3 : Nat) (s0 : Int32) (ta0 : hp_sh a0 = (9, 0)) (ta3 : hp_sh a3 = (6, 0)) (h : hp_T) (hF : fX9_judgeMove_49 a0 a1 a2 a3 s0 h = some (r, h1)) : xr_j l G K 6 h [(0, .ref (G.2.2.1 a0)), (1, .int a1), (2, .int a2), (3, .ref (G.2.2.1 a3))] 49 [.int s0] := by
  unfold fX9_judgeMove_49 at hF
  refine xr_istore C [(4, .int s0), (0, .ref (G.2.2.1 a0)), (1, .int a1), (2, .int a2), (3, .ref (G.2.2.1 a3))] dX9_judgeMove_49 (Nat.le_of_ble_eq_true rfl) rfl ?_
  refine xr_aload_n C 4 dX9_judgeMove_51 rfl rfl ?_
  refine xr_geti C flX9_241 rfl dX9_judgeMove_52 ta3 ?_
  refine xr_if_eq C 62 dX9_judgeMove_55 (by decide) (fun c55 => ?_) (fun c55 => ?_)
  · have hF := fx_pos hF c55
    refine xr_iconst (v := 0) C dX9_judgeMove_62 (by decide) ?_
    refine xr_sub [1, 2, 3, 4, 0] [(0, .ref (G.2.2.1 a0)), (1, .int a1), (2, .int a2), (3, .ref (G.2.2.1 a3)), (4, .int s0)] rfl ?_
    exact bX9_judgeMove_63 C   a0 a1 a2 a3 s0 (0 : Int32) ta0 ta3 h hF
  · have hF := fx_neg hF c55
    refine xr_iconst (v := 1) C dX9_judgeMove_58 (by decide) ?_
    refine xr_goto C 63 dX9_judgeMove_59 (by decide) ?_
    refine xr_sub [1, 2, 3, 4, 0] [(0, .ref (G.2.2.1 a0)), (1, .int a1), (2, .int a2), (3, .ref (G.2.2.1 a3)), (4, .int s0)] rfl ?_
    exact bX9_judgeMove_63 C   a0 a1 a2 a3 s0 (1 : Int32) ta0 ta3 h hF
def fX9_judgeMove_21  (a0 : Nat) (a1 : Int32) (a2 : Int32) (h : hp_T) : Option (Int32 × hp_T) := fx_b2 (fX9_isOver a0 h) fun (r22 : Int32) (h22 : hp_T) => if r22 = 0 then (fx_b2 (fX1_team (h22.2.2 a0 3) a1 h22) fun (r36 : Nat) (h36 : hp_T) => if a2 = 0 then (fX9_judgeMove_49 a0 a1 a2 r36 (0 : Int32) h36) else (fX9_judgeMove_49 a0 a1 a2 r36 (1 : Int32) h36)) else (some ((-2 : Int32), h22))
set_option maxRecDepth 100000 in
set_option maxHeartbeats 4000000 in
theorem bX9_judgeMove_21 {l : Launch} {G : xr_G} {K : xr_K} {r : Int32} {h1 : hp_T} (C : xr_C G K cX9_judgeMove RX9 6 (xr_R 2 40) (some .int) (some (xr_Qi G r h1)))  (a0 : Nat) (a1 : Int32) (a2 : Int32) (ta0 : hp_sh a0 = (9, 0)) (h : hp_T) (hF : fX9_judgeMove_21 a0 a1 a2 h = some (r, h1)) : xr_j l G K 6 h [(0, .ref (G.2.2.1 a0)), (1, .int a1), (2, .int a2)] 21 [] := by
  unfold fX9_judgeMove_21 at hF
  refine xr_aload_n C 0 dX9_judgeMove_21 rfl rfl ?_
  obtain ⟨r22, h22, e22, hF⟩ := fx_b2E hF
  refine xr_callVi C mvX9_250 [] [] (mX9_isOver l G a0 ta0 h h22 r22 e22) ta0 (by decide) vc9 rfl ⟨rfl, rfl, (Nat.le_of_ble_eq_true rfl), (Nat.le_of_ble_eq_true rfl)⟩ rfl (Nat.le_of_ble_eq_true rfl) dX9_judgeMove_22 ?_
  refine xr_if_eq C 31 dX9_judgeMove_25 (by decide) (fun c25 => ?_) (fun c25 => ?_)
  · have hF := fx_pos hF c25
    refine xr_aload_n C 0 dX9_judgeMove_31 rfl rfl ?_
    refine xr_getr C flX9_33 rfl (by decide) dX9_judgeMove_32 ta0 (fun t32 => ?_)
    refine xr_iload_n C 1 dX9_judgeMove_35 rfl rfl ?_
    obtain ⟨r36, h36, e36, hF⟩ := fx_b2E hF
    refine xr_callVr C mvX9_207 [.int a1] [] (mX1_team l G (h22.2.2 a0 3) a1 t32 h22 h36 r36 e36) t32 (by decide) vc1 rfl ⟨rfl, rfl, (Nat.le_of_ble_eq_true rfl), (Nat.le_of_ble_eq_true rfl)⟩ rfl (Nat.le_of_ble_eq_true rfl) dX9_judgeMove_36 (fun t36 => ?_)
    refine xr_astore_n C [(3, .ref (G.2.2.1 r36)), (0, .ref (G.2.2.1 a0)), (1, .int a1), (2, .int a2)] dX9_judgeMove_39 rfl (Nat.le_of_ble_eq_true rfl) rfl ?_
    refine xr_iload_n C 3 dX9_judgeMove_40 rfl rfl ?_
    refine xr_if_eq C 48 dX9_judgeMove_41 (by decide) (fun c41 => ?_) (fun c41 => ?_)
    · have hF := fx_pos hF c41
      refine xr_iconst (v := 0) C dX9_judgeMove_48 (by decide) ?_
      refine xr_sub [1, 2, 3, 0] [(0, .ref (G.2.2.1 a0)), (1, .int a1), (2, .int a2), (3, .ref (G.2.2.1 r36))] rfl ?_
      exact bX9_judgeMove_49 C   a0 a1 a2 r36 (0 : Int32) ta0 t36 h36 hF
    · have hF := fx_neg hF c41
      refine xr_iconst (v := 1) C dX9_judgeMove_44 (by decide) ?_
      refine xr_goto C 49 dX9_judgeMove_45 (by decide) ?_
      refine xr_sub [1, 2, 3, 0] [(0, .ref (G.2.2.1 a0)), (1, .int a1), (2, .int a2), (3, .ref (G.2.2.1 r36))] rfl ?_
      exact bX9_judgeMove_49 C   a0 a1 a2 r36 (1 : Int32) ta0 t36 h36 hF
  · have hF := fx_neg hF c25
    refine xr_bipush (v := -2) C dX9_judgeMove_28 (by decide) ?_
    cases hF
    exact xr_iret C dX9_judgeMove_30
def fX9_judgeMove (a0 : Nat) (a1 : Int32) (a2 : Int32) (h : hp_T) : Option (Int32 × hp_T) := fx_b2 (fX9_isSide a0 a1 h) fun (r2 : Int32) (h2 : hp_T) => if r2 = 0 then (some ((-1 : Int32), h2)) else (if a2 = 0 then (fX9_judgeMove_21 a0 a1 a2 h2) else (fx_b2 (fX9_isRear a2 h2) fun (r13 : Int32) (h13 : hp_T) => if r13 = 0 then (some ((-1 : Int32), h13)) else (fX9_judgeMove_21 a0 a1 a2 h13)))
set_option maxRecDepth 100000 in
set_option maxHeartbeats 4000000 in
theorem mX9_judgeMove (l : Launch) (G : xr_G) (a0 : Nat) (a1 : Int32) (a2 : Int32) (ta0 : hp_sh a0 = (9, 0)) (h h1 : hp_T) (r : Int32) (hF : fX9_judgeMove a0 a1 a2 h = some (r, h1)) : xr_M l G yX9_judgeMove cX9_judgeMove 6 (xr_R 2 40) (some .int) [.ref (G.2.2.1 a0), .int a1, .int a2] h (xr_Qi G r h1) := by
  refine xr_start rfl (Nat.le_of_ble_eq_true rfl) (fun K C => ?_)
  show xr_j l G K 6 h [(0, .ref (G.2.2.1 a0)), (1, .int a1), (2, .int a2)] 0 []
  unfold fX9_judgeMove at hF
  refine xr_aload_n C 0 dX9_judgeMove_0 rfl rfl ?_
  refine xr_iload_n C 1 dX9_judgeMove_1 rfl rfl ?_
  obtain ⟨r2, h2, e2, hF⟩ := fx_b2E hF
  refine xr_callVi C mvX9_99 [.int a1] [] (mX9_isSide l G a0 a1 ta0 h h2 r2 e2) ta0 (by decide) vc9 rfl ⟨rfl, rfl, (Nat.le_of_ble_eq_true rfl), (Nat.le_of_ble_eq_true rfl)⟩ rfl (Nat.le_of_ble_eq_true rfl) dX9_judgeMove_2 ?_
  refine xr_if_eq C 19 dX9_judgeMove_5 (by decide) (fun c5 => ?_) (fun c5 => ?_)
  · have hF := fx_pos hF c5
    refine xr_iconst (v := -1) C dX9_judgeMove_19 (by decide) ?_
    cases hF
    exact xr_iret C dX9_judgeMove_20
  · have hF := fx_neg hF c5
    refine xr_iload_n C 2 dX9_judgeMove_8 rfl rfl ?_
    refine xr_if_eq C 21 dX9_judgeMove_9 (by decide) (fun c9 => ?_) (fun c9 => ?_)
    · have hF := fx_pos hF c9
      exact bX9_judgeMove_21 C   a0 a1 a2 ta0 h2 hF
    · have hF := fx_neg hF c9
      refine xr_iload_n C 2 dX9_judgeMove_12 rfl rfl ?_
      obtain ⟨r13, h13, e13, hF⟩ := fx_b2E hF
      refine xr_callSi C mvX9_308 [.int a2] [] (mX9_isRear l G a2  h2 h13 r13 e13) rfl ⟨rfl, rfl, (Nat.le_of_ble_eq_true rfl), (Nat.le_of_ble_eq_true rfl)⟩ rfl (Nat.le_of_ble_eq_true rfl) dX9_judgeMove_13 ?_
      refine xr_if_ne C 21 dX9_judgeMove_16 (by decide) (fun c16 => ?_) (fun c16 => ?_)
      · have hF := fx_neg hF c16
        exact bX9_judgeMove_21 C   a0 a1 a2 ta0 h13 hF
      · have hF := fx_pos hF c16
        refine xr_iconst (v := -1) C dX9_judgeMove_19 (by decide) ?_
        cases hF
        exact xr_iret C dX9_judgeMove_20
theorem dX9_move_0 : decode cX9_move 0 = .ok (.aload_n 0, 1) := by decide +kernel
theorem dX9_move_1 : decode cX9_move 1 = .ok (.iload_n 1, 1) := by decide +kernel
theorem dX9_move_2 : decode cX9_move 2 = .ok (.iload_n 2, 1) := by decide +kernel
theorem dX9_move_3 : decode cX9_move 3 = .ok (.invokevirtual 277, 3) := by decide +kernel
theorem dX9_move_6 : decode cX9_move 6 = .ok (.istore_n 3, 1) := by decide +kernel
theorem dX9_move_7 : decode cX9_move 7 = .ok (.iload_n 3, 1) := by decide +kernel
theorem dX9_move_8 : decode cX9_move 8 = .ok (.ifCond .eq 5, 3) := by decide +kernel
theorem dX9_move_11 : decode cX9_move 11 = .ok (.iload_n 3, 1) := by decide +kernel
theorem dX9_move_12 : decode cX9_move 12 = .ok (.ireturn, 1) := by decide +kernel
theorem dX9_move_13 : decode cX9_move 13 = .ok (.aload_n 0, 1) := by decide +kernel
theorem dX9_move_14 : decode cX9_move 14 = .ok (.invokevirtual 254, 3) := by decide +kernel
theorem dX9_move_17 : decode cX9_move 17 = .ok (.aload_n 0, 1) := by decide +kernel
theorem dX9_move_18 : decode cX9_move 18 = .ok (.getfield 33, 3) := by decide +kernel
theorem dX9_move_21 : decode cX9_move 21 = .ok (.iload_n 1, 1) := by decide +kernel
theorem dX9_move_22 : decode cX9_move 22 = .ok (.invokevirtual 207, 3) := by decide +kernel
theorem dX9_move_25 : decode cX9_move 25 = .ok (.astore 4, 2) := by decide +kernel
theorem dX9_move_27 : decode cX9_move 27 = .ok (.iload_n 2, 1) := by decide +kernel
theorem dX9_move_28 : decode cX9_move 28 = .ok (.ifCond .ne 11, 3) := by decide +kernel
theorem dX9_move_31 : decode cX9_move 31 = .ok (.aload 4, 2) := by decide +kernel
theorem dX9_move_33 : decode cX9_move 33 = .ok (.getfield 241, 3) := by decide +kernel
theorem dX9_move_36 : decode cX9_move 36 = .ok (.goto 4, 3) := by decide +kernel
theorem dX9_move_39 : decode cX9_move 39 = .ok (.iload_n 2, 1) := by decide +kernel
theorem dX9_move_40 : decode cX9_move 40 = .ok (.istore 5, 2) := by decide +kernel
theorem dX9_move_42 : decode cX9_move 42 = .ok (.aload 4, 2) := by decide +kernel
theorem dX9_move_44 : decode cX9_move 44 = .ok (.iload_n 2, 1) := by decide +kernel
theorem dX9_move_45 : decode cX9_move 45 = .ok (.putfield 241, 3) := by decide +kernel
theorem dX9_move_48 : decode cX9_move 48 = .ok (.aload 4, 2) := by decide +kernel
theorem dX9_move_50 : decode cX9_move 50 = .ok (.iconst 1, 1) := by decide +kernel
theorem dX9_move_51 : decode cX9_move 51 = .ok (.putfield 280, 3) := by decide +kernel
theorem dX9_move_54 : decode cX9_move 54 = .ok (.aload 4, 2) := by decide +kernel
theorem dX9_move_56 : decode cX9_move 56 = .ok (.getfield 211, 3) := by decide +kernel
theorem dX9_move_59 : decode cX9_move 59 = .ok (.iload 5, 2) := by decide +kernel
theorem dX9_move_61 : decode cX9_move 61 = .ok (.iconst 1, 1) := by decide +kernel
theorem dX9_move_62 : decode cX9_move 62 = .ok (.isub, 1) := by decide +kernel
theorem dX9_move_63 : decode cX9_move 63 = .ok (.iaload, 1) := by decide +kernel
theorem dX9_move_64 : decode cX9_move 64 = .ok (.ireturn, 1) := by decide +kernel
def fX9_move_40  (a2 : Int32) (a4 : Nat) (s0 : Int32) (h : hp_T) : Option (Int32 × hp_T) := fx_let (hp_sI h a4 4 a2) fun (h45 : hp_T) => fx_let (hp_sI h45 a4 5 (1 : Int32)) fun (h51 : hp_T) => fx_g (fx_in (s0 - (1 : Int32)) 6) (some ((h51.1 (h51.2.2 a4 0) (fx_ix (s0 - (1 : Int32)))), h51))
set_option maxRecDepth 100000 in
set_option maxHeartbeats 4000000 in
theorem bX9_move_40 {l : Launch} {G : xr_G} {K : xr_K} {r : Int32} {h1 : hp_T} (C : xr_C G K cX9_move RX9 6 (xr_R 4 122) (some .int) (some (xr_Qi G r h1)))  (a2 : Int32) (a4 : Nat) (s0 : Int32) (ta4 : hp_sh a4 = (6, 0)) (h : hp_T) (hF : fX9_move_40 a2 a4 s0 h = some (r, h1)) : xr_j l G K 6 h [(2, .int a2), (4, .ref (G.2.2.1 a4))] 40 [.int s0] := by
  unfold fX9_move_40 at hF
  refine xr_istore C [(5, .int s0), (2, .int a2), (4, .ref (G.2.2.1 a4))] dX9_move_40 (Nat.le_of_ble_eq_true rfl) rfl ?_
  refine xr_aload C 2 dX9_move_42 rfl ?_
  refine xr_iload_n C 1 dX9_move_44 rfl rfl ?_
  refine xr_puti C fpX9_241 rfl rfl rfl dX9_move_45 ta4 (fun h45 e45 => ?_)
  have hF := fx_letE hF h45 e45
  refine xr_aload C 2 dX9_move_48 rfl ?_
  refine xr_iconst (v := 1) C dX9_move_50 (by decide) ?_
  refine xr_puti C fpX9_280 rfl rfl rfl dX9_move_51 ta4 (fun h51 e51 => ?_)
  have hF := fx_letE hF h51 e51
  refine xr_aload C 2 dX9_move_54 rfl ?_
  refine xr_getr C flX9_211 rfl (by decide) dX9_move_56 ta4 (fun t56 => ?_)
  refine xr_iload C 0 dX9_move_59 rfl ?_
  refine xr_iconst (v := 1) C dX9_move_61 (by decide) ?_
  refine xr_isub C dX9_move_62 ?_
  obtain ⟨g63, hF⟩ := fx_gE hF
  refine xr_iald C dX9_move_63 t56 g63 ?_
  cases hF
  exact xr_iret C dX9_move_64
def fX9_move (a0 : Nat) (a1 : Int32) (a2 : Int32) (h : hp_T) : Option (Int32 × hp_T) := fx_b2 (fX9_judgeMove a0 a1 a2 h) fun (r3 : Int32) (h3 : hp_T) => if r3 = 0 then (fx_b1 (fX9_remember a0 h3) fun (h14 : hp_T) => fx_b2 (fX1_team (h14.2.2 a0 3) a1 h14) fun (r22 : Nat) (h22 : hp_T) => if a2 = 0 then (fX9_move_40 a2 r22 (h22.1 r22 4) h22) else (fX9_move_40 a2 r22 a2 h22)) else (some (r3, h3))
set_option maxRecDepth 100000 in
set_option maxHeartbeats 4000000 in
theorem mX9_move (l : Launch) (G : xr_G) (a0 : Nat) (a1 : Int32) (a2 : Int32) (ta0 : hp_sh a0 = (9, 0)) (h h1 : hp_T) (r : Int32) (hF : fX9_move a0 a1 a2 h = some (r, h1)) : xr_M l G yX9_move cX9_move 6 (xr_R 4 122) (some .int) [.ref (G.2.2.1 a0), .int a1, .int a2] h (xr_Qi G r h1) := by
  refine xr_start rfl (Nat.le_of_ble_eq_true rfl) (fun K C => ?_)
  show xr_j l G K 6 h [(0, .ref (G.2.2.1 a0)), (1, .int a1), (2, .int a2)] 0 []
  unfold fX9_move at hF
  refine xr_aload_n C 0 dX9_move_0 rfl rfl ?_
  refine xr_iload_n C 1 dX9_move_1 rfl rfl ?_
  refine xr_iload_n C 2 dX9_move_2 rfl rfl ?_
  obtain ⟨r3, h3, e3, hF⟩ := fx_b2E hF
  refine xr_callVi C mvX9_277 [.int a1, .int a2] [] (mX9_judgeMove l G a0 a1 a2 ta0 h h3 r3 e3) ta0 (by decide) vc9 rfl ⟨rfl, rfl, (Nat.le_of_ble_eq_true rfl), (Nat.le_of_ble_eq_true rfl)⟩ rfl (Nat.le_of_ble_eq_true rfl) dX9_move_3 ?_
  refine xr_istore_n C [(3, .int r3), (0, .ref (G.2.2.1 a0)), (1, .int a1), (2, .int a2)] dX9_move_6 rfl (Nat.le_of_ble_eq_true rfl) rfl ?_
  refine xr_iload_n C 0 dX9_move_7 rfl rfl ?_
  refine xr_if_eq C 13 dX9_move_8 (by decide) (fun c8 => ?_) (fun c8 => ?_)
  · have hF := fx_pos hF c8
    refine xr_aload_n C 1 dX9_move_13 rfl rfl ?_
    obtain ⟨h14, e14, hF⟩ := fx_b1E hF
    refine xr_callVv C mvX9_254 [] [] (mX9_remember l G a0 ta0 h3 h14 e14) ta0 (by decide) vc9 rfl ⟨rfl, rfl, (Nat.le_of_ble_eq_true rfl), (Nat.le_of_ble_eq_true rfl)⟩ rfl (Nat.le_of_ble_eq_true rfl) dX9_move_14 ?_
    refine xr_aload_n C 1 dX9_move_17 rfl rfl ?_
    refine xr_getr C flX9_33 rfl (by decide) dX9_move_18 ta0 (fun t18 => ?_)
    refine xr_iload_n C 2 dX9_move_21 rfl rfl ?_
    obtain ⟨r22, h22, e22, hF⟩ := fx_b2E hF
    refine xr_callVr C mvX9_207 [.int a1] [] (mX1_team l G (h14.2.2 a0 3) a1 t18 h14 h22 r22 e22) t18 (by decide) vc1 rfl ⟨rfl, rfl, (Nat.le_of_ble_eq_true rfl), (Nat.le_of_ble_eq_true rfl)⟩ rfl (Nat.le_of_ble_eq_true rfl) dX9_move_22 (fun t22 => ?_)
    refine xr_astore C [(4, .ref (G.2.2.1 r22)), (3, .int r3), (0, .ref (G.2.2.1 a0)), (1, .int a1), (2, .int a2)] dX9_move_25 (Nat.le_of_ble_eq_true rfl) rfl ?_
    refine xr_iload_n C 4 dX9_move_27 rfl rfl ?_
    refine xr_if_ne C 39 dX9_move_28 (by decide) (fun c28 => ?_) (fun c28 => ?_)
    · have hF := fx_neg hF c28
      refine xr_iload_n C 4 dX9_move_39 rfl rfl ?_
      refine xr_sub [4, 0] [(2, .int a2), (4, .ref (G.2.2.1 r22))] rfl ?_
      exact bX9_move_40 C   a2 r22 a2 t22 h22 hF
    · have hF := fx_pos hF c28
      refine xr_aload C 0 dX9_move_31 rfl ?_
      refine xr_geti C flX9_241 rfl dX9_move_33 t22 ?_
      refine xr_goto C 40 dX9_move_36 (by decide) ?_
      refine xr_sub [4, 0] [(2, .int a2), (4, .ref (G.2.2.1 r22))] rfl ?_
      exact bX9_move_40 C   a2 r22 (h22.1 r22 4) t22 h22 hF
  · have hF := fx_neg hF c8
    refine xr_iload_n C 0 dX9_move_11 rfl rfl ?_
    cases hF
    exact xr_iret C dX9_move_12
theorem dX9_isPlace_0 : decode cX9_isPlace 0 = .ok (.iload_n 0, 1) := by decide +kernel
theorem dX9_isPlace_1 : decode cX9_isPlace 1 = .ok (.ifCond .lt 13, 3) := by decide +kernel
theorem dX9_isPlace_4 : decode cX9_isPlace 4 = .ok (.iload_n 0, 1) := by decide +kernel
theorem dX9_isPlace_5 : decode cX9_isPlace 5 = .ok (.bipush 90, 2) := by decide +kernel
theorem dX9_isPlace_7 : decode cX9_isPlace 7 = .ok (.if_icmp .gt 7, 3) := by decide +kernel
theorem dX9_isPlace_10 : decode cX9_isPlace 10 = .ok (.iconst 1, 1) := by decide +kernel
theorem dX9_isPlace_11 : decode cX9_isPlace 11 = .ok (.goto 4, 3) := by decide +kernel
theorem dX9_isPlace_14 : decode cX9_isPlace 14 = .ok (.iconst 0, 1) := by decide +kernel
theorem dX9_isPlace_15 : decode cX9_isPlace 15 = .ok (.ireturn, 1) := by decide +kernel
def fX9_isPlace (a0 : Int32) (h : hp_T) : Option (Int32 × hp_T) := if a0 < 0 then (some ((0 : Int32), h)) else (if (90 : Int32) < a0 then (some ((0 : Int32), h)) else (some ((1 : Int32), h)))
set_option maxRecDepth 100000 in
set_option maxHeartbeats 4000000 in
theorem mX9_isPlace (l : Launch) (G : xr_G) (a0 : Int32)  (h h1 : hp_T) (r : Int32) (hF : fX9_isPlace a0 h = some (r, h1)) : xr_M l G yX9_isPlace cX9_isPlace 1 (xr_R 0 0) (some .boolean) [.int a0] h (xr_Qi G r h1) := by
  refine xr_start rfl (Nat.le_of_ble_eq_true rfl) (fun K C => ?_)
  show xr_j l G K 1 h [(0, .int a0)] 0 []
  unfold fX9_isPlace at hF
  refine xr_iload_n C 0 dX9_isPlace_0 rfl rfl ?_
  refine xr_if_lt C 14 dX9_isPlace_1 (by decide) (fun c1 => ?_) (fun c1 => ?_)
  · have hF := fx_pos hF c1
    refine xr_iconst (v := 0) C dX9_isPlace_14 (by decide) ?_
    cases hF
    exact xr_zret C rfl dX9_isPlace_15
  · have hF := fx_neg hF c1
    refine xr_iload_n C 0 dX9_isPlace_4 rfl rfl ?_
    refine xr_bipush (v := 90) C dX9_isPlace_5 (by decide) ?_
    refine xr_icmp_gt C 14 dX9_isPlace_7 (by decide) (fun c7 => ?_) (fun c7 => ?_)
    · have hF := fx_pos hF c7
      refine xr_iconst (v := 0) C dX9_isPlace_14 (by decide) ?_
      cases hF
      exact xr_zret C rfl dX9_isPlace_15
    · have hF := fx_neg hF c7
      refine xr_iconst (v := 1) C dX9_isPlace_10 (by decide) ?_
      refine xr_goto C 15 dX9_isPlace_11 (by decide) ?_
      cases hF
      exact xr_zret C rfl dX9_isPlace_15
theorem dX9_stand_0 : decode cX9_stand 0 = .ok (.aload_n 0, 1) := by decide +kernel
theorem dX9_stand_1 : decode cX9_stand 1 = .ok (.iload_n 1, 1) := by decide +kernel
theorem dX9_stand_2 : decode cX9_stand 2 = .ok (.invokevirtual 99, 3) := by decide +kernel
theorem dX9_stand_5 : decode cX9_stand 5 = .ok (.ifCond .eq 25, 3) := by decide +kernel
theorem dX9_stand_8 : decode cX9_stand 8 = .ok (.iload_n 2, 1) := by decide +kernel
theorem dX9_stand_9 : decode cX9_stand 9 = .ok (.invokestatic 201, 3) := by decide +kernel
theorem dX9_stand_12 : decode cX9_stand 12 = .ok (.ifCond .eq 18, 3) := by decide +kernel
theorem dX9_stand_15 : decode cX9_stand 15 = .ok (.iload_n 3, 1) := by decide +kernel
theorem dX9_stand_16 : decode cX9_stand 16 = .ok (.invokestatic 283, 3) := by decide +kernel
theorem dX9_stand_19 : decode cX9_stand 19 = .ok (.ifCond .eq 11, 3) := by decide +kernel
theorem dX9_stand_22 : decode cX9_stand 22 = .ok (.iload 4, 2) := by decide +kernel
theorem dX9_stand_24 : decode cX9_stand 24 = .ok (.invokestatic 283, 3) := by decide +kernel
theorem dX9_stand_27 : decode cX9_stand 27 = .ok (.ifCond .ne 5, 3) := by decide +kernel
theorem dX9_stand_30 : decode cX9_stand 30 = .ok (.iconst 0, 1) := by decide +kernel
theorem dX9_stand_31 : decode cX9_stand 31 = .ok (.ireturn, 1) := by decide +kernel
theorem dX9_stand_32 : decode cX9_stand 32 = .ok (.aload_n 0, 1) := by decide +kernel
theorem dX9_stand_33 : decode cX9_stand 33 = .ok (.invokevirtual 254, 3) := by decide +kernel
theorem dX9_stand_36 : decode cX9_stand 36 = .ok (.aload_n 0, 1) := by decide +kernel
theorem dX9_stand_37 : decode cX9_stand 37 = .ok (.getfield 33, 3) := by decide +kernel
theorem dX9_stand_40 : decode cX9_stand 40 = .ok (.iload_n 1, 1) := by decide +kernel
theorem dX9_stand_41 : decode cX9_stand 41 = .ok (.invokevirtual 207, 3) := by decide +kernel
theorem dX9_stand_44 : decode cX9_stand 44 = .ok (.astore 5, 2) := by decide +kernel
theorem dX9_stand_46 : decode cX9_stand 46 = .ok (.aload 5, 2) := by decide +kernel
theorem dX9_stand_48 : decode cX9_stand 48 = .ok (.getfield 286, 3) := by decide +kernel
theorem dX9_stand_51 : decode cX9_stand 51 = .ok (.iload_n 2, 1) := by decide +kernel
theorem dX9_stand_52 : decode cX9_stand 52 = .ok (.iconst 1, 1) := by decide +kernel
theorem dX9_stand_53 : decode cX9_stand 53 = .ok (.isub, 1) := by decide +kernel
theorem dX9_stand_54 : decode cX9_stand 54 = .ok (.iload_n 3, 1) := by decide +kernel
theorem dX9_stand_55 : decode cX9_stand 55 = .ok (.iastore, 1) := by decide +kernel
theorem dX9_stand_56 : decode cX9_stand 56 = .ok (.aload 5, 2) := by decide +kernel
theorem dX9_stand_58 : decode cX9_stand 58 = .ok (.getfield 289, 3) := by decide +kernel
theorem dX9_stand_61 : decode cX9_stand 61 = .ok (.iload_n 2, 1) := by decide +kernel
theorem dX9_stand_62 : decode cX9_stand 62 = .ok (.iconst 1, 1) := by decide +kernel
theorem dX9_stand_63 : decode cX9_stand 63 = .ok (.isub, 1) := by decide +kernel
theorem dX9_stand_64 : decode cX9_stand 64 = .ok (.iload 4, 2) := by decide +kernel
theorem dX9_stand_66 : decode cX9_stand 66 = .ok (.iastore, 1) := by decide +kernel
theorem dX9_stand_67 : decode cX9_stand 67 = .ok (.iconst 1, 1) := by decide +kernel
theorem dX9_stand_68 : decode cX9_stand 68 = .ok (.ireturn, 1) := by decide +kernel
def fX9_stand (a0 : Nat) (a1 : Int32) (a2 : Int32) (a3 : Int32) (a4 : Int32) (h : hp_T) : Option (Int32 × hp_T) := fx_b2 (fX9_isSide a0 a1 h) fun (r2 : Int32) (h2 : hp_T) => if r2 = 0 then (some ((0 : Int32), h2)) else (fx_b2 (fX9_isSpot a2 h2) fun (r9 : Int32) (h9 : hp_T) => if r9 = 0 then (some ((0 : Int32), h9)) else (fx_b2 (fX9_isPlace a3 h9) fun (r16 : Int32) (h16 : hp_T) => if r16 = 0 then (some ((0 : Int32), h16)) else (fx_b2 (fX9_isPlace a4 h16) fun (r24 : Int32) (h24 : hp_T) => if r24 = 0 then (some ((0 : Int32), h24)) else (fx_b1 (fX9_remember a0 h24) fun (h33 : hp_T) => fx_b2 (fX1_team (h33.2.2 a0 3) a1 h33) fun (r41 : Nat) (h41 : hp_T) => fx_g (fx_in (a2 - (1 : Int32)) 6) (fx_let (hp_sI h41 (h41.2.2 r41 2) (fx_ix (a2 - (1 : Int32))) a3) fun (h55 : hp_T) => fx_g (fx_in (a2 - (1 : Int32)) 6) (fx_let (hp_sI h55 (h55.2.2 r41 3) (fx_ix (a2 - (1 : Int32))) a4) fun (h66 : hp_T) => some ((1 : Int32), h66)))))))
set_option maxRecDepth 100000 in
set_option maxHeartbeats 4000000 in
theorem mX9_stand (l : Launch) (G : xr_G) (a0 : Nat) (a1 : Int32) (a2 : Int32) (a3 : Int32) (a4 : Int32) (ta0 : hp_sh a0 = (9, 0)) (h h1 : hp_T) (r : Int32) (hF : fX9_stand a0 a1 a2 a3 a4 h = some (r, h1)) : xr_M l G yX9_stand cX9_stand 6 (xr_R 4 122) (some .boolean) [.ref (G.2.2.1 a0), .int a1, .int a2, .int a3, .int a4] h (xr_Qi G r h1) := by
  refine xr_start rfl (Nat.le_of_ble_eq_true rfl) (fun K C => ?_)
  show xr_j l G K 6 h [(0, .ref (G.2.2.1 a0)), (1, .int a1), (2, .int a2), (3, .int a3), (4, .int a4)] 0 []
  unfold fX9_stand at hF
  refine xr_aload_n C 0 dX9_stand_0 rfl rfl ?_
  refine xr_iload_n C 1 dX9_stand_1 rfl rfl ?_
  obtain ⟨r2, h2, e2, hF⟩ := fx_b2E hF
  refine xr_callVi C mvX9_99 [.int a1] [] (mX9_isSide l G a0 a1 ta0 h h2 r2 e2) ta0 (by decide) vc9 rfl ⟨rfl, rfl, (Nat.le_of_ble_eq_true rfl), (Nat.le_of_ble_eq_true rfl)⟩ rfl (Nat.le_of_ble_eq_true rfl) dX9_stand_2 ?_
  refine xr_if_eq C 30 dX9_stand_5 (by decide) (fun c5 => ?_) (fun c5 => ?_)
  · have hF := fx_pos hF c5
    refine xr_iconst (v := 0) C dX9_stand_30 (by decide) ?_
    cases hF
    exact xr_zret C rfl dX9_stand_31
  · have hF := fx_neg hF c5
    refine xr_iload_n C 2 dX9_stand_8 rfl rfl ?_
    obtain ⟨r9, h9, e9, hF⟩ := fx_b2E hF
    refine xr_callSi C mvX9_201 [.int a2] [] (mX9_isSpot l G a2  h2 h9 r9 e9) rfl ⟨rfl, rfl, (Nat.le_of_ble_eq_true rfl), (Nat.le_of_ble_eq_true rfl)⟩ rfl (Nat.le_of_ble_eq_true rfl) dX9_stand_9 ?_
    refine xr_if_eq C 30 dX9_stand_12 (by decide) (fun c12 => ?_) (fun c12 => ?_)
    · have hF := fx_pos hF c12
      refine xr_iconst (v := 0) C dX9_stand_30 (by decide) ?_
      cases hF
      exact xr_zret C rfl dX9_stand_31
    · have hF := fx_neg hF c12
      refine xr_iload_n C 3 dX9_stand_15 rfl rfl ?_
      obtain ⟨r16, h16, e16, hF⟩ := fx_b2E hF
      refine xr_callSi C mvX9_283 [.int a3] [] (mX9_isPlace l G a3  h9 h16 r16 e16) rfl ⟨rfl, rfl, (Nat.le_of_ble_eq_true rfl), (Nat.le_of_ble_eq_true rfl)⟩ rfl (Nat.le_of_ble_eq_true rfl) dX9_stand_16 ?_
      refine xr_if_eq C 30 dX9_stand_19 (by decide) (fun c19 => ?_) (fun c19 => ?_)
      · have hF := fx_pos hF c19
        refine xr_iconst (v := 0) C dX9_stand_30 (by decide) ?_
        cases hF
        exact xr_zret C rfl dX9_stand_31
      · have hF := fx_neg hF c19
        refine xr_iload C 4 dX9_stand_22 rfl ?_
        obtain ⟨r24, h24, e24, hF⟩ := fx_b2E hF
        refine xr_callSi C mvX9_283 [.int a4] [] (mX9_isPlace l G a4  h16 h24 r24 e24) rfl ⟨rfl, rfl, (Nat.le_of_ble_eq_true rfl), (Nat.le_of_ble_eq_true rfl)⟩ rfl (Nat.le_of_ble_eq_true rfl) dX9_stand_24 ?_
        refine xr_if_ne C 32 dX9_stand_27 (by decide) (fun c27 => ?_) (fun c27 => ?_)
        · have hF := fx_neg hF c27
          refine xr_aload_n C 0 dX9_stand_32 rfl rfl ?_
          obtain ⟨h33, e33, hF⟩ := fx_b1E hF
          refine xr_callVv C mvX9_254 [] [] (mX9_remember l G a0 ta0 h24 h33 e33) ta0 (by decide) vc9 rfl ⟨rfl, rfl, (Nat.le_of_ble_eq_true rfl), (Nat.le_of_ble_eq_true rfl)⟩ rfl (Nat.le_of_ble_eq_true rfl) dX9_stand_33 ?_
          refine xr_aload_n C 0 dX9_stand_36 rfl rfl ?_
          refine xr_getr C flX9_33 rfl (by decide) dX9_stand_37 ta0 (fun t37 => ?_)
          refine xr_iload_n C 1 dX9_stand_40 rfl rfl ?_
          obtain ⟨r41, h41, e41, hF⟩ := fx_b2E hF
          refine xr_callVr C mvX9_207 [.int a1] [] (mX1_team l G (h33.2.2 a0 3) a1 t37 h33 h41 r41 e41) t37 (by decide) vc1 rfl ⟨rfl, rfl, (Nat.le_of_ble_eq_true rfl), (Nat.le_of_ble_eq_true rfl)⟩ rfl (Nat.le_of_ble_eq_true rfl) dX9_stand_41 (fun t41 => ?_)
          refine xr_astore C [(5, .ref (G.2.2.1 r41)), (0, .ref (G.2.2.1 a0)), (1, .int a1), (2, .int a2), (3, .int a3), (4, .int a4)] dX9_stand_44 (Nat.le_of_ble_eq_true rfl) rfl ?_
          refine xr_aload C 0 dX9_stand_46 rfl ?_
          refine xr_getr C flX9_286 rfl (by decide) dX9_stand_48 t41 (fun t48 => ?_)
          refine xr_iload_n C 3 dX9_stand_51 rfl rfl ?_
          refine xr_iconst (v := 1) C dX9_stand_52 (by decide) ?_
          refine xr_isub C dX9_stand_53 ?_
          refine xr_iload_n C 4 dX9_stand_54 rfl rfl ?_
          obtain ⟨g55, hF⟩ := fx_gE hF
          refine xr_iast C dX9_stand_55 t48 g55 (fun h55 e55 => ?_)
          have hF := fx_letE hF h55 e55
          refine xr_aload C 0 dX9_stand_56 rfl ?_
          refine xr_getr C flX9_289 rfl (by decide) dX9_stand_58 t41 (fun t58 => ?_)
          refine xr_iload_n C 3 dX9_stand_61 rfl rfl ?_
          refine xr_iconst (v := 1) C dX9_stand_62 (by decide) ?_
          refine xr_isub C dX9_stand_63 ?_
          refine xr_iload C 5 dX9_stand_64 rfl ?_
          obtain ⟨g66, hF⟩ := fx_gE hF
          refine xr_iast C dX9_stand_66 t58 g66 (fun h66 e66 => ?_)
          have hF := fx_letE hF h66 e66
          refine xr_iconst (v := 1) C dX9_stand_67 (by decide) ?_
          cases hF
          exact xr_zret C rfl dX9_stand_68
        · have hF := fx_pos hF c27
          refine xr_iconst (v := 0) C dX9_stand_30 (by decide) ?_
          cases hF
          exact xr_zret C rfl dX9_stand_31
theorem dX9_undo_0 : decode cX9_undo 0 = .ok (.aload_n 0, 1) := by decide +kernel
theorem dX9_undo_1 : decode cX9_undo 1 = .ok (.getfield 134, 3) := by decide +kernel
theorem dX9_undo_4 : decode cX9_undo 4 = .ok (.ifCond .ne 5, 3) := by decide +kernel
theorem dX9_undo_7 : decode cX9_undo 7 = .ok (.iconst (-1), 1) := by decide +kernel
theorem dX9_undo_8 : decode cX9_undo 8 = .ok (.ireturn, 1) := by decide +kernel
theorem dX9_undo_9 : decode cX9_undo 9 = .ok (.aload_n 0, 1) := by decide +kernel
theorem dX9_undo_10 : decode cX9_undo 10 = .ok (.dup, 1) := by decide +kernel
theorem dX9_undo_11 : decode cX9_undo 11 = .ok (.getfield 134, 3) := by decide +kernel
theorem dX9_undo_14 : decode cX9_undo 14 = .ok (.iconst 1, 1) := by decide +kernel
theorem dX9_undo_15 : decode cX9_undo 15 = .ok (.isub, 1) := by decide +kernel
theorem dX9_undo_16 : decode cX9_undo 16 = .ok (.putfield 134, 3) := by decide +kernel
theorem dX9_undo_19 : decode cX9_undo 19 = .ok (.aload_n 0, 1) := by decide +kernel
theorem dX9_undo_20 : decode cX9_undo 20 = .ok (.aload_n 0, 1) := by decide +kernel
theorem dX9_undo_21 : decode cX9_undo 21 = .ok (.getfield 137, 3) := by decide +kernel
theorem dX9_undo_24 : decode cX9_undo 24 = .ok (.bipush 20, 2) := by decide +kernel
theorem dX9_undo_26 : decode cX9_undo 26 = .ok (.iadd, 1) := by decide +kernel
theorem dX9_undo_27 : decode cX9_undo 27 = .ok (.iconst 1, 1) := by decide +kernel
theorem dX9_undo_28 : decode cX9_undo 28 = .ok (.isub, 1) := by decide +kernel
theorem dX9_undo_29 : decode cX9_undo 29 = .ok (.bipush 20, 2) := by decide +kernel
theorem dX9_undo_31 : decode cX9_undo 31 = .ok (.irem, 1) := by decide +kernel
theorem dX9_undo_32 : decode cX9_undo 32 = .ok (.putfield 137, 3) := by decide +kernel
theorem dX9_undo_35 : decode cX9_undo 35 = .ok (.aload_n 0, 1) := by decide +kernel
theorem dX9_undo_36 : decode cX9_undo 36 = .ok (.getfield 33, 3) := by decide +kernel
theorem dX9_undo_39 : decode cX9_undo 39 = .ok (.aload_n 0, 1) := by decide +kernel
theorem dX9_undo_40 : decode cX9_undo 40 = .ok (.getfield 37, 3) := by decide +kernel
theorem dX9_undo_43 : decode cX9_undo 43 = .ok (.aload_n 0, 1) := by decide +kernel
theorem dX9_undo_44 : decode cX9_undo 44 = .ok (.getfield 137, 3) := by decide +kernel
theorem dX9_undo_47 : decode cX9_undo 47 = .ok (.aaload, 1) := by decide +kernel
theorem dX9_undo_48 : decode cX9_undo 48 = .ok (.invokevirtual 292, 3) := by decide +kernel
theorem dX9_undo_51 : decode cX9_undo 51 = .ok (.aload_n 0, 1) := by decide +kernel
theorem dX9_undo_52 : decode cX9_undo 52 = .ok (.invokevirtual 150, 3) := by decide +kernel
theorem dX9_undo_55 : decode cX9_undo 55 = .ok (.aload_n 0, 1) := by decide +kernel
theorem dX9_undo_56 : decode cX9_undo 56 = .ok (.getfield 134, 3) := by decide +kernel
theorem dX9_undo_59 : decode cX9_undo 59 = .ok (.ireturn, 1) := by decide +kernel
def fX9_undo (a0 : Nat) (h : hp_T) : Option (Int32 × hp_T) := if (h.1 a0 15) = 0 then (some ((-1 : Int32), h)) else (fx_let (hp_sI h a0 15 ((h.1 a0 15) - (1 : Int32))) fun (h16 : hp_T) => fx_let (hp_sI h16 a0 16 (fx_rem (((h16.1 a0 16) + (20 : Int32)) - (1 : Int32)) (20 : Int32))) fun (h32 : hp_T) => fx_g (fx_in (h32.1 a0 16) 20) (fx_b1 (fX1_copyFrom (h32.2.2 a0 3) (h32.2.2 (h32.2.2 a0 4) (fx_ix (h32.1 a0 16))) h32) fun (h48 : hp_T) => fx_b1 (fX9_forgetSubBests a0 h48) fun (h52 : hp_T) => some ((h52.1 a0 15), h52)))
set_option maxRecDepth 100000 in
set_option maxHeartbeats 4000000 in
theorem mX9_undo (l : Launch) (G : xr_G) (a0 : Nat) (ta0 : hp_sh a0 = (9, 0)) (h h1 : hp_T) (r : Int32) (hF : fX9_undo a0 h = some (r, h1)) : xr_M l G yX9_undo cX9_undo 1 (xr_R 3 102) (some .int) [.ref (G.2.2.1 a0)] h (xr_Qi G r h1) := by
  refine xr_start rfl (Nat.le_of_ble_eq_true rfl) (fun K C => ?_)
  show xr_j l G K 1 h [(0, .ref (G.2.2.1 a0))] 0 []
  unfold fX9_undo at hF
  refine xr_aload_n C 0 dX9_undo_0 rfl rfl ?_
  refine xr_geti C flX9_134 rfl dX9_undo_1 ta0 ?_
  refine xr_if_ne C 9 dX9_undo_4 (by decide) (fun c4 => ?_) (fun c4 => ?_)
  · have hF := fx_neg hF c4
    refine xr_aload_n C 0 dX9_undo_9 rfl rfl ?_
    refine xr_dup C dX9_undo_10 rfl ?_
    refine xr_geti C flX9_134 rfl dX9_undo_11 ta0 ?_
    refine xr_iconst (v := 1) C dX9_undo_14 (by decide) ?_
    refine xr_isub C dX9_undo_15 ?_
    refine xr_puti C fpX9_134 rfl rfl rfl dX9_undo_16 ta0 (fun h16 e16 => ?_)
    have hF := fx_letE hF h16 e16
    refine xr_aload_n C 0 dX9_undo_19 rfl rfl ?_
    refine xr_aload_n C 0 dX9_undo_20 rfl rfl ?_
    refine xr_geti C flX9_137 rfl dX9_undo_21 ta0 ?_
    refine xr_bipush (v := 20) C dX9_undo_24 (by decide) ?_
    refine xr_iadd C dX9_undo_26 ?_
    refine xr_iconst (v := 1) C dX9_undo_27 (by decide) ?_
    refine xr_isub C dX9_undo_28 ?_
    refine xr_bipush (v := 20) C dX9_undo_29 (by decide) ?_
    refine xr_irem C dX9_undo_31 (by decide) ?_
    refine xr_puti C fpX9_137 rfl rfl rfl dX9_undo_32 ta0 (fun h32 e32 => ?_)
    have hF := fx_letE hF h32 e32
    refine xr_aload_n C 0 dX9_undo_35 rfl rfl ?_
    refine xr_getr C flX9_33 rfl (by decide) dX9_undo_36 ta0 (fun t36 => ?_)
    refine xr_aload_n C 0 dX9_undo_39 rfl rfl ?_
    refine xr_getr C flX9_37 rfl (by decide) dX9_undo_40 ta0 (fun t40 => ?_)
    refine xr_aload_n C 0 dX9_undo_43 rfl rfl ?_
    refine xr_geti C flX9_137 rfl dX9_undo_44 ta0 ?_
    obtain ⟨g47, hF⟩ := fx_gE hF
    refine xr_aald23 C dX9_undo_47 t40 g47 (fun t47 => ?_)
    obtain ⟨h48, e48, hF⟩ := fx_b1E hF
    refine xr_callVv C mvX9_292 [.ref (G.2.2.1 (h32.2.2 (h32.2.2 a0 4) (fx_ix (h32.1 a0 16))))] [] (mX1_copyFrom l G (h32.2.2 a0 3) (h32.2.2 (h32.2.2 a0 4) (fx_ix (h32.1 a0 16))) t36 t47 h32 h48 e48) t36 (by decide) vc1 rfl ⟨rfl, rfl, (Nat.le_of_ble_eq_true rfl), (Nat.le_of_ble_eq_true rfl)⟩ rfl (Nat.le_of_ble_eq_true rfl) dX9_undo_48 ?_
    refine xr_aload_n C 0 dX9_undo_51 rfl rfl ?_
    obtain ⟨h52, e52, hF⟩ := fx_b1E hF
    refine xr_callVv C mvX9_150 [] [] (mX9_forgetSubBests l G a0 ta0 h48 h52 e52) ta0 (by decide) vc9 rfl ⟨rfl, rfl, (Nat.le_of_ble_eq_true rfl), (Nat.le_of_ble_eq_true rfl)⟩ rfl (Nat.le_of_ble_eq_true rfl) dX9_undo_52 ?_
    refine xr_aload_n C 0 dX9_undo_55 rfl rfl ?_
    refine xr_geti C flX9_134 rfl dX9_undo_56 ta0 ?_
    cases hF
    exact xr_iret C dX9_undo_59
  · have hF := fx_pos hF c4
    refine xr_iconst (v := -1) C dX9_undo_7 (by decide) ?_
    cases hF
    exact xr_iret C dX9_undo_8
theorem dX9_maySub_0 : decode cX9_maySub 0 = .ok (.aload_n 0, 1) := by decide +kernel
theorem dX9_maySub_1 : decode cX9_maySub 1 = .ok (.iload_n 1, 1) := by decide +kernel
theorem dX9_maySub_2 : decode cX9_maySub 2 = .ok (.iload_n 2, 1) := by decide +kernel
theorem dX9_maySub_3 : decode cX9_maySub 3 = .ok (.iload_n 3, 1) := by decide +kernel
theorem dX9_maySub_4 : decode cX9_maySub 4 = .ok (.invokevirtual 267, 3) := by decide +kernel
theorem dX9_maySub_7 : decode cX9_maySub 7 = .ok (.ireturn, 1) := by decide +kernel
def fX9_maySub (a0 : Nat) (a1 : Int32) (a2 : Int32) (a3 : Int32) (h : hp_T) : Option (Int32 × hp_T) := fx_b2 (fX9_judgeSub a0 a1 a2 a3 h) fun (r4 : Int32) (h4 : hp_T) => some (r4, h4)
set_option maxRecDepth 100000 in
set_option maxHeartbeats 4000000 in
theorem mX9_maySub (l : Launch) (G : xr_G) (a0 : Nat) (a1 : Int32) (a2 : Int32) (a3 : Int32) (ta0 : hp_sh a0 = (9, 0)) (h h1 : hp_T) (r : Int32) (hF : fX9_maySub a0 a1 a2 a3 h = some (r, h1)) : xr_M l G yX9_maySub cX9_maySub 4 (xr_R 4 94) (some .int) [.ref (G.2.2.1 a0), .int a1, .int a2, .int a3] h (xr_Qi G r h1) := by
  refine xr_start rfl (Nat.le_of_ble_eq_true rfl) (fun K C => ?_)
  show xr_j l G K 4 h [(0, .ref (G.2.2.1 a0)), (1, .int a1), (2, .int a2), (3, .int a3)] 0 []
  unfold fX9_maySub at hF
  refine xr_aload_n C 0 dX9_maySub_0 rfl rfl ?_
  refine xr_iload_n C 1 dX9_maySub_1 rfl rfl ?_
  refine xr_iload_n C 2 dX9_maySub_2 rfl rfl ?_
  refine xr_iload_n C 3 dX9_maySub_3 rfl rfl ?_
  obtain ⟨r4, h4, e4, hF⟩ := fx_b2E hF
  refine xr_callVi C mvX9_267 [.int a1, .int a2, .int a3] [] (mX9_judgeSub l G a0 a1 a2 a3 ta0 h h4 r4 e4) ta0 (by decide) vc9 rfl ⟨rfl, rfl, (Nat.le_of_ble_eq_true rfl), (Nat.le_of_ble_eq_true rfl)⟩ rfl (Nat.le_of_ble_eq_true rfl) dX9_maySub_4 ?_
  cases hF
  exact xr_iret C dX9_maySub_7
theorem dX9_mayMove_0 : decode cX9_mayMove 0 = .ok (.aload_n 0, 1) := by decide +kernel
theorem dX9_mayMove_1 : decode cX9_mayMove 1 = .ok (.iload_n 1, 1) := by decide +kernel
theorem dX9_mayMove_2 : decode cX9_mayMove 2 = .ok (.iload_n 2, 1) := by decide +kernel
theorem dX9_mayMove_3 : decode cX9_mayMove 3 = .ok (.invokevirtual 277, 3) := by decide +kernel
theorem dX9_mayMove_6 : decode cX9_mayMove 6 = .ok (.ireturn, 1) := by decide +kernel
def fX9_mayMove (a0 : Nat) (a1 : Int32) (a2 : Int32) (h : hp_T) : Option (Int32 × hp_T) := fx_b2 (fX9_judgeMove a0 a1 a2 h) fun (r3 : Int32) (h3 : hp_T) => some (r3, h3)
set_option maxRecDepth 100000 in
set_option maxHeartbeats 4000000 in
theorem mX9_mayMove (l : Launch) (G : xr_G) (a0 : Nat) (a1 : Int32) (a2 : Int32) (ta0 : hp_sh a0 = (9, 0)) (h h1 : hp_T) (r : Int32) (hF : fX9_mayMove a0 a1 a2 h = some (r, h1)) : xr_M l G yX9_mayMove cX9_mayMove 3 (xr_R 3 65) (some .int) [.ref (G.2.2.1 a0), .int a1, .int a2] h (xr_Qi G r h1) := by
  refine xr_start rfl (Nat.le_of_ble_eq_true rfl) (fun K C => ?_)
  show xr_j l G K 3 h [(0, .ref (G.2.2.1 a0)), (1, .int a1), (2, .int a2)] 0 []
  unfold fX9_mayMove at hF
  refine xr_aload_n C 0 dX9_mayMove_0 rfl rfl ?_
  refine xr_iload_n C 1 dX9_mayMove_1 rfl rfl ?_
  refine xr_iload_n C 2 dX9_mayMove_2 rfl rfl ?_
  obtain ⟨r3, h3, e3, hF⟩ := fx_b2E hF
  refine xr_callVi C mvX9_277 [.int a1, .int a2] [] (mX9_judgeMove l G a0 a1 a2 ta0 h h3 r3 e3) ta0 (by decide) vc9 rfl ⟨rfl, rfl, (Nat.le_of_ble_eq_true rfl), (Nat.le_of_ble_eq_true rfl)⟩ rfl (Nat.le_of_ble_eq_true rfl) dX9_mayMove_3 ?_
  cases hF
  exact xr_iret C dX9_mayMove_6
theorem dX9_subsNow_0 : decode cX9_subsNow 0 = .ok (.aload_n 0, 1) := by decide +kernel
theorem dX9_subsNow_1 : decode cX9_subsNow 1 = .ok (.iload_n 1, 1) := by decide +kernel
theorem dX9_subsNow_2 : decode cX9_subsNow 2 = .ok (.invokevirtual 99, 3) := by decide +kernel
theorem dX9_subsNow_5 : decode cX9_subsNow 5 = .ok (.ifCond .ne 5, 3) := by decide +kernel
theorem dX9_subsNow_8 : decode cX9_subsNow 8 = .ok (.iconst (-1), 1) := by decide +kernel
theorem dX9_subsNow_9 : decode cX9_subsNow 9 = .ok (.ireturn, 1) := by decide +kernel
theorem dX9_subsNow_10 : decode cX9_subsNow 10 = .ok (.aload_n 0, 1) := by decide +kernel
theorem dX9_subsNow_11 : decode cX9_subsNow 11 = .ok (.getfield 68, 3) := by decide +kernel
theorem dX9_subsNow_14 : decode cX9_subsNow 14 = .ok (.iload_n 1, 1) := by decide +kernel
theorem dX9_subsNow_15 : decode cX9_subsNow 15 = .ok (.invokevirtual 103, 3) := by decide +kernel
theorem dX9_subsNow_18 : decode cX9_subsNow 18 = .ok (.getfield 130, 3) := by decide +kernel
theorem dX9_subsNow_21 : decode cX9_subsNow 21 = .ok (.istore_n 2, 1) := by decide +kernel
theorem dX9_subsNow_22 : decode cX9_subsNow 22 = .ok (.iconst 0, 1) := by decide +kernel
theorem dX9_subsNow_23 : decode cX9_subsNow 23 = .ok (.istore_n 3, 1) := by decide +kernel
theorem dX9_subsNow_24 : decode cX9_subsNow 24 = .ok (.iconst 0, 1) := by decide +kernel
theorem dX9_subsNow_25 : decode cX9_subsNow 25 = .ok (.istore 4, 2) := by decide +kernel
theorem dX9_subsNow_27 : decode cX9_subsNow 27 = .ok (.iload 4, 2) := by decide +kernel
theorem dX9_subsNow_29 : decode cX9_subsNow 29 = .ok (.iload_n 2, 1) := by decide +kernel
theorem dX9_subsNow_30 : decode cX9_subsNow 30 = .ok (.if_icmp .ge 39, 3) := by decide +kernel
theorem dX9_subsNow_33 : decode cX9_subsNow 33 = .ok (.iconst 0, 1) := by decide +kernel
theorem dX9_subsNow_34 : decode cX9_subsNow 34 = .ok (.istore 5, 2) := by decide +kernel
theorem dX9_subsNow_36 : decode cX9_subsNow 36 = .ok (.iload 5, 2) := by decide +kernel
theorem dX9_subsNow_38 : decode cX9_subsNow 38 = .ok (.iload_n 2, 1) := by decide +kernel
theorem dX9_subsNow_39 : decode cX9_subsNow 39 = .ok (.if_icmp .ge 24, 3) := by decide +kernel
theorem dX9_subsNow_42 : decode cX9_subsNow 42 = .ok (.aload_n 0, 1) := by decide +kernel
theorem dX9_subsNow_43 : decode cX9_subsNow 43 = .ok (.iload_n 1, 1) := by decide +kernel
theorem dX9_subsNow_44 : decode cX9_subsNow 44 = .ok (.iload 4, 2) := by decide +kernel
theorem dX9_subsNow_46 : decode cX9_subsNow 46 = .ok (.iload 5, 2) := by decide +kernel
theorem dX9_subsNow_48 : decode cX9_subsNow 48 = .ok (.invokevirtual 267, 3) := by decide +kernel
theorem dX9_subsNow_51 : decode cX9_subsNow 51 = .ok (.ifCond .ne 6, 3) := by decide +kernel
theorem dX9_subsNow_54 : decode cX9_subsNow 54 = .ok (.iinc 3 1, 3) := by decide +kernel
theorem dX9_subsNow_57 : decode cX9_subsNow 57 = .ok (.iinc 5 1, 3) := by decide +kernel
theorem dX9_subsNow_60 : decode cX9_subsNow 60 = .ok (.goto (-24), 3) := by decide +kernel
theorem dX9_subsNow_63 : decode cX9_subsNow 63 = .ok (.iinc 4 1, 3) := by decide +kernel
theorem dX9_subsNow_66 : decode cX9_subsNow 66 = .ok (.goto (-39), 3) := by decide +kernel
theorem dX9_subsNow_69 : decode cX9_subsNow 69 = .ok (.iload_n 3, 1) := by decide +kernel
theorem dX9_subsNow_70 : decode cX9_subsNow 70 = .ok (.ireturn, 1) := by decide +kernel
def fX9_subsNow_57 (k27 : Nat → Int32 → Int32 → Int32 → Int32 → hp_T → Option (Int32 × hp_T)) (k36 : Nat → Int32 → Int32 → Int32 → Int32 → Int32 → hp_T → Option (Int32 × hp_T)) (a0 : Nat) (a1 : Int32) (a2 : Int32) (a3 : Int32) (a4 : Int32) (a5 : Int32) (h : hp_T) : Option (Int32 × hp_T) := fx_let (a5 + (1 : Int32)) fun (x57 : Int32) => k36 a0 a1 a2 a3 a4 x57 h
set_option maxRecDepth 100000 in
set_option maxHeartbeats 4000000 in
theorem bX9_subsNow_57 {l : Launch} {G : xr_G} {K : xr_K} {r : Int32} {h1 : hp_T} (C : xr_C G K cX9_subsNow RX9 6 (xr_R 4 94) (some .int) (some (xr_Qi G r h1))) (k27 : Nat → Int32 → Int32 → Int32 → Int32 → hp_T → Option (Int32 × hp_T)) (j27 : ∀ (a0 : Nat) (a1 : Int32) (a2 : Int32) (a3 : Int32) (a4 : Int32) (ta0 : hp_sh a0 = (9, 0)) (h : hp_T), k27 a0 a1 a2 a3 a4 h = some (r, h1) → xr_j l G K 6 h [(0, .ref (G.2.2.1 a0)), (1, .int a1), (2, .int a2), (3, .int a3), (4, .int a4)] 27 []) (k36 : Nat → Int32 → Int32 → Int32 → Int32 → Int32 → hp_T → Option (Int32 × hp_T)) (j36 : ∀ (a0 : Nat) (a1 : Int32) (a2 : Int32) (a3 : Int32) (a4 : Int32) (a5 : Int32) (ta0 : hp_sh a0 = (9, 0)) (h : hp_T), k36 a0 a1 a2 a3 a4 a5 h = some (r, h1) → xr_j l G K 6 h [(0, .ref (G.2.2.1 a0)), (1, .int a1), (2, .int a2), (3, .int a3), (4, .int a4), (5, .int a5)] 36 []) (a0 : Nat) (a1 : Int32) (a2 : Int32) (a3 : Int32) (a4 : Int32) (a5 : Int32) (ta0 : hp_sh a0 = (9, 0)) (h : hp_T) (hF : fX9_subsNow_57 k27 k36 a0 a1 a2 a3 a4 a5 h = some (r, h1)) : xr_j l G K 6 h [(0, .ref (G.2.2.1 a0)), (1, .int a1), (2, .int a2), (3, .int a3), (4, .int a4), (5, .int a5)] 57 [] := by
  unfold fX9_subsNow_57 at hF
  obtain ⟨x57, e57⟩ : ∃ y : Int32, y = (a5 + (1 : Int32)) := ⟨_, rfl⟩
  have hF := fx_letE hF x57 e57
  refine xr_iinc C x57 5 [(5, .int x57), (0, .ref (G.2.2.1 a0)), (1, .int a1), (2, .int a2), (3, .int a3), (4, .int a4)] dX9_subsNow_57 rfl (by rw [e57]; rfl) (Nat.le_of_ble_eq_true rfl) rfl ?_
  refine xr_goto C 36 dX9_subsNow_60 (by decide) ?_
  refine xr_sub [1, 2, 3, 4, 5, 0] [(0, .ref (G.2.2.1 a0)), (1, .int a1), (2, .int a2), (3, .int a3), (4, .int a4), (5, .int x57)] rfl ?_
  exact j36 a0 a1 a2 a3 a4 x57 ta0 h hF
def fX9_subsNow_36 (k27 : Nat → Int32 → Int32 → Int32 → Int32 → hp_T → Option (Int32 × hp_T)) : Nat → Nat → Int32 → Int32 → Int32 → Int32 → Int32 → hp_T → Option (Int32 × hp_T)
  | 0, _, _, _, _, _, _, _ => none
  | n + 1, a0, a1, a2, a3, a4, a5, h => if a2 ≤ a5 then (fx_let (a4 + (1 : Int32)) fun (x63 : Int32) => k27 a0 a1 a2 a3 x63 h) else (fx_b2 (fX9_judgeSub a0 a1 a4 a5 h) fun (r48 : Int32) (h48 : hp_T) => if r48 = 0 then (fx_let (a3 + (1 : Int32)) fun (x54 : Int32) => fX9_subsNow_57 k27 (fX9_subsNow_36 k27 n) a0 a1 a2 x54 a4 a5 h48) else (fX9_subsNow_57 k27 (fX9_subsNow_36 k27 n) a0 a1 a2 a3 a4 a5 h48))
set_option maxRecDepth 100000 in
set_option maxHeartbeats 4000000 in
theorem bX9_subsNow_36 {l : Launch} {G : xr_G} {K : xr_K} {r : Int32} {h1 : hp_T} (C : xr_C G K cX9_subsNow RX9 6 (xr_R 4 94) (some .int) (some (xr_Qi G r h1))) (k27 : Nat → Int32 → Int32 → Int32 → Int32 → hp_T → Option (Int32 × hp_T)) (j27 : ∀ (a0 : Nat) (a1 : Int32) (a2 : Int32) (a3 : Int32) (a4 : Int32) (ta0 : hp_sh a0 = (9, 0)) (h : hp_T), k27 a0 a1 a2 a3 a4 h = some (r, h1) → xr_j l G K 6 h [(0, .ref (G.2.2.1 a0)), (1, .int a1), (2, .int a2), (3, .int a3), (4, .int a4)] 27 []) : ∀ (n : Nat) (a0 : Nat) (a1 : Int32) (a2 : Int32) (a3 : Int32) (a4 : Int32) (a5 : Int32) (ta0 : hp_sh a0 = (9, 0)) (h : hp_T), fX9_subsNow_36 k27 n a0 a1 a2 a3 a4 a5 h = some (r, h1) → xr_j l G K 6 h [(0, .ref (G.2.2.1 a0)), (1, .int a1), (2, .int a2), (3, .int a3), (4, .int a4), (5, .int a5)] 36 [] := by
  intro n
  induction n with
  | zero =>
    intro a0 a1 a2 a3 a4 a5 ta0 h hF
    cases hF
  | succ n ih =>
    intro a0 a1 a2 a3 a4 a5 ta0 h hF
    rw [fX9_subsNow_36] at hF
    refine xr_iload C 5 dX9_subsNow_36 rfl ?_
    refine xr_iload_n C 2 dX9_subsNow_38 rfl rfl ?_
    refine xr_icmp_ge C 63 dX9_subsNow_39 (by decide) (fun c39 => ?_) (fun c39 => ?_)
    · have hF := fx_pos hF c39
      obtain ⟨x63, e63⟩ : ∃ y : Int32, y = (a4 + (1 : Int32)) := ⟨_, rfl⟩
      have hF := fx_letE hF x63 e63
      refine xr_iinc C x63 4 [(4, .int x63), (0, .ref (G.2.2.1 a0)), (1, .int a1), (2, .int a2), (3, .int a3), (5, .int a5)] dX9_subsNow_63 rfl (by rw [e63]; rfl) (Nat.le_of_ble_eq_true rfl) rfl ?_
      refine xr_goto C 27 dX9_subsNow_66 (by decide) ?_
      refine xr_sub [1, 2, 3, 4, 0] [(0, .ref (G.2.2.1 a0)), (1, .int a1), (2, .int a2), (3, .int a3), (4, .int x63)] rfl ?_
      exact j27 a0 a1 a2 a3 x63 ta0 h hF
    · have hF := fx_neg hF c39
      refine xr_aload_n C 0 dX9_subsNow_42 rfl rfl ?_
      refine xr_iload_n C 1 dX9_subsNow_43 rfl rfl ?_
      refine xr_iload C 4 dX9_subsNow_44 rfl ?_
      refine xr_iload C 5 dX9_subsNow_46 rfl ?_
      obtain ⟨r48, h48, e48, hF⟩ := fx_b2E hF
      refine xr_callVi C mvX9_267 [.int a1, .int a4, .int a5] [] (mX9_judgeSub l G a0 a1 a4 a5 ta0 h h48 r48 e48) ta0 (by decide) vc9 rfl ⟨rfl, rfl, (Nat.le_of_ble_eq_true rfl), (Nat.le_of_ble_eq_true rfl)⟩ rfl (Nat.le_of_ble_eq_true rfl) dX9_subsNow_48 ?_
      refine xr_if_ne C 57 dX9_subsNow_51 (by decide) (fun c51 => ?_) (fun c51 => ?_)
      · have hF := fx_neg hF c51
        exact bX9_subsNow_57 C k27 j27 (fX9_subsNow_36 k27 n) (fun a0 a1 a2 a3 a4 a5 ta0 h hF => ih a0 a1 a2 a3 a4 a5 ta0 h hF)  a0 a1 a2 a3 a4 a5 ta0 h48 hF
      · have hF := fx_pos hF c51
        obtain ⟨x54, e54⟩ : ∃ y : Int32, y = (a3 + (1 : Int32)) := ⟨_, rfl⟩
        have hF := fx_letE hF x54 e54
        refine xr_iinc C x54 3 [(3, .int x54), (0, .ref (G.2.2.1 a0)), (1, .int a1), (2, .int a2), (4, .int a4), (5, .int a5)] dX9_subsNow_54 rfl (by rw [e54]; rfl) (Nat.le_of_ble_eq_true rfl) rfl ?_
        refine xr_sub [1, 2, 3, 0, 4, 5] [(0, .ref (G.2.2.1 a0)), (1, .int a1), (2, .int a2), (3, .int x54), (4, .int a4), (5, .int a5)] rfl ?_
        exact bX9_subsNow_57 C k27 j27 (fX9_subsNow_36 k27 n) (fun a0 a1 a2 a3 a4 a5 ta0 h hF => ih a0 a1 a2 a3 a4 a5 ta0 h hF)  a0 a1 a2 x54 a4 a5 ta0 h48 hF
def fX9_subsNow_27  : Nat → Nat → Int32 → Int32 → Int32 → Int32 → hp_T → Option (Int32 × hp_T)
  | 0, _, _, _, _, _, _ => none
  | n + 1, a0, a1, a2, a3, a4, h => if a2 ≤ a4 then (some (a3, h)) else (fX9_subsNow_36 (fX9_subsNow_27 n) fx_N a0 a1 a2 a3 a4 (0 : Int32) h)
set_option maxRecDepth 100000 in
set_option maxHeartbeats 4000000 in
theorem bX9_subsNow_27 {l : Launch} {G : xr_G} {K : xr_K} {r : Int32} {h1 : hp_T} (C : xr_C G K cX9_subsNow RX9 6 (xr_R 4 94) (some .int) (some (xr_Qi G r h1)))  : ∀ (n : Nat) (a0 : Nat) (a1 : Int32) (a2 : Int32) (a3 : Int32) (a4 : Int32) (ta0 : hp_sh a0 = (9, 0)) (h : hp_T), fX9_subsNow_27 n a0 a1 a2 a3 a4 h = some (r, h1) → xr_j l G K 6 h [(0, .ref (G.2.2.1 a0)), (1, .int a1), (2, .int a2), (3, .int a3), (4, .int a4)] 27 [] := by
  intro n
  induction n with
  | zero =>
    intro a0 a1 a2 a3 a4 ta0 h hF
    cases hF
  | succ n ih =>
    intro a0 a1 a2 a3 a4 ta0 h hF
    rw [fX9_subsNow_27] at hF
    refine xr_iload C 4 dX9_subsNow_27 rfl ?_
    refine xr_iload_n C 2 dX9_subsNow_29 rfl rfl ?_
    refine xr_icmp_ge C 69 dX9_subsNow_30 (by decide) (fun c30 => ?_) (fun c30 => ?_)
    · have hF := fx_pos hF c30
      refine xr_iload_n C 3 dX9_subsNow_69 rfl rfl ?_
      cases hF
      exact xr_iret C dX9_subsNow_70
    · have hF := fx_neg hF c30
      refine xr_iconst (v := 0) C dX9_subsNow_33 (by decide) ?_
      refine xr_istore C [(5, .int (0 : Int32)), (0, .ref (G.2.2.1 a0)), (1, .int a1), (2, .int a2), (3, .int a3), (4, .int a4)] dX9_subsNow_34 (Nat.le_of_ble_eq_true rfl) rfl ?_
      refine xr_sub [1, 2, 3, 4, 5, 0] [(0, .ref (G.2.2.1 a0)), (1, .int a1), (2, .int a2), (3, .int a3), (4, .int a4), (5, .int (0 : Int32))] rfl ?_
      exact bX9_subsNow_36 C (fX9_subsNow_27 n) (fun a0 a1 a2 a3 a4 ta0 h hF => ih a0 a1 a2 a3 a4 ta0 h hF) fx_N a0 a1 a2 a3 a4 (0 : Int32) ta0 h hF
def fX9_subsNow (a0 : Nat) (a1 : Int32) (h : hp_T) : Option (Int32 × hp_T) := fx_b2 (fX9_isSide a0 a1 h) fun (r2 : Int32) (h2 : hp_T) => if r2 = 0 then (some ((-1 : Int32), h2)) else (fx_b2 (fX8_squad (h2.2.2 a0 11) a1 h2) fun (r15 : Nat) (h15 : hp_T) => fx_let (h15.1 r15 5) fun (x21 : Int32) => fX9_subsNow_27 fx_N a0 a1 x21 (0 : Int32) (0 : Int32) h15)
set_option maxRecDepth 100000 in
set_option maxHeartbeats 4000000 in
theorem mX9_subsNow (l : Launch) (G : xr_G) (a0 : Nat) (a1 : Int32) (ta0 : hp_sh a0 = (9, 0)) (h h1 : hp_T) (r : Int32) (hF : fX9_subsNow a0 a1 h = some (r, h1)) : xr_M l G yX9_subsNow cX9_subsNow 6 (xr_R 4 94) (some .int) [.ref (G.2.2.1 a0), .int a1] h (xr_Qi G r h1) := by
  refine xr_start rfl (Nat.le_of_ble_eq_true rfl) (fun K C => ?_)
  show xr_j l G K 6 h [(0, .ref (G.2.2.1 a0)), (1, .int a1)] 0 []
  unfold fX9_subsNow at hF
  refine xr_aload_n C 0 dX9_subsNow_0 rfl rfl ?_
  refine xr_iload_n C 1 dX9_subsNow_1 rfl rfl ?_
  obtain ⟨r2, h2, e2, hF⟩ := fx_b2E hF
  refine xr_callVi C mvX9_99 [.int a1] [] (mX9_isSide l G a0 a1 ta0 h h2 r2 e2) ta0 (by decide) vc9 rfl ⟨rfl, rfl, (Nat.le_of_ble_eq_true rfl), (Nat.le_of_ble_eq_true rfl)⟩ rfl (Nat.le_of_ble_eq_true rfl) dX9_subsNow_2 ?_
  refine xr_if_ne C 10 dX9_subsNow_5 (by decide) (fun c5 => ?_) (fun c5 => ?_)
  · have hF := fx_neg hF c5
    refine xr_aload_n C 0 dX9_subsNow_10 rfl rfl ?_
    refine xr_getr C flX9_68 rfl (by decide) dX9_subsNow_11 ta0 (fun t11 => ?_)
    refine xr_iload_n C 1 dX9_subsNow_14 rfl rfl ?_
    obtain ⟨r15, h15, e15, hF⟩ := fx_b2E hF
    refine xr_callVr C mvX9_103 [.int a1] [] (mX8_squad l G (h2.2.2 a0 11) a1 t11 h2 h15 r15 e15) t11 (by decide) vc8 rfl ⟨rfl, rfl, (Nat.le_of_ble_eq_true rfl), (Nat.le_of_ble_eq_true rfl)⟩ rfl (Nat.le_of_ble_eq_true rfl) dX9_subsNow_15 (fun t15 => ?_)
    refine xr_geti C flX9_130 rfl dX9_subsNow_18 t15 ?_
    refine xr_topi (fun x21 e21 => ?_)
    have hF := fx_letE hF x21 e21
    refine xr_istore_n C [(2, .int x21), (0, .ref (G.2.2.1 a0)), (1, .int a1)] dX9_subsNow_21 rfl (Nat.le_of_ble_eq_true rfl) rfl ?_
    refine xr_iconst (v := 0) C dX9_subsNow_22 (by decide) ?_
    refine xr_istore_n C [(3, .int (0 : Int32)), (2, .int x21), (0, .ref (G.2.2.1 a0)), (1, .int a1)] dX9_subsNow_23 rfl (Nat.le_of_ble_eq_true rfl) rfl ?_
    refine xr_iconst (v := 0) C dX9_subsNow_24 (by decide) ?_
    refine xr_istore C [(4, .int (0 : Int32)), (3, .int (0 : Int32)), (2, .int x21), (0, .ref (G.2.2.1 a0)), (1, .int a1)] dX9_subsNow_25 (Nat.le_of_ble_eq_true rfl) rfl ?_
    refine xr_sub [3, 4, 2, 1, 0] [(0, .ref (G.2.2.1 a0)), (1, .int a1), (2, .int x21), (3, .int (0 : Int32)), (4, .int (0 : Int32))] rfl ?_
    exact bX9_subsNow_27 C  fx_N a0 a1 x21 (0 : Int32) (0 : Int32) ta0 h15 hF
  · have hF := fx_pos hF c5
    refine xr_iconst (v := -1) C dX9_subsNow_8 (by decide) ?_
    cases hF
    exact xr_iret C dX9_subsNow_9
theorem dX9_standing_0 : decode cX9_standing 0 = .ok (.aload_n 0, 1) := by decide +kernel
theorem dX9_standing_1 : decode cX9_standing 1 = .ok (.iload_n 1, 1) := by decide +kernel
theorem dX9_standing_2 : decode cX9_standing 2 = .ok (.invokevirtual 99, 3) := by decide +kernel
theorem dX9_standing_5 : decode cX9_standing 5 = .ok (.ifCond .eq 10, 3) := by decide +kernel
theorem dX9_standing_8 : decode cX9_standing 8 = .ok (.iload_n 2, 1) := by decide +kernel
theorem dX9_standing_9 : decode cX9_standing 9 = .ok (.invokestatic 201, 3) := by decide +kernel
theorem dX9_standing_12 : decode cX9_standing 12 = .ok (.ifCond .ne 5, 3) := by decide +kernel
theorem dX9_standing_15 : decode cX9_standing 15 = .ok (.iconst (-1), 1) := by decide +kernel
theorem dX9_standing_16 : decode cX9_standing 16 = .ok (.ireturn, 1) := by decide +kernel
theorem dX9_standing_17 : decode cX9_standing 17 = .ok (.aload_n 0, 1) := by decide +kernel
theorem dX9_standing_18 : decode cX9_standing 18 = .ok (.getfield 33, 3) := by decide +kernel
theorem dX9_standing_21 : decode cX9_standing 21 = .ok (.iload_n 1, 1) := by decide +kernel
theorem dX9_standing_22 : decode cX9_standing 22 = .ok (.invokevirtual 207, 3) := by decide +kernel
theorem dX9_standing_25 : decode cX9_standing 25 = .ok (.astore 4, 2) := by decide +kernel
theorem dX9_standing_27 : decode cX9_standing 27 = .ok (.iload_n 3, 1) := by decide +kernel
theorem dX9_standing_28 : decode cX9_standing 28 = .ok (.lookupswitch 48 #[(0, 28), (1, 38)], 28) := by decide +kernel
theorem dX9_standing_56 : decode cX9_standing 56 = .ok (.aload 4, 2) := by decide +kernel
theorem dX9_standing_58 : decode cX9_standing 58 = .ok (.getfield 286, 3) := by decide +kernel
theorem dX9_standing_61 : decode cX9_standing 61 = .ok (.iload_n 2, 1) := by decide +kernel
theorem dX9_standing_62 : decode cX9_standing 62 = .ok (.iconst 1, 1) := by decide +kernel
theorem dX9_standing_63 : decode cX9_standing 63 = .ok (.isub, 1) := by decide +kernel
theorem dX9_standing_64 : decode cX9_standing 64 = .ok (.iaload, 1) := by decide +kernel
theorem dX9_standing_65 : decode cX9_standing 65 = .ok (.ireturn, 1) := by decide +kernel
theorem dX9_standing_66 : decode cX9_standing 66 = .ok (.aload 4, 2) := by decide +kernel
theorem dX9_standing_68 : decode cX9_standing 68 = .ok (.getfield 289, 3) := by decide +kernel
theorem dX9_standing_71 : decode cX9_standing 71 = .ok (.iload_n 2, 1) := by decide +kernel
theorem dX9_standing_72 : decode cX9_standing 72 = .ok (.iconst 1, 1) := by decide +kernel
theorem dX9_standing_73 : decode cX9_standing 73 = .ok (.isub, 1) := by decide +kernel
theorem dX9_standing_74 : decode cX9_standing 74 = .ok (.iaload, 1) := by decide +kernel
theorem dX9_standing_75 : decode cX9_standing 75 = .ok (.ireturn, 1) := by decide +kernel
theorem dX9_standing_76 : decode cX9_standing 76 = .ok (.iconst (-1), 1) := by decide +kernel
theorem dX9_standing_77 : decode cX9_standing 77 = .ok (.ireturn, 1) := by decide +kernel
def fX9_standing (a0 : Nat) (a1 : Int32) (a2 : Int32) (a3 : Int32) (h : hp_T) : Option (Int32 × hp_T) := fx_b2 (fX9_isSide a0 a1 h) fun (r2 : Int32) (h2 : hp_T) => if r2 = 0 then (some ((-1 : Int32), h2)) else (fx_b2 (fX9_isSpot a2 h2) fun (r9 : Int32) (h9 : hp_T) => if r9 = 0 then (some ((-1 : Int32), h9)) else (fx_b2 (fX1_team (h9.2.2 a0 3) a1 h9) fun (r22 : Nat) (h22 : hp_T) => if a3 = 0 then (fx_g (fx_in (a2 - (1 : Int32)) 6) (some ((h22.1 (h22.2.2 r22 2) (fx_ix (a2 - (1 : Int32)))), h22))) else if a3 = 1 then (fx_g (fx_in (a2 - (1 : Int32)) 6) (some ((h22.1 (h22.2.2 r22 3) (fx_ix (a2 - (1 : Int32)))), h22))) else (some ((-1 : Int32), h22))))
set_option maxRecDepth 100000 in
set_option maxHeartbeats 4000000 in
theorem mX9_standing (l : Launch) (G : xr_G) (a0 : Nat) (a1 : Int32) (a2 : Int32) (a3 : Int32) (ta0 : hp_sh a0 = (9, 0)) (h h1 : hp_T) (r : Int32) (hF : fX9_standing a0 a1 a2 a3 h = some (r, h1)) : xr_M l G yX9_standing cX9_standing 5 (xr_R 1 21) (some .int) [.ref (G.2.2.1 a0), .int a1, .int a2, .int a3] h (xr_Qi G r h1) := by
  refine xr_start rfl (Nat.le_of_ble_eq_true rfl) (fun K C => ?_)
  show xr_j l G K 5 h [(0, .ref (G.2.2.1 a0)), (1, .int a1), (2, .int a2), (3, .int a3)] 0 []
  unfold fX9_standing at hF
  refine xr_aload_n C 0 dX9_standing_0 rfl rfl ?_
  refine xr_iload_n C 1 dX9_standing_1 rfl rfl ?_
  obtain ⟨r2, h2, e2, hF⟩ := fx_b2E hF
  refine xr_callVi C mvX9_99 [.int a1] [] (mX9_isSide l G a0 a1 ta0 h h2 r2 e2) ta0 (by decide) vc9 rfl ⟨rfl, rfl, (Nat.le_of_ble_eq_true rfl), (Nat.le_of_ble_eq_true rfl)⟩ rfl (Nat.le_of_ble_eq_true rfl) dX9_standing_2 ?_
  refine xr_if_eq C 15 dX9_standing_5 (by decide) (fun c5 => ?_) (fun c5 => ?_)
  · have hF := fx_pos hF c5
    refine xr_iconst (v := -1) C dX9_standing_15 (by decide) ?_
    cases hF
    exact xr_iret C dX9_standing_16
  · have hF := fx_neg hF c5
    refine xr_iload_n C 2 dX9_standing_8 rfl rfl ?_
    obtain ⟨r9, h9, e9, hF⟩ := fx_b2E hF
    refine xr_callSi C mvX9_201 [.int a2] [] (mX9_isSpot l G a2  h2 h9 r9 e9) rfl ⟨rfl, rfl, (Nat.le_of_ble_eq_true rfl), (Nat.le_of_ble_eq_true rfl)⟩ rfl (Nat.le_of_ble_eq_true rfl) dX9_standing_9 ?_
    refine xr_if_ne C 17 dX9_standing_12 (by decide) (fun c12 => ?_) (fun c12 => ?_)
    · have hF := fx_neg hF c12
      refine xr_aload_n C 0 dX9_standing_17 rfl rfl ?_
      refine xr_getr C flX9_33 rfl (by decide) dX9_standing_18 ta0 (fun t18 => ?_)
      refine xr_iload_n C 1 dX9_standing_21 rfl rfl ?_
      obtain ⟨r22, h22, e22, hF⟩ := fx_b2E hF
      refine xr_callVr C mvX9_207 [.int a1] [] (mX1_team l G (h9.2.2 a0 3) a1 t18 h9 h22 r22 e22) t18 (by decide) vc1 rfl ⟨rfl, rfl, (Nat.le_of_ble_eq_true rfl), (Nat.le_of_ble_eq_true rfl)⟩ rfl (Nat.le_of_ble_eq_true rfl) dX9_standing_22 (fun t22 => ?_)
      refine xr_astore C [(4, .ref (G.2.2.1 r22)), (0, .ref (G.2.2.1 a0)), (1, .int a1), (2, .int a2), (3, .int a3)] dX9_standing_25 (Nat.le_of_ble_eq_true rfl) rfl ?_
      refine xr_iload_n C 4 dX9_standing_27 rfl rfl ?_
      by_cases c28_0 : a3 = 0
      · have hF := fx_pos hF c28_0
        refine xr_lookup C 56 dX9_standing_28 (by decide) (by rw [c28_0]; first | done | rfl) (by decide) ?_
        refine xr_aload C 0 dX9_standing_56 rfl ?_
        refine xr_getr C flX9_286 rfl (by decide) dX9_standing_58 t22 (fun t58 => ?_)
        refine xr_iload_n C 3 dX9_standing_61 rfl rfl ?_
        refine xr_iconst (v := 1) C dX9_standing_62 (by decide) ?_
        refine xr_isub C dX9_standing_63 ?_
        obtain ⟨g64, hF⟩ := fx_gE hF
        refine xr_iald C dX9_standing_64 t58 g64 ?_
        cases hF
        exact xr_iret C dX9_standing_65
      have hF := fx_neg hF c28_0
      by_cases c28_1 : a3 = 1
      · have hF := fx_pos hF c28_1
        refine xr_lookup C 66 dX9_standing_28 (by decide) (by rw [c28_1]; first | done | rfl) (by decide) ?_
        refine xr_aload C 0 dX9_standing_66 rfl ?_
        refine xr_getr C flX9_289 rfl (by decide) dX9_standing_68 t22 (fun t68 => ?_)
        refine xr_iload_n C 3 dX9_standing_71 rfl rfl ?_
        refine xr_iconst (v := 1) C dX9_standing_72 (by decide) ?_
        refine xr_isub C dX9_standing_73 ?_
        obtain ⟨g74, hF⟩ := fx_gE hF
        refine xr_iald C dX9_standing_74 t68 g74 ?_
        cases hF
        exact xr_iret C dX9_standing_75
      have hF := fx_neg hF c28_1
      refine xr_lookup (off := 48) C 76 dX9_standing_28 (by decide) (fx_lkX9_standing_28 c28_0 c28_1) (by decide) ?_
      refine xr_iconst (v := -1) C dX9_standing_76 (by decide) ?_
      cases hF
      exact xr_iret C dX9_standing_77
    · have hF := fx_pos hF c12
      refine xr_iconst (v := -1) C dX9_standing_15 (by decide) ?_
      cases hF
      exact xr_iret C dX9_standing_16
theorem dX9_isWrong_0 : decode cX9_isWrong 0 = .ok (.getstatic 345, 3) := by decide +kernel
theorem dX9_isWrong_3 : decode cX9_isWrong 3 = .ok (.iload_n 2, 1) := by decide +kernel
theorem dX9_isWrong_4 : decode cX9_isWrong 4 = .ok (.iaload, 1) := by decide +kernel
theorem dX9_isWrong_5 : decode cX9_isWrong 5 = .ok (.istore_n 3, 1) := by decide +kernel
theorem dX9_isWrong_6 : decode cX9_isWrong 6 = .ok (.getstatic 348, 3) := by decide +kernel
theorem dX9_isWrong_9 : decode cX9_isWrong 9 = .ok (.iload_n 2, 1) := by decide +kernel
theorem dX9_isWrong_10 : decode cX9_isWrong 10 = .ok (.iaload, 1) := by decide +kernel
theorem dX9_isWrong_11 : decode cX9_isWrong 11 = .ok (.istore 4, 2) := by decide +kernel
theorem dX9_isWrong_13 : decode cX9_isWrong 13 = .ok (.iload 4, 2) := by decide +kernel
theorem dX9_isWrong_15 : decode cX9_isWrong 15 = .ok (.iconst 1, 1) := by decide +kernel
theorem dX9_isWrong_16 : decode cX9_isWrong 16 = .ok (.if_icmp .ne 16, 3) := by decide +kernel
theorem dX9_isWrong_19 : decode cX9_isWrong 19 = .ok (.aload_n 0, 1) := by decide +kernel
theorem dX9_isWrong_20 : decode cX9_isWrong 20 = .ok (.getfield 33, 3) := by decide +kernel
theorem dX9_isWrong_23 : decode cX9_isWrong 23 = .ok (.getfield 257, 3) := by decide +kernel
theorem dX9_isWrong_26 : decode cX9_isWrong 26 = .ok (.iload_n 1, 1) := by decide +kernel
theorem dX9_isWrong_27 : decode cX9_isWrong 27 = .ok (.if_icmp .ne 5, 3) := by decide +kernel
theorem dX9_isWrong_30 : decode cX9_isWrong 30 = .ok (.iconst 0, 1) := by decide +kernel
theorem dX9_isWrong_31 : decode cX9_isWrong 31 = .ok (.ireturn, 1) := by decide +kernel
theorem dX9_isWrong_32 : decode cX9_isWrong 32 = .ok (.aload_n 0, 1) := by decide +kernel
theorem dX9_isWrong_33 : decode cX9_isWrong 33 = .ok (.getfield 33, 3) := by decide +kernel
theorem dX9_isWrong_36 : decode cX9_isWrong 36 = .ok (.iload_n 1, 1) := by decide +kernel
theorem dX9_isWrong_37 : decode cX9_isWrong 37 = .ok (.invokevirtual 207, 3) := by decide +kernel
theorem dX9_isWrong_40 : decode cX9_isWrong 40 = .ok (.astore 5, 2) := by decide +kernel
theorem dX9_isWrong_42 : decode cX9_isWrong 42 = .ok (.iload_n 2, 1) := by decide +kernel
theorem dX9_isWrong_43 : decode cX9_isWrong 43 = .ok (.iconst 3, 1) := by decide +kernel
theorem dX9_isWrong_44 : decode cX9_isWrong 44 = .ok (.if_icmp .ge 11, 3) := by decide +kernel
theorem dX9_isWrong_47 : decode cX9_isWrong 47 = .ok (.aload 5, 2) := by decide +kernel
theorem dX9_isWrong_49 : decode cX9_isWrong 49 = .ok (.getfield 289, 3) := by decide +kernel
theorem dX9_isWrong_52 : decode cX9_isWrong 52 = .ok (.goto 8, 3) := by decide +kernel
theorem dX9_isWrong_55 : decode cX9_isWrong 55 = .ok (.aload 5, 2) := by decide +kernel
theorem dX9_isWrong_57 : decode cX9_isWrong 57 = .ok (.getfield 286, 3) := by decide +kernel
theorem dX9_isWrong_60 : decode cX9_isWrong 60 = .ok (.astore 6, 2) := by decide +kernel
theorem dX9_isWrong_62 : decode cX9_isWrong 62 = .ok (.aload 6, 2) := by decide +kernel
theorem dX9_isWrong_64 : decode cX9_isWrong 64 = .ok (.iload_n 3, 1) := by decide +kernel
theorem dX9_isWrong_65 : decode cX9_isWrong 65 = .ok (.iconst 1, 1) := by decide +kernel
theorem dX9_isWrong_66 : decode cX9_isWrong 66 = .ok (.isub, 1) := by decide +kernel
theorem dX9_isWrong_67 : decode cX9_isWrong 67 = .ok (.iaload, 1) := by decide +kernel
theorem dX9_isWrong_68 : decode cX9_isWrong 68 = .ok (.aload 6, 2) := by decide +kernel
theorem dX9_isWrong_70 : decode cX9_isWrong 70 = .ok (.iload 4, 2) := by decide +kernel
theorem dX9_isWrong_72 : decode cX9_isWrong 72 = .ok (.iconst 1, 1) := by decide +kernel
theorem dX9_isWrong_73 : decode cX9_isWrong 73 = .ok (.isub, 1) := by decide +kernel
theorem dX9_isWrong_74 : decode cX9_isWrong 74 = .ok (.iaload, 1) := by decide +kernel
theorem dX9_isWrong_75 : decode cX9_isWrong 75 = .ok (.if_icmp .lt 7, 3) := by decide +kernel
theorem dX9_isWrong_78 : decode cX9_isWrong 78 = .ok (.iconst 1, 1) := by decide +kernel
theorem dX9_isWrong_79 : decode cX9_isWrong 79 = .ok (.goto 4, 3) := by decide +kernel
theorem dX9_isWrong_82 : decode cX9_isWrong 82 = .ok (.iconst 0, 1) := by decide +kernel
theorem dX9_isWrong_83 : decode cX9_isWrong 83 = .ok (.ireturn, 1) := by decide +kernel
def fX9_isWrong_60  (a3 : Int32) (a4 : Int32) (s0 : Nat) (h : hp_T) : Option (Int32 × hp_T) := fx_g (fx_in (a3 - (1 : Int32)) 6) (fx_g (fx_in (a4 - (1 : Int32)) 6) (if (h.1 s0 (fx_ix (a3 - (1 : Int32)))) < (h.1 s0 (fx_ix (a4 - (1 : Int32)))) then (some ((0 : Int32), h)) else (some ((1 : Int32), h))))
set_option maxRecDepth 100000 in
set_option maxHeartbeats 4000000 in
theorem bX9_isWrong_60 {l : Launch} {G : xr_G} {K : xr_K} {r : Int32} {h1 : hp_T} (C : xr_C G K cX9_isWrong RX9 7 (xr_R 1 21) (some .boolean) (some (xr_Qi G r h1)))  (a3 : Int32) (a4 : Int32) (s0 : Nat) (ts0 : hp_sh s0 = (20, 6)) (h : hp_T) (hF : fX9_isWrong_60 a3 a4 s0 h = some (r, h1)) : xr_j l G K 7 h [(3, .int a3), (4, .int a4)] 60 [.ref (G.2.2.1 s0)] := by
  unfold fX9_isWrong_60 at hF
  refine xr_astore C [(6, .ref (G.2.2.1 s0)), (3, .int a3), (4, .int a4)] dX9_isWrong_60 (Nat.le_of_ble_eq_true rfl) rfl ?_
  refine xr_aload C 0 dX9_isWrong_62 rfl ?_
  refine xr_iload_n C 1 dX9_isWrong_64 rfl rfl ?_
  refine xr_iconst (v := 1) C dX9_isWrong_65 (by decide) ?_
  refine xr_isub C dX9_isWrong_66 ?_
  obtain ⟨g67, hF⟩ := fx_gE hF
  refine xr_iald C dX9_isWrong_67 ts0 g67 ?_
  refine xr_aload C 0 dX9_isWrong_68 rfl ?_
  refine xr_iload C 2 dX9_isWrong_70 rfl ?_
  refine xr_iconst (v := 1) C dX9_isWrong_72 (by decide) ?_
  refine xr_isub C dX9_isWrong_73 ?_
  obtain ⟨g74, hF⟩ := fx_gE hF
  refine xr_iald C dX9_isWrong_74 ts0 g74 ?_
  refine xr_icmp_lt C 82 dX9_isWrong_75 (by decide) (fun c75 => ?_) (fun c75 => ?_)
  · have hF := fx_pos hF c75
    refine xr_iconst (v := 0) C dX9_isWrong_82 (by decide) ?_
    cases hF
    exact xr_zret C rfl dX9_isWrong_83
  · have hF := fx_neg hF c75
    refine xr_iconst (v := 1) C dX9_isWrong_78 (by decide) ?_
    refine xr_goto C 83 dX9_isWrong_79 (by decide) ?_
    cases hF
    exact xr_zret C rfl dX9_isWrong_83
def fX9_isWrong_32  (a0 : Nat) (a1 : Int32) (a2 : Int32) (a3 : Int32) (a4 : Int32) (h : hp_T) : Option (Int32 × hp_T) := fx_b2 (fX1_team (h.2.2 a0 3) a1 h) fun (r37 : Nat) (h37 : hp_T) => if (3 : Int32) ≤ a2 then (fX9_isWrong_60 a3 a4 (h37.2.2 r37 2) h37) else (fX9_isWrong_60 a3 a4 (h37.2.2 r37 3) h37)
set_option maxRecDepth 100000 in
set_option maxHeartbeats 4000000 in
theorem bX9_isWrong_32 {l : Launch} {G : xr_G} {K : xr_K} {r : Int32} {h1 : hp_T} (C : xr_C G K cX9_isWrong RX9 7 (xr_R 1 21) (some .boolean) (some (xr_Qi G r h1)))  (a0 : Nat) (a1 : Int32) (a2 : Int32) (a3 : Int32) (a4 : Int32) (ta0 : hp_sh a0 = (9, 0)) (h : hp_T) (hF : fX9_isWrong_32 a0 a1 a2 a3 a4 h = some (r, h1)) : xr_j l G K 7 h [(0, .ref (G.2.2.1 a0)), (1, .int a1), (2, .int a2), (3, .int a3), (4, .int a4)] 32 [] := by
  unfold fX9_isWrong_32 at hF
  refine xr_aload_n C 0 dX9_isWrong_32 rfl rfl ?_
  refine xr_getr C flX9_33 rfl (by decide) dX9_isWrong_33 ta0 (fun t33 => ?_)
  refine xr_iload_n C 1 dX9_isWrong_36 rfl rfl ?_
  obtain ⟨r37, h37, e37, hF⟩ := fx_b2E hF
  refine xr_callVr C mvX9_207 [.int a1] [] (mX1_team l G (h.2.2 a0 3) a1 t33 h h37 r37 e37) t33 (by decide) vc1 rfl ⟨rfl, rfl, (Nat.le_of_ble_eq_true rfl), (Nat.le_of_ble_eq_true rfl)⟩ rfl (Nat.le_of_ble_eq_true rfl) dX9_isWrong_37 (fun t37 => ?_)
  refine xr_astore C [(5, .ref (G.2.2.1 r37)), (0, .ref (G.2.2.1 a0)), (1, .int a1), (2, .int a2), (3, .int a3), (4, .int a4)] dX9_isWrong_40 (Nat.le_of_ble_eq_true rfl) rfl ?_
  refine xr_iload_n C 3 dX9_isWrong_42 rfl rfl ?_
  refine xr_iconst (v := 3) C dX9_isWrong_43 (by decide) ?_
  refine xr_icmp_ge C 55 dX9_isWrong_44 (by decide) (fun c44 => ?_) (fun c44 => ?_)
  · have hF := fx_pos hF c44
    refine xr_aload C 0 dX9_isWrong_55 rfl ?_
    refine xr_getr C flX9_286 rfl (by decide) dX9_isWrong_57 t37 (fun t57 => ?_)
    refine xr_sub [4, 5] [(3, .int a3), (4, .int a4)] rfl ?_
    exact bX9_isWrong_60 C   a3 a4 (h37.2.2 r37 2) t57 h37 hF
  · have hF := fx_neg hF c44
    refine xr_aload C 0 dX9_isWrong_47 rfl ?_
    refine xr_getr C flX9_289 rfl (by decide) dX9_isWrong_49 t37 (fun t49 => ?_)
    refine xr_goto C 60 dX9_isWrong_52 (by decide) ?_
    refine xr_sub [4, 5] [(3, .int a3), (4, .int a4)] rfl ?_
    exact bX9_isWrong_60 C   a3 a4 (h37.2.2 r37 3) t49 h37 hF
def fX9_isWrong (a0 : Nat) (a1 : Int32) (a2 : Int32) (h : hp_T) : Option (Int32 × hp_T) := fx_g (fx_in a2 (hp_zl 2)) (fx_let (hp_zt 2 (fx_ix a2)) fun (x5 : Int32) => fx_g (fx_in a2 (hp_zl 3)) (fx_let (hp_zt 3 (fx_ix a2)) fun (x11 : Int32) => if x11 = (1 : Int32) then (if (h.1 (h.2.2 a0 3) 2) = a1 then (some ((0 : Int32), h)) else (fX9_isWrong_32 a0 a1 a2 x5 x11 h)) else (fX9_isWrong_32 a0 a1 a2 x5 x11 h)))
set_option maxRecDepth 100000 in
set_option maxHeartbeats 4000000 in
theorem mX9_isWrong (l : Launch) (G : xr_G) (a0 : Nat) (a1 : Int32) (a2 : Int32) (ta0 : hp_sh a0 = (9, 0)) (h h1 : hp_T) (r : Int32) (hF : fX9_isWrong a0 a1 a2 h = some (r, h1)) : xr_M l G yX9_isWrong cX9_isWrong 7 (xr_R 1 21) (some .boolean) [.ref (G.2.2.1 a0), .int a1, .int a2] h (xr_Qi G r h1) := by
  refine xr_start rfl (Nat.le_of_ble_eq_true rfl) (fun K C => ?_)
  show xr_j l G K 7 h [(0, .ref (G.2.2.1 a0)), (1, .int a1), (2, .int a2)] 0 []
  unfold fX9_isWrong at hF
  refine xr_gets C 2 (by decide) gsX9_345 dX9_isWrong_0 ?_
  refine xr_iload_n C 2 dX9_isWrong_3 rfl rfl ?_
  obtain ⟨g4, hF⟩ := fx_gE hF
  refine xr_tald C 2 (by decide) dX9_isWrong_4 g4 ?_
  refine xr_topi (fun x5 e5 => ?_)
  have hF := fx_letE hF x5 e5
  refine xr_istore_n C [(3, .int x5), (0, .ref (G.2.2.1 a0)), (1, .int a1), (2, .int a2)] dX9_isWrong_5 rfl (Nat.le_of_ble_eq_true rfl) rfl ?_
  refine xr_gets C 3 (by decide) gsX9_348 dX9_isWrong_6 ?_
  refine xr_iload_n C 3 dX9_isWrong_9 rfl rfl ?_
  obtain ⟨g10, hF⟩ := fx_gE hF
  refine xr_tald C 3 (by decide) dX9_isWrong_10 g10 ?_
  refine xr_topi (fun x11 e11 => ?_)
  have hF := fx_letE hF x11 e11
  refine xr_istore C [(4, .int x11), (3, .int x5), (0, .ref (G.2.2.1 a0)), (1, .int a1), (2, .int a2)] dX9_isWrong_11 (Nat.le_of_ble_eq_true rfl) rfl ?_
  refine xr_iload C 0 dX9_isWrong_13 rfl ?_
  refine xr_iconst (v := 1) C dX9_isWrong_15 (by decide) ?_
  refine xr_icmp_ne C 32 dX9_isWrong_16 (by decide) (fun c16 => ?_) (fun c16 => ?_)
  · have hF := fx_neg hF c16
    refine xr_sub [2, 3, 4, 1, 0] [(0, .ref (G.2.2.1 a0)), (1, .int a1), (2, .int a2), (3, .int x5), (4, .int x11)] rfl ?_
    exact bX9_isWrong_32 C   a0 a1 a2 x5 x11 ta0 h hF
  · have hF := fx_pos hF c16
    refine xr_aload_n C 2 dX9_isWrong_19 rfl rfl ?_
    refine xr_getr C flX9_33 rfl (by decide) dX9_isWrong_20 ta0 (fun t20 => ?_)
    refine xr_geti C flX9_257 rfl dX9_isWrong_23 t20 ?_
    refine xr_iload_n C 3 dX9_isWrong_26 rfl rfl ?_
    refine xr_icmp_ne C 32 dX9_isWrong_27 (by decide) (fun c27 => ?_) (fun c27 => ?_)
    · have hF := fx_neg hF c27
      refine xr_sub [2, 3, 4, 1, 0] [(0, .ref (G.2.2.1 a0)), (1, .int a1), (2, .int a2), (3, .int x5), (4, .int x11)] rfl ?_
      exact bX9_isWrong_32 C   a0 a1 a2 x5 x11 ta0 h hF
    · have hF := fx_pos hF c27
      refine xr_iconst (v := 0) C dX9_isWrong_30 (by decide) ?_
      cases hF
      exact xr_zret C rfl dX9_isWrong_31
theorem dX9_wrong_0 : decode cX9_wrong 0 = .ok (.aload_n 0, 1) := by decide +kernel
theorem dX9_wrong_1 : decode cX9_wrong 1 = .ok (.iload_n 1, 1) := by decide +kernel
theorem dX9_wrong_2 : decode cX9_wrong 2 = .ok (.invokevirtual 99, 3) := by decide +kernel
theorem dX9_wrong_5 : decode cX9_wrong 5 = .ok (.ifCond .eq 7, 3) := by decide +kernel
theorem dX9_wrong_8 : decode cX9_wrong 8 = .ok (.iload_n 2, 1) := by decide +kernel
theorem dX9_wrong_9 : decode cX9_wrong 9 = .ok (.ifCond .ge 5, 3) := by decide +kernel
theorem dX9_wrong_12 : decode cX9_wrong 12 = .ok (.iconst (-1), 1) := by decide +kernel
theorem dX9_wrong_13 : decode cX9_wrong 13 = .ok (.ireturn, 1) := by decide +kernel
theorem dX9_wrong_14 : decode cX9_wrong 14 = .ok (.iload_n 2, 1) := by decide +kernel
theorem dX9_wrong_15 : decode cX9_wrong 15 = .ok (.istore_n 3, 1) := by decide +kernel
theorem dX9_wrong_16 : decode cX9_wrong 16 = .ok (.iconst 0, 1) := by decide +kernel
theorem dX9_wrong_17 : decode cX9_wrong 17 = .ok (.istore 4, 2) := by decide +kernel
theorem dX9_wrong_19 : decode cX9_wrong 19 = .ok (.iload 4, 2) := by decide +kernel
theorem dX9_wrong_21 : decode cX9_wrong 21 = .ok (.bipush 7, 2) := by decide +kernel
theorem dX9_wrong_23 : decode cX9_wrong 23 = .ok (.if_icmp .ge 29, 3) := by decide +kernel
theorem dX9_wrong_26 : decode cX9_wrong 26 = .ok (.aload_n 0, 1) := by decide +kernel
theorem dX9_wrong_27 : decode cX9_wrong 27 = .ok (.iload_n 1, 1) := by decide +kernel
theorem dX9_wrong_28 : decode cX9_wrong 28 = .ok (.iload 4, 2) := by decide +kernel
theorem dX9_wrong_30 : decode cX9_wrong 30 = .ok (.invokevirtual 311, 3) := by decide +kernel
theorem dX9_wrong_33 : decode cX9_wrong 33 = .ok (.ifCond .eq 13, 3) := by decide +kernel
theorem dX9_wrong_36 : decode cX9_wrong 36 = .ok (.iload_n 3, 1) := by decide +kernel
theorem dX9_wrong_37 : decode cX9_wrong 37 = .ok (.ifCond .ne 6, 3) := by decide +kernel
theorem dX9_wrong_40 : decode cX9_wrong 40 = .ok (.iload 4, 2) := by decide +kernel
theorem dX9_wrong_42 : decode cX9_wrong 42 = .ok (.ireturn, 1) := by decide +kernel
theorem dX9_wrong_43 : decode cX9_wrong 43 = .ok (.iinc 3 (-1), 3) := by decide +kernel
theorem dX9_wrong_46 : decode cX9_wrong 46 = .ok (.iinc 4 1, 3) := by decide +kernel
theorem dX9_wrong_49 : decode cX9_wrong 49 = .ok (.goto (-30), 3) := by decide +kernel
theorem dX9_wrong_52 : decode cX9_wrong 52 = .ok (.bipush (-2), 2) := by decide +kernel
theorem dX9_wrong_54 : decode cX9_wrong 54 = .ok (.ireturn, 1) := by decide +kernel
def fX9_wrong_46 (k19 : Nat → Int32 → Int32 → Int32 → hp_T → Option (Int32 × hp_T)) (a0 : Nat) (a1 : Int32) (a3 : Int32) (a4 : Int32) (h : hp_T) : Option (Int32 × hp_T) := fx_let (a4 + (1 : Int32)) fun (x46 : Int32) => k19 a0 a1 a3 x46 h
set_option maxRecDepth 100000 in
set_option maxHeartbeats 4000000 in
theorem bX9_wrong_46 {l : Launch} {G : xr_G} {K : xr_K} {r : Int32} {h1 : hp_T} (C : xr_C G K cX9_wrong RX9 5 (xr_R 2 47) (some .int) (some (xr_Qi G r h1))) (k19 : Nat → Int32 → Int32 → Int32 → hp_T → Option (Int32 × hp_T)) (j19 : ∀ (a0 : Nat) (a1 : Int32) (a3 : Int32) (a4 : Int32) (ta0 : hp_sh a0 = (9, 0)) (h : hp_T), k19 a0 a1 a3 a4 h = some (r, h1) → xr_j l G K 5 h [(0, .ref (G.2.2.1 a0)), (1, .int a1), (3, .int a3), (4, .int a4)] 19 []) (a0 : Nat) (a1 : Int32) (a3 : Int32) (a4 : Int32) (ta0 : hp_sh a0 = (9, 0)) (h : hp_T) (hF : fX9_wrong_46 k19 a0 a1 a3 a4 h = some (r, h1)) : xr_j l G K 5 h [(0, .ref (G.2.2.1 a0)), (1, .int a1), (3, .int a3), (4, .int a4)] 46 [] := by
  unfold fX9_wrong_46 at hF
  obtain ⟨x46, e46⟩ : ∃ y : Int32, y = (a4 + (1 : Int32)) := ⟨_, rfl⟩
  have hF := fx_letE hF x46 e46
  refine xr_iinc C x46 3 [(4, .int x46), (0, .ref (G.2.2.1 a0)), (1, .int a1), (3, .int a3)] dX9_wrong_46 rfl (by rw [e46]; rfl) (Nat.le_of_ble_eq_true rfl) rfl ?_
  refine xr_goto C 19 dX9_wrong_49 (by decide) ?_
  refine xr_sub [1, 2, 3, 0] [(0, .ref (G.2.2.1 a0)), (1, .int a1), (3, .int a3), (4, .int x46)] rfl ?_
  exact j19 a0 a1 a3 x46 ta0 h hF
def fX9_wrong_19  : Nat → Nat → Int32 → Int32 → Int32 → hp_T → Option (Int32 × hp_T)
  | 0, _, _, _, _, _ => none
  | n + 1, a0, a1, a3, a4, h => if (7 : Int32) ≤ a4 then (some ((-2 : Int32), h)) else (fx_b2 (fX9_isWrong a0 a1 a4 h) fun (r30 : Int32) (h30 : hp_T) => if r30 = 0 then (fX9_wrong_46 (fX9_wrong_19 n) a0 a1 a3 a4 h30) else (if a3 = 0 then (some (a4, h30)) else (fx_let (a3 + (-1 : Int32)) fun (x43 : Int32) => fX9_wrong_46 (fX9_wrong_19 n) a0 a1 x43 a4 h30)))
set_option maxRecDepth 100000 in
set_option maxHeartbeats 4000000 in
theorem bX9_wrong_19 {l : Launch} {G : xr_G} {K : xr_K} {r : Int32} {h1 : hp_T} (C : xr_C G K cX9_wrong RX9 5 (xr_R 2 47) (some .int) (some (xr_Qi G r h1)))  : ∀ (n : Nat) (a0 : Nat) (a1 : Int32) (a3 : Int32) (a4 : Int32) (ta0 : hp_sh a0 = (9, 0)) (h : hp_T), fX9_wrong_19 n a0 a1 a3 a4 h = some (r, h1) → xr_j l G K 5 h [(0, .ref (G.2.2.1 a0)), (1, .int a1), (3, .int a3), (4, .int a4)] 19 [] := by
  intro n
  induction n with
  | zero =>
    intro a0 a1 a3 a4 ta0 h hF
    cases hF
  | succ n ih =>
    intro a0 a1 a3 a4 ta0 h hF
    rw [fX9_wrong_19] at hF
    refine xr_iload C 3 dX9_wrong_19 rfl ?_
    refine xr_bipush (v := 7) C dX9_wrong_21 (by decide) ?_
    refine xr_icmp_ge C 52 dX9_wrong_23 (by decide) (fun c23 => ?_) (fun c23 => ?_)
    · have hF := fx_pos hF c23
      refine xr_bipush (v := -2) C dX9_wrong_52 (by decide) ?_
      cases hF
      exact xr_iret C dX9_wrong_54
    · have hF := fx_neg hF c23
      refine xr_aload_n C 0 dX9_wrong_26 rfl rfl ?_
      refine xr_iload_n C 1 dX9_wrong_27 rfl rfl ?_
      refine xr_iload C 3 dX9_wrong_28 rfl ?_
      obtain ⟨r30, h30, e30, hF⟩ := fx_b2E hF
      refine xr_callVi C mvX9_311 [.int a1, .int a4] [] (mX9_isWrong l G a0 a1 a4 ta0 h h30 r30 e30) ta0 (by decide) vc9 rfl ⟨rfl, rfl, (Nat.le_of_ble_eq_true rfl), (Nat.le_of_ble_eq_true rfl)⟩ rfl (Nat.le_of_ble_eq_true rfl) dX9_wrong_30 ?_
      refine xr_if_eq C 46 dX9_wrong_33 (by decide) (fun c33 => ?_) (fun c33 => ?_)
      · have hF := fx_pos hF c33
        exact bX9_wrong_46 C (fX9_wrong_19 n) (fun a0 a1 a3 a4 ta0 h hF => ih a0 a1 a3 a4 ta0 h hF)  a0 a1 a3 a4 ta0 h30 hF
      · have hF := fx_neg hF c33
        refine xr_iload_n C 2 dX9_wrong_36 rfl rfl ?_
        refine xr_if_ne C 43 dX9_wrong_37 (by decide) (fun c37 => ?_) (fun c37 => ?_)
        · have hF := fx_neg hF c37
          obtain ⟨x43, e43⟩ : ∃ y : Int32, y = (a3 + (-1 : Int32)) := ⟨_, rfl⟩
          have hF := fx_letE hF x43 e43
          refine xr_iinc C x43 2 [(3, .int x43), (0, .ref (G.2.2.1 a0)), (1, .int a1), (4, .int a4)] dX9_wrong_43 rfl (by rw [e43]; rfl) (Nat.le_of_ble_eq_true rfl) rfl ?_
          refine xr_sub [1, 2, 0, 3] [(0, .ref (G.2.2.1 a0)), (1, .int a1), (3, .int x43), (4, .int a4)] rfl ?_
          exact bX9_wrong_46 C (fX9_wrong_19 n) (fun a0 a1 a3 a4 ta0 h hF => ih a0 a1 a3 a4 ta0 h hF)  a0 a1 x43 a4 ta0 h30 hF
        · have hF := fx_pos hF c37
          refine xr_iload C 3 dX9_wrong_40 rfl ?_
          cases hF
          exact xr_iret C dX9_wrong_42
def fX9_wrong (a0 : Nat) (a1 : Int32) (a2 : Int32) (h : hp_T) : Option (Int32 × hp_T) := fx_b2 (fX9_isSide a0 a1 h) fun (r2 : Int32) (h2 : hp_T) => if r2 = 0 then (some ((-1 : Int32), h2)) else (if 0 ≤ a2 then (fX9_wrong_19 fx_N a0 a1 a2 (0 : Int32) h2) else (some ((-1 : Int32), h2)))
set_option maxRecDepth 100000 in
set_option maxHeartbeats 4000000 in
theorem mX9_wrong (l : Launch) (G : xr_G) (a0 : Nat) (a1 : Int32) (a2 : Int32) (ta0 : hp_sh a0 = (9, 0)) (h h1 : hp_T) (r : Int32) (hF : fX9_wrong a0 a1 a2 h = some (r, h1)) : xr_M l G yX9_wrong cX9_wrong 5 (xr_R 2 47) (some .int) [.ref (G.2.2.1 a0), .int a1, .int a2] h (xr_Qi G r h1) := by
  refine xr_start rfl (Nat.le_of_ble_eq_true rfl) (fun K C => ?_)
  show xr_j l G K 5 h [(0, .ref (G.2.2.1 a0)), (1, .int a1), (2, .int a2)] 0 []
  unfold fX9_wrong at hF
  refine xr_aload_n C 0 dX9_wrong_0 rfl rfl ?_
  refine xr_iload_n C 1 dX9_wrong_1 rfl rfl ?_
  obtain ⟨r2, h2, e2, hF⟩ := fx_b2E hF
  refine xr_callVi C mvX9_99 [.int a1] [] (mX9_isSide l G a0 a1 ta0 h h2 r2 e2) ta0 (by decide) vc9 rfl ⟨rfl, rfl, (Nat.le_of_ble_eq_true rfl), (Nat.le_of_ble_eq_true rfl)⟩ rfl (Nat.le_of_ble_eq_true rfl) dX9_wrong_2 ?_
  refine xr_if_eq C 12 dX9_wrong_5 (by decide) (fun c5 => ?_) (fun c5 => ?_)
  · have hF := fx_pos hF c5
    refine xr_iconst (v := -1) C dX9_wrong_12 (by decide) ?_
    cases hF
    exact xr_iret C dX9_wrong_13
  · have hF := fx_neg hF c5
    refine xr_iload_n C 2 dX9_wrong_8 rfl rfl ?_
    refine xr_if_ge C 14 dX9_wrong_9 (by decide) (fun c9 => ?_) (fun c9 => ?_)
    · have hF := fx_pos hF c9
      refine xr_iload_n C 2 dX9_wrong_14 rfl rfl ?_
      refine xr_istore_n C [(3, .int a2), (0, .ref (G.2.2.1 a0)), (1, .int a1), (2, .int a2)] dX9_wrong_15 rfl (Nat.le_of_ble_eq_true rfl) rfl ?_
      refine xr_iconst (v := 0) C dX9_wrong_16 (by decide) ?_
      refine xr_istore C [(4, .int (0 : Int32)), (3, .int a2), (0, .ref (G.2.2.1 a0)), (1, .int a1), (2, .int a2)] dX9_wrong_17 (Nat.le_of_ble_eq_true rfl) rfl ?_
      refine xr_sub [2, 3, 1, 0] [(0, .ref (G.2.2.1 a0)), (1, .int a1), (3, .int a2), (4, .int (0 : Int32))] rfl ?_
      exact bX9_wrong_19 C  fx_N a0 a1 a2 (0 : Int32) ta0 h2 hF
    · have hF := fx_neg hF c9
      refine xr_iconst (v := -1) C dX9_wrong_12 (by decide) ?_
      cases hF
      exact xr_iret C dX9_wrong_13
theorem dX9_now_0 : decode cX9_now 0 = .ok (.aload_n 0, 1) := by decide +kernel
theorem dX9_now_1 : decode cX9_now 1 = .ok (.getfield 113, 3) := by decide +kernel
theorem dX9_now_4 : decode cX9_now 4 = .ok (.ifCond .ne 5, 3) := by decide +kernel
theorem dX9_now_7 : decode cX9_now 7 = .ok (.iconst (-1), 1) := by decide +kernel
theorem dX9_now_8 : decode cX9_now 8 = .ok (.ireturn, 1) := by decide +kernel
theorem dX9_now_9 : decode cX9_now 9 = .ok (.iload_n 1, 1) := by decide +kernel
theorem dX9_now_10 : decode cX9_now 10 = .ok (.tableswitch 145 0 8 #[50, 61, 72, 80, 93, 104, 115, 126, 137], 50) := by decide +kernel
theorem dX9_now_60 : decode cX9_now 60 = .ok (.aload_n 0, 1) := by decide +kernel
theorem dX9_now_61 : decode cX9_now 61 = .ok (.getfield 33, 3) := by decide +kernel
theorem dX9_now_64 : decode cX9_now 64 = .ok (.getfield 296, 3) := by decide +kernel
theorem dX9_now_67 : decode cX9_now 67 = .ok (.getfield 299, 3) := by decide +kernel
theorem dX9_now_70 : decode cX9_now 70 = .ok (.ireturn, 1) := by decide +kernel
theorem dX9_now_71 : decode cX9_now 71 = .ok (.aload_n 0, 1) := by decide +kernel
theorem dX9_now_72 : decode cX9_now 72 = .ok (.getfield 33, 3) := by decide +kernel
theorem dX9_now_75 : decode cX9_now 75 = .ok (.getfield 302, 3) := by decide +kernel
theorem dX9_now_78 : decode cX9_now 78 = .ok (.getfield 299, 3) := by decide +kernel
theorem dX9_now_81 : decode cX9_now 81 = .ok (.ireturn, 1) := by decide +kernel
theorem dX9_now_82 : decode cX9_now 82 = .ok (.aload_n 0, 1) := by decide +kernel
theorem dX9_now_83 : decode cX9_now 83 = .ok (.getfield 33, 3) := by decide +kernel
theorem dX9_now_86 : decode cX9_now 86 = .ok (.getfield 257, 3) := by decide +kernel
theorem dX9_now_89 : decode cX9_now 89 = .ok (.ireturn, 1) := by decide +kernel
theorem dX9_now_90 : decode cX9_now 90 = .ok (.aload_n 0, 1) := by decide +kernel
theorem dX9_now_91 : decode cX9_now 91 = .ok (.invokevirtual 250, 3) := by decide +kernel
theorem dX9_now_94 : decode cX9_now 94 = .ok (.ifCond .eq 7, 3) := by decide +kernel
theorem dX9_now_97 : decode cX9_now 97 = .ok (.iconst 1, 1) := by decide +kernel
theorem dX9_now_98 : decode cX9_now 98 = .ok (.goto 4, 3) := by decide +kernel
theorem dX9_now_101 : decode cX9_now 101 = .ok (.iconst 0, 1) := by decide +kernel
theorem dX9_now_102 : decode cX9_now 102 = .ok (.ireturn, 1) := by decide +kernel
theorem dX9_now_103 : decode cX9_now 103 = .ok (.aload_n 0, 1) := by decide +kernel
theorem dX9_now_104 : decode cX9_now 104 = .ok (.getfield 33, 3) := by decide +kernel
theorem dX9_now_107 : decode cX9_now 107 = .ok (.getfield 296, 3) := by decide +kernel
theorem dX9_now_110 : decode cX9_now 110 = .ok (.getfield 274, 3) := by decide +kernel
theorem dX9_now_113 : decode cX9_now 113 = .ok (.ireturn, 1) := by decide +kernel
theorem dX9_now_114 : decode cX9_now 114 = .ok (.aload_n 0, 1) := by decide +kernel
theorem dX9_now_115 : decode cX9_now 115 = .ok (.getfield 33, 3) := by decide +kernel
theorem dX9_now_118 : decode cX9_now 118 = .ok (.getfield 302, 3) := by decide +kernel
theorem dX9_now_121 : decode cX9_now 121 = .ok (.getfield 274, 3) := by decide +kernel
theorem dX9_now_124 : decode cX9_now 124 = .ok (.ireturn, 1) := by decide +kernel
theorem dX9_now_125 : decode cX9_now 125 = .ok (.aload_n 0, 1) := by decide +kernel
theorem dX9_now_126 : decode cX9_now 126 = .ok (.getfield 33, 3) := by decide +kernel
theorem dX9_now_129 : decode cX9_now 129 = .ok (.getfield 296, 3) := by decide +kernel
theorem dX9_now_132 : decode cX9_now 132 = .ok (.getfield 314, 3) := by decide +kernel
theorem dX9_now_135 : decode cX9_now 135 = .ok (.ireturn, 1) := by decide +kernel
theorem dX9_now_136 : decode cX9_now 136 = .ok (.aload_n 0, 1) := by decide +kernel
theorem dX9_now_137 : decode cX9_now 137 = .ok (.getfield 33, 3) := by decide +kernel
theorem dX9_now_140 : decode cX9_now 140 = .ok (.getfield 302, 3) := by decide +kernel
theorem dX9_now_143 : decode cX9_now 143 = .ok (.getfield 314, 3) := by decide +kernel
theorem dX9_now_146 : decode cX9_now 146 = .ok (.ireturn, 1) := by decide +kernel
theorem dX9_now_147 : decode cX9_now 147 = .ok (.aload_n 0, 1) := by decide +kernel
theorem dX9_now_148 : decode cX9_now 148 = .ok (.getfield 33, 3) := by decide +kernel
theorem dX9_now_151 : decode cX9_now 151 = .ok (.getfield 186, 3) := by decide +kernel
theorem dX9_now_154 : decode cX9_now 154 = .ok (.ireturn, 1) := by decide +kernel
theorem dX9_now_155 : decode cX9_now 155 = .ok (.iconst (-1), 1) := by decide +kernel
theorem dX9_now_156 : decode cX9_now 156 = .ok (.ireturn, 1) := by decide +kernel
def fX9_now (a0 : Nat) (a1 : Int32) (h : hp_T) : Option (Int32 × hp_T) := if (h.1 a0 13) = 0 then (some ((-1 : Int32), h)) else (if a1 = 0 then (some ((h.1 (h.2.2 (h.2.2 a0 3) 0) 8), h)) else if a1 = 1 then (some ((h.1 (h.2.2 (h.2.2 a0 3) 1) 8), h)) else if a1 = 2 then (some ((h.1 (h.2.2 a0 3) 2), h)) else if a1 = 3 then (fx_b2 (fX9_isOver a0 h) fun (r91 : Int32) (h91 : hp_T) => if r91 = 0 then (some ((0 : Int32), h91)) else (some ((1 : Int32), h91))) else if a1 = 4 then (some ((h.1 (h.2.2 (h.2.2 a0 3) 0) 6), h)) else if a1 = 5 then (some ((h.1 (h.2.2 (h.2.2 a0 3) 1) 6), h)) else if a1 = 6 then (some ((h.1 (h.2.2 (h.2.2 a0 3) 0) 7), h)) else if a1 = 7 then (some ((h.1 (h.2.2 (h.2.2 a0 3) 1) 7), h)) else if a1 = 8 then (some ((h.1 (h.2.2 a0 3) 3), h)) else (some ((-1 : Int32), h)))
set_option maxRecDepth 100000 in
set_option maxHeartbeats 4000000 in
theorem mX9_now (l : Launch) (G : xr_G) (a0 : Nat) (a1 : Int32) (ta0 : hp_sh a0 = (9, 0)) (h h1 : hp_T) (r : Int32) (hF : fX9_now a0 a1 h = some (r, h1)) : xr_M l G yX9_now cX9_now 2 (xr_R 1 20) (some .int) [.ref (G.2.2.1 a0), .int a1] h (xr_Qi G r h1) := by
  refine xr_start rfl (Nat.le_of_ble_eq_true rfl) (fun K C => ?_)
  show xr_j l G K 2 h [(0, .ref (G.2.2.1 a0)), (1, .int a1)] 0 []
  unfold fX9_now at hF
  refine xr_aload_n C 0 dX9_now_0 rfl rfl ?_
  refine xr_geti C flX9_113 rfl dX9_now_1 ta0 ?_
  refine xr_if_ne C 9 dX9_now_4 (by decide) (fun c4 => ?_) (fun c4 => ?_)
  · have hF := fx_neg hF c4
    refine xr_iload_n C 1 dX9_now_9 rfl rfl ?_
    by_cases c10_0 : a1 = 0
    · have hF := fx_pos hF c10_0
      refine xr_tableIn C 60 dX9_now_10 (by rw [c10_0]; decide) (by rw [c10_0]; decide) (by rw [c10_0]; first | done | rfl) (by decide) ?_
      refine xr_aload_n C 0 dX9_now_60 rfl rfl ?_
      refine xr_getr C flX9_33 rfl (by decide) dX9_now_61 ta0 (fun t61 => ?_)
      refine xr_getr C flX9_296 rfl (by decide) dX9_now_64 t61 (fun t64 => ?_)
      refine xr_geti C flX9_299 rfl dX9_now_67 t64 ?_
      cases hF
      exact xr_iret C dX9_now_70
    have hF := fx_neg hF c10_0
    by_cases c10_1 : a1 = 1
    · have hF := fx_pos hF c10_1
      refine xr_tableIn C 71 dX9_now_10 (by rw [c10_1]; decide) (by rw [c10_1]; decide) (by rw [c10_1]; first | done | rfl) (by decide) ?_
      refine xr_aload_n C 0 dX9_now_71 rfl rfl ?_
      refine xr_getr C flX9_33 rfl (by decide) dX9_now_72 ta0 (fun t72 => ?_)
      refine xr_getr C flX9_302 rfl (by decide) dX9_now_75 t72 (fun t75 => ?_)
      refine xr_geti C flX9_299 rfl dX9_now_78 t75 ?_
      cases hF
      exact xr_iret C dX9_now_81
    have hF := fx_neg hF c10_1
    by_cases c10_2 : a1 = 2
    · have hF := fx_pos hF c10_2
      refine xr_tableIn C 82 dX9_now_10 (by rw [c10_2]; decide) (by rw [c10_2]; decide) (by rw [c10_2]; first | done | rfl) (by decide) ?_
      refine xr_aload_n C 0 dX9_now_82 rfl rfl ?_
      refine xr_getr C flX9_33 rfl (by decide) dX9_now_83 ta0 (fun t83 => ?_)
      refine xr_geti C flX9_257 rfl dX9_now_86 t83 ?_
      cases hF
      exact xr_iret C dX9_now_89
    have hF := fx_neg hF c10_2
    by_cases c10_3 : a1 = 3
    · have hF := fx_pos hF c10_3
      refine xr_tableIn C 90 dX9_now_10 (by rw [c10_3]; decide) (by rw [c10_3]; decide) (by rw [c10_3]; first | done | rfl) (by decide) ?_
      refine xr_aload_n C 0 dX9_now_90 rfl rfl ?_
      obtain ⟨r91, h91, e91, hF⟩ := fx_b2E hF
      refine xr_callVi C mvX9_250 [] [] (mX9_isOver l G a0 ta0 h h91 r91 e91) ta0 (by decide) vc9 rfl ⟨rfl, rfl, (Nat.le_of_ble_eq_true rfl), (Nat.le_of_ble_eq_true rfl)⟩ rfl (Nat.le_of_ble_eq_true rfl) dX9_now_91 ?_
      refine xr_if_eq C 101 dX9_now_94 (by decide) (fun c94 => ?_) (fun c94 => ?_)
      · have hF := fx_pos hF c94
        refine xr_iconst (v := 0) C dX9_now_101 (by decide) ?_
        cases hF
        exact xr_iret C dX9_now_102
      · have hF := fx_neg hF c94
        refine xr_iconst (v := 1) C dX9_now_97 (by decide) ?_
        refine xr_goto C 102 dX9_now_98 (by decide) ?_
        cases hF
        exact xr_iret C dX9_now_102
    have hF := fx_neg hF c10_3
    by_cases c10_4 : a1 = 4
    · have hF := fx_pos hF c10_4
      refine xr_tableIn C 103 dX9_now_10 (by rw [c10_4]; decide) (by rw [c10_4]; decide) (by rw [c10_4]; first | done | rfl) (by decide) ?_
      refine xr_aload_n C 0 dX9_now_103 rfl rfl ?_
      refine xr_getr C flX9_33 rfl (by decide) dX9_now_104 ta0 (fun t104 => ?_)
      refine xr_getr C flX9_296 rfl (by decide) dX9_now_107 t104 (fun t107 => ?_)
      refine xr_geti C flX9_274 rfl dX9_now_110 t107 ?_
      cases hF
      exact xr_iret C dX9_now_113
    have hF := fx_neg hF c10_4
    by_cases c10_5 : a1 = 5
    · have hF := fx_pos hF c10_5
      refine xr_tableIn C 114 dX9_now_10 (by rw [c10_5]; decide) (by rw [c10_5]; decide) (by rw [c10_5]; first | done | rfl) (by decide) ?_
      refine xr_aload_n C 0 dX9_now_114 rfl rfl ?_
      refine xr_getr C flX9_33 rfl (by decide) dX9_now_115 ta0 (fun t115 => ?_)
      refine xr_getr C flX9_302 rfl (by decide) dX9_now_118 t115 (fun t118 => ?_)
      refine xr_geti C flX9_274 rfl dX9_now_121 t118 ?_
      cases hF
      exact xr_iret C dX9_now_124
    have hF := fx_neg hF c10_5
    by_cases c10_6 : a1 = 6
    · have hF := fx_pos hF c10_6
      refine xr_tableIn C 125 dX9_now_10 (by rw [c10_6]; decide) (by rw [c10_6]; decide) (by rw [c10_6]; first | done | rfl) (by decide) ?_
      refine xr_aload_n C 0 dX9_now_125 rfl rfl ?_
      refine xr_getr C flX9_33 rfl (by decide) dX9_now_126 ta0 (fun t126 => ?_)
      refine xr_getr C flX9_296 rfl (by decide) dX9_now_129 t126 (fun t129 => ?_)
      refine xr_geti C flX9_314 rfl dX9_now_132 t129 ?_
      cases hF
      exact xr_iret C dX9_now_135
    have hF := fx_neg hF c10_6
    by_cases c10_7 : a1 = 7
    · have hF := fx_pos hF c10_7
      refine xr_tableIn C 136 dX9_now_10 (by rw [c10_7]; decide) (by rw [c10_7]; decide) (by rw [c10_7]; first | done | rfl) (by decide) ?_
      refine xr_aload_n C 0 dX9_now_136 rfl rfl ?_
      refine xr_getr C flX9_33 rfl (by decide) dX9_now_137 ta0 (fun t137 => ?_)
      refine xr_getr C flX9_302 rfl (by decide) dX9_now_140 t137 (fun t140 => ?_)
      refine xr_geti C flX9_314 rfl dX9_now_143 t140 ?_
      cases hF
      exact xr_iret C dX9_now_146
    have hF := fx_neg hF c10_7
    by_cases c10_8 : a1 = 8
    · have hF := fx_pos hF c10_8
      refine xr_tableIn C 147 dX9_now_10 (by rw [c10_8]; decide) (by rw [c10_8]; decide) (by rw [c10_8]; first | done | rfl) (by decide) ?_
      refine xr_aload_n C 0 dX9_now_147 rfl rfl ?_
      refine xr_getr C flX9_33 rfl (by decide) dX9_now_148 ta0 (fun t148 => ?_)
      refine xr_geti C flX9_186 rfl dX9_now_151 t148 ?_
      cases hF
      exact xr_iret C dX9_now_154
    have hF := fx_neg hF c10_8
    refine xr_tableOut C 155 dX9_now_10 (fx_out9 c10_0 c10_1 c10_2 c10_3 c10_4 c10_5 c10_6 c10_7 c10_8) (by decide) ?_
    refine xr_iconst (v := -1) C dX9_now_155 (by decide) ?_
    cases hF
    exact xr_iret C dX9_now_156
  · have hF := fx_pos hF c4
    refine xr_iconst (v := -1) C dX9_now_7 (by decide) ?_
    cases hF
    exact xr_iret C dX9_now_8
theorem dX9_run_0 : decode cX9_run 0 = .ok (.aload_n 0, 1) := by decide +kernel
theorem dX9_run_1 : decode cX9_run 1 = .ok (.getfield 113, 3) := by decide +kernel
theorem dX9_run_4 : decode cX9_run 4 = .ok (.ifCond .eq 12, 3) := by decide +kernel
theorem dX9_run_7 : decode cX9_run 7 = .ok (.iload_n 1, 1) := by decide +kernel
theorem dX9_run_8 : decode cX9_run 8 = .ok (.ifCond .lt 8, 3) := by decide +kernel
theorem dX9_run_11 : decode cX9_run 11 = .ok (.iload_n 1, 1) := by decide +kernel
theorem dX9_run_12 : decode cX9_run 12 = .ok (.iconst 4, 1) := by decide +kernel
theorem dX9_run_13 : decode cX9_run 13 = .ok (.if_icmp .le 5, 3) := by decide +kernel
theorem dX9_run_16 : decode cX9_run 16 = .ok (.iconst (-1), 1) := by decide +kernel
theorem dX9_run_17 : decode cX9_run 17 = .ok (.ireturn, 1) := by decide +kernel
theorem dX9_run_18 : decode cX9_run 18 = .ok (.aload_n 0, 1) := by decide +kernel
theorem dX9_run_19 : decode cX9_run 19 = .ok (.aload_n 0, 1) := by decide +kernel
theorem dX9_run_20 : decode cX9_run 20 = .ok (.getfield 33, 3) := by decide +kernel
theorem dX9_run_23 : decode cX9_run 23 = .ok (.getfield 257, 3) := by decide +kernel
theorem dX9_run_26 : decode cX9_run 26 = .ok (.iconst 1, 1) := by decide +kernel
theorem dX9_run_27 : decode cX9_run 27 = .ok (.invokevirtual 204, 3) := by decide +kernel
theorem dX9_run_30 : decode cX9_run 30 = .ok (.istore_n 2, 1) := by decide +kernel
theorem dX9_run_31 : decode cX9_run 31 = .ok (.iload_n 1, 1) := by decide +kernel
theorem dX9_run_32 : decode cX9_run 32 = .ok (.ifCond .ne 26, 3) := by decide +kernel
theorem dX9_run_35 : decode cX9_run 35 = .ok (.aload_n 0, 1) := by decide +kernel
theorem dX9_run_36 : decode cX9_run 36 = .ok (.getfield 26, 3) := by decide +kernel
theorem dX9_run_39 : decode cX9_run 39 = .ok (.aload_n 0, 1) := by decide +kernel
theorem dX9_run_40 : decode cX9_run 40 = .ok (.getfield 33, 3) := by decide +kernel
theorem dX9_run_43 : decode cX9_run 43 = .ok (.getfield 186, 3) := by decide +kernel
theorem dX9_run_46 : decode cX9_run 46 = .ok (.aload_n 0, 1) := by decide +kernel
theorem dX9_run_47 : decode cX9_run 47 = .ok (.getfield 33, 3) := by decide +kernel
theorem dX9_run_50 : decode cX9_run 50 = .ok (.getfield 257, 3) := by decide +kernel
theorem dX9_run_53 : decode cX9_run 53 = .ok (.iload_n 2, 1) := by decide +kernel
theorem dX9_run_54 : decode cX9_run 54 = .ok (.invokevirtual 317, 3) := by decide +kernel
theorem dX9_run_57 : decode cX9_run 57 = .ok (.ireturn, 1) := by decide +kernel
theorem dX9_run_58 : decode cX9_run 58 = .ok (.iload_n 1, 1) := by decide +kernel
theorem dX9_run_59 : decode cX9_run 59 = .ok (.iconst 1, 1) := by decide +kernel
theorem dX9_run_60 : decode cX9_run 60 = .ok (.if_icmp .ne 5, 3) := by decide +kernel
theorem dX9_run_63 : decode cX9_run 63 = .ok (.iload_n 2, 1) := by decide +kernel
theorem dX9_run_64 : decode cX9_run 64 = .ok (.ireturn, 1) := by decide +kernel
theorem dX9_run_65 : decode cX9_run 65 = .ok (.aload_n 0, 1) := by decide +kernel
theorem dX9_run_66 : decode cX9_run 66 = .ok (.getfield 54, 3) := by decide +kernel
theorem dX9_run_69 : decode cX9_run 69 = .ok (.invokevirtual 320, 3) := by decide +kernel
theorem dX9_run_72 : decode cX9_run 72 = .ok (.aload_n 0, 1) := by decide +kernel
theorem dX9_run_73 : decode cX9_run 73 = .ok (.getfield 26, 3) := by decide +kernel
theorem dX9_run_76 : decode cX9_run 76 = .ok (.aload_n 0, 1) := by decide +kernel
theorem dX9_run_77 : decode cX9_run 77 = .ok (.getfield 33, 3) := by decide +kernel
theorem dX9_run_80 : decode cX9_run 80 = .ok (.getfield 186, 3) := by decide +kernel
theorem dX9_run_83 : decode cX9_run 83 = .ok (.aload_n 0, 1) := by decide +kernel
theorem dX9_run_84 : decode cX9_run 84 = .ok (.getfield 54, 3) := by decide +kernel
theorem dX9_run_87 : decode cX9_run 87 = .ok (.invokevirtual 323, 3) := by decide +kernel
theorem dX9_run_90 : decode cX9_run 90 = .ok (.iload_n 1, 1) := by decide +kernel
theorem dX9_run_91 : decode cX9_run 91 = .ok (.iconst 2, 1) := by decide +kernel
theorem dX9_run_92 : decode cX9_run 92 = .ok (.if_icmp .ne 25, 3) := by decide +kernel
theorem dX9_run_95 : decode cX9_run 95 = .ok (.aload_n 0, 1) := by decide +kernel
theorem dX9_run_96 : decode cX9_run 96 = .ok (.getfield 54, 3) := by decide +kernel
theorem dX9_run_99 : decode cX9_run 99 = .ok (.getfield 143, 3) := by decide +kernel
theorem dX9_run_102 : decode cX9_run 102 = .ok (.ifCond .eq 13, 3) := by decide +kernel
theorem dX9_run_105 : decode cX9_run 105 = .ok (.aload_n 0, 1) := by decide +kernel
theorem dX9_run_106 : decode cX9_run 106 = .ok (.getfield 54, 3) := by decide +kernel
theorem dX9_run_109 : decode cX9_run 109 = .ok (.getfield 327, 3) := by decide +kernel
theorem dX9_run_112 : decode cX9_run 112 = .ok (.goto 4, 3) := by decide +kernel
theorem dX9_run_115 : decode cX9_run 115 = .ok (.iconst 0, 1) := by decide +kernel
theorem dX9_run_116 : decode cX9_run 116 = .ok (.ireturn, 1) := by decide +kernel
theorem dX9_run_117 : decode cX9_run 117 = .ok (.aload_n 0, 1) := by decide +kernel
theorem dX9_run_118 : decode cX9_run 118 = .ok (.getfield 54, 3) := by decide +kernel
theorem dX9_run_121 : decode cX9_run 121 = .ok (.getfield 143, 3) := by decide +kernel
theorem dX9_run_124 : decode cX9_run 124 = .ok (.ifCond .ne 6, 3) := by decide +kernel
theorem dX9_run_127 : decode cX9_run 127 = .ok (.bipush (-2), 2) := by decide +kernel
theorem dX9_run_129 : decode cX9_run 129 = .ok (.ireturn, 1) := by decide +kernel
theorem dX9_run_130 : decode cX9_run 130 = .ok (.iload_n 1, 1) := by decide +kernel
theorem dX9_run_131 : decode cX9_run 131 = .ok (.iconst 3, 1) := by decide +kernel
theorem dX9_run_132 : decode cX9_run 132 = .ok (.if_icmp .ne 13, 3) := by decide +kernel
theorem dX9_run_135 : decode cX9_run 135 = .ok (.aload_n 0, 1) := by decide +kernel
theorem dX9_run_136 : decode cX9_run 136 = .ok (.getfield 54, 3) := by decide +kernel
theorem dX9_run_139 : decode cX9_run 139 = .ok (.getfield 330, 3) := by decide +kernel
theorem dX9_run_142 : decode cX9_run 142 = .ok (.goto 10, 3) := by decide +kernel
theorem dX9_run_145 : decode cX9_run 145 = .ok (.aload_n 0, 1) := by decide +kernel
theorem dX9_run_146 : decode cX9_run 146 = .ok (.getfield 54, 3) := by decide +kernel
theorem dX9_run_149 : decode cX9_run 149 = .ok (.getfield 333, 3) := by decide +kernel
theorem dX9_run_152 : decode cX9_run 152 = .ok (.ireturn, 1) := by decide +kernel
def fX9_run (a0 : Nat) (a1 : Int32) (h : hp_T) : Option (Int32 × hp_T) := if (h.1 a0 13) = 0 then (some ((-1 : Int32), h)) else (if a1 < 0 then (some ((-1 : Int32), h)) else (if a1 ≤ (4 : Int32) then (fx_b2 (fX9_whoIsOn a0 (h.1 (h.2.2 a0 3) 2) (1 : Int32) h) fun (r27 : Int32) (h27 : hp_T) => if a1 = 0 then (fx_b2 (fX3_runUpTo (h27.2.2 a0 2) (h27.1 (h27.2.2 a0 3) 3) (h27.1 (h27.2.2 a0 3) 2) r27 h27) fun (r54 : Int32) (h54 : hp_T) => some (r54, h54)) else (if a1 = (1 : Int32) then (some (r27, h27)) else (fx_b1 (fX0_clear (h27.2.2 a0 8) h27) fun (h69 : hp_T) => fx_b1 (fX3_offerRuns (h69.2.2 a0 2) (h69.1 (h69.2.2 a0 3) 3) (h69.2.2 a0 8) h69) fun (h87 : hp_T) => if a1 = (2 : Int32) then (if (h87.1 (h87.2.2 a0 8) 0) = 0 then (some ((0 : Int32), h87)) else (some ((h87.1 (h87.2.2 a0 8) 3), h87))) else (if (h87.1 (h87.2.2 a0 8) 0) = 0 then (some ((-2 : Int32), h87)) else (if a1 = (3 : Int32) then (some ((h87.1 (h87.2.2 a0 8) 1), h87)) else (some ((h87.1 (h87.2.2 a0 8) 2), h87))))))) else (some ((-1 : Int32), h))))
set_option maxRecDepth 100000 in
set_option maxHeartbeats 4000000 in
theorem mX9_run (l : Launch) (G : xr_G) (a0 : Nat) (a1 : Int32) (ta0 : hp_sh a0 = (9, 0)) (h h1 : hp_T) (r : Int32) (hF : fX9_run a0 a1 h = some (r, h1)) : xr_M l G yX9_run cX9_run 3 (xr_R 3 109) (some .int) [.ref (G.2.2.1 a0), .int a1] h (xr_Qi G r h1) := by
  refine xr_start rfl (Nat.le_of_ble_eq_true rfl) (fun K C => ?_)
  show xr_j l G K 3 h [(0, .ref (G.2.2.1 a0)), (1, .int a1)] 0 []
  unfold fX9_run at hF
  refine xr_aload_n C 0 dX9_run_0 rfl rfl ?_
  refine xr_geti C flX9_113 rfl dX9_run_1 ta0 ?_
  refine xr_if_eq C 16 dX9_run_4 (by decide) (fun c4 => ?_) (fun c4 => ?_)
  · have hF := fx_pos hF c4
    refine xr_iconst (v := -1) C dX9_run_16 (by decide) ?_
    cases hF
    exact xr_iret C dX9_run_17
  · have hF := fx_neg hF c4
    refine xr_iload_n C 1 dX9_run_7 rfl rfl ?_
    refine xr_if_lt C 16 dX9_run_8 (by decide) (fun c8 => ?_) (fun c8 => ?_)
    · have hF := fx_pos hF c8
      refine xr_iconst (v := -1) C dX9_run_16 (by decide) ?_
      cases hF
      exact xr_iret C dX9_run_17
    · have hF := fx_neg hF c8
      refine xr_iload_n C 1 dX9_run_11 rfl rfl ?_
      refine xr_iconst (v := 4) C dX9_run_12 (by decide) ?_
      refine xr_icmp_le C 18 dX9_run_13 (by decide) (fun c13 => ?_) (fun c13 => ?_)
      · have hF := fx_pos hF c13
        refine xr_aload_n C 0 dX9_run_18 rfl rfl ?_
        refine xr_aload_n C 0 dX9_run_19 rfl rfl ?_
        refine xr_getr C flX9_33 rfl (by decide) dX9_run_20 ta0 (fun t20 => ?_)
        refine xr_geti C flX9_257 rfl dX9_run_23 t20 ?_
        refine xr_iconst (v := 1) C dX9_run_26 (by decide) ?_
        obtain ⟨r27, h27, e27, hF⟩ := fx_b2E hF
        refine xr_callVi C mvX9_204 [.int (h.1 (h.2.2 a0 3) 2), .int (1 : Int32)] [] (mX9_whoIsOn l G a0 (h.1 (h.2.2 a0 3) 2) (1 : Int32) ta0 h h27 r27 e27) ta0 (by decide) vc9 rfl ⟨rfl, rfl, (Nat.le_of_ble_eq_true rfl), (Nat.le_of_ble_eq_true rfl)⟩ rfl (Nat.le_of_ble_eq_true rfl) dX9_run_27 ?_
        refine xr_istore_n C [(2, .int r27), (0, .ref (G.2.2.1 a0)), (1, .int a1)] dX9_run_30 rfl (Nat.le_of_ble_eq_true rfl) rfl ?_
        refine xr_iload_n C 2 dX9_run_31 rfl rfl ?_
        refine xr_if_ne C 58 dX9_run_32 (by decide) (fun c32 => ?_) (fun c32 => ?_)
        · have hF := fx_neg hF c32
          refine xr_iload_n C 2 dX9_run_58 rfl rfl ?_
          refine xr_iconst (v := 1) C dX9_run_59 (by decide) ?_
          refine xr_icmp_ne C 65 dX9_run_60 (by decide) (fun c60 => ?_) (fun c60 => ?_)
          · have hF := fx_neg hF c60
            refine xr_aload_n C 1 dX9_run_65 rfl rfl ?_
            refine xr_getr C flX9_54 rfl (by decide) dX9_run_66 ta0 (fun t66 => ?_)
            obtain ⟨h69, e69, hF⟩ := fx_b1E hF
            refine xr_callVv C mvX9_320 [] [] (mX0_clear l G (h27.2.2 a0 8) t66 h27 h69 e69) t66 (by decide) vc0 rfl ⟨rfl, rfl, (Nat.le_of_ble_eq_true rfl), (Nat.le_of_ble_eq_true rfl)⟩ rfl (Nat.le_of_ble_eq_true rfl) dX9_run_69 ?_
            refine xr_aload_n C 1 dX9_run_72 rfl rfl ?_
            refine xr_getr C flX9_26 rfl (by decide) dX9_run_73 ta0 (fun t73 => ?_)
            refine xr_aload_n C 1 dX9_run_76 rfl rfl ?_
            refine xr_getr C flX9_33 rfl (by decide) dX9_run_77 ta0 (fun t77 => ?_)
            refine xr_geti C flX9_186 rfl dX9_run_80 t77 ?_
            refine xr_aload_n C 1 dX9_run_83 rfl rfl ?_
            refine xr_getr C flX9_54 rfl (by decide) dX9_run_84 ta0 (fun t84 => ?_)
            obtain ⟨h87, e87, hF⟩ := fx_b1E hF
            refine xr_callVv C mvX9_323 [.int (h69.1 (h69.2.2 a0 3) 3), .ref (G.2.2.1 (h69.2.2 a0 8))] [] (mX3_offerRuns l G (h69.2.2 a0 2) (h69.1 (h69.2.2 a0 3) 3) (h69.2.2 a0 8) t73 t84 h69 h87 e87) t73 (by decide) vc3 rfl ⟨rfl, rfl, (Nat.le_of_ble_eq_true rfl), (Nat.le_of_ble_eq_true rfl)⟩ rfl (Nat.le_of_ble_eq_true rfl) dX9_run_87 ?_
            refine xr_iload_n C 2 dX9_run_90 rfl rfl ?_
            refine xr_iconst (v := 2) C dX9_run_91 (by decide) ?_
            refine xr_icmp_ne C 117 dX9_run_92 (by decide) (fun c92 => ?_) (fun c92 => ?_)
            · have hF := fx_neg hF c92
              refine xr_aload_n C 1 dX9_run_117 rfl rfl ?_
              refine xr_getr C flX9_54 rfl (by decide) dX9_run_118 ta0 (fun t118 => ?_)
              refine xr_geti C flX9_143 rfl dX9_run_121 t118 ?_
              refine xr_if_ne C 130 dX9_run_124 (by decide) (fun c124 => ?_) (fun c124 => ?_)
              · have hF := fx_neg hF c124
                refine xr_iload_n C 2 dX9_run_130 rfl rfl ?_
                refine xr_iconst (v := 3) C dX9_run_131 (by decide) ?_
                refine xr_icmp_ne C 145 dX9_run_132 (by decide) (fun c132 => ?_) (fun c132 => ?_)
                · have hF := fx_neg hF c132
                  refine xr_aload_n C 1 dX9_run_145 rfl rfl ?_
                  refine xr_getr C flX9_54 rfl (by decide) dX9_run_146 ta0 (fun t146 => ?_)
                  refine xr_geti C flX9_333 rfl dX9_run_149 t146 ?_
                  cases hF
                  exact xr_iret C dX9_run_152
                · have hF := fx_pos hF c132
                  refine xr_aload_n C 1 dX9_run_135 rfl rfl ?_
                  refine xr_getr C flX9_54 rfl (by decide) dX9_run_136 ta0 (fun t136 => ?_)
                  refine xr_geti C flX9_330 rfl dX9_run_139 t136 ?_
                  refine xr_goto C 152 dX9_run_142 (by decide) ?_
                  cases hF
                  exact xr_iret C dX9_run_152
              · have hF := fx_pos hF c124
                refine xr_bipush (v := -2) C dX9_run_127 (by decide) ?_
                cases hF
                exact xr_iret C dX9_run_129
            · have hF := fx_pos hF c92
              refine xr_aload_n C 1 dX9_run_95 rfl rfl ?_
              refine xr_getr C flX9_54 rfl (by decide) dX9_run_96 ta0 (fun t96 => ?_)
              refine xr_geti C flX9_143 rfl dX9_run_99 t96 ?_
              refine xr_if_eq C 115 dX9_run_102 (by decide) (fun c102 => ?_) (fun c102 => ?_)
              · have hF := fx_pos hF c102
                refine xr_iconst (v := 0) C dX9_run_115 (by decide) ?_
                cases hF
                exact xr_iret C dX9_run_116
              · have hF := fx_neg hF c102
                refine xr_aload_n C 1 dX9_run_105 rfl rfl ?_
                refine xr_getr C flX9_54 rfl (by decide) dX9_run_106 ta0 (fun t106 => ?_)
                refine xr_geti C flX9_327 rfl dX9_run_109 t106 ?_
                refine xr_goto C 116 dX9_run_112 (by decide) ?_
                cases hF
                exact xr_iret C dX9_run_116
          · have hF := fx_pos hF c60
            refine xr_iload_n C 0 dX9_run_63 rfl rfl ?_
            cases hF
            exact xr_iret C dX9_run_64
        · have hF := fx_pos hF c32
          refine xr_aload_n C 1 dX9_run_35 rfl rfl ?_
          refine xr_getr C flX9_26 rfl (by decide) dX9_run_36 ta0 (fun t36 => ?_)
          refine xr_aload_n C 1 dX9_run_39 rfl rfl ?_
          refine xr_getr C flX9_33 rfl (by decide) dX9_run_40 ta0 (fun t40 => ?_)
          refine xr_geti C flX9_186 rfl dX9_run_43 t40 ?_
          refine xr_aload_n C 1 dX9_run_46 rfl rfl ?_
          refine xr_getr C flX9_33 rfl (by decide) dX9_run_47 ta0 (fun t47 => ?_)
          refine xr_geti C flX9_257 rfl dX9_run_50 t47 ?_
          refine xr_iload_n C 0 dX9_run_53 rfl rfl ?_
          obtain ⟨r54, h54, e54, hF⟩ := fx_b2E hF
          refine xr_callVi C mvX9_317 [.int (h27.1 (h27.2.2 a0 3) 3), .int (h27.1 (h27.2.2 a0 3) 2), .int r27] [] (mX3_runUpTo l G (h27.2.2 a0 2) (h27.1 (h27.2.2 a0 3) 3) (h27.1 (h27.2.2 a0 3) 2) r27 t36 h27 h54 r54 e54) t36 (by decide) vc3 rfl ⟨rfl, rfl, (Nat.le_of_ble_eq_true rfl), (Nat.le_of_ble_eq_true rfl)⟩ rfl (Nat.le_of_ble_eq_true rfl) dX9_run_54 ?_
          cases hF
          exact xr_iret C dX9_run_57
      · have hF := fx_neg hF c13
        refine xr_iconst (v := -1) C dX9_run_16 (by decide) ?_
        cases hF
        exact xr_iret C dX9_run_17
theorem dX9_was_0 : decode cX9_was 0 = .ok (.aload_n 0, 1) := by decide +kernel
theorem dX9_was_1 : decode cX9_was 1 = .ok (.getfield 113, 3) := by decide +kernel
theorem dX9_was_4 : decode cX9_was 4 = .ok (.ifCond .eq 16, 3) := by decide +kernel
theorem dX9_was_7 : decode cX9_was 7 = .ok (.iload_n 1, 1) := by decide +kernel
theorem dX9_was_8 : decode cX9_was 8 = .ok (.ifCond .lt 12, 3) := by decide +kernel
theorem dX9_was_11 : decode cX9_was 11 = .ok (.iload_n 2, 1) := by decide +kernel
theorem dX9_was_12 : decode cX9_was 12 = .ok (.ifCond .lt 8, 3) := by decide +kernel
theorem dX9_was_15 : decode cX9_was 15 = .ok (.iload_n 2, 1) := by decide +kernel
theorem dX9_was_16 : decode cX9_was 16 = .ok (.iconst 2, 1) := by decide +kernel
theorem dX9_was_17 : decode cX9_was 17 = .ok (.if_icmp .le 5, 3) := by decide +kernel
theorem dX9_was_20 : decode cX9_was 20 = .ok (.iconst (-1), 1) := by decide +kernel
theorem dX9_was_21 : decode cX9_was 21 = .ok (.ireturn, 1) := by decide +kernel
theorem dX9_was_22 : decode cX9_was 22 = .ok (.iload_n 1, 1) := by decide +kernel
theorem dX9_was_23 : decode cX9_was 23 = .ok (.aload_n 0, 1) := by decide +kernel
theorem dX9_was_24 : decode cX9_was 24 = .ok (.getfield 33, 3) := by decide +kernel
theorem dX9_was_27 : decode cX9_was 27 = .ok (.getfield 186, 3) := by decide +kernel
theorem dX9_was_30 : decode cX9_was 30 = .ok (.if_icmp .lt 6, 3) := by decide +kernel
theorem dX9_was_33 : decode cX9_was 33 = .ok (.bipush (-2), 2) := by decide +kernel
theorem dX9_was_35 : decode cX9_was 35 = .ok (.ireturn, 1) := by decide +kernel
theorem dX9_was_36 : decode cX9_was 36 = .ok (.iload_n 2, 1) := by decide +kernel
theorem dX9_was_37 : decode cX9_was 37 = .ok (.ifCond .ne 13, 3) := by decide +kernel
theorem dX9_was_40 : decode cX9_was 40 = .ok (.aload_n 0, 1) := by decide +kernel
theorem dX9_was_41 : decode cX9_was 41 = .ok (.getfield 26, 3) := by decide +kernel
theorem dX9_was_44 : decode cX9_was 44 = .ok (.getfield 336, 3) := by decide +kernel
theorem dX9_was_47 : decode cX9_was 47 = .ok (.iload_n 1, 1) := by decide +kernel
theorem dX9_was_48 : decode cX9_was 48 = .ok (.iaload, 1) := by decide +kernel
theorem dX9_was_49 : decode cX9_was 49 = .ok (.ireturn, 1) := by decide +kernel
theorem dX9_was_50 : decode cX9_was 50 = .ok (.iload_n 2, 1) := by decide +kernel
theorem dX9_was_51 : decode cX9_was 51 = .ok (.iconst 1, 1) := by decide +kernel
theorem dX9_was_52 : decode cX9_was 52 = .ok (.if_icmp .ne 15, 3) := by decide +kernel
theorem dX9_was_55 : decode cX9_was 55 = .ok (.aload_n 0, 1) := by decide +kernel
theorem dX9_was_56 : decode cX9_was 56 = .ok (.getfield 26, 3) := by decide +kernel
theorem dX9_was_59 : decode cX9_was 59 = .ok (.getfield 339, 3) := by decide +kernel
theorem dX9_was_62 : decode cX9_was 62 = .ok (.iload_n 1, 1) := by decide +kernel
theorem dX9_was_63 : decode cX9_was 63 = .ok (.iaload, 1) := by decide +kernel
theorem dX9_was_64 : decode cX9_was 64 = .ok (.goto 12, 3) := by decide +kernel
theorem dX9_was_67 : decode cX9_was 67 = .ok (.aload_n 0, 1) := by decide +kernel
theorem dX9_was_68 : decode cX9_was 68 = .ok (.getfield 26, 3) := by decide +kernel
theorem dX9_was_71 : decode cX9_was 71 = .ok (.getfield 342, 3) := by decide +kernel
theorem dX9_was_74 : decode cX9_was 74 = .ok (.iload_n 1, 1) := by decide +kernel
theorem dX9_was_75 : decode cX9_was 75 = .ok (.iaload, 1) := by decide +kernel
theorem dX9_was_76 : decode cX9_was 76 = .ok (.ireturn, 1) := by decide +kernel
def fX9_was (a0 : Nat) (a1 : Int32) (a2 : Int32) (h : hp_T) : Option (Int32 × hp_T) := if (h.1 a0 13) = 0 then (some ((-1 : Int32), h)) else (if a1 < 0 then (some ((-1 : Int32), h)) else (if a2 < 0 then (some ((-1 : Int32), h)) else (if a2 ≤ (2 : Int32) then (if a1 < (h.1 (h.2.2 a0 3) 3) then (if a2 = 0 then (fx_g (fx_in a1 49) (some ((h.1 (h.2.2 (h.2.2 a0 2) 0) (fx_ix a1)), h))) else (if a2 = (1 : Int32) then (fx_g (fx_in a1 49) (some ((h.1 (h.2.2 (h.2.2 a0 2) 1) (fx_ix a1)), h))) else (fx_g (fx_in a1 49) (some ((h.1 (h.2.2 (h.2.2 a0 2) 2) (fx_ix a1)), h))))) else (some ((-2 : Int32), h))) else (some ((-1 : Int32), h)))))
set_option maxRecDepth 100000 in
set_option maxHeartbeats 4000000 in
theorem mX9_was (l : Launch) (G : xr_G) (a0 : Nat) (a1 : Int32) (a2 : Int32) (ta0 : hp_sh a0 = (9, 0)) (h h1 : hp_T) (r : Int32) (hF : fX9_was a0 a1 a2 h = some (r, h1)) : xr_M l G yX9_was cX9_was 3 (xr_R 0 0) (some .int) [.ref (G.2.2.1 a0), .int a1, .int a2] h (xr_Qi G r h1) := by
  refine xr_start rfl (Nat.le_of_ble_eq_true rfl) (fun K C => ?_)
  show xr_j l G K 3 h [(0, .ref (G.2.2.1 a0)), (1, .int a1), (2, .int a2)] 0 []
  unfold fX9_was at hF
  refine xr_aload_n C 0 dX9_was_0 rfl rfl ?_
  refine xr_geti C flX9_113 rfl dX9_was_1 ta0 ?_
  refine xr_if_eq C 20 dX9_was_4 (by decide) (fun c4 => ?_) (fun c4 => ?_)
  · have hF := fx_pos hF c4
    refine xr_iconst (v := -1) C dX9_was_20 (by decide) ?_
    cases hF
    exact xr_iret C dX9_was_21
  · have hF := fx_neg hF c4
    refine xr_iload_n C 1 dX9_was_7 rfl rfl ?_
    refine xr_if_lt C 20 dX9_was_8 (by decide) (fun c8 => ?_) (fun c8 => ?_)
    · have hF := fx_pos hF c8
      refine xr_iconst (v := -1) C dX9_was_20 (by decide) ?_
      cases hF
      exact xr_iret C dX9_was_21
    · have hF := fx_neg hF c8
      refine xr_iload_n C 2 dX9_was_11 rfl rfl ?_
      refine xr_if_lt C 20 dX9_was_12 (by decide) (fun c12 => ?_) (fun c12 => ?_)
      · have hF := fx_pos hF c12
        refine xr_iconst (v := -1) C dX9_was_20 (by decide) ?_
        cases hF
        exact xr_iret C dX9_was_21
      · have hF := fx_neg hF c12
        refine xr_iload_n C 2 dX9_was_15 rfl rfl ?_
        refine xr_iconst (v := 2) C dX9_was_16 (by decide) ?_
        refine xr_icmp_le C 22 dX9_was_17 (by decide) (fun c17 => ?_) (fun c17 => ?_)
        · have hF := fx_pos hF c17
          refine xr_iload_n C 1 dX9_was_22 rfl rfl ?_
          refine xr_aload_n C 0 dX9_was_23 rfl rfl ?_
          refine xr_getr C flX9_33 rfl (by decide) dX9_was_24 ta0 (fun t24 => ?_)
          refine xr_geti C flX9_186 rfl dX9_was_27 t24 ?_
          refine xr_icmp_lt C 36 dX9_was_30 (by decide) (fun c30 => ?_) (fun c30 => ?_)
          · have hF := fx_pos hF c30
            refine xr_iload_n C 2 dX9_was_36 rfl rfl ?_
            refine xr_if_ne C 50 dX9_was_37 (by decide) (fun c37 => ?_) (fun c37 => ?_)
            · have hF := fx_neg hF c37
              refine xr_iload_n C 2 dX9_was_50 rfl rfl ?_
              refine xr_iconst (v := 1) C dX9_was_51 (by decide) ?_
              refine xr_icmp_ne C 67 dX9_was_52 (by decide) (fun c52 => ?_) (fun c52 => ?_)
              · have hF := fx_neg hF c52
                refine xr_aload_n C 0 dX9_was_67 rfl rfl ?_
                refine xr_getr C flX9_26 rfl (by decide) dX9_was_68 ta0 (fun t68 => ?_)
                refine xr_getr C flX9_342 rfl (by decide) dX9_was_71 t68 (fun t71 => ?_)
                refine xr_iload_n C 1 dX9_was_74 rfl rfl ?_
                obtain ⟨g75, hF⟩ := fx_gE hF
                refine xr_iald C dX9_was_75 t71 g75 ?_
                cases hF
                exact xr_iret C dX9_was_76
              · have hF := fx_pos hF c52
                refine xr_aload_n C 0 dX9_was_55 rfl rfl ?_
                refine xr_getr C flX9_26 rfl (by decide) dX9_was_56 ta0 (fun t56 => ?_)
                refine xr_getr C flX9_339 rfl (by decide) dX9_was_59 t56 (fun t59 => ?_)
                refine xr_iload_n C 1 dX9_was_62 rfl rfl ?_
                obtain ⟨g63, hF⟩ := fx_gE hF
                refine xr_iald C dX9_was_63 t59 g63 ?_
                refine xr_goto C 76 dX9_was_64 (by decide) ?_
                cases hF
                exact xr_iret C dX9_was_76
            · have hF := fx_pos hF c37
              refine xr_aload_n C 0 dX9_was_40 rfl rfl ?_
              refine xr_getr C flX9_26 rfl (by decide) dX9_was_41 ta0 (fun t41 => ?_)
              refine xr_getr C flX9_336 rfl (by decide) dX9_was_44 t41 (fun t44 => ?_)
              refine xr_iload_n C 1 dX9_was_47 rfl rfl ?_
              obtain ⟨g48, hF⟩ := fx_gE hF
              refine xr_iald C dX9_was_48 t44 g48 ?_
              cases hF
              exact xr_iret C dX9_was_49
          · have hF := fx_neg hF c30
            refine xr_bipush (v := -2) C dX9_was_33 (by decide) ?_
            cases hF
            exact xr_iret C dX9_was_35
        · have hF := fx_neg hF c17
          refine xr_iconst (v := -1) C dX9_was_20 (by decide) ?_
          cases hF
          exact xr_iret C dX9_was_21
theorem dX9_chance_0 : decode cX9_chance 0 = .ok (.aload_n 0, 1) := by decide +kernel
theorem dX9_chance_1 : decode cX9_chance 1 = .ok (.getfield 113, 3) := by decide +kernel
theorem dX9_chance_4 : decode cX9_chance 4 = .ok (.ifCond .ne 5, 3) := by decide +kernel
theorem dX9_chance_7 : decode cX9_chance 7 = .ok (.iconst (-1), 1) := by decide +kernel
theorem dX9_chance_8 : decode cX9_chance 8 = .ok (.ireturn, 1) := by decide +kernel
theorem dX9_chance_9 : decode cX9_chance 9 = .ok (.aload_n 0, 1) := by decide +kernel
theorem dX9_chance_10 : decode cX9_chance 10 = .ok (.invokevirtual 250, 3) := by decide +kernel
theorem dX9_chance_13 : decode cX9_chance 13 = .ok (.ifCond .eq 6, 3) := by decide +kernel
theorem dX9_chance_16 : decode cX9_chance 16 = .ok (.bipush (-2), 2) := by decide +kernel
theorem dX9_chance_18 : decode cX9_chance 18 = .ok (.ireturn, 1) := by decide +kernel
theorem dX9_chance_19 : decode cX9_chance 19 = .ok (.aload_n 0, 1) := by decide +kernel
theorem dX9_chance_20 : decode cX9_chance 20 = .ok (.invokevirtual 216, 3) := by decide +kernel
theorem dX9_chance_23 : decode cX9_chance 23 = .ok (.aload_n 0, 1) := by decide +kernel
theorem dX9_chance_24 : decode cX9_chance 24 = .ok (.getfield 19, 3) := by decide +kernel
theorem dX9_chance_27 : decode cX9_chance 27 = .ok (.iconst 0, 1) := by decide +kernel
theorem dX9_chance_28 : decode cX9_chance 28 = .ok (.iconst 0, 1) := by decide +kernel
theorem dX9_chance_29 : decode cX9_chance 29 = .ok (.aload_n 0, 1) := by decide +kernel
theorem dX9_chance_30 : decode cX9_chance 30 = .ok (.getfield 33, 3) := by decide +kernel
theorem dX9_chance_33 : decode cX9_chance 33 = .ok (.getfield 257, 3) := by decide +kernel
theorem dX9_chance_36 : decode cX9_chance 36 = .ok (.invokevirtual 351, 3) := by decide +kernel
theorem dX9_chance_39 : decode cX9_chance 39 = .ok (.ireturn, 1) := by decide +kernel
def fX9_chance (a0 : Nat) (h : hp_T) : Option (Int32 × hp_T) := if (h.1 a0 13) = 0 then (some ((-1 : Int32), h)) else (fx_b2 (fX9_isOver a0 h) fun (r10 : Int32) (h10 : hp_T) => if r10 = 0 then (fx_b1 (fX9_weighCourt a0 h10) fun (h20 : hp_T) => fx_b2 (fX4_chanceOf (h20.2.2 a0 1) (0 : Int32) (0 : Int32) (h20.1 (h20.2.2 a0 3) 2) h20) fun (r36 : Int32) (h36 : hp_T) => some (r36, h36)) else (some ((-2 : Int32), h10)))
set_option maxRecDepth 100000 in
set_option maxHeartbeats 4000000 in
theorem mX9_chance (l : Launch) (G : xr_G) (a0 : Nat) (ta0 : hp_sh a0 = (9, 0)) (h h1 : hp_T) (r : Int32) (hF : fX9_chance a0 h = some (r, h1)) : xr_M l G yX9_chance cX9_chance 1 (xr_R 5 108) (some .int) [.ref (G.2.2.1 a0)] h (xr_Qi G r h1) := by
  refine xr_start rfl (Nat.le_of_ble_eq_true rfl) (fun K C => ?_)
  show xr_j l G K 1 h [(0, .ref (G.2.2.1 a0))] 0 []
  unfold fX9_chance at hF
  refine xr_aload_n C 0 dX9_chance_0 rfl rfl ?_
  refine xr_geti C flX9_113 rfl dX9_chance_1 ta0 ?_
  refine xr_if_ne C 9 dX9_chance_4 (by decide) (fun c4 => ?_) (fun c4 => ?_)
  · have hF := fx_neg hF c4
    refine xr_aload_n C 0 dX9_chance_9 rfl rfl ?_
    obtain ⟨r10, h10, e10, hF⟩ := fx_b2E hF
    refine xr_callVi C mvX9_250 [] [] (mX9_isOver l G a0 ta0 h h10 r10 e10) ta0 (by decide) vc9 rfl ⟨rfl, rfl, (Nat.le_of_ble_eq_true rfl), (Nat.le_of_ble_eq_true rfl)⟩ rfl (Nat.le_of_ble_eq_true rfl) dX9_chance_10 ?_
    refine xr_if_eq C 19 dX9_chance_13 (by decide) (fun c13 => ?_) (fun c13 => ?_)
    · have hF := fx_pos hF c13
      refine xr_aload_n C 0 dX9_chance_19 rfl rfl ?_
      obtain ⟨h20, e20, hF⟩ := fx_b1E hF
      refine xr_callVv C mvX9_216 [] [] (mX9_weighCourt l G a0 ta0 h10 h20 e20) ta0 (by decide) vc9 rfl ⟨rfl, rfl, (Nat.le_of_ble_eq_true rfl), (Nat.le_of_ble_eq_true rfl)⟩ rfl (Nat.le_of_ble_eq_true rfl) dX9_chance_20 ?_
      refine xr_aload_n C 0 dX9_chance_23 rfl rfl ?_
      refine xr_getr C flX9_19 rfl (by decide) dX9_chance_24 ta0 (fun t24 => ?_)
      refine xr_iconst (v := 0) C dX9_chance_27 (by decide) ?_
      refine xr_iconst (v := 0) C dX9_chance_28 (by decide) ?_
      refine xr_aload_n C 0 dX9_chance_29 rfl rfl ?_
      refine xr_getr C flX9_33 rfl (by decide) dX9_chance_30 ta0 (fun t30 => ?_)
      refine xr_geti C flX9_257 rfl dX9_chance_33 t30 ?_
      obtain ⟨r36, h36, e36, hF⟩ := fx_b2E hF
      refine xr_callVi C mvX9_351 [.int (0 : Int32), .int (0 : Int32), .int (h20.1 (h20.2.2 a0 3) 2)] [] (mX4_chanceOf l G (h20.2.2 a0 1) (0 : Int32) (0 : Int32) (h20.1 (h20.2.2 a0 3) 2) t24 h20 h36 r36 e36) t24 (by decide) vc4 rfl ⟨rfl, rfl, (Nat.le_of_ble_eq_true rfl), (Nat.le_of_ble_eq_true rfl)⟩ rfl (Nat.le_of_ble_eq_true rfl) dX9_chance_36 ?_
      cases hF
      exact xr_iret C dX9_chance_39
    · have hF := fx_neg hF c13
      refine xr_bipush (v := -2) C dX9_chance_16 (by decide) ?_
      cases hF
      exact xr_iret C dX9_chance_18
  · have hF := fx_pos hF c4
    refine xr_iconst (v := -1) C dX9_chance_7 (by decide) ?_
    cases hF
    exact xr_iret C dX9_chance_8
theorem dX9_isTurns_0 : decode cX9_isTurns 0 = .ok (.iload_n 0, 1) := by decide +kernel
theorem dX9_isTurns_1 : decode cX9_isTurns 1 = .ok (.ifCond .lt 13, 3) := by decide +kernel
theorem dX9_isTurns_4 : decode cX9_isTurns 4 = .ok (.iload_n 0, 1) := by decide +kernel
theorem dX9_isTurns_5 : decode cX9_isTurns 5 = .ok (.bipush 6, 2) := by decide +kernel
theorem dX9_isTurns_7 : decode cX9_isTurns 7 = .ok (.if_icmp .ge 7, 3) := by decide +kernel
theorem dX9_isTurns_10 : decode cX9_isTurns 10 = .ok (.iconst 1, 1) := by decide +kernel
theorem dX9_isTurns_11 : decode cX9_isTurns 11 = .ok (.goto 4, 3) := by decide +kernel
theorem dX9_isTurns_14 : decode cX9_isTurns 14 = .ok (.iconst 0, 1) := by decide +kernel
theorem dX9_isTurns_15 : decode cX9_isTurns 15 = .ok (.ireturn, 1) := by decide +kernel
def fX9_isTurns (a0 : Int32) (h : hp_T) : Option (Int32 × hp_T) := if a0 < 0 then (some ((0 : Int32), h)) else (if (6 : Int32) ≤ a0 then (some ((0 : Int32), h)) else (some ((1 : Int32), h)))
set_option maxRecDepth 100000 in
set_option maxHeartbeats 4000000 in
theorem mX9_isTurns (l : Launch) (G : xr_G) (a0 : Int32)  (h h1 : hp_T) (r : Int32) (hF : fX9_isTurns a0 h = some (r, h1)) : xr_M l G yX9_isTurns cX9_isTurns 1 (xr_R 0 0) (some .boolean) [.int a0] h (xr_Qi G r h1) := by
  refine xr_start rfl (Nat.le_of_ble_eq_true rfl) (fun K C => ?_)
  show xr_j l G K 1 h [(0, .int a0)] 0 []
  unfold fX9_isTurns at hF
  refine xr_iload_n C 0 dX9_isTurns_0 rfl rfl ?_
  refine xr_if_lt C 14 dX9_isTurns_1 (by decide) (fun c1 => ?_) (fun c1 => ?_)
  · have hF := fx_pos hF c1
    refine xr_iconst (v := 0) C dX9_isTurns_14 (by decide) ?_
    cases hF
    exact xr_zret C rfl dX9_isTurns_15
  · have hF := fx_neg hF c1
    refine xr_iload_n C 0 dX9_isTurns_4 rfl rfl ?_
    refine xr_bipush (v := 6) C dX9_isTurns_5 (by decide) ?_
    refine xr_icmp_ge C 14 dX9_isTurns_7 (by decide) (fun c7 => ?_) (fun c7 => ?_)
    · have hF := fx_pos hF c7
      refine xr_iconst (v := 0) C dX9_isTurns_14 (by decide) ?_
      cases hF
      exact xr_zret C rfl dX9_isTurns_15
    · have hF := fx_neg hF c7
      refine xr_iconst (v := 1) C dX9_isTurns_10 (by decide) ?_
      refine xr_goto C 15 dX9_isTurns_11 (by decide) ?_
      cases hF
      exact xr_zret C rfl dX9_isTurns_15
theorem dX9_weighNow_0 : decode cX9_weighNow 0 = .ok (.aload_n 0, 1) := by decide +kernel
theorem dX9_weighNow_1 : decode cX9_weighNow 1 = .ok (.getfield 19, 3) := by decide +kernel
theorem dX9_weighNow_4 : decode cX9_weighNow 4 = .ok (.aload_n 0, 1) := by decide +kernel
theorem dX9_weighNow_5 : decode cX9_weighNow 5 = .ok (.getfield 68, 3) := by decide +kernel
theorem dX9_weighNow_8 : decode cX9_weighNow 8 = .ok (.aload_n 0, 1) := by decide +kernel
theorem dX9_weighNow_9 : decode cX9_weighNow 9 = .ok (.getfield 33, 3) := by decide +kernel
theorem dX9_weighNow_12 : decode cX9_weighNow 12 = .ok (.getfield 296, 3) := by decide +kernel
theorem dX9_weighNow_15 : decode cX9_weighNow 15 = .ok (.getfield 211, 3) := by decide +kernel
theorem dX9_weighNow_18 : decode cX9_weighNow 18 = .ok (.aload_n 0, 1) := by decide +kernel
theorem dX9_weighNow_19 : decode cX9_weighNow 19 = .ok (.getfield 33, 3) := by decide +kernel
theorem dX9_weighNow_22 : decode cX9_weighNow 22 = .ok (.getfield 302, 3) := by decide +kernel
theorem dX9_weighNow_25 : decode cX9_weighNow 25 = .ok (.getfield 211, 3) := by decide +kernel
theorem dX9_weighNow_28 : decode cX9_weighNow 28 = .ok (.invokevirtual 389, 3) := by decide +kernel
theorem dX9_weighNow_31 : decode cX9_weighNow 31 = .ok (.return_, 1) := by decide +kernel
def fX9_weighNow (a0 : Nat) (h : hp_T) : Option hp_T := fx_b1 (fX4_weigh (h.2.2 a0 1) (h.2.2 a0 11) (h.2.2 (h.2.2 (h.2.2 a0 3) 0) 0) (h.2.2 (h.2.2 (h.2.2 a0 3) 1) 0) h) fun (h28 : hp_T) => some h28
set_option maxRecDepth 100000 in
set_option maxHeartbeats 4000000 in
theorem mX9_weighNow (l : Launch) (G : xr_G) (a0 : Nat) (ta0 : hp_sh a0 = (9, 0)) (h h1 : hp_T) (hF : fX9_weighNow a0 h = some h1) : xr_M l G yX9_weighNow cX9_weighNow 1 (xr_R 3 68) none [.ref (G.2.2.1 a0)] h (xr_Qv G h1) := by
  refine xr_start rfl (Nat.le_of_ble_eq_true rfl) (fun K C => ?_)
  show xr_j l G K 1 h [(0, .ref (G.2.2.1 a0))] 0 []
  unfold fX9_weighNow at hF
  refine xr_aload_n C 0 dX9_weighNow_0 rfl rfl ?_
  refine xr_getr C flX9_19 rfl (by decide) dX9_weighNow_1 ta0 (fun t1 => ?_)
  refine xr_aload_n C 0 dX9_weighNow_4 rfl rfl ?_
  refine xr_getr C flX9_68 rfl (by decide) dX9_weighNow_5 ta0 (fun t5 => ?_)
  refine xr_aload_n C 0 dX9_weighNow_8 rfl rfl ?_
  refine xr_getr C flX9_33 rfl (by decide) dX9_weighNow_9 ta0 (fun t9 => ?_)
  refine xr_getr C flX9_296 rfl (by decide) dX9_weighNow_12 t9 (fun t12 => ?_)
  refine xr_getr C flX9_211 rfl (by decide) dX9_weighNow_15 t12 (fun t15 => ?_)
  refine xr_aload_n C 0 dX9_weighNow_18 rfl rfl ?_
  refine xr_getr C flX9_33 rfl (by decide) dX9_weighNow_19 ta0 (fun t19 => ?_)
  refine xr_getr C flX9_302 rfl (by decide) dX9_weighNow_22 t19 (fun t22 => ?_)
  refine xr_getr C flX9_211 rfl (by decide) dX9_weighNow_25 t22 (fun t25 => ?_)
  obtain ⟨h28, e28, hF⟩ := fx_b1E hF
  refine xr_callVv C mvX9_389 [.ref (G.2.2.1 (h.2.2 a0 11)), .ref (G.2.2.1 (h.2.2 (h.2.2 (h.2.2 a0 3) 0) 0)), .ref (G.2.2.1 (h.2.2 (h.2.2 (h.2.2 a0 3) 1) 0))] [] (mX4_weigh l G (h.2.2 a0 1) (h.2.2 a0 11) (h.2.2 (h.2.2 (h.2.2 a0 3) 0) 0) (h.2.2 (h.2.2 (h.2.2 a0 3) 1) 0) t1 t5 t15 t25 h h28 e28) t1 (by decide) vc4 rfl ⟨rfl, rfl, (Nat.le_of_ble_eq_true rfl), (Nat.le_of_ble_eq_true rfl)⟩ rfl (Nat.le_of_ble_eq_true rfl) dX9_weighNow_28 ?_
  cases hF
  exact xr_vret C dX9_weighNow_31
theorem dX9_chanceAt_0 : decode cX9_chanceAt 0 = .ok (.aload_n 0, 1) := by decide +kernel
theorem dX9_chanceAt_1 : decode cX9_chanceAt 1 = .ok (.iload_n 3, 1) := by decide +kernel
theorem dX9_chanceAt_2 : decode cX9_chanceAt 2 = .ok (.invokevirtual 99, 3) := by decide +kernel
theorem dX9_chanceAt_5 : decode cX9_chanceAt 5 = .ok (.ifCond .eq 17, 3) := by decide +kernel
theorem dX9_chanceAt_8 : decode cX9_chanceAt 8 = .ok (.iload_n 1, 1) := by decide +kernel
theorem dX9_chanceAt_9 : decode cX9_chanceAt 9 = .ok (.invokestatic 354, 3) := by decide +kernel
theorem dX9_chanceAt_12 : decode cX9_chanceAt 12 = .ok (.ifCond .eq 10, 3) := by decide +kernel
theorem dX9_chanceAt_15 : decode cX9_chanceAt 15 = .ok (.iload_n 2, 1) := by decide +kernel
theorem dX9_chanceAt_16 : decode cX9_chanceAt 16 = .ok (.invokestatic 354, 3) := by decide +kernel
theorem dX9_chanceAt_19 : decode cX9_chanceAt 19 = .ok (.ifCond .ne 5, 3) := by decide +kernel
theorem dX9_chanceAt_22 : decode cX9_chanceAt 22 = .ok (.iconst (-1), 1) := by decide +kernel
theorem dX9_chanceAt_23 : decode cX9_chanceAt 23 = .ok (.ireturn, 1) := by decide +kernel
theorem dX9_chanceAt_24 : decode cX9_chanceAt 24 = .ok (.aload_n 0, 1) := by decide +kernel
theorem dX9_chanceAt_25 : decode cX9_chanceAt 25 = .ok (.invokevirtual 357, 3) := by decide +kernel
theorem dX9_chanceAt_28 : decode cX9_chanceAt 28 = .ok (.aload_n 0, 1) := by decide +kernel
theorem dX9_chanceAt_29 : decode cX9_chanceAt 29 = .ok (.getfield 19, 3) := by decide +kernel
theorem dX9_chanceAt_32 : decode cX9_chanceAt 32 = .ok (.iload_n 1, 1) := by decide +kernel
theorem dX9_chanceAt_33 : decode cX9_chanceAt 33 = .ok (.iload_n 2, 1) := by decide +kernel
theorem dX9_chanceAt_34 : decode cX9_chanceAt 34 = .ok (.iload_n 3, 1) := by decide +kernel
theorem dX9_chanceAt_35 : decode cX9_chanceAt 35 = .ok (.invokevirtual 351, 3) := by decide +kernel
theorem dX9_chanceAt_38 : decode cX9_chanceAt 38 = .ok (.ireturn, 1) := by decide +kernel
def fX9_chanceAt (a0 : Nat) (a1 : Int32) (a2 : Int32) (a3 : Int32) (h : hp_T) : Option (Int32 × hp_T) := fx_b2 (fX9_isSide a0 a3 h) fun (r2 : Int32) (h2 : hp_T) => if r2 = 0 then (some ((-1 : Int32), h2)) else (fx_b2 (fX9_isTurns a1 h2) fun (r9 : Int32) (h9 : hp_T) => if r9 = 0 then (some ((-1 : Int32), h9)) else (fx_b2 (fX9_isTurns a2 h9) fun (r16 : Int32) (h16 : hp_T) => if r16 = 0 then (some ((-1 : Int32), h16)) else (fx_b1 (fX9_weighNow a0 h16) fun (h25 : hp_T) => fx_b2 (fX4_chanceOf (h25.2.2 a0 1) a1 a2 a3 h25) fun (r35 : Int32) (h35 : hp_T) => some (r35, h35))))
set_option maxRecDepth 100000 in
set_option maxHeartbeats 4000000 in
theorem mX9_chanceAt (l : Launch) (G : xr_G) (a0 : Nat) (a1 : Int32) (a2 : Int32) (a3 : Int32) (ta0 : hp_sh a0 = (9, 0)) (h h1 : hp_T) (r : Int32) (hF : fX9_chanceAt a0 a1 a2 a3 h = some (r, h1)) : xr_M l G yX9_chanceAt cX9_chanceAt 4 (xr_R 4 88) (some .int) [.ref (G.2.2.1 a0), .int a1, .int a2, .int a3] h (xr_Qi G r h1) := by
  refine xr_start rfl (Nat.le_of_ble_eq_true rfl) (fun K C => ?_)
  show xr_j l G K 4 h [(0, .ref (G.2.2.1 a0)), (1, .int a1), (2, .int a2), (3, .int a3)] 0 []
  unfold fX9_chanceAt at hF
  refine xr_aload_n C 0 dX9_chanceAt_0 rfl rfl ?_
  refine xr_iload_n C 3 dX9_chanceAt_1 rfl rfl ?_
  obtain ⟨r2, h2, e2, hF⟩ := fx_b2E hF
  refine xr_callVi C mvX9_99 [.int a3] [] (mX9_isSide l G a0 a3 ta0 h h2 r2 e2) ta0 (by decide) vc9 rfl ⟨rfl, rfl, (Nat.le_of_ble_eq_true rfl), (Nat.le_of_ble_eq_true rfl)⟩ rfl (Nat.le_of_ble_eq_true rfl) dX9_chanceAt_2 ?_
  refine xr_if_eq C 22 dX9_chanceAt_5 (by decide) (fun c5 => ?_) (fun c5 => ?_)
  · have hF := fx_pos hF c5
    refine xr_iconst (v := -1) C dX9_chanceAt_22 (by decide) ?_
    cases hF
    exact xr_iret C dX9_chanceAt_23
  · have hF := fx_neg hF c5
    refine xr_iload_n C 1 dX9_chanceAt_8 rfl rfl ?_
    obtain ⟨r9, h9, e9, hF⟩ := fx_b2E hF
    refine xr_callSi C mvX9_354 [.int a1] [] (mX9_isTurns l G a1  h2 h9 r9 e9) rfl ⟨rfl, rfl, (Nat.le_of_ble_eq_true rfl), (Nat.le_of_ble_eq_true rfl)⟩ rfl (Nat.le_of_ble_eq_true rfl) dX9_chanceAt_9 ?_
    refine xr_if_eq C 22 dX9_chanceAt_12 (by decide) (fun c12 => ?_) (fun c12 => ?_)
    · have hF := fx_pos hF c12
      refine xr_iconst (v := -1) C dX9_chanceAt_22 (by decide) ?_
      cases hF
      exact xr_iret C dX9_chanceAt_23
    · have hF := fx_neg hF c12
      refine xr_iload_n C 2 dX9_chanceAt_15 rfl rfl ?_
      obtain ⟨r16, h16, e16, hF⟩ := fx_b2E hF
      refine xr_callSi C mvX9_354 [.int a2] [] (mX9_isTurns l G a2  h9 h16 r16 e16) rfl ⟨rfl, rfl, (Nat.le_of_ble_eq_true rfl), (Nat.le_of_ble_eq_true rfl)⟩ rfl (Nat.le_of_ble_eq_true rfl) dX9_chanceAt_16 ?_
      refine xr_if_ne C 24 dX9_chanceAt_19 (by decide) (fun c19 => ?_) (fun c19 => ?_)
      · have hF := fx_neg hF c19
        refine xr_aload_n C 0 dX9_chanceAt_24 rfl rfl ?_
        obtain ⟨h25, e25, hF⟩ := fx_b1E hF
        refine xr_callVv C mvX9_357 [] [] (mX9_weighNow l G a0 ta0 h16 h25 e25) ta0 (by decide) vc9 rfl ⟨rfl, rfl, (Nat.le_of_ble_eq_true rfl), (Nat.le_of_ble_eq_true rfl)⟩ rfl (Nat.le_of_ble_eq_true rfl) dX9_chanceAt_25 ?_
        refine xr_aload_n C 0 dX9_chanceAt_28 rfl rfl ?_
        refine xr_getr C flX9_19 rfl (by decide) dX9_chanceAt_29 ta0 (fun t29 => ?_)
        refine xr_iload_n C 1 dX9_chanceAt_32 rfl rfl ?_
        refine xr_iload_n C 2 dX9_chanceAt_33 rfl rfl ?_
        refine xr_iload_n C 3 dX9_chanceAt_34 rfl rfl ?_
        obtain ⟨r35, h35, e35, hF⟩ := fx_b2E hF
        refine xr_callVi C mvX9_351 [.int a1, .int a2, .int a3] [] (mX4_chanceOf l G (h25.2.2 a0 1) a1 a2 a3 t29 h25 h35 r35 e35) t29 (by decide) vc4 rfl ⟨rfl, rfl, (Nat.le_of_ble_eq_true rfl), (Nat.le_of_ble_eq_true rfl)⟩ rfl (Nat.le_of_ble_eq_true rfl) dX9_chanceAt_35 ?_
        cases hF
        exact xr_iret C dX9_chanceAt_38
      · have hF := fx_pos hF c19
        refine xr_iconst (v := -1) C dX9_chanceAt_22 (by decide) ?_
        cases hF
        exact xr_iret C dX9_chanceAt_23
theorem dX9_trialOf_0 : decode cX9_trialOf 0 = .ok (.iload_n 1, 1) := by decide +kernel
theorem dX9_trialOf_1 : decode cX9_trialOf 1 = .ok (.ifCond .ne 10, 3) := by decide +kernel
theorem dX9_trialOf_4 : decode cX9_trialOf 4 = .ok (.aload_n 0, 1) := by decide +kernel
theorem dX9_trialOf_5 : decode cX9_trialOf 5 = .ok (.getfield 45, 3) := by decide +kernel
theorem dX9_trialOf_8 : decode cX9_trialOf 8 = .ok (.goto 7, 3) := by decide +kernel
theorem dX9_trialOf_11 : decode cX9_trialOf 11 = .ok (.aload_n 0, 1) := by decide +kernel
theorem dX9_trialOf_12 : decode cX9_trialOf 12 = .ok (.getfield 48, 3) := by decide +kernel
theorem dX9_trialOf_15 : decode cX9_trialOf 15 = .ok (.areturn, 1) := by decide +kernel
def fX9_trialOf (a0 : Nat) (a1 : Int32) (h : hp_T) : Option (Nat × hp_T) := if a1 = 0 then (some ((h.2.2 a0 6), h)) else (some ((h.2.2 a0 7), h))
set_option maxRecDepth 100000 in
set_option maxHeartbeats 4000000 in
theorem mX9_trialOf (l : Launch) (G : xr_G) (a0 : Nat) (a1 : Int32) (ta0 : hp_sh a0 = (9, 0)) (h h1 : hp_T) (r : Nat) (hF : fX9_trialOf a0 a1 h = some (r, h1)) : xr_M l G yX9_trialOf cX9_trialOf 2 (xr_R 0 0) (some (.array .int)) [.ref (G.2.2.1 a0), .int a1] h (xr_Qr G r (20, 6) h1) := by
  refine xr_start rfl (Nat.le_of_ble_eq_true rfl) (fun K C => ?_)
  show xr_j l G K 2 h [(0, .ref (G.2.2.1 a0)), (1, .int a1)] 0 []
  unfold fX9_trialOf at hF
  refine xr_iload_n C 1 dX9_trialOf_0 rfl rfl ?_
  refine xr_if_ne C 11 dX9_trialOf_1 (by decide) (fun c1 => ?_) (fun c1 => ?_)
  · have hF := fx_neg hF c1
    refine xr_aload_n C 0 dX9_trialOf_11 rfl rfl ?_
    refine xr_getr C flX9_48 rfl (by decide) dX9_trialOf_12 ta0 (fun t12 => ?_)
    cases hF
    exact xr_aret C t12 (Or.inr ⟨_, rfl⟩) dX9_trialOf_15
  · have hF := fx_pos hF c1
    refine xr_aload_n C 0 dX9_trialOf_4 rfl rfl ?_
    refine xr_getr C flX9_45 rfl (by decide) dX9_trialOf_5 ta0 (fun t5 => ?_)
    refine xr_goto C 15 dX9_trialOf_8 (by decide) ?_
    cases hF
    exact xr_aret C t5 (Or.inr ⟨_, rfl⟩) dX9_trialOf_15
theorem dX9_chanceBehindMove_0 : decode cX9_chanceBehindMove 0 = .ok (.aload_n 0, 1) := by decide +kernel
theorem dX9_chanceBehindMove_1 : decode cX9_chanceBehindMove 1 = .ok (.invokevirtual 379, 3) := by decide +kernel
theorem dX9_chanceBehindMove_4 : decode cX9_chanceBehindMove 4 = .ok (.aload_n 0, 1) := by decide +kernel
theorem dX9_chanceBehindMove_5 : decode cX9_chanceBehindMove 5 = .ok (.iload_n 1, 1) := by decide +kernel
theorem dX9_chanceBehindMove_6 : decode cX9_chanceBehindMove 6 = .ok (.invokevirtual 382, 3) := by decide +kernel
theorem dX9_chanceBehindMove_9 : decode cX9_chanceBehindMove 9 = .ok (.iload_n 2, 1) := by decide +kernel
theorem dX9_chanceBehindMove_10 : decode cX9_chanceBehindMove 10 = .ok (.iconst 1, 1) := by decide +kernel
theorem dX9_chanceBehindMove_11 : decode cX9_chanceBehindMove 11 = .ok (.isub, 1) := by decide +kernel
theorem dX9_chanceBehindMove_12 : decode cX9_chanceBehindMove 12 = .ok (.aload_n 0, 1) := by decide +kernel
theorem dX9_chanceBehindMove_13 : decode cX9_chanceBehindMove 13 = .ok (.getfield 68, 3) := by decide +kernel
theorem dX9_chanceBehindMove_16 : decode cX9_chanceBehindMove 16 = .ok (.iload_n 1, 1) := by decide +kernel
theorem dX9_chanceBehindMove_17 : decode cX9_chanceBehindMove 17 = .ok (.invokevirtual 103, 3) := by decide +kernel
theorem dX9_chanceBehindMove_20 : decode cX9_chanceBehindMove 20 = .ok (.getfield 173, 3) := by decide +kernel
theorem dX9_chanceBehindMove_23 : decode cX9_chanceBehindMove 23 = .ok (.iastore, 1) := by decide +kernel
theorem dX9_chanceBehindMove_24 : decode cX9_chanceBehindMove 24 = .ok (.aload_n 0, 1) := by decide +kernel
theorem dX9_chanceBehindMove_25 : decode cX9_chanceBehindMove 25 = .ok (.invokevirtual 386, 3) := by decide +kernel
theorem dX9_chanceBehindMove_28 : decode cX9_chanceBehindMove 28 = .ok (.aload_n 0, 1) := by decide +kernel
theorem dX9_chanceBehindMove_29 : decode cX9_chanceBehindMove 29 = .ok (.getfield 19, 3) := by decide +kernel
theorem dX9_chanceBehindMove_32 : decode cX9_chanceBehindMove 32 = .ok (.iconst 0, 1) := by decide +kernel
theorem dX9_chanceBehindMove_33 : decode cX9_chanceBehindMove 33 = .ok (.iconst 0, 1) := by decide +kernel
theorem dX9_chanceBehindMove_34 : decode cX9_chanceBehindMove 34 = .ok (.aload_n 0, 1) := by decide +kernel
theorem dX9_chanceBehindMove_35 : decode cX9_chanceBehindMove 35 = .ok (.getfield 33, 3) := by decide +kernel
theorem dX9_chanceBehindMove_38 : decode cX9_chanceBehindMove 38 = .ok (.getfield 257, 3) := by decide +kernel
theorem dX9_chanceBehindMove_41 : decode cX9_chanceBehindMove 41 = .ok (.invokevirtual 351, 3) := by decide +kernel
theorem dX9_chanceBehindMove_44 : decode cX9_chanceBehindMove 44 = .ok (.ireturn, 1) := by decide +kernel
def fX9_chanceBehindMove (a0 : Nat) (a1 : Int32) (a2 : Int32) (h : hp_T) : Option (Int32 × hp_T) := fx_b1 (fX9_fillTrials a0 h) fun (h1 : hp_T) => fx_b2 (fX9_trialOf a0 a1 h1) fun (r6 : Nat) (h6 : hp_T) => fx_b2 (fX8_squad (h6.2.2 a0 11) a1 h6) fun (r17 : Nat) (h17 : hp_T) => fx_g (fx_in (a2 - (1 : Int32)) 6) (fx_let (hp_sI h17 r6 (fx_ix (a2 - (1 : Int32))) (h17.1 r17 7)) fun (h23 : hp_T) => fx_b1 (fX9_weighTrials a0 h23) fun (h25 : hp_T) => fx_b2 (fX4_chanceOf (h25.2.2 a0 1) (0 : Int32) (0 : Int32) (h25.1 (h25.2.2 a0 3) 2) h25) fun (r41 : Int32) (h41 : hp_T) => some (r41, h41))
set_option maxRecDepth 100000 in
set_option maxHeartbeats 4000000 in
theorem mX9_chanceBehindMove (l : Launch) (G : xr_G) (a0 : Nat) (a1 : Int32) (a2 : Int32) (ta0 : hp_sh a0 = (9, 0)) (h h1 : hp_T) (r : Int32) (hF : fX9_chanceBehindMove a0 a1 a2 h = some (r, h1)) : xr_M l G yX9_chanceBehindMove cX9_chanceBehindMove 3 (xr_R 4 88) (some .int) [.ref (G.2.2.1 a0), .int a1, .int a2] h (xr_Qi G r h1) := by
  refine xr_start rfl (Nat.le_of_ble_eq_true rfl) (fun K C => ?_)
  show xr_j l G K 3 h [(0, .ref (G.2.2.1 a0)), (1, .int a1), (2, .int a2)] 0 []
  unfold fX9_chanceBehindMove at hF
  refine xr_aload_n C 0 dX9_chanceBehindMove_0 rfl rfl ?_
  obtain ⟨h1, e1, hF⟩ := fx_b1E hF
  refine xr_callVv C mvX9_379 [] [] (mX9_fillTrials l G a0 ta0 h h1 e1) ta0 (by decide) vc9 rfl ⟨rfl, rfl, (Nat.le_of_ble_eq_true rfl), (Nat.le_of_ble_eq_true rfl)⟩ rfl (Nat.le_of_ble_eq_true rfl) dX9_chanceBehindMove_1 ?_
  refine xr_aload_n C 0 dX9_chanceBehindMove_4 rfl rfl ?_
  refine xr_iload_n C 1 dX9_chanceBehindMove_5 rfl rfl ?_
  obtain ⟨r6, h6, e6, hF⟩ := fx_b2E hF
  refine xr_callVr C mvX9_382 [.int a1] [] (mX9_trialOf l G a0 a1 ta0 h1 h6 r6 e6) ta0 (by decide) vc9 rfl ⟨rfl, rfl, (Nat.le_of_ble_eq_true rfl), (Nat.le_of_ble_eq_true rfl)⟩ rfl (Nat.le_of_ble_eq_true rfl) dX9_chanceBehindMove_6 (fun t6 => ?_)
  refine xr_iload_n C 2 dX9_chanceBehindMove_9 rfl rfl ?_
  refine xr_iconst (v := 1) C dX9_chanceBehindMove_10 (by decide) ?_
  refine xr_isub C dX9_chanceBehindMove_11 ?_
  refine xr_aload_n C 0 dX9_chanceBehindMove_12 rfl rfl ?_
  refine xr_getr C flX9_68 rfl (by decide) dX9_chanceBehindMove_13 ta0 (fun t13 => ?_)
  refine xr_iload_n C 1 dX9_chanceBehindMove_16 rfl rfl ?_
  obtain ⟨r17, h17, e17, hF⟩ := fx_b2E hF
  refine xr_callVr C mvX9_103 [.int a1] [.int (a2 - (1 : Int32)), .ref (G.2.2.1 r6)] (mX8_squad l G (h6.2.2 a0 11) a1 t13 h6 h17 r17 e17) t13 (by decide) vc8 rfl ⟨rfl, rfl, (Nat.le_of_ble_eq_true rfl), (Nat.le_of_ble_eq_true rfl)⟩ rfl (Nat.le_of_ble_eq_true rfl) dX9_chanceBehindMove_17 (fun t17 => ?_)
  refine xr_geti C flX9_173 rfl dX9_chanceBehindMove_20 t17 ?_
  obtain ⟨g23, hF⟩ := fx_gE hF
  refine xr_iast C dX9_chanceBehindMove_23 t6 g23 (fun h23 e23 => ?_)
  have hF := fx_letE hF h23 e23
  refine xr_aload_n C 0 dX9_chanceBehindMove_24 rfl rfl ?_
  obtain ⟨h25, e25, hF⟩ := fx_b1E hF
  refine xr_callVv C mvX9_386 [] [] (mX9_weighTrials l G a0 ta0 h23 h25 e25) ta0 (by decide) vc9 rfl ⟨rfl, rfl, (Nat.le_of_ble_eq_true rfl), (Nat.le_of_ble_eq_true rfl)⟩ rfl (Nat.le_of_ble_eq_true rfl) dX9_chanceBehindMove_25 ?_
  refine xr_aload_n C 0 dX9_chanceBehindMove_28 rfl rfl ?_
  refine xr_getr C flX9_19 rfl (by decide) dX9_chanceBehindMove_29 ta0 (fun t29 => ?_)
  refine xr_iconst (v := 0) C dX9_chanceBehindMove_32 (by decide) ?_
  refine xr_iconst (v := 0) C dX9_chanceBehindMove_33 (by decide) ?_
  refine xr_aload_n C 0 dX9_chanceBehindMove_34 rfl rfl ?_
  refine xr_getr C flX9_33 rfl (by decide) dX9_chanceBehindMove_35 ta0 (fun t35 => ?_)
  refine xr_geti C flX9_257 rfl dX9_chanceBehindMove_38 t35 ?_
  obtain ⟨r41, h41, e41, hF⟩ := fx_b2E hF
  refine xr_callVi C mvX9_351 [.int (0 : Int32), .int (0 : Int32), .int (h25.1 (h25.2.2 a0 3) 2)] [] (mX4_chanceOf l G (h25.2.2 a0 1) (0 : Int32) (0 : Int32) (h25.1 (h25.2.2 a0 3) 2) t29 h25 h41 r41 e41) t29 (by decide) vc4 rfl ⟨rfl, rfl, (Nat.le_of_ble_eq_true rfl), (Nat.le_of_ble_eq_true rfl)⟩ rfl (Nat.le_of_ble_eq_true rfl) dX9_chanceBehindMove_41 ?_
  cases hF
  exact xr_iret C dX9_chanceBehindMove_44
theorem dX9_bestMove_0 : decode cX9_bestMove 0 = .ok (.aload_n 0, 1) := by decide +kernel
theorem dX9_bestMove_1 : decode cX9_bestMove 1 = .ok (.iload_n 1, 1) := by decide +kernel
theorem dX9_bestMove_2 : decode cX9_bestMove 2 = .ok (.invokevirtual 99, 3) := by decide +kernel
theorem dX9_bestMove_5 : decode cX9_bestMove 5 = .ok (.ifCond .eq 12, 3) := by decide +kernel
theorem dX9_bestMove_8 : decode cX9_bestMove 8 = .ok (.iload_n 2, 1) := by decide +kernel
theorem dX9_bestMove_9 : decode cX9_bestMove 9 = .ok (.ifCond .lt 8, 3) := by decide +kernel
theorem dX9_bestMove_12 : decode cX9_bestMove 12 = .ok (.iload_n 2, 1) := by decide +kernel
theorem dX9_bestMove_13 : decode cX9_bestMove 13 = .ok (.iconst 1, 1) := by decide +kernel
theorem dX9_bestMove_14 : decode cX9_bestMove 14 = .ok (.if_icmp .le 5, 3) := by decide +kernel
theorem dX9_bestMove_17 : decode cX9_bestMove 17 = .ok (.iconst (-1), 1) := by decide +kernel
theorem dX9_bestMove_18 : decode cX9_bestMove 18 = .ok (.ireturn, 1) := by decide +kernel
theorem dX9_bestMove_19 : decode cX9_bestMove 19 = .ok (.aload_n 0, 1) := by decide +kernel
theorem dX9_bestMove_20 : decode cX9_bestMove 20 = .ok (.getfield 54, 3) := by decide +kernel
theorem dX9_bestMove_23 : decode cX9_bestMove 23 = .ok (.invokevirtual 320, 3) := by decide +kernel
theorem dX9_bestMove_26 : decode cX9_bestMove 26 = .ok (.iconst 0, 1) := by decide +kernel
theorem dX9_bestMove_27 : decode cX9_bestMove 27 = .ok (.istore_n 3, 1) := by decide +kernel
theorem dX9_bestMove_28 : decode cX9_bestMove 28 = .ok (.iload_n 3, 1) := by decide +kernel
theorem dX9_bestMove_29 : decode cX9_bestMove 29 = .ok (.getstatic 360, 3) := by decide +kernel
theorem dX9_bestMove_32 : decode cX9_bestMove 32 = .ok (.arraylength, 1) := by decide +kernel
theorem dX9_bestMove_33 : decode cX9_bestMove 33 = .ok (.if_icmp .ge 66, 3) := by decide +kernel
theorem dX9_bestMove_36 : decode cX9_bestMove 36 = .ok (.aload_n 0, 1) := by decide +kernel
theorem dX9_bestMove_37 : decode cX9_bestMove 37 = .ok (.iload_n 1, 1) := by decide +kernel
theorem dX9_bestMove_38 : decode cX9_bestMove 38 = .ok (.getstatic 360, 3) := by decide +kernel
theorem dX9_bestMove_41 : decode cX9_bestMove 41 = .ok (.iload_n 3, 1) := by decide +kernel
theorem dX9_bestMove_42 : decode cX9_bestMove 42 = .ok (.iaload, 1) := by decide +kernel
theorem dX9_bestMove_43 : decode cX9_bestMove 43 = .ok (.invokevirtual 277, 3) := by decide +kernel
theorem dX9_bestMove_46 : decode cX9_bestMove 46 = .ok (.ifCond .ne 47, 3) := by decide +kernel
theorem dX9_bestMove_49 : decode cX9_bestMove 49 = .ok (.aload_n 0, 1) := by decide +kernel
theorem dX9_bestMove_50 : decode cX9_bestMove 50 = .ok (.iload_n 1, 1) := by decide +kernel
theorem dX9_bestMove_51 : decode cX9_bestMove 51 = .ok (.getstatic 360, 3) := by decide +kernel
theorem dX9_bestMove_54 : decode cX9_bestMove 54 = .ok (.iload_n 3, 1) := by decide +kernel
theorem dX9_bestMove_55 : decode cX9_bestMove 55 = .ok (.iaload, 1) := by decide +kernel
theorem dX9_bestMove_56 : decode cX9_bestMove 56 = .ok (.invokevirtual 363, 3) := by decide +kernel
theorem dX9_bestMove_59 : decode cX9_bestMove 59 = .ok (.istore 4, 2) := by decide +kernel
theorem dX9_bestMove_61 : decode cX9_bestMove 61 = .ok (.aload_n 0, 1) := by decide +kernel
theorem dX9_bestMove_62 : decode cX9_bestMove 62 = .ok (.getfield 54, 3) := by decide +kernel
theorem dX9_bestMove_65 : decode cX9_bestMove 65 = .ok (.getstatic 360, 3) := by decide +kernel
theorem dX9_bestMove_68 : decode cX9_bestMove 68 = .ok (.iload_n 3, 1) := by decide +kernel
theorem dX9_bestMove_69 : decode cX9_bestMove 69 = .ok (.iaload, 1) := by decide +kernel
theorem dX9_bestMove_70 : decode cX9_bestMove 70 = .ok (.iload 4, 2) := by decide +kernel
theorem dX9_bestMove_72 : decode cX9_bestMove 72 = .ok (.iload 4, 2) := by decide +kernel
theorem dX9_bestMove_74 : decode cX9_bestMove 74 = .ok (.aload_n 0, 1) := by decide +kernel
theorem dX9_bestMove_75 : decode cX9_bestMove 75 = .ok (.getfield 33, 3) := by decide +kernel
theorem dX9_bestMove_78 : decode cX9_bestMove 78 = .ok (.getfield 257, 3) := by decide +kernel
theorem dX9_bestMove_81 : decode cX9_bestMove 81 = .ok (.iload_n 1, 1) := by decide +kernel
theorem dX9_bestMove_82 : decode cX9_bestMove 82 = .ok (.if_icmp .ne 7, 3) := by decide +kernel
theorem dX9_bestMove_85 : decode cX9_bestMove 85 = .ok (.iconst 1, 1) := by decide +kernel
theorem dX9_bestMove_86 : decode cX9_bestMove 86 = .ok (.goto 4, 3) := by decide +kernel
theorem dX9_bestMove_89 : decode cX9_bestMove 89 = .ok (.iconst 0, 1) := by decide +kernel
theorem dX9_bestMove_90 : decode cX9_bestMove 90 = .ok (.invokevirtual 366, 3) := by decide +kernel
theorem dX9_bestMove_93 : decode cX9_bestMove 93 = .ok (.iinc 3 1, 3) := by decide +kernel
theorem dX9_bestMove_96 : decode cX9_bestMove 96 = .ok (.goto (-68), 3) := by decide +kernel
theorem dX9_bestMove_99 : decode cX9_bestMove 99 = .ok (.aload_n 0, 1) := by decide +kernel
theorem dX9_bestMove_100 : decode cX9_bestMove 100 = .ok (.getfield 54, 3) := by decide +kernel
theorem dX9_bestMove_103 : decode cX9_bestMove 103 = .ok (.getfield 143, 3) := by decide +kernel
theorem dX9_bestMove_106 : decode cX9_bestMove 106 = .ok (.ifCond .eq 14, 3) := by decide +kernel
theorem dX9_bestMove_109 : decode cX9_bestMove 109 = .ok (.aload_n 0, 1) := by decide +kernel
theorem dX9_bestMove_110 : decode cX9_bestMove 110 = .ok (.getfield 54, 3) := by decide +kernel
theorem dX9_bestMove_113 : decode cX9_bestMove 113 = .ok (.iload_n 2, 1) := by decide +kernel
theorem dX9_bestMove_114 : decode cX9_bestMove 114 = .ok (.invokevirtual 370, 3) := by decide +kernel
theorem dX9_bestMove_117 : decode cX9_bestMove 117 = .ok (.goto 5, 3) := by decide +kernel
theorem dX9_bestMove_120 : decode cX9_bestMove 120 = .ok (.bipush (-2), 2) := by decide +kernel
theorem dX9_bestMove_122 : decode cX9_bestMove 122 = .ok (.ireturn, 1) := by decide +kernel
def fX9_bestMove_93 (k28 : Nat → Int32 → Int32 → Int32 → hp_T → Option (Int32 × hp_T)) (a0 : Nat) (a1 : Int32) (a2 : Int32) (a3 : Int32) (h : hp_T) : Option (Int32 × hp_T) := fx_let (a3 + (1 : Int32)) fun (x93 : Int32) => k28 a0 a1 a2 x93 h
set_option maxRecDepth 100000 in
set_option maxHeartbeats 4000000 in
theorem bX9_bestMove_93 {l : Launch} {G : xr_G} {K : xr_K} {r : Int32} {h1 : hp_T} (C : xr_C G K cX9_bestMove RX9 5 (xr_R 5 110) (some .int) (some (xr_Qi G r h1))) (k28 : Nat → Int32 → Int32 → Int32 → hp_T → Option (Int32 × hp_T)) (j28 : ∀ (a0 : Nat) (a1 : Int32) (a2 : Int32) (a3 : Int32) (ta0 : hp_sh a0 = (9, 0)) (h : hp_T), k28 a0 a1 a2 a3 h = some (r, h1) → xr_j l G K 5 h [(0, .ref (G.2.2.1 a0)), (1, .int a1), (2, .int a2), (3, .int a3)] 28 []) (a0 : Nat) (a1 : Int32) (a2 : Int32) (a3 : Int32) (ta0 : hp_sh a0 = (9, 0)) (h : hp_T) (hF : fX9_bestMove_93 k28 a0 a1 a2 a3 h = some (r, h1)) : xr_j l G K 5 h [(0, .ref (G.2.2.1 a0)), (1, .int a1), (2, .int a2), (3, .int a3)] 93 [] := by
  unfold fX9_bestMove_93 at hF
  obtain ⟨x93, e93⟩ : ∃ y : Int32, y = (a3 + (1 : Int32)) := ⟨_, rfl⟩
  have hF := fx_letE hF x93 e93
  refine xr_iinc C x93 3 [(3, .int x93), (0, .ref (G.2.2.1 a0)), (1, .int a1), (2, .int a2)] dX9_bestMove_93 rfl (by rw [e93]; rfl) (Nat.le_of_ble_eq_true rfl) rfl ?_
  refine xr_goto C 28 dX9_bestMove_96 (by decide) ?_
  refine xr_sub [1, 2, 3, 0] [(0, .ref (G.2.2.1 a0)), (1, .int a1), (2, .int a2), (3, .int x93)] rfl ?_
  exact j28 a0 a1 a2 x93 ta0 h hF
def fX9_bestMove_90 (k28 : Nat → Int32 → Int32 → Int32 → hp_T → Option (Int32 × hp_T)) (a0 : Nat) (a1 : Int32) (a2 : Int32) (a3 : Int32) (s0 : Nat) (s1 : Int32) (s2 : Int32) (s3 : Int32) (s4 : Int32) (h : hp_T) : Option (Int32 × hp_T) := fx_b1 (fX0_offer s0 s1 s2 s3 s4 h) fun (h90 : hp_T) => fX9_bestMove_93 k28 a0 a1 a2 a3 h90
set_option maxRecDepth 100000 in
set_option maxHeartbeats 4000000 in
theorem bX9_bestMove_90 {l : Launch} {G : xr_G} {K : xr_K} {r : Int32} {h1 : hp_T} (C : xr_C G K cX9_bestMove RX9 5 (xr_R 5 110) (some .int) (some (xr_Qi G r h1))) (k28 : Nat → Int32 → Int32 → Int32 → hp_T → Option (Int32 × hp_T)) (j28 : ∀ (a0 : Nat) (a1 : Int32) (a2 : Int32) (a3 : Int32) (ta0 : hp_sh a0 = (9, 0)) (h : hp_T), k28 a0 a1 a2 a3 h = some (r, h1) → xr_j l G K 5 h [(0, .ref (G.2.2.1 a0)), (1, .int a1), (2, .int a2), (3, .int a3)] 28 []) (a0 : Nat) (a1 : Int32) (a2 : Int32) (a3 : Int32) (s0 : Nat) (s1 : Int32) (s2 : Int32) (s3 : Int32) (s4 : Int32) (ta0 : hp_sh a0 = (9, 0)) (ts0 : hp_sh s0 = (0, 0)) (h : hp_T) (hF : fX9_bestMove_90 k28 a0 a1 a2 a3 s0 s1 s2 s3 s4 h = some (r, h1)) : xr_j l G K 5 h [(0, .ref (G.2.2.1 a0)), (1, .int a1), (2, .int a2), (3, .int a3)] 90 [.int s4, .int s3, .int s2, .int s1, .ref (G.2.2.1 s0)] := by
  unfold fX9_bestMove_90 at hF
  obtain ⟨h90, e90, hF⟩ := fx_b1E hF
  refine xr_callVv C mvX9_366 [.int s1, .int s2, .int s3, .int s4] [] (mX0_offer l G s0 s1 s2 s3 s4 ts0 h h90 e90) ts0 (by decide) vc0 rfl ⟨rfl, rfl, (Nat.le_of_ble_eq_true rfl), (Nat.le_of_ble_eq_true rfl)⟩ rfl (Nat.le_of_ble_eq_true rfl) dX9_bestMove_90 ?_
  exact bX9_bestMove_93 C k28 j28  a0 a1 a2 a3 ta0 h90 hF
def fX9_bestMove_28  : Nat → Nat → Int32 → Int32 → Int32 → hp_T → Option (Int32 × hp_T)
  | 0, _, _, _, _, _ => none
  | n + 1, a0, a1, a2, a3, h => if (3 : Int32) ≤ a3 then (if (h.1 (h.2.2 a0 8) 0) = 0 then (some ((-2 : Int32), h)) else (fx_b2 (fX0_part (h.2.2 a0 8) a2 h) fun (r114 : Int32) (h114 : hp_T) => some (r114, h114))) else (fx_g (fx_in a3 (hp_zl 4)) (fx_b2 (fX9_judgeMove a0 a1 (hp_zt 4 (fx_ix a3)) h) fun (r43 : Int32) (h43 : hp_T) => if r43 = 0 then (fx_g (fx_in a3 (hp_zl 4)) (fx_b2 (fX9_chanceBehindMove a0 a1 (hp_zt 4 (fx_ix a3)) h43) fun (r56 : Int32) (h56 : hp_T) => fx_g (fx_in a3 (hp_zl 4)) (if (h56.1 (h56.2.2 a0 3) 2) = a1 then (fX9_bestMove_90 (fX9_bestMove_28 n) a0 a1 a2 a3 (h56.2.2 a0 8) (hp_zt 4 (fx_ix a3)) r56 r56 (1 : Int32) h56) else (fX9_bestMove_90 (fX9_bestMove_28 n) a0 a1 a2 a3 (h56.2.2 a0 8) (hp_zt 4 (fx_ix a3)) r56 r56 (0 : Int32) h56)))) else (fX9_bestMove_93 (fX9_bestMove_28 n) a0 a1 a2 a3 h43)))
set_option maxRecDepth 100000 in
set_option maxHeartbeats 4000000 in
theorem bX9_bestMove_28 {l : Launch} {G : xr_G} {K : xr_K} {r : Int32} {h1 : hp_T} (C : xr_C G K cX9_bestMove RX9 5 (xr_R 5 110) (some .int) (some (xr_Qi G r h1)))  : ∀ (n : Nat) (a0 : Nat) (a1 : Int32) (a2 : Int32) (a3 : Int32) (ta0 : hp_sh a0 = (9, 0)) (h : hp_T), fX9_bestMove_28 n a0 a1 a2 a3 h = some (r, h1) → xr_j l G K 5 h [(0, .ref (G.2.2.1 a0)), (1, .int a1), (2, .int a2), (3, .int a3)] 28 [] := by
  intro n
  induction n with
  | zero =>
    intro a0 a1 a2 a3 ta0 h hF
    cases hF
  | succ n ih =>
    intro a0 a1 a2 a3 ta0 h hF
    rw [fX9_bestMove_28] at hF
    refine xr_iload_n C 3 dX9_bestMove_28 rfl rfl ?_
    refine xr_gets C 4 (by decide) gsX9_360 dX9_bestMove_29 ?_
    refine xr_tlen (v := 3) C 4 (by decide) dX9_bestMove_32 (by decide) ?_
    refine xr_icmp_ge C 99 dX9_bestMove_33 (by decide) (fun c33 => ?_) (fun c33 => ?_)
    · have hF := fx_pos hF c33
      refine xr_aload_n C 0 dX9_bestMove_99 rfl rfl ?_
      refine xr_getr C flX9_54 rfl (by decide) dX9_bestMove_100 ta0 (fun t100 => ?_)
      refine xr_geti C flX9_143 rfl dX9_bestMove_103 t100 ?_
      refine xr_if_eq C 120 dX9_bestMove_106 (by decide) (fun c106 => ?_) (fun c106 => ?_)
      · have hF := fx_pos hF c106
        refine xr_bipush (v := -2) C dX9_bestMove_120 (by decide) ?_
        cases hF
        exact xr_iret C dX9_bestMove_122
      · have hF := fx_neg hF c106
        refine xr_aload_n C 0 dX9_bestMove_109 rfl rfl ?_
        refine xr_getr C flX9_54 rfl (by decide) dX9_bestMove_110 ta0 (fun t110 => ?_)
        refine xr_iload_n C 2 dX9_bestMove_113 rfl rfl ?_
        obtain ⟨r114, h114, e114, hF⟩ := fx_b2E hF
        refine xr_callVi C mvX9_370 [.int a2] [] (mX0_part l G (h.2.2 a0 8) a2 t110 h h114 r114 e114) t110 (by decide) vc0 rfl ⟨rfl, rfl, (Nat.le_of_ble_eq_true rfl), (Nat.le_of_ble_eq_true rfl)⟩ rfl (Nat.le_of_ble_eq_true rfl) dX9_bestMove_114 ?_
        refine xr_goto C 122 dX9_bestMove_117 (by decide) ?_
        cases hF
        exact xr_iret C dX9_bestMove_122
    · have hF := fx_neg hF c33
      refine xr_aload_n C 0 dX9_bestMove_36 rfl rfl ?_
      refine xr_iload_n C 1 dX9_bestMove_37 rfl rfl ?_
      refine xr_gets C 4 (by decide) gsX9_360 dX9_bestMove_38 ?_
      refine xr_iload_n C 3 dX9_bestMove_41 rfl rfl ?_
      obtain ⟨g42, hF⟩ := fx_gE hF
      refine xr_tald C 4 (by decide) dX9_bestMove_42 g42 ?_
      obtain ⟨r43, h43, e43, hF⟩ := fx_b2E hF
      refine xr_callVi C mvX9_277 [.int a1, .int (hp_zt 4 (fx_ix a3))] [] (mX9_judgeMove l G a0 a1 (hp_zt 4 (fx_ix a3)) ta0 h h43 r43 e43) ta0 (by decide) vc9 rfl ⟨rfl, rfl, (Nat.le_of_ble_eq_true rfl), (Nat.le_of_ble_eq_true rfl)⟩ rfl (Nat.le_of_ble_eq_true rfl) dX9_bestMove_43 ?_
      refine xr_if_ne C 93 dX9_bestMove_46 (by decide) (fun c46 => ?_) (fun c46 => ?_)
      · have hF := fx_neg hF c46
        exact bX9_bestMove_93 C (fX9_bestMove_28 n) (fun a0 a1 a2 a3 ta0 h hF => ih a0 a1 a2 a3 ta0 h hF)  a0 a1 a2 a3 ta0 h43 hF
      · have hF := fx_pos hF c46
        refine xr_aload_n C 0 dX9_bestMove_49 rfl rfl ?_
        refine xr_iload_n C 1 dX9_bestMove_50 rfl rfl ?_
        refine xr_gets C 4 (by decide) gsX9_360 dX9_bestMove_51 ?_
        refine xr_iload_n C 3 dX9_bestMove_54 rfl rfl ?_
        obtain ⟨g55, hF⟩ := fx_gE hF
        refine xr_tald C 4 (by decide) dX9_bestMove_55 g55 ?_
        obtain ⟨r56, h56, e56, hF⟩ := fx_b2E hF
        refine xr_callVi C mvX9_363 [.int a1, .int (hp_zt 4 (fx_ix a3))] [] (mX9_chanceBehindMove l G a0 a1 (hp_zt 4 (fx_ix a3)) ta0 h43 h56 r56 e56) ta0 (by decide) vc9 rfl ⟨rfl, rfl, (Nat.le_of_ble_eq_true rfl), (Nat.le_of_ble_eq_true rfl)⟩ rfl (Nat.le_of_ble_eq_true rfl) dX9_bestMove_56 ?_
        refine xr_istore C [(4, .int r56), (0, .ref (G.2.2.1 a0)), (1, .int a1), (2, .int a2), (3, .int a3)] dX9_bestMove_59 (Nat.le_of_ble_eq_true rfl) rfl ?_
        refine xr_aload_n C 1 dX9_bestMove_61 rfl rfl ?_
        refine xr_getr C flX9_54 rfl (by decide) dX9_bestMove_62 ta0 (fun t62 => ?_)
        refine xr_gets C 4 (by decide) gsX9_360 dX9_bestMove_65 ?_
        refine xr_iload_n C 4 dX9_bestMove_68 rfl rfl ?_
        obtain ⟨g69, hF⟩ := fx_gE hF
        refine xr_tald C 4 (by decide) dX9_bestMove_69 g69 ?_
        refine xr_iload C 0 dX9_bestMove_70 rfl ?_
        refine xr_iload C 0 dX9_bestMove_72 rfl ?_
        refine xr_aload_n C 1 dX9_bestMove_74 rfl rfl ?_
        refine xr_getr C flX9_33 rfl (by decide) dX9_bestMove_75 ta0 (fun t75 => ?_)
        refine xr_geti C flX9_257 rfl dX9_bestMove_78 t75 ?_
        refine xr_iload_n C 2 dX9_bestMove_81 rfl rfl ?_
        refine xr_icmp_ne C 89 dX9_bestMove_82 (by decide) (fun c82 => ?_) (fun c82 => ?_)
        · have hF := fx_neg hF c82
          refine xr_iconst (v := 0) C dX9_bestMove_89 (by decide) ?_
          refine xr_sub [1, 2, 3, 4] [(0, .ref (G.2.2.1 a0)), (1, .int a1), (2, .int a2), (3, .int a3)] rfl ?_
          exact bX9_bestMove_90 C (fX9_bestMove_28 n) (fun a0 a1 a2 a3 ta0 h hF => ih a0 a1 a2 a3 ta0 h hF)  a0 a1 a2 a3 (h56.2.2 a0 8) (hp_zt 4 (fx_ix a3)) r56 r56 (0 : Int32) ta0 t62 h56 hF
        · have hF := fx_pos hF c82
          refine xr_iconst (v := 1) C dX9_bestMove_85 (by decide) ?_
          refine xr_goto C 90 dX9_bestMove_86 (by decide) ?_
          refine xr_sub [1, 2, 3, 4] [(0, .ref (G.2.2.1 a0)), (1, .int a1), (2, .int a2), (3, .int a3)] rfl ?_
          exact bX9_bestMove_90 C (fX9_bestMove_28 n) (fun a0 a1 a2 a3 ta0 h hF => ih a0 a1 a2 a3 ta0 h hF)  a0 a1 a2 a3 (h56.2.2 a0 8) (hp_zt 4 (fx_ix a3)) r56 r56 (1 : Int32) ta0 t62 h56 hF
def fX9_bestMove (a0 : Nat) (a1 : Int32) (a2 : Int32) (h : hp_T) : Option (Int32 × hp_T) := fx_b2 (fX9_isSide a0 a1 h) fun (r2 : Int32) (h2 : hp_T) => if r2 = 0 then (some ((-1 : Int32), h2)) else (if a2 < 0 then (some ((-1 : Int32), h2)) else (if a2 ≤ (1 : Int32) then (fx_b1 (fX0_clear (h2.2.2 a0 8) h2) fun (h23 : hp_T) => fX9_bestMove_28 fx_N a0 a1 a2 (0 : Int32) h23) else (some ((-1 : Int32), h2))))
set_option maxRecDepth 100000 in
set_option maxHeartbeats 4000000 in
theorem mX9_bestMove (l : Launch) (G : xr_G) (a0 : Nat) (a1 : Int32) (a2 : Int32) (ta0 : hp_sh a0 = (9, 0)) (h h1 : hp_T) (r : Int32) (hF : fX9_bestMove a0 a1 a2 h = some (r, h1)) : xr_M l G yX9_bestMove cX9_bestMove 5 (xr_R 5 110) (some .int) [.ref (G.2.2.1 a0), .int a1, .int a2] h (xr_Qi G r h1) := by
  refine xr_start rfl (Nat.le_of_ble_eq_true rfl) (fun K C => ?_)
  show xr_j l G K 5 h [(0, .ref (G.2.2.1 a0)), (1, .int a1), (2, .int a2)] 0 []
  unfold fX9_bestMove at hF
  refine xr_aload_n C 0 dX9_bestMove_0 rfl rfl ?_
  refine xr_iload_n C 1 dX9_bestMove_1 rfl rfl ?_
  obtain ⟨r2, h2, e2, hF⟩ := fx_b2E hF
  refine xr_callVi C mvX9_99 [.int a1] [] (mX9_isSide l G a0 a1 ta0 h h2 r2 e2) ta0 (by decide) vc9 rfl ⟨rfl, rfl, (Nat.le_of_ble_eq_true rfl), (Nat.le_of_ble_eq_true rfl)⟩ rfl (Nat.le_of_ble_eq_true rfl) dX9_bestMove_2 ?_
  refine xr_if_eq C 17 dX9_bestMove_5 (by decide) (fun c5 => ?_) (fun c5 => ?_)
  · have hF := fx_pos hF c5
    refine xr_iconst (v := -1) C dX9_bestMove_17 (by decide) ?_
    cases hF
    exact xr_iret C dX9_bestMove_18
  · have hF := fx_neg hF c5
    refine xr_iload_n C 2 dX9_bestMove_8 rfl rfl ?_
    refine xr_if_lt C 17 dX9_bestMove_9 (by decide) (fun c9 => ?_) (fun c9 => ?_)
    · have hF := fx_pos hF c9
      refine xr_iconst (v := -1) C dX9_bestMove_17 (by decide) ?_
      cases hF
      exact xr_iret C dX9_bestMove_18
    · have hF := fx_neg hF c9
      refine xr_iload_n C 2 dX9_bestMove_12 rfl rfl ?_
      refine xr_iconst (v := 1) C dX9_bestMove_13 (by decide) ?_
      refine xr_icmp_le C 19 dX9_bestMove_14 (by decide) (fun c14 => ?_) (fun c14 => ?_)
      · have hF := fx_pos hF c14
        refine xr_aload_n C 0 dX9_bestMove_19 rfl rfl ?_
        refine xr_getr C flX9_54 rfl (by decide) dX9_bestMove_20 ta0 (fun t20 => ?_)
        obtain ⟨h23, e23, hF⟩ := fx_b1E hF
        refine xr_callVv C mvX9_320 [] [] (mX0_clear l G (h2.2.2 a0 8) t20 h2 h23 e23) t20 (by decide) vc0 rfl ⟨rfl, rfl, (Nat.le_of_ble_eq_true rfl), (Nat.le_of_ble_eq_true rfl)⟩ rfl (Nat.le_of_ble_eq_true rfl) dX9_bestMove_23 ?_
        refine xr_iconst (v := 0) C dX9_bestMove_26 (by decide) ?_
        refine xr_istore_n C [(3, .int (0 : Int32)), (0, .ref (G.2.2.1 a0)), (1, .int a1), (2, .int a2)] dX9_bestMove_27 rfl (Nat.le_of_ble_eq_true rfl) rfl ?_
        refine xr_sub [1, 2, 3, 0] [(0, .ref (G.2.2.1 a0)), (1, .int a1), (2, .int a2), (3, .int (0 : Int32))] rfl ?_
        exact bX9_bestMove_28 C  fx_N a0 a1 a2 (0 : Int32) ta0 h23 hF
      · have hF := fx_neg hF c14
        refine xr_iconst (v := -1) C dX9_bestMove_17 (by decide) ?_
        cases hF
        exact xr_iret C dX9_bestMove_18
