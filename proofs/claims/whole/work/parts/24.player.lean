theorem flX9_164 : xr_fl RX9 164 7 1 := ⟨RX7, TX7, 8, tyX7, fdX7_1, hp_pl 257 (by decide +kernel) rfl⟩
theorem flX9_167 : xr_fl RX9 167 7 2 := ⟨RX7, TX7, 8, tyX7, fdX7_2, hp_pl 260 (by decide +kernel) rfl⟩
theorem flX9_170 : xr_fl RX9 170 7 3 := ⟨RX7, TX7, 8, tyX7, fdX7_3, hp_pl 263 (by decide +kernel) rfl⟩
theorem m0X3_pointsOf : xr_m0 yX3_pointsOf cX3_pointsOf 6 3 (some .int) := ⟨hp_pl 5 (by decide +kernel) rfl, hp_pl 1073 (by decide +kernel) rfl, by decide +kernel, by decide +kernel, by decide +kernel⟩
theorem m0X9_mateOf : xr_m0 yX9_mateOf cX9_mateOf 4 2 (some .int) := ⟨hp_pl 1 (by decide +kernel) rfl, hp_pl 1069 (by decide +kernel) rfl, by decide +kernel, by decide +kernel, by decide +kernel⟩
theorem mvX9_183 : xr_mv RX9 183 yX9_mateOf cX9_mateOf 4 2 (some .int) := ⟨m0X9_mateOf, hp_pl 1066 (by decide +kernel) rfl, hp_pl 1068 (by decide +kernel) rfl, hp_ps (n := 17) 52 (by decide +kernel)⟩
theorem mvX9_189 : xr_mv RX9 189 yX3_pointsOf cX3_pointsOf 6 3 (some .int) := ⟨m0X3_pointsOf, hp_pl 1070 (by decide +kernel) rfl, hp_pl 1071 (by decide +kernel) rfl, hp_pl 1072 (by decide +kernel) rfl⟩
theorem dX9_player_0 : decode cX9_player 0 = .ok (.aload_n 0, 1) := by decide +kernel
theorem dX9_player_1 : decode cX9_player 1 = .ok (.iload_n 1, 1) := by decide +kernel
theorem dX9_player_2 : decode cX9_player 2 = .ok (.iload_n 2, 1) := by decide +kernel
theorem dX9_player_3 : decode cX9_player 3 = .ok (.invokevirtual 153, 3) := by decide +kernel
theorem dX9_player_6 : decode cX9_player 6 = .ok (.ifCond .ne 13, 3) := by decide +kernel
theorem dX9_player_9 : decode cX9_player 9 = .ok (.new 157, 3) := by decide +kernel
theorem dX9_player_12 : decode cX9_player 12 = .ok (.dup, 1) := by decide +kernel
theorem dX9_player_13 : decode cX9_player 13 = .ok (.ldc 159, 2) := by decide +kernel
theorem dX9_player_15 : decode cX9_player 15 = .ok (.invokespecial 161, 3) := by decide +kernel
theorem dX9_player_18 : decode cX9_player 18 = .ok (.athrow, 1) := by decide +kernel
theorem dX9_player_19 : decode cX9_player 19 = .ok (.aload_n 0, 1) := by decide +kernel
theorem dX9_player_20 : decode cX9_player 20 = .ok (.getfield 68, 3) := by decide +kernel
theorem dX9_player_23 : decode cX9_player 23 = .ok (.iload_n 1, 1) := by decide +kernel
theorem dX9_player_24 : decode cX9_player 24 = .ok (.invokevirtual 103, 3) := by decide +kernel
theorem dX9_player_27 : decode cX9_player 27 = .ok (.astore 4, 2) := by decide +kernel
theorem dX9_player_29 : decode cX9_player 29 = .ok (.iload_n 3, 1) := by decide +kernel
theorem dX9_player_30 : decode cX9_player 30 = .ok (.tableswitch 123 0 7 #[46, 54, 62, 70, 85, 92, 99, 106], 46) := by decide +kernel
theorem dX9_player_76 : decode cX9_player 76 = .ok (.aload 4, 2) := by decide +kernel
theorem dX9_player_78 : decode cX9_player 78 = .ok (.getfield 164, 3) := by decide +kernel
theorem dX9_player_81 : decode cX9_player 81 = .ok (.iload_n 2, 1) := by decide +kernel
theorem dX9_player_82 : decode cX9_player 82 = .ok (.iaload, 1) := by decide +kernel
theorem dX9_player_83 : decode cX9_player 83 = .ok (.ireturn, 1) := by decide +kernel
theorem dX9_player_84 : decode cX9_player 84 = .ok (.aload 4, 2) := by decide +kernel
theorem dX9_player_86 : decode cX9_player 86 = .ok (.getfield 167, 3) := by decide +kernel
theorem dX9_player_89 : decode cX9_player 89 = .ok (.iload_n 2, 1) := by decide +kernel
theorem dX9_player_90 : decode cX9_player 90 = .ok (.iaload, 1) := by decide +kernel
theorem dX9_player_91 : decode cX9_player 91 = .ok (.ireturn, 1) := by decide +kernel
theorem dX9_player_92 : decode cX9_player 92 = .ok (.aload 4, 2) := by decide +kernel
theorem dX9_player_94 : decode cX9_player 94 = .ok (.getfield 170, 3) := by decide +kernel
theorem dX9_player_97 : decode cX9_player 97 = .ok (.iload_n 2, 1) := by decide +kernel
theorem dX9_player_98 : decode cX9_player 98 = .ok (.iaload, 1) := by decide +kernel
theorem dX9_player_99 : decode cX9_player 99 = .ok (.ireturn, 1) := by decide +kernel
theorem dX9_player_100 : decode cX9_player 100 = .ok (.iload_n 2, 1) := by decide +kernel
theorem dX9_player_101 : decode cX9_player 101 = .ok (.aload 4, 2) := by decide +kernel
theorem dX9_player_103 : decode cX9_player 103 = .ok (.getfield 173, 3) := by decide +kernel
theorem dX9_player_106 : decode cX9_player 106 = .ok (.if_icmp .ne 7, 3) := by decide +kernel
theorem dX9_player_109 : decode cX9_player 109 = .ok (.iconst 1, 1) := by decide +kernel
theorem dX9_player_110 : decode cX9_player 110 = .ok (.goto 4, 3) := by decide +kernel
theorem dX9_player_113 : decode cX9_player 113 = .ok (.iconst 0, 1) := by decide +kernel
theorem dX9_player_114 : decode cX9_player 114 = .ok (.ireturn, 1) := by decide +kernel
theorem dX9_player_115 : decode cX9_player 115 = .ok (.aload_n 0, 1) := by decide +kernel
theorem dX9_player_116 : decode cX9_player 116 = .ok (.iload_n 1, 1) := by decide +kernel
theorem dX9_player_117 : decode cX9_player 117 = .ok (.iload_n 2, 1) := by decide +kernel
theorem dX9_player_118 : decode cX9_player 118 = .ok (.invokevirtual 176, 3) := by decide +kernel
theorem dX9_player_121 : decode cX9_player 121 = .ok (.ireturn, 1) := by decide +kernel
theorem dX9_player_122 : decode cX9_player 122 = .ok (.aload_n 0, 1) := by decide +kernel
theorem dX9_player_123 : decode cX9_player 123 = .ok (.iload_n 1, 1) := by decide +kernel
theorem dX9_player_124 : decode cX9_player 124 = .ok (.iload_n 2, 1) := by decide +kernel
theorem dX9_player_125 : decode cX9_player 125 = .ok (.invokevirtual 180, 3) := by decide +kernel
theorem dX9_player_128 : decode cX9_player 128 = .ok (.ireturn, 1) := by decide +kernel
theorem dX9_player_129 : decode cX9_player 129 = .ok (.aload_n 0, 1) := by decide +kernel
theorem dX9_player_130 : decode cX9_player 130 = .ok (.iload_n 1, 1) := by decide +kernel
theorem dX9_player_131 : decode cX9_player 131 = .ok (.iload_n 2, 1) := by decide +kernel
theorem dX9_player_132 : decode cX9_player 132 = .ok (.invokevirtual 183, 3) := by decide +kernel
theorem dX9_player_135 : decode cX9_player 135 = .ok (.ireturn, 1) := by decide +kernel
theorem dX9_player_136 : decode cX9_player 136 = .ok (.aload_n 0, 1) := by decide +kernel
theorem dX9_player_137 : decode cX9_player 137 = .ok (.getfield 26, 3) := by decide +kernel
theorem dX9_player_140 : decode cX9_player 140 = .ok (.aload_n 0, 1) := by decide +kernel
theorem dX9_player_141 : decode cX9_player 141 = .ok (.getfield 33, 3) := by decide +kernel
theorem dX9_player_144 : decode cX9_player 144 = .ok (.getfield 186, 3) := by decide +kernel
theorem dX9_player_147 : decode cX9_player 147 = .ok (.iload_n 1, 1) := by decide +kernel
theorem dX9_player_148 : decode cX9_player 148 = .ok (.iload_n 2, 1) := by decide +kernel
theorem dX9_player_149 : decode cX9_player 149 = .ok (.invokevirtual 189, 3) := by decide +kernel
theorem dX9_player_152 : decode cX9_player 152 = .ok (.ireturn, 1) := by decide +kernel
theorem dX9_player_153 : decode cX9_player 153 = .ok (.new 193, 3) := by decide +kernel
theorem dX9_player_156 : decode cX9_player 156 = .ok (.dup, 1) := by decide +kernel
theorem dX9_player_157 : decode cX9_player 157 = .ok (.ldc 195, 2) := by decide +kernel
theorem dX9_player_159 : decode cX9_player 159 = .ok (.invokespecial 197, 3) := by decide +kernel
theorem dX9_player_162 : decode cX9_player 162 = .ok (.athrow, 1) := by decide +kernel
def fX9_player (a0 : Nat) (a1 : Int32) (a2 : Int32) (a3 : Int32) (h : hp_T) : Option (Int32 × hp_T) := fx_b2 (fX9_isPlayer a0 a1 a2 h) fun (r3 : Int32) (h3 : hp_T) => if r3 = 0 then none else (fx_b2 (fX8_squad (h3.2.2 a0 11) a1 h3) fun (r24 : Nat) (h24 : hp_T) => if a3 = 0 then (fx_g (fx_in a2 12) (some ((h24.1 (h24.2.2 r24 1) (fx_ix a2)), h24))) else if a3 = 1 then (fx_g (fx_in a2 12) (some ((h24.1 (h24.2.2 r24 2) (fx_ix a2)), h24))) else if a3 = 2 then (fx_g (fx_in a2 12) (some ((h24.1 (h24.2.2 r24 3) (fx_ix a2)), h24))) else if a3 = 3 then (if a2 = (h24.1 r24 7) then (some ((1 : Int32), h24)) else (some ((0 : Int32), h24))) else if a3 = 4 then (fx_b2 (fX9_spotOnCourt a0 a1 a2 h24) fun (r118 : Int32) (h118 : hp_T) => some (r118, h118)) else if a3 = 5 then (fx_b2 (fX9_roleOf a0 a1 a2 h24) fun (r125 : Int32) (h125 : hp_T) => some (r125, h125)) else if a3 = 6 then (fx_b2 (fX9_mateOf a0 a1 a2 h24) fun (r132 : Int32) (h132 : hp_T) => some (r132, h132)) else if a3 = 7 then (fx_b2 (fX3_pointsOf (h24.2.2 a0 2) (h24.1 (h24.2.2 a0 3) 3) a1 a2 h24) fun (r149 : Int32) (h149 : hp_T) => some (r149, h149)) else none)
set_option maxRecDepth 100000 in
set_option maxHeartbeats 4000000 in
theorem mX9_player (l : Launch) (G : xr_G) (a0 : Nat) (a1 : Int32) (a2 : Int32) (a3 : Int32) (ta0 : hp_sh a0 = (9, 0)) (h h1 : hp_T) (r : Int32) (hF : fX9_player a0 a1 a2 a3 h = some (r, h1)) : xr_M l G yX9_player cX9_player 5 (xr_R 2 48) (some .int) [.ref (G.2.2.1 a0), .int a1, .int a2, .int a3] h (xr_Qi G r h1) := by
  refine xr_start rfl (Nat.le_of_ble_eq_true rfl) (fun K C => ?_)
  show xr_j l G K 5 h [(0, .ref (G.2.2.1 a0)), (1, .int a1), (2, .int a2), (3, .int a3)] 0 []
  unfold fX9_player at hF
  refine xr_aload_n C 0 dX9_player_0 rfl rfl ?_
  refine xr_iload_n C 1 dX9_player_1 rfl rfl ?_
  refine xr_iload_n C 2 dX9_player_2 rfl rfl ?_
  obtain ⟨r3, h3, e3, hF⟩ := fx_b2E hF
  refine xr_callVi C mvX9_153 [.int a1, .int a2] [] (mX9_isPlayer l G a0 a1 a2 ta0 h h3 r3 e3) ta0 (by decide) vc9 rfl ⟨rfl, rfl, (Nat.le_of_ble_eq_true rfl), (Nat.le_of_ble_eq_true rfl)⟩ rfl (Nat.le_of_ble_eq_true rfl) dX9_player_3 ?_
  refine xr_if_ne C 19 dX9_player_6 (by decide) (fun c6 => ?_) (fun c6 => ?_)
  · have hF := fx_neg hF c6
    refine xr_aload_n C 0 dX9_player_19 rfl rfl ?_
    refine xr_getr C flX9_68 rfl (by decide) dX9_player_20 ta0 (fun t20 => ?_)
    refine xr_iload_n C 1 dX9_player_23 rfl rfl ?_
    obtain ⟨r24, h24, e24, hF⟩ := fx_b2E hF
    refine xr_callVr C mvX9_103 [.int a1] [] (mX8_squad l G (h3.2.2 a0 11) a1 t20 h3 h24 r24 e24) t20 (by decide) vc8 rfl ⟨rfl, rfl, (Nat.le_of_ble_eq_true rfl), (Nat.le_of_ble_eq_true rfl)⟩ rfl (Nat.le_of_ble_eq_true rfl) dX9_player_24 (fun t24 => ?_)
    refine xr_astore C [(4, .ref (G.2.2.1 r24)), (0, .ref (G.2.2.1 a0)), (1, .int a1), (2, .int a2), (3, .int a3)] dX9_player_27 (Nat.le_of_ble_eq_true rfl) rfl ?_
    refine xr_iload_n C 4 dX9_player_29 rfl rfl ?_
    by_cases c30_0 : a3 = 0
    · have hF := fx_pos hF c30_0
      refine xr_tableIn C 76 dX9_player_30 (by rw [c30_0]; decide) (by rw [c30_0]; decide) (by rw [c30_0]; first | done | rfl) (by decide) ?_
      refine xr_aload C 0 dX9_player_76 rfl ?_
      refine xr_getr C flX9_164 rfl (by decide) dX9_player_78 t24 (fun t78 => ?_)
      refine xr_iload_n C 3 dX9_player_81 rfl rfl ?_
      obtain ⟨g82, hF⟩ := fx_gE hF
      refine xr_iald C dX9_player_82 t78 g82 ?_
      cases hF
      exact xr_iret C dX9_player_83
    have hF := fx_neg hF c30_0
    by_cases c30_1 : a3 = 1
    · have hF := fx_pos hF c30_1
      refine xr_tableIn C 84 dX9_player_30 (by rw [c30_1]; decide) (by rw [c30_1]; decide) (by rw [c30_1]; first | done | rfl) (by decide) ?_
      refine xr_aload C 0 dX9_player_84 rfl ?_
      refine xr_getr C flX9_167 rfl (by decide) dX9_player_86 t24 (fun t86 => ?_)
      refine xr_iload_n C 3 dX9_player_89 rfl rfl ?_
      obtain ⟨g90, hF⟩ := fx_gE hF
      refine xr_iald C dX9_player_90 t86 g90 ?_
      cases hF
      exact xr_iret C dX9_player_91
    have hF := fx_neg hF c30_1
    by_cases c30_2 : a3 = 2
    · have hF := fx_pos hF c30_2
      refine xr_tableIn C 92 dX9_player_30 (by rw [c30_2]; decide) (by rw [c30_2]; decide) (by rw [c30_2]; first | done | rfl) (by decide) ?_
      refine xr_aload C 0 dX9_player_92 rfl ?_
      refine xr_getr C flX9_170 rfl (by decide) dX9_player_94 t24 (fun t94 => ?_)
      refine xr_iload_n C 3 dX9_player_97 rfl rfl ?_
      obtain ⟨g98, hF⟩ := fx_gE hF
      refine xr_iald C dX9_player_98 t94 g98 ?_
      cases hF
      exact xr_iret C dX9_player_99
    have hF := fx_neg hF c30_2
    by_cases c30_3 : a3 = 3
    · have hF := fx_pos hF c30_3
      refine xr_tableIn C 100 dX9_player_30 (by rw [c30_3]; decide) (by rw [c30_3]; decide) (by rw [c30_3]; first | done | rfl) (by decide) ?_
      refine xr_iload_n C 3 dX9_player_100 rfl rfl ?_
      refine xr_aload C 0 dX9_player_101 rfl ?_
      refine xr_geti C flX9_173 rfl dX9_player_103 t24 ?_
      refine xr_icmp_ne C 113 dX9_player_106 (by decide) (fun c106 => ?_) (fun c106 => ?_)
      · have hF := fx_neg hF c106
        refine xr_iconst (v := 0) C dX9_player_113 (by decide) ?_
        cases hF
        exact xr_iret C dX9_player_114
      · have hF := fx_pos hF c106
        refine xr_iconst (v := 1) C dX9_player_109 (by decide) ?_
        refine xr_goto C 114 dX9_player_110 (by decide) ?_
        cases hF
        exact xr_iret C dX9_player_114
    have hF := fx_neg hF c30_3
    by_cases c30_4 : a3 = 4
    · have hF := fx_pos hF c30_4
      refine xr_tableIn C 115 dX9_player_30 (by rw [c30_4]; decide) (by rw [c30_4]; decide) (by rw [c30_4]; first | done | rfl) (by decide) ?_
      refine xr_aload_n C 1 dX9_player_115 rfl rfl ?_
      refine xr_iload_n C 2 dX9_player_116 rfl rfl ?_
      refine xr_iload_n C 3 dX9_player_117 rfl rfl ?_
      obtain ⟨r118, h118, e118, hF⟩ := fx_b2E hF
      refine xr_callVi C mvX9_176 [.int a1, .int a2] [] (mX9_spotOnCourt l G a0 a1 a2 ta0 h24 h118 r118 e118) ta0 (by decide) vc9 rfl ⟨rfl, rfl, (Nat.le_of_ble_eq_true rfl), (Nat.le_of_ble_eq_true rfl)⟩ rfl (Nat.le_of_ble_eq_true rfl) dX9_player_118 ?_
      cases hF
      exact xr_iret C dX9_player_121
    have hF := fx_neg hF c30_4
    by_cases c30_5 : a3 = 5
    · have hF := fx_pos hF c30_5
      refine xr_tableIn C 122 dX9_player_30 (by rw [c30_5]; decide) (by rw [c30_5]; decide) (by rw [c30_5]; first | done | rfl) (by decide) ?_
      refine xr_aload_n C 1 dX9_player_122 rfl rfl ?_
      refine xr_iload_n C 2 dX9_player_123 rfl rfl ?_
      refine xr_iload_n C 3 dX9_player_124 rfl rfl ?_
      obtain ⟨r125, h125, e125, hF⟩ := fx_b2E hF
      refine xr_callVi C mvX9_180 [.int a1, .int a2] [] (mX9_roleOf l G a0 a1 a2 ta0 h24 h125 r125 e125) ta0 (by decide) vc9 rfl ⟨rfl, rfl, (Nat.le_of_ble_eq_true rfl), (Nat.le_of_ble_eq_true rfl)⟩ rfl (Nat.le_of_ble_eq_true rfl) dX9_player_125 ?_
      cases hF
      exact xr_iret C dX9_player_128
    have hF := fx_neg hF c30_5
    by_cases c30_6 : a3 = 6
    · have hF := fx_pos hF c30_6
      refine xr_tableIn C 129 dX9_player_30 (by rw [c30_6]; decide) (by rw [c30_6]; decide) (by rw [c30_6]; first | done | rfl) (by decide) ?_
      refine xr_aload_n C 1 dX9_player_129 rfl rfl ?_
      refine xr_iload_n C 2 dX9_player_130 rfl rfl ?_
      refine xr_iload_n C 3 dX9_player_131 rfl rfl ?_
      obtain ⟨r132, h132, e132, hF⟩ := fx_b2E hF
      refine xr_callVi C mvX9_183 [.int a1, .int a2] [] (mX9_mateOf l G a0 a1 a2 ta0 h24 h132 r132 e132) ta0 (by decide) vc9 rfl ⟨rfl, rfl, (Nat.le_of_ble_eq_true rfl), (Nat.le_of_ble_eq_true rfl)⟩ rfl (Nat.le_of_ble_eq_true rfl) dX9_player_132 ?_
      cases hF
      exact xr_iret C dX9_player_135
    have hF := fx_neg hF c30_6
    by_cases c30_7 : a3 = 7
    · have hF := fx_pos hF c30_7
      refine xr_tableIn C 136 dX9_player_30 (by rw [c30_7]; decide) (by rw [c30_7]; decide) (by rw [c30_7]; first | done | rfl) (by decide) ?_
      refine xr_aload_n C 1 dX9_player_136 rfl rfl ?_
      refine xr_getr C flX9_26 rfl (by decide) dX9_player_137 ta0 (fun t137 => ?_)
      refine xr_aload_n C 1 dX9_player_140 rfl rfl ?_
      refine xr_getr C flX9_33 rfl (by decide) dX9_player_141 ta0 (fun t141 => ?_)
      refine xr_geti C flX9_186 rfl dX9_player_144 t141 ?_
      refine xr_iload_n C 2 dX9_player_147 rfl rfl ?_
      refine xr_iload_n C 3 dX9_player_148 rfl rfl ?_
      obtain ⟨r149, h149, e149, hF⟩ := fx_b2E hF
      refine xr_callVi C mvX9_189 [.int (h24.1 (h24.2.2 a0 3) 3), .int a1, .int a2] [] (mX3_pointsOf l G (h24.2.2 a0 2) (h24.1 (h24.2.2 a0 3) 3) a1 a2 t137 h24 h149 r149 e149) t137 (by decide) vc3 rfl ⟨rfl, rfl, (Nat.le_of_ble_eq_true rfl), (Nat.le_of_ble_eq_true rfl)⟩ rfl (Nat.le_of_ble_eq_true rfl) dX9_player_149 ?_
      cases hF
      exact xr_iret C dX9_player_152
    have hF := fx_neg hF c30_7
    refine xr_tableOut C 153 dX9_player_30 (fx_out8 c30_0 c30_1 c30_2 c30_3 c30_4 c30_5 c30_6 c30_7) (by decide) ?_
    cases hF
  · have hF := fx_pos hF c6
    cases hF
/-! ===== a thrown class whose constructor's call of its parent bears another pool index: after the library's BundleChainS, BundleOwnThrow and this round's vx_throwS, with that index at will ===== -/
section VYA
def vy_chain (X : String) (ix : Nat) (rx : ByteArray) : List String → List Cond
  | [] => Bundle.passSAtoms X Bundle.tN ix rx
  | Y :: r => Bundle.passSAtoms X Y ix rx ++ Bundle.chainSAtoms Y r
theorem vy_chainS {args : Array Value} {s : State} {pl : Platform} (hpl : pl.magicAccessors = ({} : Platform).magicAccessors) {top : MethodId} (htop : s.methodNamed? (Bundle.initS Bundle.tN) = some top) {ix : Nat} {rx : ByteArray} (x0 : decode rx 0 = .ok (.aload_n 0, 1)) (x1 : decode rx 1 = .ok (.aload_n 1, 1)) (x2 : decode rx 2 = .ok (.invokespecial ix, 3)) (x5 : decode rx 5 = .ok (.return_, 1)) :
    ∀ (names : List String) (X : String), Bundle.fit X = true → (∀ n ∈ names, Bundle.fit n = true) → (∀ c ∈ vy_chain X ix rx names, c.before args s = true) →
      ∃ (P1 : PassC) (Ps : List PassC), Ps.length = names.length ∧ P1.LinksS pl s ∧ (∀ P, P ∈ Ps → P.LinksS pl s) ∧ s.methodNamed? (Bundle.initS X) = some P1.m ∧ P1.sup = firstOf top (Ps.map (·.toPassT)) ∧ PassesOn top (Ps.map (·.toPassT)) := by
  intro names X hX hn h
  cases names with
  | nil =>
    obtain ⟨P, L, hm, hs⟩ := PassC.ofS_atoms (args := args) (s := s) hpl (X := X) (Y := Bundle.tN) (Bundle.fit_spec hX).1 (by decide) x0 x1 x2 x5 h
    exact ⟨P, [], rfl, L, fun _ q => (nomatch q), hm, Option.some.inj (hs.symm.trans htop), trivial⟩
  | cons Y r =>
    obtain ⟨P, L, hm, hs⟩ := PassC.ofS_atoms (args := args) (s := s) hpl (X := X) (Y := Y) (Bundle.fit_spec hX).1 (Bundle.fit_spec (hn Y List.mem_cons_self)).2 x0 x1 x2 x5 (fun c hc => h c (List.mem_append_left _ hc))
    obtain ⟨P', Ps, hlen, L', hL, hm', hsup, hpass⟩ := Bundle.chainS (args := args) hpl htop r Y (hn Y List.mem_cons_self) (fun n q => hn n (List.mem_cons_of_mem _ q)) (fun c hc => h c (List.mem_append_right _ hc))
    exact ⟨P, P' :: Ps, by simp [hlen], L, fun Q hQ => (List.mem_cons.mp hQ).elim (fun e => e ▸ L') (hL Q), hm, Option.some.inj (hs.symm.trans hm'), hsup, hpass⟩
def vy_own (own : String) (ic : Nat) (X : String) (ix : Nat) (rx : ByteArray) (names : List String) : List Cond :=
  Bundle.throwableAtoms ++ (Bundle.throwableSAtoms ++ (vy_chain X ix rx names ++ (Cond.methodLink own ic (Bundle.initS X) :: Cond.castable X X :: Cond.instantiable X 6 :: [Bundle.tFill0, Bundle.tFill].map (fun t => Cond.selects X t t) ++
  [("cause", "Ljava/lang/Throwable;"), ("stackTrace", Bundle.steD), ("suppressedExceptions", Bundle.listD), ("detailMessage", "Ljava/lang/String;"), ("backtrace", "Ljava/lang/Object;")].map (fun q => Cond.lays X Bundle.tN q.1 q.2) ++
  [("UNASSIGNED_STACK", Bundle.steD), ("SUPPRESSED_SENTINEL", Bundle.listD)].map (fun q => Cond.isRef (.static Bundle.tN q.1 q.2)) ++ [Cond.fieldLink Bundle.tN 198 Bundle.tN "backtrace" "Ljava/lang/Object;", Cond.lays Bundle.tN Bundle.tN "backtrace" "Ljava/lang/Object;"])))
def vy_at (own : String) (ic : Nat) (X : String) (ix : Nat) (rx : ByteArray) (names : List String) : List Cond := (vy_own own ic X ix rx names).filter vx_no
variable {p : Program} {l : Launch} {e : Env} {R : Room} {s : State} {m₀ : MethodId} {args : Array Value} {below : List Frame} {meth : Method} {c : Code} {W : State} {locs : List Loc} {cells slots : Nat}
set_option maxHeartbeats 1000000 in
theorem vy_ctorS (X : Stand p l e R s m₀ args below meth c W locs cells slots) (hexec : p.tables.exec = Jvm.exec) (htr : e.platform.stackTraces = false) {ix : Nat} {rx : ByteArray} (x0 : decode rx 0 = .ok (.aload_n 0, 1)) (x1 : decode rx 1 = .ok (.aload_n 1, 1)) (x2 : decode rx 2 = .ok (.invokespecial ix, 3)) (x5 : decode rx 5 = .ok (.return_, 1)) {own cls : String} {names : List String} {ic : Nat}
    (hown : s.vm.findClass own = some m₀.cls) (hcls : Bundle.fit cls = true) (hnames : ∀ n ∈ names, Bundle.fit n = true)
    (h : ∀ a ∈ vy_own own ic cls ix rx names, a.before args s = true)
    (hlocs : ∀ x ∈ locs, ∀ cell, s.heap[x.base]? = some cell → cell.vm.isStatics = false)
    {a : Addr} {cX : ClassId} {kX : Class} (hfoundX : s.vm.findClass cls = some cX) (hkX : s.vm.classes[cX]? = some kX) (hcell : W.heap[a]? = some (freshCell cX kX)) (hnew : s.heap.size ≤ a)
    {msg : Value} (hmsg : msg.isRef = true)
    {g : JFrame} (hg : g.method = m₀) (hsize : g.locals.size = c.maxLocals) (hlocked : g.locked = none) (hentered : g.entered = []) {rest : List Value} (hstack : g.stack = msg :: .ref a :: .ref a :: rest)
    (hd6 : decode c.code g.pc = .ok (.invokespecial ic, 3)) (hd9 : decode c.code (g.pc + 3) = .ok (.athrow, 1)) (hout : ∀ x ∈ c.exceptionTable.toList, covers x (g.pc + 3) = false)
    (hRframes : names.length + 3 < R.frames) (hRlocals : 2 * g.monitorRoom + ((Value.ref a :: rest).map fun v => v.category).sum + (13 * (names.length + 1) + 42) ≤ R.locals) (hlocks : meth.locks = false := by first | assumption | exact BodyLoose.notSynchronized (by assumption) | exact Body.notSynchronized (by assumption)) :
    ∃ U : State, Steps p.tables e below (W.setTop g) U ∧ U.status = .running ∧ Ended U below (.threw a) ∧ s.WarmedH U.vm ∧ s.sameButNew ({ U with vm := s.vm } : State) locs cells slots ∧
      ∃ ce, U.heap[a]? = some ce ∧ ce.cls = cX ∧ ce.vm = .none := by
  have howns : e.platform.frameOwnsMonitors = true := by rw [X.admits.platform]
  have hfin : e.platform.finalization = false := by rw [X.admits.platform]
  have hpl : e.platform.magicAccessors = ({} : Platform).magicAccessors := by rw [X.admits.platform]
  have a' : ∀ x, x ∈ vy_own own ic cls ix rx names → x.holds args s none s [] = true := fun x hx => h x hx
  obtain ⟨T, Z0, L, -, Y⟩ := ThrowableC.of_atoms (args := args) howns hfin hpl (fun x hx => h x (by simp [vy_own, hx]))
  obtain ⟨Z, M, LZ, LM, hnZ⟩ := Init0T.ofS_atoms (args := args) hpl L Y (fun x hx => h x (by simp [vy_own, hx]))
  obtain ⟨P1, Ps, hlen, L1, hL, hP1m, hlink1, hlink⟩ := vy_chainS (args := args) hpl hnZ x0 x1 x2 x5 names cls hcls hnames (fun x hx => h x (by simp [vy_own, hx]))
  have hfound : s.vm.findClass cls = some P1.m.cls := findClass_of_methodNamed hP1m
  cases Option.some.inj (hfoundX.symm.trans hfound)
  obtain ⟨c1, kX', hc1, hk, hord, -, -, hn6⟩ := Cond.instantiable_spec (a' (.instantiable cls 6) (by simp [vy_own]))
  cases Option.some.inj (hc1.symm.trans hfound)
  cases Option.some.inj (hkX.symm.trans hk)
  have hsel0 : selectMethod e.platform s.vm P1.m.cls T.fill0 = .method T.fill0 := by
    obtain ⟨c2, r2, m2, q1, q2, q3, q4, -⟩ := Cond.selects_spec (a' (.selects cls Bundle.tFill0 Bundle.tFill0) (by simp [vy_own]))
    cases Option.some.inj (q1.symm.trans hfound)
    cases Option.some.inj (q2.symm.trans (State.methodFound?_of_named Y.fill0 (by decide)))
    cases Option.some.inj (q3.symm.trans Y.fill0)
    rw [Launch.admits_selectMethod X.admits]; exact q4
  have hselF : selectMethod e.platform s.vm P1.m.cls T.fill = .method T.fill := by
    obtain ⟨c2, r2, m2, q1, q2, q3, q4, -⟩ := Cond.selects_spec (a' (.selects cls Bundle.tFill Bundle.tFill) (by simp [vy_own]))
    cases Option.some.inj (q1.symm.trans hfound)
    cases Option.some.inj (q2.symm.trans (State.methodFound?_of_named Y.fill (by decide)))
    cases Option.some.inj (q3.symm.trans Y.fill)
    rw [Launch.admits_selectMethod X.admits]; exact q4
  obtain ⟨cellS0, hcS0, hiss⟩ := Y.statics
  obtain ⟨u0, hu0⟩ := Cond.staticRefV Y.unassigned L.unassignedStatic L.statics hcS0 hiss (a' (.isRef (.static Bundle.tN "UNASSIGNED_STACK" Bundle.steD)) (by simp [vy_own]))
  obtain ⟨sen, hsen⟩ := Cond.staticRefV Y.sentinel L.sentinelStatic L.statics hcS0 hiss (a' (.isRef (.static Bundle.tN "SUPPRESSED_SENTINEL" Bundle.listD)) (by simp [vy_own]))
  obtain ⟨ci198, i198, fB, hk198, hg198, ha198, hsB, -, hnB, htB, hffB⟩ := Cond.ownField (t := .object "java/lang/Object") Y.found L.cls (by decide +kernel) (a' (.fieldLink Bundle.tN 198 Bundle.tN "backtrace" "Ljava/lang/Object;") (by simp [vy_own])) (a' (.lays Bundle.tN Bundle.tN "backtrace" "Ljava/lang/Object;") (by simp [vy_own])) e.platform hpl
  obtain ⟨cellS, hcS', heS, -, hkeep⟩ := X.same.2.2.2.2.2 T.aS cellS0 hcS0
  have hcellS : W.heap[T.aS]? = some cellS := hcS'
  have hout' : ∀ i, (⟨T.aS, i⟩ : Loc) ∉ locs := fun i hmem => by
    have := hlocs _ hmem cellS0 hcS0
    rw [hiss] at this; cases this
  have hknownS : cellS.vm ≠ .unknown := by
    rw [heS]; intro hu
    rw [show cellS0.vm = .unknown from hu] at hiss
    cases hiss
  have hneS : T.aS ≠ a := Nat.ne_of_lt (Nat.lt_of_lt_of_le (Array.getElem?_eq_some_iff.mp hcS0).1 hnew)
  obtain ⟨iM, hffM⟩ := Y.msg
  obtain ⟨tyC, dC, hdC, hdnC⟩ := Cond.laysAt hfound hk Y.cause (a' (.lays cls Bundle.tN "cause" "Ljava/lang/Throwable;") (by simp [vy_own]))
  obtain ⟨tyS, dS, hdS, hdnS⟩ := Cond.laysAt hfound hk Y.stack (a' (.lays cls Bundle.tN "stackTrace" Bundle.steD) (by simp [vy_own]))
  obtain ⟨tyP, dP, hdP, hdnP⟩ := Cond.laysAt hfound hk Y.supp (a' (.lays cls Bundle.tN "suppressedExceptions" Bundle.listD) (by simp [vy_own]))
  obtain ⟨tyM, dM, hdM, hdnM⟩ := Cond.laysAt hfound hk hffM (a' (.lays cls Bundle.tN "detailMessage" "Ljava/lang/String;") (by simp [vy_own]))
  obtain ⟨tyB, dB, hdB, hdnB⟩ := Cond.laysAt hfound hk hffB (a' (.lays cls Bundle.tN "backtrace" "Ljava/lang/Object;") (by simp [vy_own]))
  have bC := Cond.laysApart hdB hdC hdnB hdnC (by rw [hnB, Y.causeName]; decide)
  have bS := Cond.laysApart hdB hdS hdnB hdnS (by rw [hnB, Y.stackName]; decide)
  have bP := Cond.laysApart hdB hdP hdnB hdnP (by rw [hnB, Y.suppName]; decide)
  have hskip : SkipFacts T e.platform s (fun u => u) u0 ((preparedCellV T.toThrowableT (freshCell P1.m.cls kX) a u0 sen).withEntry W.cur) :=
    ⟨{ ci198 := ci198, i198 := i198, fBack := fB }, ⟨hk198, hg198, ha198, hsB⟩, by
      have := fresh_default (c := P1.m.cls) tyB
      rw [htB] at this
      simpa [preparedCellV, Cell.setSlot, Cell.withEntry, Array.getElem?_setIfInBounds, bC, bS, bP, bC.symm, bS.symm, bP.symm, defaultValue] using this, fun _ _ => rfl⟩
  obtain ⟨tm, methC, cdC, kC, vm₁, hnC, -, -, -, -, -, -, -, hW₁, st1⟩ := Steps.initColdS (tb := p.tables) (e := e) (below := below) (s := s) (U := W) X.here hexec X.warmed hpl hown (t := Bundle.initS cls) rfl rfl (Bundle.fit_spec hcls).2
    (a' (.methodLink own ic (Bundle.initS cls)) (by simp [vy_own])) (h (.instanceMethod (Bundle.initS cls)) (by cases names <;> simp [vy_own, vy_chain, Bundle.passSAtoms])) (bytes := rx) (maxL := 2) (h (.code (Bundle.initS cls) rx 2 none) (by cases names <;> simp [vy_own, vy_chain, Bundle.passSAtoms]))
    (f := g) hg (a := a) (msg := msg) (rest := .ref a :: rest) hstack hd6
  cases Option.some.inj (hnC.symm.trans hP1m)
  have X₁ := X.noted hW₁
  obtain ⟨vm₂, X₂, st2⟩ := X₁.ctorMessageOffV hexec (g := { g with stack := .ref a :: rest }) hg hsize T L Z LZ M LM (P1 :: Ps)
    (fun P hP => by rcases List.mem_cons.mp hP with rfl | hP; exact L1; exact hL P hP) ⟨hlink1, hlink⟩ (u0 := u0) (sen := sen) (self := a) hmsg (cell := freshCell P1.m.cls kX) (cellS := cellS)
    hcell (fun _ => by simp) (by simp) rfl rfl hsel0 hselF hcellS hneS hknownS (by rw [hkeep _ (hout' _)]; exact hu0) (by rw [hkeep _ (hout' _)]; exact hsen)
    (Takes.of_laid hk hord tyC (by rw [Y.causeType]; rfl)) (Takes.of_laid hk hord tyS (by rw [Y.stackType]; exact fits_refV_array _ u0)) (Takes.of_laid hk hord tyP (by rw [Y.suppType]; exact fits_refV_object _ sen))
    (Takes.of_laid hk hord tyM (by rw [Y.msgType]; exact fits_refV_object _ ⟨msg, hmsg⟩)) Y.objLocals hskip htr [] hd6
    (by simp only [List.length_cons, hlen]; omega) (by simp only [List.length_cons, hlen]; exact hRlocals)
  obtain ⟨hwalk, hrun, hended, hWU, hsame⟩ := X₂.athrowLeaves hexec (g := { g with stack := .ref a :: rest, pc := g.pc + 3 }) hg hlocked hentered hout (a := a) (rest := rest) rfl hd9
  have hlt : a < ((W.setVm vm₁).setVm vm₂).heap.size := (Array.getElem?_eq_some_iff.mp hcell).1
  have hU := heapAt_setCell_self (s := (W.setVm vm₁).setVm vm₂) (plainBareV T.toThrowableT (freshCell P1.m.cls kX) a u0 sen msg) hlt
  refine ⟨_, st1 _ (fun acts => ?_), hrun, hended, hWU, hsame.weaken (fun y hy hlt' => ?_) (Nat.le_refl _) (Nat.le_refl _), _, hU, rfl, rfl⟩
  · rw [doInvoke_state]
    exact st2 _ hwalk
  · rcases List.mem_append.mp hy with h1 | h1
    · exact h1
    · exfalso
      have hb : y.base = a := by
        simp only [List.mem_cons, List.not_mem_nil, or_false] at h1
        rcases h1 with rfl | rfl | rfl | rfl | rfl <;> rfl
      rw [hb] at hlt'
      exact Nat.not_lt.mpr hnew hlt'
end VYA
section VYB
variable {p : Program} {l : Launch} {e : Env} {R : Room} {s : State} {m : MethodId} {args : Array Value} {below : List Frame} {meth : Method} {c : Code} {H : Heap} {locs : List Loc} {cells slots : Nat} {mc ms : Nat} {free : Addr → Prop} {ls : Array Slot} {rest : List Value} {Qc : Array Value → State → Outcome → State → Prop} {XC : String → State → State → Prop}
theorem vy_throwS {ix : Nat} {rx : ByteArray} (x0 : decode rx 0 = .ok (.aload_n 0, 1)) (x1 : decode rx 1 = .ok (.aload_n 1, 1)) (x2 : decode rx 2 = .ok (.invokespecial ix, 3)) (x5 : decode rx 5 = .ok (.return_, 1)) {cc : ByteArray} {pc : Nat} (hexec : p.tables.exec = Jvm.exec) (hb : c.code = cc) (hl : l.stackTraces = false) {own cls text : String} {names : List String} {ik is ic mc ms sa : Nat} {A : Nat → Prop}
    (hown : s.vm.findClass own = some m.cls) (hcls : Bundle.fit cls = true) (hnames : ∀ n ∈ names, Bundle.fit n = true)
    (hk : (Cond.classLink own ik cls).before args s = true) (hini : (Cond.initialized cls).before args s = true) (hstr : vk_R own is text sa s) (hat : ∀ w ∈ vy_at own ic cls ix rx names, w.before args s = true)
    (hgood : ∀ w ∈ Cond.classLink own ik cls :: Cond.initialized cls :: vy_at own ic cls ix rx names, vx_ot w = true)
    (hU : vx_Zq Bundle.tN "UNASSIGNED_STACK" Bundle.steD A s s.heap) (hN : vx_Zq Bundle.tN "SUPPRESSED_SENTINEL" Bundle.listD A s s.heap) (hS : va_S A s.heap H locs) (hsize : ls.size = c.maxLocals)
    (d0 : decode cc pc = .ok (.new ik, 3)) (d3 : decode cc (pc + 3) = .ok (.dup, 1)) (d4 : decode cc (pc + 4) = .ok (.ldc is, 2)) (d6 : decode cc (pc + 6) = .ok (.invokespecial ic, 3)) (d9 : decode cc (pc + 9) = .ok (.athrow, 1))
    (hout : ∀ x ∈ c.exceptionTable.toList, covers x (pc + 9) = false)
    (hRframes : names.length + 3 < R.frames) (hRlocals : (rest.map fun v => v.category).sum + (13 * (names.length + 1) + 43) ≤ R.locals) (hRcells : cells + 1 ≤ R.cells) (hRslots : slots + 6 ≤ R.slots) (hlocks : meth.locks = false)
    (hx : ∀ t : State, s.vm.Alike t.vm → H.size ≤ t.heap.size → (∀ q : Nat, q < H.size → t.heap[q]? = H[q]?) → XC cls s t)
    (hf : ∀ z ∈ locs, free z.base) (hc : cells + 1 ≤ mc) (hs : slots + 6 ≤ ms) :
    W p l e R s m args below meth c H locs cells slots (vx_MQ below Qc XC args s mc ms free) (F0 m pc ls rest) := by
  intro T hT X
  have htr : e.platform.stackTraces = false := (show e.platform.stackTraces = l.stackTraces by rw [X.admits.platform]).trans hl
  have Y := vx_rebase X (R' := { frames := R.frames, locals := R.locals, cells := 1, slots := 6 }) (Nat.le_refl _) (Nat.le_refl _) hRcells hRslots
  obtain ⟨s', hA⟩ : ∃ z, z = (T.setVm s.vm).setFrames (.invoking m args :: below) := ⟨_, rfl⟩
  rw [← hA] at Y
  have hvm : s'.vm = s.vm := by rw [hA]; rfl
  have hhp : s'.heap = H := by rw [hA]; exact hT
  have hW0 : s.WarmedH s'.vm := by rw [hvm]; exact State.WarmedH.refl s
  have hat' : ∀ w ∈ vy_at own ic cls ix rx names, w.before args s' = true := fun w hw => vx_ot_at hW0 hvm.symm (hgood w (List.mem_cons_of_mem _ (List.mem_cons_of_mem _ hw))) (hat w hw)
  have hk' : (Cond.classLink own ik cls).before args s' = true := vx_ot_at hW0 hvm.symm (hgood _ List.mem_cons_self) hk
  have hini' : (Cond.initialized cls).before args s' = true := vx_ot_at hW0 hvm.symm (hgood _ (List.mem_cons_of_mem _ List.mem_cons_self)) hini
  have hU' : vx_Zq Bundle.tN "UNASSIGNED_STACK" Bundle.steD A s' s'.heap := by rw [hhp]; exact vx_Zq.moved hW0.alike (hU.kept hS.2.1)
  have hN' : vx_Zq Bundle.tN "SUPPRESSED_SENTINEL" Bundle.listD A s' s'.heap := by rw [hhp]; exact vx_Zq.moved hW0.alike (hN.kept hS.2.1)
  have h : ∀ w ∈ vy_own own ic cls ix rx names, w.before args s' = true := vx_own hat' (vx_isRefq hU'.1) (vx_isRefq hN'.1) hU'.2.word hN'.2.word
  have hown' : s'.vm.findClass own = some m.cls := by rw [hvm]; exact hown
  have hins : (Cond.instantiable cls 6).before args s' = true := h _ (by simp [vy_own])
  obtain ⟨vm₁, cX, kX, hfX, hkX, -, -, X₁, st1⟩ := Y.newCold hexec (own := own) (C := cls) (index := ik) (n := 6) hown' hk' hins hini'
    (g := F0 m pc ls rest) rfl (by rw [hb]; exact d0) (Nat.le_refl _) (Nat.le_refl _)
  generalize hT1 : (T.setVm vm₁).pushCell { cls := cX, slots := kX.instanceTypes.map defaultValue, vm := .none } = T1 at X₁ st1
  have hcat : (Value.ref T.heap.size).category = 1 := rfl
  have hcellA : T1.heap[T.heap.size]? = some (freshCell cX kX) := by rw [← hT1]; exact State.heap_pushCell_size _ _
  have d3' : decode c.code (pc + 3) = .ok (.dup, 1) := by rw [hb]; exact d3
  have d4' : decode c.code (pc + 4) = .ok (.ldc is, 2) := by rw [hb]; exact d4
  have hstr' : vk_R own is text sa s' := vk_R.warm hW0 hstr
  obtain ⟨U, hsteps, hrun, hend, hW, hsame, ce, hce, hOc, hOv⟩ := vy_ctorS X₁ hexec htr x0 x1 x2 x5 (own := own) (cls := cls) (names := names) (ic := ic) hown' hcls hnames h (fun x hx => nomatch hx) hfX hkX hcellA (by rw [hhp, hT]; exact Nat.le_refl _) (msg := .ref sa) rfl
    (g := { method := m, pc := pc + 6, locals := ls, stack := .ref sa :: .ref T.heap.size :: .ref T.heap.size :: rest, locked := none }) rfl hsize rfl rfl (rest := rest) rfl
    (by rw [hb]; exact d6) (by rw [hb]; exact d9) hout hRframes (by simp only [List.map_cons, List.sum_cons, hcat]; omega) hlocks
  obtain ⟨f1, f2⟩ := vx_frame hsame
  rw [hhp] at f1 f2
  have hWs : s.WarmedH U.vm := State.WarmedH.trans hW0 hW
  have hcl : s.vm.findClass cls = some ce.cls := by
    have h9 := hfX
    rw [hvm] at h9
    rw [hOc]; exact h9
  have hall : s.sameButNew ({ U with vm := s.vm } : State) locs mc ms := by
    subst hA
    obtain ⟨e1, e2⟩ := hsame
    rw [State.setFrames_setFrames] at e1
    have h2 : (T.setVm s.vm).sameButNew ({ U with vm := s.vm } : State) [] (0 + 1) (0 + 6) := ⟨e1, e2⟩
    have h3 := X.same.trans h2
    rw [List.append_nil] at h3
    exact h3.mono hc hs
  refine ⟨U, ?_, .threw T.heap.size, hrun, hend, Or.inr ⟨T.heap.size, rfl, cls, ce, locs, hx U hWs.alike f1 (fun q hq => f2 q hq (fun z hz => nomatch hz)), hce, hOv, hcl, hWs, hall, hf⟩⟩
  refine st1 _ ?_
  show Steps p.tables e below (T1.setTop { method := m, pc := pc + 3, locals := ls, stack := .ref T.heap.size :: rest, locked := none }) _
  jvm_step X₁.here [X₁.here.top, hexec, d3', Value.category]
  exact X₁.ldcString hexec (own := own) (text := text) (index := is) (a := sa) hown' hstr'.1 hstr'.2
    (g := { method := m, pc := pc + 4, locals := ls, stack := .ref T.heap.size :: .ref T.heap.size :: rest, locked := none }) rfl d4' _ hsteps
end VYB
/-! ===== what a throw needs of a state ===== -/
def hp_X1 : List Cond := vx_atS RX9 161 "java/lang/IndexOutOfBoundsException" ["java/lang/RuntimeException", "java/lang/Exception"]
def vy_rx : ByteArray := ⟨#[0x2a, 0x2b, 0xb7, 0x00, 0x0d, 0xb1]⟩
def hp_X2 : List Cond := vy_at RX9 197 "java/util/NoSuchElementException" 13 vy_rx ["java/lang/RuntimeException", "java/lang/Exception"]
theorem hp_X1_ok : ∀ w ∈ hp_X1, (w.onTables && w.keepsFace) = true := by decide +kernel
theorem hp_X2_ok : ∀ w ∈ hp_X2, (w.onTables && w.keepsFace) = true := by decide +kernel
def hp_X (zt : Nat → Nat) (A : Nat → Prop) (U : State) (H : Heap) : Prop :=
  (∀ w ∈ hp_X1, va_Nw w U) ∧ (∀ w ∈ hp_X2, va_Nw w U) ∧ vx_Zq Bundle.tN "UNASSIGNED_STACK" Bundle.steD A U H ∧ vx_Zq Bundle.tN "SUPPRESSED_SENTINEL" Bundle.listD A U H ∧ vk_R "CourtSix" 159 "no such player" (zt 12) U ∧ vk_R "CourtSix" 195 "no such thing of a player" (zt 13) U ∧ va_Nc "java/util/NoSuchElementException" "java/lang/IndexOutOfBoundsException" U
theorem hp_Nw_warm {w : Cond} (hw : (w.onTables && w.keepsFace) = true) {s U : State} (hW : s.WarmedH U.vm) (h : va_Nw w s) : va_Nw w U := by
  simp only [Bool.and_eq_true] at hw
  have h1 : w.before #[] (s.setVm U.vm) = true := Cond.before_shiftedFace (State.Shifted.of_warmed hW) w hw.2 h
  exact va_tabs hw.1 (rfl : (s.setVm U.vm).vm = U.vm) h1
theorem hp_X.moved {zt : Nat → Nat} {A : Nat → Prop} {u U : State} {H : Heap} (hW : u.WarmedH U.vm) (h : hp_X zt A u H) : hp_X zt A U H := by
  obtain ⟨h1, h2, h3, h4, h5, h6, a, b, q1, q2, q3⟩ := h
  exact ⟨fun w hw => hp_Nw_warm (hp_X1_ok w hw) hW (h1 w hw), fun w hw => hp_Nw_warm (hp_X2_ok w hw) hW (h2 w hw), vx_Zq.moved hW.alike h3, vx_Zq.moved hW.alike h4, vk_R.warm hW h5, vk_R.warm hW h6, a, b, by rw [hW.alike.findClass]; exact q1, by rw [hW.alike.findClass]; exact q2, by rw [hW.alike.assignable]; exact q3⟩
theorem hp_X.kept {zt : Nat → Nat} {A : Nat → Prop} {U : State} {H H1 : Heap} (h : hp_X zt A U H) (hq : ∀ a : Nat, a < H.size → ¬ A a → H1[a]? = H[a]?) : hp_X zt A U H1 :=
  ⟨h.1, h.2.1, vx_Zq.kept h.2.2.1 hq, vx_Zq.kept h.2.2.2.1 hq, h.2.2.2.2⟩
theorem hp_X.same {zt : Nat → Nat} {A : Nat → Prop} {u U : State} {H : Heap} (hv : U.vm = u.vm) (h : hp_X zt A u H) : hp_X zt A U H := by
  have ha : u.vm.Alike U.vm := by rw [hv]; exact Vm.Alike.refl u.vm
  obtain ⟨h1, h2, h3, h4, h5, h6, a, b, q1, q2, q3⟩ := h
  refine ⟨fun w hw => va_Nw.same ?_ hv.symm (h1 w hw), fun w hw => va_Nw.same ?_ hv.symm (h2 w hw), vx_Zq.moved ha h3, vx_Zq.moved ha h4, vk_R.same hv h5, vk_R.same hv h6, a, b, by rw [hv]; exact q1, by rw [hv]; exact q2, by rw [hv]; exact q3⟩
  · have := hp_X1_ok w hw; simp only [Bool.and_eq_true] at this; exact this.1
  · have := hp_X2_ok w hw; simp only [Bool.and_eq_true] at this; exact this.1
abbrev hp_PX (G : xr_G) (h : hp_T) (U : State) : Prop := hp_W G h U ∧ hp_X G.2.2.2.2 G.2.2.2.1 U U.heap
abbrev xp_X (G : xr_G) (E0 : String) (h1 : hp_T) : String → State → State → Prop := vx_X (fun _ : Unit => True) (fun E _ t => E = E0 ∧ va_P G.1 vwCl (hp_wl G.2.1 G.2.2.1 hp_N h1) t.heap) G.2.2.2.1
abbrev xp_rm : Room := { frames := 6, cells := 1, slots := 6, locals := 100 }
theorem xp_blind (G : xr_G) (h : hp_T) (av : List Value) : FrameBlind (va_Pc av (fun U => hp_PX G h U)) := fun a U g mk q => by
  obtain ⟨q0, ⟨q1, q2, q3, q4, q5⟩, q6⟩ := q
  exact ⟨q0, ⟨q1, va_K.moved (u := U) (U := U.calling g mk a) (Vm.Alike.refl U.vm) q2, q3, hp_Z.same (u := U) (U := U.calling g mk a) rfl q4, q5⟩, hp_X.same (u := U) (U := U.calling g mk a) rfl q6⟩
set_option maxRecDepth 100000 in
set_option maxHeartbeats 4000000 in
theorem xp_1 (l : Launch) (hl0 : l.stackTraces = false) (G : xr_G) (a0 : Nat) (a1 a2 a3 : Int32) (ta0 : hp_sh a0 = (9, 0)) (h h1 : hp_T) (hF : fX9_isPlayer a0 a1 a2 h = some (0, h1)) : vx_Met l yX9_player (Cond.code yX9_player cX9_player 5 (some .int) :: hp_GL) xp_rm (va_Pc [.ref (G.2.2.1 a0), .int a1, .int a2, .int a3] (fun U => hp_PX G h U)) (fun _ _ _ _ => False) (xp_X G "java/lang/IndexOutOfBoundsException" h1) 1 6 G.2.2.2.1 := by
  refine vx_ofW rfl rfl ?_
  intro p e s m args below meth c s₁ B hml hex hv
  obtain ⟨rfl, ⟨hP, hK, hD, hZ, hT⟩, hX⟩ := hv
  have hts := atoms_spec (ws := Cond.code yX9_player cX9_player 5 (some .int) :: hp_GL) B.pre
  have hown : s.vm.findClass RX9 = some m.cls := findClass_of_methodNamed B.named
  have hl := lv_entry [Value.ref (G.2.2.1 a0), .int a1, .int a2, .int a3] (n := 5) (Nat.le_of_ble_eq_true rfl)
  rw [lg_entry_eq]
  have C : xr_C G (p, e, xp_rm, s, m, [Value.ref (G.2.2.1 a0), .int a1, .int a2, .int a3].toArray, below, meth, c, vx_MQ below (fun _ _ _ _ => False) (xp_X G "java/lang/IndexOutOfBoundsException" h1) [Value.ref (G.2.2.1 a0), .int a1, .int a2, .int a3].toArray s 1 6 G.2.2.2.1, 0, 0) cX9_player RX9 5 xp_rm (some .int) none := ⟨B.exec, B.bytes, hml, hown, fun w hw => hts w (List.mem_cons_of_mem _ hw), hK, fun h' => hp_D_any hD, hZ, rfl, B.returns, B.notSynchronized, ⟨Nat.zero_le _, Nat.zero_le _⟩, fun Q0 e => by cases e⟩
  suffices hj : xr_j l G (p, e, xp_rm, s, m, [Value.ref (G.2.2.1 a0), .int a1, .int a2, .int a3].toArray, below, meth, c, vx_MQ below (fun _ _ _ _ => False) (xp_X G "java/lang/IndexOutOfBoundsException" h1) [Value.ref (G.2.2.1 a0), .int a1, .int a2, .int a3].toArray s 1 6 G.2.2.2.1, 0, 0) 5 h [(0, .ref (G.2.2.1 a0)), (1, .int a1), (2, .int a2), (3, .int a3)] 0 [] from hj hT s.heap [] _ hP va_S.rf hl
  refine xr_aload_n C 0 dX9_player_0 rfl rfl ?_
  refine xr_iload_n C 1 dX9_player_1 rfl rfl ?_
  refine xr_iload_n C 2 dX9_player_2 rfl rfl ?_
  refine xr_callVi C mvX9_153 [.int a1, .int a2] [] (mX9_isPlayer l G a0 a1 a2 ta0 h h1 0 hF) ta0 (by decide) vc9 rfl ⟨rfl, rfl, Nat.le_of_ble_eq_true rfl, Nat.le_of_ble_eq_true rfl⟩ rfl (Nat.le_of_ble_eq_true rfl) dX9_player_3 ?_
  refine xr_if_ne C 19 dX9_player_6 (by decide) (fun c => absurd rfl c) (fun _ => ?_)
  intro hT H locs ls hP hS hl
  have hat : ∀ w ∈ hp_X1, w.before [.ref (G.2.2.1 a0), .int a1, .int a2, .int a3].toArray s = true := fun w hw => va_Nw.use (by have := hp_X1_ok w hw; simp only [Bool.and_eq_true] at this; exact this.1) (hX.1 w hw)
  refine vx_throwS (ik := 157) (is := 159) (ic := 161) (cls := "java/lang/IndexOutOfBoundsException") (names := ["java/lang/RuntimeException", "java/lang/Exception"]) B.exec B.bytes hl0 hown (by decide +kernel) (by decide +kernel) (hts _ (List.mem_cons_of_mem _ (hp_pl 999 (by decide +kernel) rfl))) (hts _ (List.mem_cons_of_mem _ (hp_pl 22 (by decide +kernel) rfl))) hX.2.2.2.2.1 hat (by decide +kernel) hX.2.2.1 hX.2.2.2.1 hS (hl.1.trans hml.symm) dX9_player_9 dX9_player_12 dX9_player_13 dX9_player_15 dX9_player_18 (fun x hx => absurd hx (hex x)) (Nat.le_of_ble_eq_true rfl) (Nat.le_of_ble_eq_true rfl) (Nat.le_of_ble_eq_true rfl) (Nat.le_of_ble_eq_true rfl) B.notSynchronized ?_ hS.2.2 (Nat.le_of_ble_eq_true rfl) (Nat.le_of_ble_eq_true rfl)
  intro t hvm hsz hk
  refine ⟨(), trivial, ⟨rfl, hP.kept (fun k q hq => hk _ ((hP k q hq).lt))⟩, ?_⟩
  exact ⟨Nat.le_trans hS.1 hsz, fun q h1 h2 => (hk q (Nat.lt_of_lt_of_le h1 hS.1)).trans (hS.2.1 q h1 h2)⟩
set_option maxRecDepth 100000 in
set_option maxHeartbeats 4000000 in
theorem xp_2 (l : Launch) (hl0 : l.stackTraces = false) (G : xr_G) (a0 : Nat) (a1 a2 a3 : Int32) (ta0 : hp_sh a0 = (9, 0)) (h h2 h1 : hp_T) (r : Int32) (q : Nat) (hF : fX9_isPlayer a0 a1 a2 h = some (r, h2)) (hr : ¬ r = 0) (hG : fX8_squad (h2.2.2 a0 11) a1 h2 = some (q, h1)) (h3 : a3.toInt < 0 ∨ 7 < a3.toInt) : vx_Met l yX9_player (Cond.code yX9_player cX9_player 5 (some .int) :: hp_GL) xp_rm (va_Pc [.ref (G.2.2.1 a0), .int a1, .int a2, .int a3] (fun U => hp_PX G h U)) (fun _ _ _ _ => False) (xp_X G "java/util/NoSuchElementException" h1) 1 6 G.2.2.2.1 := by
  refine vx_ofW rfl rfl ?_
  intro p e s m args below meth c s₁ B hml hex hv
  obtain ⟨rfl, ⟨hP, hK, hD, hZ, hT⟩, hX⟩ := hv
  have hts := atoms_spec (ws := Cond.code yX9_player cX9_player 5 (some .int) :: hp_GL) B.pre
  have hown : s.vm.findClass RX9 = some m.cls := findClass_of_methodNamed B.named
  have hl := lv_entry [Value.ref (G.2.2.1 a0), .int a1, .int a2, .int a3] (n := 5) (Nat.le_of_ble_eq_true rfl)
  rw [lg_entry_eq]
  have C : xr_C G (p, e, xp_rm, s, m, [Value.ref (G.2.2.1 a0), .int a1, .int a2, .int a3].toArray, below, meth, c, vx_MQ below (fun _ _ _ _ => False) (xp_X G "java/util/NoSuchElementException" h1) [Value.ref (G.2.2.1 a0), .int a1, .int a2, .int a3].toArray s 1 6 G.2.2.2.1, 0, 0) cX9_player RX9 5 xp_rm (some .int) none := ⟨B.exec, B.bytes, hml, hown, fun w hw => hts w (List.mem_cons_of_mem _ hw), hK, fun h' => hp_D_any hD, hZ, rfl, B.returns, B.notSynchronized, ⟨Nat.zero_le _, Nat.zero_le _⟩, fun Q0 e => by cases e⟩
  suffices hj : xr_j l G (p, e, xp_rm, s, m, [Value.ref (G.2.2.1 a0), .int a1, .int a2, .int a3].toArray, below, meth, c, vx_MQ below (fun _ _ _ _ => False) (xp_X G "java/util/NoSuchElementException" h1) [Value.ref (G.2.2.1 a0), .int a1, .int a2, .int a3].toArray s 1 6 G.2.2.2.1, 0, 0) 5 h [(0, .ref (G.2.2.1 a0)), (1, .int a1), (2, .int a2), (3, .int a3)] 0 [] from hj hT s.heap [] _ hP va_S.rf hl
  refine xr_aload_n C 0 dX9_player_0 rfl rfl ?_
  refine xr_iload_n C 1 dX9_player_1 rfl rfl ?_
  refine xr_iload_n C 2 dX9_player_2 rfl rfl ?_
  refine xr_callVi C mvX9_153 [.int a1, .int a2] [] (mX9_isPlayer l G a0 a1 a2 ta0 h h2 r hF) ta0 (by decide) vc9 rfl ⟨rfl, rfl, Nat.le_of_ble_eq_true rfl, Nat.le_of_ble_eq_true rfl⟩ rfl (Nat.le_of_ble_eq_true rfl) dX9_player_3 ?_
  refine xr_if_ne C 19 dX9_player_6 (by decide) (fun _ => ?_) (fun c => absurd c hr)
  refine xr_aload_n C 0 dX9_player_19 rfl rfl ?_
  refine xr_getr C flX9_68 rfl (by decide) dX9_player_20 ta0 (fun t20 => ?_)
  refine xr_iload_n C 1 dX9_player_23 rfl rfl ?_
  refine xr_callVr C mvX9_103 [.int a1] [] (mX8_squad l G (h2.2.2 a0 11) a1 t20 h2 h1 q hG) t20 (by decide) vc8 rfl ⟨rfl, rfl, Nat.le_of_ble_eq_true rfl, Nat.le_of_ble_eq_true rfl⟩ rfl (Nat.le_of_ble_eq_true rfl) dX9_player_24 (fun t24 => ?_)
  refine xr_astore C [(4, .ref (G.2.2.1 q)), (0, .ref (G.2.2.1 a0)), (1, .int a1), (2, .int a2), (3, .int a3)] dX9_player_27 (Nat.le_of_ble_eq_true rfl) rfl ?_
  refine xr_iload_n C 4 dX9_player_29 rfl rfl ?_
  refine xr_tableOut C 153 dX9_player_30 h3 (by decide) ?_
  intro hT H locs ls hP hS hl
  have hat : ∀ w ∈ hp_X2, w.before [.ref (G.2.2.1 a0), .int a1, .int a2, .int a3].toArray s = true := fun w hw => va_Nw.use (by have := hp_X2_ok w hw; simp only [Bool.and_eq_true] at this; exact this.1) (hX.2.1 w hw)
  refine vy_throwS (rx := vy_rx) (ix := 13) (by decide +kernel) (by decide +kernel) (by decide +kernel) (by decide +kernel) (ik := 193) (is := 195) (ic := 197) (cls := "java/util/NoSuchElementException") (names := ["java/lang/RuntimeException", "java/lang/Exception"]) B.exec B.bytes hl0 hown (by decide +kernel) (by decide +kernel) (hts _ (List.mem_cons_of_mem _ (hp_pl 1074 (by decide +kernel) rfl))) (hts _ (List.mem_cons_of_mem _ (hp_pl 23 (by decide +kernel) rfl))) hX.2.2.2.2.2.1 hat (by decide +kernel) hX.2.2.1 hX.2.2.2.1 hS (hl.1.trans hml.symm) dX9_player_153 dX9_player_156 dX9_player_157 dX9_player_159 dX9_player_162 (fun x hx => absurd hx (hex x)) (Nat.le_of_ble_eq_true rfl) (Nat.le_of_ble_eq_true rfl) (Nat.le_of_ble_eq_true rfl) (Nat.le_of_ble_eq_true rfl) B.notSynchronized ?_ hS.2.2 (Nat.le_of_ble_eq_true rfl) (Nat.le_of_ble_eq_true rfl)
  intro t hvm hsz hk
  refine ⟨(), trivial, ⟨rfl, hP.kept (fun k q hq => hk _ ((hP k q hq).lt))⟩, ?_⟩
  exact ⟨Nat.le_trans hS.1 hsz, fun q h1 h2 => (hk q (Nat.lt_of_lt_of_le h1 hS.1)).trans (hS.2.1 q h1 h2)⟩
