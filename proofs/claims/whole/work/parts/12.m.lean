theorem dX5_sideHere_0 : decode cX5_sideHere 0 = .ok (.aload_n 0, 1) := by decide +kernel
theorem dX5_sideHere_1 : decode cX5_sideHere 1 = .ok (.getfield 39, 3) := by decide +kernel
theorem dX5_sideHere_4 : decode cX5_sideHere 4 = .ok (.iconst 2, 1) := by decide +kernel
theorem dX5_sideHere_5 : decode cX5_sideHere 5 = .ok (.if_icmp .eq 5, 3) := by decide +kernel
theorem dX5_sideHere_8 : decode cX5_sideHere 8 = .ok (.iconst (-1), 1) := by decide +kernel
theorem dX5_sideHere_9 : decode cX5_sideHere 9 = .ok (.ireturn, 1) := by decide +kernel
theorem dX5_sideHere_10 : decode cX5_sideHere 10 = .ok (.aload_n 0, 1) := by decide +kernel
theorem dX5_sideHere_11 : decode cX5_sideHere 11 = .ok (.getfield 68, 3) := by decide +kernel
theorem dX5_sideHere_14 : decode cX5_sideHere 14 = .ok (.ldc 131, 2) := by decide +kernel
theorem dX5_sideHere_16 : decode cX5_sideHere 16 = .ok (.if_icmp .ne 5, 3) := by decide +kernel
theorem dX5_sideHere_19 : decode cX5_sideHere 19 = .ok (.iconst 0, 1) := by decide +kernel
theorem dX5_sideHere_20 : decode cX5_sideHere 20 = .ok (.ireturn, 1) := by decide +kernel
theorem dX5_sideHere_21 : decode cX5_sideHere 21 = .ok (.aload_n 0, 1) := by decide +kernel
theorem dX5_sideHere_22 : decode cX5_sideHere 22 = .ok (.getfield 68, 3) := by decide +kernel
theorem dX5_sideHere_25 : decode cX5_sideHere 25 = .ok (.ldc 132, 2) := by decide +kernel
theorem dX5_sideHere_27 : decode cX5_sideHere 27 = .ok (.if_icmp .ne 7, 3) := by decide +kernel
theorem dX5_sideHere_30 : decode cX5_sideHere 30 = .ok (.iconst 1, 1) := by decide +kernel
theorem dX5_sideHere_31 : decode cX5_sideHere 31 = .ok (.goto 4, 3) := by decide +kernel
theorem dX5_sideHere_34 : decode cX5_sideHere 34 = .ok (.iconst (-1), 1) := by decide +kernel
theorem dX5_sideHere_35 : decode cX5_sideHere 35 = .ok (.ireturn, 1) := by decide +kernel
def fX5_sideHere (a0 : Nat) (h : hp_T) : Option (Int32 × hp_T) := if (h.1 a0 7) = (2 : Int32) then (if (h.1 a0 8) = (513619 : Int32) then (some ((0 : Int32), h)) else (if (h.1 a0 8) = (679650899 : Int32) then (some ((1 : Int32), h)) else (some ((-1 : Int32), h)))) else (some ((-1 : Int32), h))
set_option maxRecDepth 100000 in
set_option maxHeartbeats 4000000 in
theorem mX5_sideHere (l : Launch) (G : xr_G) (a0 : Nat) (ta0 : hp_sh a0 = (5, 0)) (h h1 : hp_T) (r : Int32) (hF : fX5_sideHere a0 h = some (r, h1)) : xr_M l G yX5_sideHere cX5_sideHere 1 (xr_R 0 0) (some .int) [.ref (G.2.2.1 a0)] h (xr_Qi G r h1) := by
  refine xr_start rfl (Nat.le_of_ble_eq_true rfl) (fun K C => ?_)
  show xr_j l G K 1 h [(0, .ref (G.2.2.1 a0))] 0 []
  unfold fX5_sideHere at hF
  refine xr_aload_n C 0 dX5_sideHere_0 rfl rfl ?_
  refine xr_geti C flX5_39 rfl dX5_sideHere_1 ta0 ?_
  refine xr_iconst (v := 2) C dX5_sideHere_4 (by decide) ?_
  refine xr_icmp_eq C 10 dX5_sideHere_5 (by decide) (fun c5 => ?_) (fun c5 => ?_)
  · have hF := fx_pos hF c5
    refine xr_aload_n C 0 dX5_sideHere_10 rfl rfl ?_
    refine xr_geti C flX5_68 rfl dX5_sideHere_11 ta0 ?_
    refine xr_ldc C kcX5_131 dX5_sideHere_14 ?_
    refine xr_icmp_ne C 21 dX5_sideHere_16 (by decide) (fun c16 => ?_) (fun c16 => ?_)
    · have hF := fx_neg hF c16
      refine xr_aload_n C 0 dX5_sideHere_21 rfl rfl ?_
      refine xr_geti C flX5_68 rfl dX5_sideHere_22 ta0 ?_
      refine xr_ldc C kcX5_132 dX5_sideHere_25 ?_
      refine xr_icmp_ne C 34 dX5_sideHere_27 (by decide) (fun c27 => ?_) (fun c27 => ?_)
      · have hF := fx_neg hF c27
        refine xr_iconst (v := -1) C dX5_sideHere_34 (by decide) ?_
        cases hF
        exact xr_iret C dX5_sideHere_35
      · have hF := fx_pos hF c27
        refine xr_iconst (v := 1) C dX5_sideHere_30 (by decide) ?_
        refine xr_goto C 35 dX5_sideHere_31 (by decide) ?_
        cases hF
        exact xr_iret C dX5_sideHere_35
    · have hF := fx_pos hF c16
      refine xr_iconst (v := 0) C dX5_sideHere_19 (by decide) ?_
      cases hF
      exact xr_iret C dX5_sideHere_20
  · have hF := fx_neg hF c5
    refine xr_iconst (v := -1) C dX5_sideHere_8 (by decide) ?_
    cases hF
    exact xr_iret C dX5_sideHere_9
theorem dX8_squad_0 : decode cX8_squad 0 = .ok (.iload_n 1, 1) := by decide +kernel
theorem dX8_squad_1 : decode cX8_squad 1 = .ok (.ifCond .ne 10, 3) := by decide +kernel
theorem dX8_squad_4 : decode cX8_squad 4 = .ok (.aload_n 0, 1) := by decide +kernel
theorem dX8_squad_5 : decode cX8_squad 5 = .ok (.getfield 12, 3) := by decide +kernel
theorem dX8_squad_8 : decode cX8_squad 8 = .ok (.goto 7, 3) := by decide +kernel
theorem dX8_squad_11 : decode cX8_squad 11 = .ok (.aload_n 0, 1) := by decide +kernel
theorem dX8_squad_12 : decode cX8_squad 12 = .ok (.getfield 18, 3) := by decide +kernel
theorem dX8_squad_15 : decode cX8_squad 15 = .ok (.areturn, 1) := by decide +kernel
def fX8_squad (a0 : Nat) (a1 : Int32) (h : hp_T) : Option (Nat × hp_T) := if a1 = 0 then (some ((h.2.2 a0 0), h)) else (some ((h.2.2 a0 1), h))
set_option maxRecDepth 100000 in
set_option maxHeartbeats 4000000 in
theorem mX8_squad (l : Launch) (G : xr_G) (a0 : Nat) (a1 : Int32) (ta0 : hp_sh a0 = (8, 0)) (h h1 : hp_T) (r : Nat) (hF : fX8_squad a0 a1 h = some (r, h1)) : xr_M l G yX8_squad cX8_squad 2 (xr_R 0 0) (some (.object "CourtSix$Squad")) [.ref (G.2.2.1 a0), .int a1] h (xr_Qr G r (7, 0) h1) := by
  refine xr_start rfl (Nat.le_of_ble_eq_true rfl) (fun K C => ?_)
  show xr_j l G K 2 h [(0, .ref (G.2.2.1 a0)), (1, .int a1)] 0 []
  unfold fX8_squad at hF
  refine xr_iload_n C 1 dX8_squad_0 rfl rfl ?_
  refine xr_if_ne C 11 dX8_squad_1 (by decide) (fun c1 => ?_) (fun c1 => ?_)
  · have hF := fx_neg hF c1
    refine xr_aload_n C 0 dX8_squad_11 rfl rfl ?_
    refine xr_getr C flX8_18 rfl (by decide) dX8_squad_12 ta0 (fun t12 => ?_)
    cases hF
    exact xr_aret C t12 (Or.inl ⟨_, rfl⟩) dX8_squad_15
  · have hF := fx_pos hF c1
    refine xr_aload_n C 0 dX8_squad_4 rfl rfl ?_
    refine xr_getr C flX8_12 rfl (by decide) dX8_squad_5 ta0 (fun t5 => ?_)
    refine xr_goto C 15 dX8_squad_8 (by decide) ?_
    cases hF
    exact xr_aret C t5 (Or.inl ⟨_, rfl⟩) dX8_squad_15
theorem dX7_place_0 : decode cX7_place 0 = .ok (.aload_n 0, 1) := by decide +kernel
theorem dX7_place_1 : decode cX7_place 1 = .ok (.getfield 34, 3) := by decide +kernel
theorem dX7_place_4 : decode cX7_place 4 = .ok (.bipush 6, 2) := by decide +kernel
theorem dX7_place_6 : decode cX7_place 6 = .ok (.if_icmp .ge 23, 3) := by decide +kernel
theorem dX7_place_9 : decode cX7_place 9 = .ok (.aload_n 0, 1) := by decide +kernel
theorem dX7_place_10 : decode cX7_place 10 = .ok (.getfield 24, 3) := by decide +kernel
theorem dX7_place_13 : decode cX7_place 13 = .ok (.aload_n 0, 1) := by decide +kernel
theorem dX7_place_14 : decode cX7_place 14 = .ok (.getfield 34, 3) := by decide +kernel
theorem dX7_place_17 : decode cX7_place 17 = .ok (.iload_n 1, 1) := by decide +kernel
theorem dX7_place_18 : decode cX7_place 18 = .ok (.iastore, 1) := by decide +kernel
theorem dX7_place_19 : decode cX7_place 19 = .ok (.aload_n 0, 1) := by decide +kernel
theorem dX7_place_20 : decode cX7_place 20 = .ok (.dup, 1) := by decide +kernel
theorem dX7_place_21 : decode cX7_place 21 = .ok (.getfield 34, 3) := by decide +kernel
theorem dX7_place_24 : decode cX7_place 24 = .ok (.iconst 1, 1) := by decide +kernel
theorem dX7_place_25 : decode cX7_place 25 = .ok (.iadd, 1) := by decide +kernel
theorem dX7_place_26 : decode cX7_place 26 = .ok (.putfield 34, 3) := by decide +kernel
theorem dX7_place_29 : decode cX7_place 29 = .ok (.return_, 1) := by decide +kernel
def fX7_place (a0 : Nat) (a1 : Int32) (h : hp_T) : Option hp_T := if (6 : Int32) ≤ (h.1 a0 6) then (some h) else (fx_g (fx_in (h.1 a0 6) 6) (fx_let (hp_sI h (h.2.2 a0 4) (fx_ix (h.1 a0 6)) a1) fun (h18 : hp_T) => fx_let (hp_sI h18 a0 6 ((h18.1 a0 6) + (1 : Int32))) fun (h26 : hp_T) => some h26))
set_option maxRecDepth 100000 in
set_option maxHeartbeats 4000000 in
theorem mX7_place (l : Launch) (G : xr_G) (a0 : Nat) (a1 : Int32) (ta0 : hp_sh a0 = (7, 0)) (h h1 : hp_T) (hF : fX7_place a0 a1 h = some h1) : xr_M l G yX7_place cX7_place 2 (xr_R 0 0) none [.ref (G.2.2.1 a0), .int a1] h (xr_Qv G h1) := by
  refine xr_start rfl (Nat.le_of_ble_eq_true rfl) (fun K C => ?_)
  show xr_j l G K 2 h [(0, .ref (G.2.2.1 a0)), (1, .int a1)] 0 []
  unfold fX7_place at hF
  refine xr_aload_n C 0 dX7_place_0 rfl rfl ?_
  refine xr_geti C flX7_34 rfl dX7_place_1 ta0 ?_
  refine xr_bipush (v := 6) C dX7_place_4 (by decide) ?_
  refine xr_icmp_ge C 29 dX7_place_6 (by decide) (fun c6 => ?_) (fun c6 => ?_)
  · have hF := fx_pos hF c6
    cases hF
    exact xr_vret C dX7_place_29
  · have hF := fx_neg hF c6
    refine xr_aload_n C 0 dX7_place_9 rfl rfl ?_
    refine xr_getr C flX7_24 rfl (by decide) dX7_place_10 ta0 (fun t10 => ?_)
    refine xr_aload_n C 0 dX7_place_13 rfl rfl ?_
    refine xr_geti C flX7_34 rfl dX7_place_14 ta0 ?_
    refine xr_iload_n C 1 dX7_place_17 rfl rfl ?_
    obtain ⟨g18, hF⟩ := fx_gE hF
    refine xr_iast C dX7_place_18 t10 g18 (fun h18 e18 => ?_)
    have hF := fx_letE hF h18 e18
    refine xr_aload_n C 0 dX7_place_19 rfl rfl ?_
    refine xr_dup C dX7_place_20 rfl ?_
    refine xr_geti C flX7_34 rfl dX7_place_21 ta0 ?_
    refine xr_iconst (v := 1) C dX7_place_24 (by decide) ?_
    refine xr_iadd C dX7_place_25 ?_
    refine xr_puti C fpX7_34 rfl rfl rfl dX7_place_26 ta0 (fun h26 e26 => ?_)
    have hF := fx_letE hF h26 e26
    cases hF
    exact xr_vret C dX7_place_29
theorem dX5_readStart_0 : decode cX5_readStart 0 = .ok (.aload_n 0, 1) := by decide +kernel
theorem dX5_readStart_1 : decode cX5_readStart 1 = .ok (.invokevirtual 36, 3) := by decide +kernel
theorem dX5_readStart_4 : decode cX5_readStart 4 = .ok (.aload_n 0, 1) := by decide +kernel
theorem dX5_readStart_5 : decode cX5_readStart 5 = .ok (.invokevirtual 117, 3) := by decide +kernel
theorem dX5_readStart_8 : decode cX5_readStart 8 = .ok (.istore_n 2, 1) := by decide +kernel
theorem dX5_readStart_9 : decode cX5_readStart 9 = .ok (.aload_n 1, 1) := by decide +kernel
theorem dX5_readStart_10 : decode cX5_readStart 10 = .ok (.iload_n 2, 1) := by decide +kernel
theorem dX5_readStart_11 : decode cX5_readStart 11 = .ok (.invokevirtual 121, 3) := by decide +kernel
theorem dX5_readStart_14 : decode cX5_readStart 14 = .ok (.astore_n 3, 1) := by decide +kernel
theorem dX5_readStart_15 : decode cX5_readStart 15 = .ok (.iload_n 2, 1) := by decide +kernel
theorem dX5_readStart_16 : decode cX5_readStart 16 = .ok (.iconst (-1), 1) := by decide +kernel
theorem dX5_readStart_17 : decode cX5_readStart 17 = .ok (.if_icmp .ne 11, 3) := by decide +kernel
theorem dX5_readStart_20 : decode cX5_readStart 20 = .ok (.aload_n 0, 1) := by decide +kernel
theorem dX5_readStart_21 : decode cX5_readStart 21 = .ok (.iconst 1, 1) := by decide +kernel
theorem dX5_readStart_22 : decode cX5_readStart 22 = .ok (.invokevirtual 61, 3) := by decide +kernel
theorem dX5_readStart_25 : decode cX5_readStart 25 = .ok (.goto 15, 3) := by decide +kernel
theorem dX5_readStart_28 : decode cX5_readStart 28 = .ok (.aload_n 3, 1) := by decide +kernel
theorem dX5_readStart_29 : decode cX5_readStart 29 = .ok (.getfield 53, 3) := by decide +kernel
theorem dX5_readStart_32 : decode cX5_readStart 32 = .ok (.ifCond .le 8, 3) := by decide +kernel
theorem dX5_readStart_35 : decode cX5_readStart 35 = .ok (.aload_n 0, 1) := by decide +kernel
theorem dX5_readStart_36 : decode cX5_readStart 36 = .ok (.iconst 3, 1) := by decide +kernel
theorem dX5_readStart_37 : decode cX5_readStart 37 = .ok (.invokevirtual 61, 3) := by decide +kernel
theorem dX5_readStart_40 : decode cX5_readStart 40 = .ok (.iconst 1, 1) := by decide +kernel
theorem dX5_readStart_41 : decode cX5_readStart 41 = .ok (.istore 4, 2) := by decide +kernel
theorem dX5_readStart_43 : decode cX5_readStart 43 = .ok (.iload 4, 2) := by decide +kernel
theorem dX5_readStart_45 : decode cX5_readStart 45 = .ok (.bipush 6, 2) := by decide +kernel
theorem dX5_readStart_47 : decode cX5_readStart 47 = .ok (.if_icmp .gt 85, 3) := by decide +kernel
theorem dX5_readStart_50 : decode cX5_readStart 50 = .ok (.aload_n 0, 1) := by decide +kernel
theorem dX5_readStart_51 : decode cX5_readStart 51 = .ok (.getfield 28, 3) := by decide +kernel
theorem dX5_readStart_54 : decode cX5_readStart 54 = .ok (.ifCond .ne 78, 3) := by decide +kernel
theorem dX5_readStart_57 : decode cX5_readStart 57 = .ok (.aload_n 0, 1) := by decide +kernel
theorem dX5_readStart_58 : decode cX5_readStart 58 = .ok (.invokevirtual 36, 3) := by decide +kernel
theorem dX5_readStart_61 : decode cX5_readStart 61 = .ok (.aload_n 0, 1) := by decide +kernel
theorem dX5_readStart_62 : decode cX5_readStart 62 = .ok (.getfield 39, 3) := by decide +kernel
theorem dX5_readStart_65 : decode cX5_readStart 65 = .ok (.iconst 1, 1) := by decide +kernel
theorem dX5_readStart_66 : decode cX5_readStart 66 = .ok (.if_icmp .ne 14, 3) := by decide +kernel
theorem dX5_readStart_69 : decode cX5_readStart 69 = .ok (.aload_n 3, 1) := by decide +kernel
theorem dX5_readStart_70 : decode cX5_readStart 70 = .ok (.aload_n 0, 1) := by decide +kernel
theorem dX5_readStart_71 : decode cX5_readStart 71 = .ok (.getfield 68, 3) := by decide +kernel
theorem dX5_readStart_74 : decode cX5_readStart 74 = .ok (.invokevirtual 102, 3) := by decide +kernel
theorem dX5_readStart_77 : decode cX5_readStart 77 = .ok (.goto 4, 3) := by decide +kernel
theorem dX5_readStart_80 : decode cX5_readStart 80 = .ok (.iconst (-1), 1) := by decide +kernel
theorem dX5_readStart_81 : decode cX5_readStart 81 = .ok (.istore 5, 2) := by decide +kernel
theorem dX5_readStart_83 : decode cX5_readStart 83 = .ok (.iload 5, 2) := by decide +kernel
theorem dX5_readStart_85 : decode cX5_readStart 85 = .ok (.iconst (-1), 1) := by decide +kernel
theorem dX5_readStart_86 : decode cX5_readStart 86 = .ok (.if_icmp .ne 11, 3) := by decide +kernel
theorem dX5_readStart_89 : decode cX5_readStart 89 = .ok (.aload_n 0, 1) := by decide +kernel
theorem dX5_readStart_90 : decode cX5_readStart 90 = .ok (.iconst 1, 1) := by decide +kernel
theorem dX5_readStart_91 : decode cX5_readStart 91 = .ok (.invokevirtual 61, 3) := by decide +kernel
theorem dX5_readStart_94 : decode cX5_readStart 94 = .ok (.goto 26, 3) := by decide +kernel
theorem dX5_readStart_97 : decode cX5_readStart 97 = .ok (.iload 5, 2) := by decide +kernel
theorem dX5_readStart_99 : decode cX5_readStart 99 = .ok (.aload_n 3, 1) := by decide +kernel
theorem dX5_readStart_100 : decode cX5_readStart 100 = .ok (.getfield 110, 3) := by decide +kernel
theorem dX5_readStart_103 : decode cX5_readStart 103 = .ok (.if_icmp .eq 12, 3) := by decide +kernel
theorem dX5_readStart_106 : decode cX5_readStart 106 = .ok (.aload_n 3, 1) := by decide +kernel
theorem dX5_readStart_107 : decode cX5_readStart 107 = .ok (.iload 5, 2) := by decide +kernel
theorem dX5_readStart_109 : decode cX5_readStart 109 = .ok (.invokevirtual 113, 3) := by decide +kernel
theorem dX5_readStart_112 : decode cX5_readStart 112 = .ok (.ifCond .eq 8, 3) := by decide +kernel
theorem dX5_readStart_115 : decode cX5_readStart 115 = .ok (.aload_n 0, 1) := by decide +kernel
theorem dX5_readStart_116 : decode cX5_readStart 116 = .ok (.iconst 3, 1) := by decide +kernel
theorem dX5_readStart_117 : decode cX5_readStart 117 = .ok (.invokevirtual 61, 3) := by decide +kernel
theorem dX5_readStart_120 : decode cX5_readStart 120 = .ok (.aload_n 3, 1) := by decide +kernel
theorem dX5_readStart_121 : decode cX5_readStart 121 = .ok (.iload 5, 2) := by decide +kernel
theorem dX5_readStart_123 : decode cX5_readStart 123 = .ok (.invokevirtual 125, 3) := by decide +kernel
theorem dX5_readStart_126 : decode cX5_readStart 126 = .ok (.iinc 4 1, 3) := by decide +kernel
theorem dX5_readStart_129 : decode cX5_readStart 129 = .ok (.goto (-86), 3) := by decide +kernel
theorem dX5_readStart_132 : decode cX5_readStart 132 = .ok (.return_, 1) := by decide +kernel
def fX5_readStart_120 (k43 : Nat → Nat → Int32 → hp_T → Option hp_T) (a0 : Nat) (a3 : Nat) (a4 : Int32) (a5 : Int32) (h : hp_T) : Option hp_T := fx_b1 (fX7_place a3 a5 h) fun (h123 : hp_T) => fx_let (a4 + (1 : Int32)) fun (x126 : Int32) => k43 a0 a3 x126 h123
set_option maxRecDepth 100000 in
set_option maxHeartbeats 4000000 in
theorem bX5_readStart_120 {l : Launch} {G : xr_G} {K : xr_K} {h1 : hp_T} (C : xr_C G K cX5_readStart RX5 6 (xr_R 3 100) none (some (xr_Qv G h1))) (k43 : Nat → Nat → Int32 → hp_T → Option hp_T) (j43 : ∀ (a0 : Nat) (a3 : Nat) (a4 : Int32) (ta0 : hp_sh a0 = (5, 0)) (ta3 : hp_sh a3 = (7, 0)) (h : hp_T), k43 a0 a3 a4 h = some h1 → xr_j l G K 6 h [(0, .ref (G.2.2.1 a0)), (3, .ref (G.2.2.1 a3)), (4, .int a4)] 43 []) (a0 : Nat) (a3 : Nat) (a4 : Int32) (a5 : Int32) (ta0 : hp_sh a0 = (5, 0)) (ta3 : hp_sh a3 = (7, 0)) (h : hp_T) (hF : fX5_readStart_120 k43 a0 a3 a4 a5 h = some h1) : xr_j l G K 6 h [(0, .ref (G.2.2.1 a0)), (3, .ref (G.2.2.1 a3)), (4, .int a4), (5, .int a5)] 120 [] := by
  unfold fX5_readStart_120 at hF
  refine xr_aload_n C 1 dX5_readStart_120 rfl rfl ?_
  refine xr_iload C 3 dX5_readStart_121 rfl ?_
  obtain ⟨h123, e123, hF⟩ := fx_b1E hF
  refine xr_callVv C mvX5_125 [.int a5] [] (mX7_place l G a3 a5 ta3 h h123 e123) ta3 (by decide) vc7 rfl ⟨rfl, rfl, (Nat.le_of_ble_eq_true rfl), (Nat.le_of_ble_eq_true rfl)⟩ rfl (Nat.le_of_ble_eq_true rfl) dX5_readStart_123 ?_
  obtain ⟨x126, e126⟩ : ∃ y : Int32, y = (a4 + (1 : Int32)) := ⟨_, rfl⟩
  have hF := fx_letE hF x126 e126
  refine xr_iinc C x126 2 [(4, .int x126), (0, .ref (G.2.2.1 a0)), (3, .ref (G.2.2.1 a3)), (5, .int a5)] dX5_readStart_126 rfl (by rw [e126]; rfl) (Nat.le_of_ble_eq_true rfl) rfl ?_
  refine xr_goto C 43 dX5_readStart_129 (by decide) ?_
  refine xr_sub [1, 2, 0] [(0, .ref (G.2.2.1 a0)), (3, .ref (G.2.2.1 a3)), (4, .int x126)] rfl ?_
  exact j43 a0 a3 x126 ta0 ta3 h123 hF
def fX5_readStart_115 (k43 : Nat → Nat → Int32 → hp_T → Option hp_T) (a0 : Nat) (a3 : Nat) (a4 : Int32) (a5 : Int32) (h : hp_T) : Option hp_T := fx_b1 (fX5_fail a0 (3 : Int32) h) fun (h117 : hp_T) => fX5_readStart_120 k43 a0 a3 a4 a5 h117
set_option maxRecDepth 100000 in
set_option maxHeartbeats 4000000 in
theorem bX5_readStart_115 {l : Launch} {G : xr_G} {K : xr_K} {h1 : hp_T} (C : xr_C G K cX5_readStart RX5 6 (xr_R 3 100) none (some (xr_Qv G h1))) (k43 : Nat → Nat → Int32 → hp_T → Option hp_T) (j43 : ∀ (a0 : Nat) (a3 : Nat) (a4 : Int32) (ta0 : hp_sh a0 = (5, 0)) (ta3 : hp_sh a3 = (7, 0)) (h : hp_T), k43 a0 a3 a4 h = some h1 → xr_j l G K 6 h [(0, .ref (G.2.2.1 a0)), (3, .ref (G.2.2.1 a3)), (4, .int a4)] 43 []) (a0 : Nat) (a3 : Nat) (a4 : Int32) (a5 : Int32) (ta0 : hp_sh a0 = (5, 0)) (ta3 : hp_sh a3 = (7, 0)) (h : hp_T) (hF : fX5_readStart_115 k43 a0 a3 a4 a5 h = some h1) : xr_j l G K 6 h [(0, .ref (G.2.2.1 a0)), (3, .ref (G.2.2.1 a3)), (4, .int a4), (5, .int a5)] 115 [] := by
  unfold fX5_readStart_115 at hF
  refine xr_aload_n C 0 dX5_readStart_115 rfl rfl ?_
  refine xr_iconst (v := 3) C dX5_readStart_116 (by decide) ?_
  obtain ⟨h117, e117, hF⟩ := fx_b1E hF
  refine xr_callVv C mvX5_61 [.int (3 : Int32)] [] (mX5_fail l G a0 (3 : Int32) ta0 h h117 e117) ta0 (by decide) vc5 rfl ⟨rfl, rfl, (Nat.le_of_ble_eq_true rfl), (Nat.le_of_ble_eq_true rfl)⟩ rfl (Nat.le_of_ble_eq_true rfl) dX5_readStart_117 ?_
  exact bX5_readStart_120 C k43 j43  a0 a3 a4 a5 ta0 ta3 h117 hF
def fX5_readStart_81 (k43 : Nat → Nat → Int32 → hp_T → Option hp_T) (a0 : Nat) (a3 : Nat) (a4 : Int32) (s0 : Int32) (h : hp_T) : Option hp_T := if s0 = (-1 : Int32) then (fx_b1 (fX5_fail a0 (1 : Int32) h) fun (h91 : hp_T) => fX5_readStart_120 k43 a0 a3 a4 s0 h91) else (if s0 = (h.1 a3 7) then (fX5_readStart_115 k43 a0 a3 a4 s0 h) else (fx_b2 (fX7_isStarter a3 s0 h) fun (r109 : Int32) (h109 : hp_T) => if r109 = 0 then (fX5_readStart_120 k43 a0 a3 a4 s0 h109) else (fX5_readStart_115 k43 a0 a3 a4 s0 h109)))
set_option maxRecDepth 100000 in
set_option maxHeartbeats 4000000 in
theorem bX5_readStart_81 {l : Launch} {G : xr_G} {K : xr_K} {h1 : hp_T} (C : xr_C G K cX5_readStart RX5 6 (xr_R 3 100) none (some (xr_Qv G h1))) (k43 : Nat → Nat → Int32 → hp_T → Option hp_T) (j43 : ∀ (a0 : Nat) (a3 : Nat) (a4 : Int32) (ta0 : hp_sh a0 = (5, 0)) (ta3 : hp_sh a3 = (7, 0)) (h : hp_T), k43 a0 a3 a4 h = some h1 → xr_j l G K 6 h [(0, .ref (G.2.2.1 a0)), (3, .ref (G.2.2.1 a3)), (4, .int a4)] 43 []) (a0 : Nat) (a3 : Nat) (a4 : Int32) (s0 : Int32) (ta0 : hp_sh a0 = (5, 0)) (ta3 : hp_sh a3 = (7, 0)) (h : hp_T) (hF : fX5_readStart_81 k43 a0 a3 a4 s0 h = some h1) : xr_j l G K 6 h [(0, .ref (G.2.2.1 a0)), (3, .ref (G.2.2.1 a3)), (4, .int a4)] 81 [.int s0] := by
  unfold fX5_readStart_81 at hF
  refine xr_istore C [(5, .int s0), (0, .ref (G.2.2.1 a0)), (3, .ref (G.2.2.1 a3)), (4, .int a4)] dX5_readStart_81 (Nat.le_of_ble_eq_true rfl) rfl ?_
  refine xr_iload C 0 dX5_readStart_83 rfl ?_
  refine xr_iconst (v := -1) C dX5_readStart_85 (by decide) ?_
  refine xr_icmp_ne C 97 dX5_readStart_86 (by decide) (fun c86 => ?_) (fun c86 => ?_)
  · have hF := fx_neg hF c86
    refine xr_iload C 0 dX5_readStart_97 rfl ?_
    refine xr_aload_n C 2 dX5_readStart_99 rfl rfl ?_
    refine xr_geti C flX5_110 rfl dX5_readStart_100 ta3 ?_
    refine xr_icmp_eq C 115 dX5_readStart_103 (by decide) (fun c103 => ?_) (fun c103 => ?_)
    · have hF := fx_pos hF c103
      refine xr_sub [1, 2, 3, 0] [(0, .ref (G.2.2.1 a0)), (3, .ref (G.2.2.1 a3)), (4, .int a4), (5, .int s0)] rfl ?_
      exact bX5_readStart_115 C k43 j43  a0 a3 a4 s0 ta0 ta3 h hF
    · have hF := fx_neg hF c103
      refine xr_aload_n C 2 dX5_readStart_106 rfl rfl ?_
      refine xr_iload C 0 dX5_readStart_107 rfl ?_
      obtain ⟨r109, h109, e109, hF⟩ := fx_b2E hF
      refine xr_callVi C mvX5_113 [.int s0] [] (mX7_isStarter l G a3 s0 ta3 h h109 r109 e109) ta3 (by decide) vc7 rfl ⟨rfl, rfl, (Nat.le_of_ble_eq_true rfl), (Nat.le_of_ble_eq_true rfl)⟩ rfl (Nat.le_of_ble_eq_true rfl) dX5_readStart_109 ?_
      refine xr_if_eq C 120 dX5_readStart_112 (by decide) (fun c112 => ?_) (fun c112 => ?_)
      · have hF := fx_pos hF c112
        refine xr_sub [1, 2, 3, 0] [(0, .ref (G.2.2.1 a0)), (3, .ref (G.2.2.1 a3)), (4, .int a4), (5, .int s0)] rfl ?_
        exact bX5_readStart_120 C k43 j43  a0 a3 a4 s0 ta0 ta3 h109 hF
      · have hF := fx_neg hF c112
        refine xr_sub [1, 2, 3, 0] [(0, .ref (G.2.2.1 a0)), (3, .ref (G.2.2.1 a3)), (4, .int a4), (5, .int s0)] rfl ?_
        exact bX5_readStart_115 C k43 j43  a0 a3 a4 s0 ta0 ta3 h109 hF
  · have hF := fx_pos hF c86
    refine xr_aload_n C 1 dX5_readStart_89 rfl rfl ?_
    refine xr_iconst (v := 1) C dX5_readStart_90 (by decide) ?_
    obtain ⟨h91, e91, hF⟩ := fx_b1E hF
    refine xr_callVv C mvX5_61 [.int (1 : Int32)] [] (mX5_fail l G a0 (1 : Int32) ta0 h h91 e91) ta0 (by decide) vc5 rfl ⟨rfl, rfl, (Nat.le_of_ble_eq_true rfl), (Nat.le_of_ble_eq_true rfl)⟩ rfl (Nat.le_of_ble_eq_true rfl) dX5_readStart_91 ?_
    refine xr_goto C 120 dX5_readStart_94 (by decide) ?_
    refine xr_sub [1, 2, 3, 0] [(0, .ref (G.2.2.1 a0)), (3, .ref (G.2.2.1 a3)), (4, .int a4), (5, .int s0)] rfl ?_
    exact bX5_readStart_120 C k43 j43  a0 a3 a4 s0 ta0 ta3 h91 hF
def fX5_readStart_43  : Nat → Nat → Nat → Int32 → hp_T → Option hp_T
  | 0, _, _, _, _ => none
  | n + 1, a0, a3, a4, h => if (6 : Int32) < a4 then (some h) else (if (h.1 a0 2) = 0 then (fx_b1 (fX5_advance a0 h) fun (h58 : hp_T) => if (h58.1 a0 7) = (1 : Int32) then (fx_b2 (fX7_find a3 (h58.1 a0 8) h58) fun (r74 : Int32) (h74 : hp_T) => fX5_readStart_81 (fX5_readStart_43 n) a0 a3 a4 r74 h74) else (fX5_readStart_81 (fX5_readStart_43 n) a0 a3 a4 (-1 : Int32) h58)) else (some h))
set_option maxRecDepth 100000 in
set_option maxHeartbeats 4000000 in
theorem bX5_readStart_43 {l : Launch} {G : xr_G} {K : xr_K} {h1 : hp_T} (C : xr_C G K cX5_readStart RX5 6 (xr_R 3 100) none (some (xr_Qv G h1)))  : ∀ (n : Nat) (a0 : Nat) (a3 : Nat) (a4 : Int32) (ta0 : hp_sh a0 = (5, 0)) (ta3 : hp_sh a3 = (7, 0)) (h : hp_T), fX5_readStart_43 n a0 a3 a4 h = some h1 → xr_j l G K 6 h [(0, .ref (G.2.2.1 a0)), (3, .ref (G.2.2.1 a3)), (4, .int a4)] 43 [] := by
  intro n
  induction n with
  | zero =>
    intro a0 a3 a4 ta0 ta3 h hF
    cases hF
  | succ n ih =>
    intro a0 a3 a4 ta0 ta3 h hF
    rw [fX5_readStart_43] at hF
    refine xr_iload C 2 dX5_readStart_43 rfl ?_
    refine xr_bipush (v := 6) C dX5_readStart_45 (by decide) ?_
    refine xr_icmp_gt C 132 dX5_readStart_47 (by decide) (fun c47 => ?_) (fun c47 => ?_)
    · have hF := fx_pos hF c47
      cases hF
      exact xr_vret C dX5_readStart_132
    · have hF := fx_neg hF c47
      refine xr_aload_n C 0 dX5_readStart_50 rfl rfl ?_
      refine xr_geti C flX5_28 rfl dX5_readStart_51 ta0 ?_
      refine xr_if_ne C 132 dX5_readStart_54 (by decide) (fun c54 => ?_) (fun c54 => ?_)
      · have hF := fx_neg hF c54
        cases hF
        exact xr_vret C dX5_readStart_132
      · have hF := fx_pos hF c54
        refine xr_aload_n C 0 dX5_readStart_57 rfl rfl ?_
        obtain ⟨h58, e58, hF⟩ := fx_b1E hF
        refine xr_callVv C mvX5_36 [] [] (mX5_advance l G a0 ta0 h h58 e58) ta0 (by decide) vc5 rfl ⟨rfl, rfl, (Nat.le_of_ble_eq_true rfl), (Nat.le_of_ble_eq_true rfl)⟩ rfl (Nat.le_of_ble_eq_true rfl) dX5_readStart_58 ?_
        refine xr_aload_n C 0 dX5_readStart_61 rfl rfl ?_
        refine xr_geti C flX5_39 rfl dX5_readStart_62 ta0 ?_
        refine xr_iconst (v := 1) C dX5_readStart_65 (by decide) ?_
        refine xr_icmp_ne C 80 dX5_readStart_66 (by decide) (fun c66 => ?_) (fun c66 => ?_)
        · have hF := fx_neg hF c66
          refine xr_iconst (v := -1) C dX5_readStart_80 (by decide) ?_
          exact bX5_readStart_81 C (fX5_readStart_43 n) (fun a0 a3 a4 ta0 ta3 h hF => ih a0 a3 a4 ta0 ta3 h hF)  a0 a3 a4 (-1 : Int32) ta0 ta3 h58 hF
        · have hF := fx_pos hF c66
          refine xr_aload_n C 1 dX5_readStart_69 rfl rfl ?_
          refine xr_aload_n C 0 dX5_readStart_70 rfl rfl ?_
          refine xr_geti C flX5_68 rfl dX5_readStart_71 ta0 ?_
          obtain ⟨r74, h74, e74, hF⟩ := fx_b2E hF
          refine xr_callVi C mvX5_102 [.int (h58.1 a0 8)] [] (mX7_find l G a3 (h58.1 a0 8) ta3 h58 h74 r74 e74) ta3 (by decide) vc7 rfl ⟨rfl, rfl, (Nat.le_of_ble_eq_true rfl), (Nat.le_of_ble_eq_true rfl)⟩ rfl (Nat.le_of_ble_eq_true rfl) dX5_readStart_74 ?_
          refine xr_goto C 81 dX5_readStart_77 (by decide) ?_
          exact bX5_readStart_81 C (fX5_readStart_43 n) (fun a0 a3 a4 ta0 ta3 h hF => ih a0 a3 a4 ta0 ta3 h hF)  a0 a3 a4 r74 ta0 ta3 h74 hF
def fX5_readStart_40  (a0 : Nat) (a3 : Nat) (h : hp_T) : Option hp_T := fX5_readStart_43 fx_N a0 a3 (1 : Int32) h
set_option maxRecDepth 100000 in
set_option maxHeartbeats 4000000 in
theorem bX5_readStart_40 {l : Launch} {G : xr_G} {K : xr_K} {h1 : hp_T} (C : xr_C G K cX5_readStart RX5 6 (xr_R 3 100) none (some (xr_Qv G h1)))  (a0 : Nat) (a3 : Nat) (ta0 : hp_sh a0 = (5, 0)) (ta3 : hp_sh a3 = (7, 0)) (h : hp_T) (hF : fX5_readStart_40 a0 a3 h = some h1) : xr_j l G K 6 h [(0, .ref (G.2.2.1 a0)), (3, .ref (G.2.2.1 a3))] 40 [] := by
  unfold fX5_readStart_40 at hF
  refine xr_iconst (v := 1) C dX5_readStart_40 (by decide) ?_
  refine xr_istore C [(4, .int (1 : Int32)), (0, .ref (G.2.2.1 a0)), (3, .ref (G.2.2.1 a3))] dX5_readStart_41 (Nat.le_of_ble_eq_true rfl) rfl ?_
  refine xr_sub [1, 2, 0] [(0, .ref (G.2.2.1 a0)), (3, .ref (G.2.2.1 a3)), (4, .int (1 : Int32))] rfl ?_
  exact bX5_readStart_43 C  fx_N a0 a3 (1 : Int32) ta0 ta3 h hF
def fX5_readStart (a0 : Nat) (a1 : Nat) (h : hp_T) : Option hp_T := fx_b1 (fX5_advance a0 h) fun (h1 : hp_T) => fx_b2 (fX5_sideHere a0 h1) fun (r5 : Int32) (h5 : hp_T) => fx_b2 (fX8_squad a1 r5 h5) fun (r11 : Nat) (h11 : hp_T) => if r5 = (-1 : Int32) then (fx_b1 (fX5_fail a0 (1 : Int32) h11) fun (h22 : hp_T) => fX5_readStart_40 a0 r11 h22) else (if (h11.1 r11 6) ≤ 0 then (fX5_readStart_40 a0 r11 h11) else (fx_b1 (fX5_fail a0 (3 : Int32) h11) fun (h37 : hp_T) => fX5_readStart_40 a0 r11 h37))
set_option maxRecDepth 100000 in
set_option maxHeartbeats 4000000 in
theorem mX5_readStart (l : Launch) (G : xr_G) (a0 : Nat) (a1 : Nat) (ta0 : hp_sh a0 = (5, 0)) (ta1 : hp_sh a1 = (8, 0)) (h h1 : hp_T) (hF : fX5_readStart a0 a1 h = some h1) : xr_M l G yX5_readStart cX5_readStart 6 (xr_R 3 100) none [.ref (G.2.2.1 a0), .ref (G.2.2.1 a1)] h (xr_Qv G h1) := by
  refine xr_start rfl (Nat.le_of_ble_eq_true rfl) (fun K C => ?_)
  show xr_j l G K 6 h [(0, .ref (G.2.2.1 a0)), (1, .ref (G.2.2.1 a1))] 0 []
  unfold fX5_readStart at hF
  refine xr_aload_n C 0 dX5_readStart_0 rfl rfl ?_
  obtain ⟨h1, e1, hF⟩ := fx_b1E hF
  refine xr_callVv C mvX5_36 [] [] (mX5_advance l G a0 ta0 h h1 e1) ta0 (by decide) vc5 rfl ⟨rfl, rfl, (Nat.le_of_ble_eq_true rfl), (Nat.le_of_ble_eq_true rfl)⟩ rfl (Nat.le_of_ble_eq_true rfl) dX5_readStart_1 ?_
  refine xr_aload_n C 0 dX5_readStart_4 rfl rfl ?_
  obtain ⟨r5, h5, e5, hF⟩ := fx_b2E hF
  refine xr_callVi C mvX5_117 [] [] (mX5_sideHere l G a0 ta0 h1 h5 r5 e5) ta0 (by decide) vc5 rfl ⟨rfl, rfl, (Nat.le_of_ble_eq_true rfl), (Nat.le_of_ble_eq_true rfl)⟩ rfl (Nat.le_of_ble_eq_true rfl) dX5_readStart_5 ?_
  refine xr_istore_n C [(2, .int r5), (0, .ref (G.2.2.1 a0)), (1, .ref (G.2.2.1 a1))] dX5_readStart_8 rfl (Nat.le_of_ble_eq_true rfl) rfl ?_
  refine xr_aload_n C 2 dX5_readStart_9 rfl rfl ?_
  refine xr_iload_n C 0 dX5_readStart_10 rfl rfl ?_
  obtain ⟨r11, h11, e11, hF⟩ := fx_b2E hF
  refine xr_callVr C mvX5_121 [.int r5] [] (mX8_squad l G a1 r5 ta1 h5 h11 r11 e11) ta1 (by decide) vc8 rfl ⟨rfl, rfl, (Nat.le_of_ble_eq_true rfl), (Nat.le_of_ble_eq_true rfl)⟩ rfl (Nat.le_of_ble_eq_true rfl) dX5_readStart_11 (fun t11 => ?_)
  refine xr_astore_n C [(3, .ref (G.2.2.1 r11)), (2, .int r5), (0, .ref (G.2.2.1 a0)), (1, .ref (G.2.2.1 a1))] dX5_readStart_14 rfl (Nat.le_of_ble_eq_true rfl) rfl ?_
  refine xr_iload_n C 1 dX5_readStart_15 rfl rfl ?_
  refine xr_iconst (v := -1) C dX5_readStart_16 (by decide) ?_
  refine xr_icmp_ne C 28 dX5_readStart_17 (by decide) (fun c17 => ?_) (fun c17 => ?_)
  · have hF := fx_neg hF c17
    refine xr_aload_n C 0 dX5_readStart_28 rfl rfl ?_
    refine xr_geti C flX5_53 rfl dX5_readStart_29 t11 ?_
    refine xr_if_le C 40 dX5_readStart_32 (by decide) (fun c32 => ?_) (fun c32 => ?_)
    · have hF := fx_pos hF c32
      refine xr_sub [2, 0] [(0, .ref (G.2.2.1 a0)), (3, .ref (G.2.2.1 r11))] rfl ?_
      exact bX5_readStart_40 C   a0 r11 ta0 t11 h11 hF
    · have hF := fx_neg hF c32
      refine xr_aload_n C 2 dX5_readStart_35 rfl rfl ?_
      refine xr_iconst (v := 3) C dX5_readStart_36 (by decide) ?_
      obtain ⟨h37, e37, hF⟩ := fx_b1E hF
      refine xr_callVv C mvX5_61 [.int (3 : Int32)] [] (mX5_fail l G a0 (3 : Int32) ta0 h11 h37 e37) ta0 (by decide) vc5 rfl ⟨rfl, rfl, (Nat.le_of_ble_eq_true rfl), (Nat.le_of_ble_eq_true rfl)⟩ rfl (Nat.le_of_ble_eq_true rfl) dX5_readStart_37 ?_
      refine xr_sub [2, 0] [(0, .ref (G.2.2.1 a0)), (3, .ref (G.2.2.1 r11))] rfl ?_
      exact bX5_readStart_40 C   a0 r11 ta0 t11 h37 hF
  · have hF := fx_pos hF c17
    refine xr_aload_n C 2 dX5_readStart_20 rfl rfl ?_
    refine xr_iconst (v := 1) C dX5_readStart_21 (by decide) ?_
    obtain ⟨h22, e22, hF⟩ := fx_b1E hF
    refine xr_callVv C mvX5_61 [.int (1 : Int32)] [] (mX5_fail l G a0 (1 : Int32) ta0 h11 h22 e22) ta0 (by decide) vc5 rfl ⟨rfl, rfl, (Nat.le_of_ble_eq_true rfl), (Nat.le_of_ble_eq_true rfl)⟩ rfl (Nat.le_of_ble_eq_true rfl) dX5_readStart_22 ?_
    refine xr_goto C 40 dX5_readStart_25 (by decide) ?_
    refine xr_sub [2, 0] [(0, .ref (G.2.2.1 a0)), (3, .ref (G.2.2.1 r11))] rfl ?_
    exact bX5_readStart_40 C   a0 r11 ta0 t11 h22 hF
theorem dX5_readFirst_0 : decode cX5_readFirst 0 = .ok (.aload_n 1, 1) := by decide +kernel
theorem dX5_readFirst_1 : decode cX5_readFirst 1 = .ok (.getfield 128, 3) := by decide +kernel
theorem dX5_readFirst_4 : decode cX5_readFirst 4 = .ok (.iconst (-1), 1) := by decide +kernel
theorem dX5_readFirst_5 : decode cX5_readFirst 5 = .ok (.if_icmp .eq 8, 3) := by decide +kernel
theorem dX5_readFirst_8 : decode cX5_readFirst 8 = .ok (.aload_n 0, 1) := by decide +kernel
theorem dX5_readFirst_9 : decode cX5_readFirst 9 = .ok (.iconst 3, 1) := by decide +kernel
theorem dX5_readFirst_10 : decode cX5_readFirst 10 = .ok (.invokevirtual 61, 3) := by decide +kernel
theorem dX5_readFirst_13 : decode cX5_readFirst 13 = .ok (.aload_n 0, 1) := by decide +kernel
theorem dX5_readFirst_14 : decode cX5_readFirst 14 = .ok (.invokevirtual 36, 3) := by decide +kernel
theorem dX5_readFirst_17 : decode cX5_readFirst 17 = .ok (.aload_n 1, 1) := by decide +kernel
theorem dX5_readFirst_18 : decode cX5_readFirst 18 = .ok (.aload_n 0, 1) := by decide +kernel
theorem dX5_readFirst_19 : decode cX5_readFirst 19 = .ok (.invokevirtual 117, 3) := by decide +kernel
theorem dX5_readFirst_22 : decode cX5_readFirst 22 = .ok (.putfield 128, 3) := by decide +kernel
theorem dX5_readFirst_25 : decode cX5_readFirst 25 = .ok (.aload_n 1, 1) := by decide +kernel
theorem dX5_readFirst_26 : decode cX5_readFirst 26 = .ok (.getfield 128, 3) := by decide +kernel
theorem dX5_readFirst_29 : decode cX5_readFirst 29 = .ok (.iconst (-1), 1) := by decide +kernel
theorem dX5_readFirst_30 : decode cX5_readFirst 30 = .ok (.if_icmp .ne 8, 3) := by decide +kernel
theorem dX5_readFirst_33 : decode cX5_readFirst 33 = .ok (.aload_n 0, 1) := by decide +kernel
theorem dX5_readFirst_34 : decode cX5_readFirst 34 = .ok (.iconst 1, 1) := by decide +kernel
theorem dX5_readFirst_35 : decode cX5_readFirst 35 = .ok (.invokevirtual 61, 3) := by decide +kernel
theorem dX5_readFirst_38 : decode cX5_readFirst 38 = .ok (.return_, 1) := by decide +kernel
def fX5_readFirst_13  (a0 : Nat) (a1 : Nat) (h : hp_T) : Option hp_T := fx_b1 (fX5_advance a0 h) fun (h14 : hp_T) => fx_b2 (fX5_sideHere a0 h14) fun (r19 : Int32) (h19 : hp_T) => fx_let (hp_sI h19 a1 5 r19) fun (h22 : hp_T) => if (h22.1 a1 5) = (-1 : Int32) then (fx_b1 (fX5_fail a0 (1 : Int32) h22) fun (h35 : hp_T) => some h35) else (some h22)
set_option maxRecDepth 100000 in
set_option maxHeartbeats 4000000 in
theorem bX5_readFirst_13 {l : Launch} {G : xr_G} {K : xr_K} {h1 : hp_T} (C : xr_C G K cX5_readFirst RX5 2 (xr_R 3 100) none (some (xr_Qv G h1)))  (a0 : Nat) (a1 : Nat) (ta0 : hp_sh a0 = (5, 0)) (ta1 : hp_sh a1 = (8, 0)) (h : hp_T) (hF : fX5_readFirst_13 a0 a1 h = some h1) : xr_j l G K 2 h [(0, .ref (G.2.2.1 a0)), (1, .ref (G.2.2.1 a1))] 13 [] := by
  unfold fX5_readFirst_13 at hF
  refine xr_aload_n C 0 dX5_readFirst_13 rfl rfl ?_
  obtain ⟨h14, e14, hF⟩ := fx_b1E hF
  refine xr_callVv C mvX5_36 [] [] (mX5_advance l G a0 ta0 h h14 e14) ta0 (by decide) vc5 rfl ⟨rfl, rfl, (Nat.le_of_ble_eq_true rfl), (Nat.le_of_ble_eq_true rfl)⟩ rfl (Nat.le_of_ble_eq_true rfl) dX5_readFirst_14 ?_
  refine xr_aload_n C 1 dX5_readFirst_17 rfl rfl ?_
  refine xr_aload_n C 0 dX5_readFirst_18 rfl rfl ?_
  obtain ⟨r19, h19, e19, hF⟩ := fx_b2E hF
  refine xr_callVi C mvX5_117 [] [.ref (G.2.2.1 a1)] (mX5_sideHere l G a0 ta0 h14 h19 r19 e19) ta0 (by decide) vc5 rfl ⟨rfl, rfl, (Nat.le_of_ble_eq_true rfl), (Nat.le_of_ble_eq_true rfl)⟩ rfl (Nat.le_of_ble_eq_true rfl) dX5_readFirst_19 ?_
  refine xr_puti C fpX5_128 rfl rfl rfl dX5_readFirst_22 ta1 (fun h22 e22 => ?_)
  have hF := fx_letE hF h22 e22
  refine xr_aload_n C 1 dX5_readFirst_25 rfl rfl ?_
  refine xr_geti C flX5_128 rfl dX5_readFirst_26 ta1 ?_
  refine xr_iconst (v := -1) C dX5_readFirst_29 (by decide) ?_
  refine xr_icmp_ne C 38 dX5_readFirst_30 (by decide) (fun c30 => ?_) (fun c30 => ?_)
  · have hF := fx_neg hF c30
    cases hF
    exact xr_vret C dX5_readFirst_38
  · have hF := fx_pos hF c30
    refine xr_aload_n C 0 dX5_readFirst_33 rfl rfl ?_
    refine xr_iconst (v := 1) C dX5_readFirst_34 (by decide) ?_
    obtain ⟨h35, e35, hF⟩ := fx_b1E hF
    refine xr_callVv C mvX5_61 [.int (1 : Int32)] [] (mX5_fail l G a0 (1 : Int32) ta0 h22 h35 e35) ta0 (by decide) vc5 rfl ⟨rfl, rfl, (Nat.le_of_ble_eq_true rfl), (Nat.le_of_ble_eq_true rfl)⟩ rfl (Nat.le_of_ble_eq_true rfl) dX5_readFirst_35 ?_
    cases hF
    exact xr_vret C dX5_readFirst_38
def fX5_readFirst (a0 : Nat) (a1 : Nat) (h : hp_T) : Option hp_T := if (h.1 a1 5) = (-1 : Int32) then (fX5_readFirst_13 a0 a1 h) else (fx_b1 (fX5_fail a0 (3 : Int32) h) fun (h10 : hp_T) => fX5_readFirst_13 a0 a1 h10)
set_option maxRecDepth 100000 in
set_option maxHeartbeats 4000000 in
theorem mX5_readFirst (l : Launch) (G : xr_G) (a0 : Nat) (a1 : Nat) (ta0 : hp_sh a0 = (5, 0)) (ta1 : hp_sh a1 = (8, 0)) (h h1 : hp_T) (hF : fX5_readFirst a0 a1 h = some h1) : xr_M l G yX5_readFirst cX5_readFirst 2 (xr_R 3 100) none [.ref (G.2.2.1 a0), .ref (G.2.2.1 a1)] h (xr_Qv G h1) := by
  refine xr_start rfl (Nat.le_of_ble_eq_true rfl) (fun K C => ?_)
  show xr_j l G K 2 h [(0, .ref (G.2.2.1 a0)), (1, .ref (G.2.2.1 a1))] 0 []
  unfold fX5_readFirst at hF
  refine xr_aload_n C 1 dX5_readFirst_0 rfl rfl ?_
  refine xr_geti C flX5_128 rfl dX5_readFirst_1 ta1 ?_
  refine xr_iconst (v := -1) C dX5_readFirst_4 (by decide) ?_
  refine xr_icmp_eq C 13 dX5_readFirst_5 (by decide) (fun c5 => ?_) (fun c5 => ?_)
  · have hF := fx_pos hF c5
    exact bX5_readFirst_13 C   a0 a1 ta0 ta1 h hF
  · have hF := fx_neg hF c5
    refine xr_aload_n C 0 dX5_readFirst_8 rfl rfl ?_
    refine xr_iconst (v := 3) C dX5_readFirst_9 (by decide) ?_
    obtain ⟨h10, e10, hF⟩ := fx_b1E hF
    refine xr_callVv C mvX5_61 [.int (3 : Int32)] [] (mX5_fail l G a0 (3 : Int32) ta0 h h10 e10) ta0 (by decide) vc5 rfl ⟨rfl, rfl, (Nat.le_of_ble_eq_true rfl), (Nat.le_of_ble_eq_true rfl)⟩ rfl (Nat.le_of_ble_eq_true rfl) dX5_readFirst_10 ?_
    exact bX5_readFirst_13 C   a0 a1 ta0 ta1 h10 hF
theorem dX5_readLine_0 : decode cX5_readLine 0 = .ok (.aload_n 0, 1) := by decide +kernel
theorem dX5_readLine_1 : decode cX5_readLine 1 = .ok (.getfield 39, 3) := by decide +kernel
theorem dX5_readLine_4 : decode cX5_readLine 4 = .ok (.iconst 2, 1) := by decide +kernel
theorem dX5_readLine_5 : decode cX5_readLine 5 = .ok (.if_icmp .ne 10, 3) := by decide +kernel
theorem dX5_readLine_8 : decode cX5_readLine 8 = .ok (.aload_n 0, 1) := by decide +kernel
theorem dX5_readLine_9 : decode cX5_readLine 9 = .ok (.getfield 68, 3) := by decide +kernel
theorem dX5_readLine_12 : decode cX5_readLine 12 = .ok (.goto 4, 3) := by decide +kernel
theorem dX5_readLine_15 : decode cX5_readLine 15 = .ok (.iconst 0, 1) := by decide +kernel
theorem dX5_readLine_16 : decode cX5_readLine 16 = .ok (.lookupswitch 179 #[(168165, 112), (215205, 155), (513619, 131), (644179, 94), (6605428, 171), (20579924, 163), (552909459, 76), (679650899, 143)], 76) := by decide +kernel
theorem dX5_readLine_92 : decode cX5_readLine 92 = .ok (.aload_n 1, 1) := by decide +kernel
theorem dX5_readLine_93 : decode cX5_readLine 93 = .ok (.aload_n 0, 1) := by decide +kernel
theorem dX5_readLine_94 : decode cX5_readLine 94 = .ok (.aload_n 1, 1) := by decide +kernel
theorem dX5_readLine_95 : decode cX5_readLine 95 = .ok (.getfield 71, 3) := by decide +kernel
theorem dX5_readLine_98 : decode cX5_readLine 98 = .ok (.iconst 3, 1) := by decide +kernel
theorem dX5_readLine_99 : decode cX5_readLine 99 = .ok (.bipush 25, 2) := by decide +kernel
theorem dX5_readLine_101 : decode cX5_readLine 101 = .ok (.invokevirtual 74, 3) := by decide +kernel
theorem dX5_readLine_104 : decode cX5_readLine 104 = .ok (.putfield 71, 3) := by decide +kernel
theorem dX5_readLine_107 : decode cX5_readLine 107 = .ok (.goto 93, 3) := by decide +kernel
theorem dX5_readLine_110 : decode cX5_readLine 110 = .ok (.aload_n 1, 1) := by decide +kernel
theorem dX5_readLine_111 : decode cX5_readLine 111 = .ok (.aload_n 0, 1) := by decide +kernel
theorem dX5_readLine_112 : decode cX5_readLine 112 = .ok (.aload_n 1, 1) := by decide +kernel
theorem dX5_readLine_113 : decode cX5_readLine 113 = .ok (.getfield 78, 3) := by decide +kernel
theorem dX5_readLine_116 : decode cX5_readLine 116 = .ok (.iconst 0, 1) := by decide +kernel
theorem dX5_readLine_117 : decode cX5_readLine 117 = .ok (.bipush 12, 2) := by decide +kernel
theorem dX5_readLine_119 : decode cX5_readLine 119 = .ok (.invokevirtual 74, 3) := by decide +kernel
theorem dX5_readLine_122 : decode cX5_readLine 122 = .ok (.putfield 78, 3) := by decide +kernel
theorem dX5_readLine_125 : decode cX5_readLine 125 = .ok (.goto 75, 3) := by decide +kernel
theorem dX5_readLine_128 : decode cX5_readLine 128 = .ok (.aload_n 1, 1) := by decide +kernel
theorem dX5_readLine_129 : decode cX5_readLine 129 = .ok (.aload_n 0, 1) := by decide +kernel
theorem dX5_readLine_130 : decode cX5_readLine 130 = .ok (.aload_n 1, 1) := by decide +kernel
theorem dX5_readLine_131 : decode cX5_readLine 131 = .ok (.getfield 81, 3) := by decide +kernel
theorem dX5_readLine_134 : decode cX5_readLine 134 = .ok (.iconst 0, 1) := by decide +kernel
theorem dX5_readLine_135 : decode cX5_readLine 135 = .ok (.sipush 300, 3) := by decide +kernel
theorem dX5_readLine_138 : decode cX5_readLine 138 = .ok (.invokevirtual 74, 3) := by decide +kernel
theorem dX5_readLine_141 : decode cX5_readLine 141 = .ok (.putfield 81, 3) := by decide +kernel
theorem dX5_readLine_144 : decode cX5_readLine 144 = .ok (.goto 56, 3) := by decide +kernel
theorem dX5_readLine_147 : decode cX5_readLine 147 = .ok (.aload_n 0, 1) := by decide +kernel
theorem dX5_readLine_148 : decode cX5_readLine 148 = .ok (.aload_n 1, 1) := by decide +kernel
theorem dX5_readLine_149 : decode cX5_readLine 149 = .ok (.aload_n 1, 1) := by decide +kernel
theorem dX5_readLine_150 : decode cX5_readLine 150 = .ok (.getfield 49, 3) := by decide +kernel
theorem dX5_readLine_153 : decode cX5_readLine 153 = .ok (.invokevirtual 84, 3) := by decide +kernel
theorem dX5_readLine_156 : decode cX5_readLine 156 = .ok (.goto 44, 3) := by decide +kernel
theorem dX5_readLine_159 : decode cX5_readLine 159 = .ok (.aload_n 0, 1) := by decide +kernel
theorem dX5_readLine_160 : decode cX5_readLine 160 = .ok (.aload_n 1, 1) := by decide +kernel
theorem dX5_readLine_161 : decode cX5_readLine 161 = .ok (.aload_n 1, 1) := by decide +kernel
theorem dX5_readLine_162 : decode cX5_readLine 162 = .ok (.getfield 58, 3) := by decide +kernel
theorem dX5_readLine_165 : decode cX5_readLine 165 = .ok (.invokevirtual 84, 3) := by decide +kernel
theorem dX5_readLine_168 : decode cX5_readLine 168 = .ok (.goto 32, 3) := by decide +kernel
theorem dX5_readLine_171 : decode cX5_readLine 171 = .ok (.aload_n 0, 1) := by decide +kernel
theorem dX5_readLine_172 : decode cX5_readLine 172 = .ok (.aload_n 1, 1) := by decide +kernel
theorem dX5_readLine_173 : decode cX5_readLine 173 = .ok (.invokevirtual 88, 3) := by decide +kernel
theorem dX5_readLine_176 : decode cX5_readLine 176 = .ok (.goto 24, 3) := by decide +kernel
theorem dX5_readLine_179 : decode cX5_readLine 179 = .ok (.aload_n 0, 1) := by decide +kernel
theorem dX5_readLine_180 : decode cX5_readLine 180 = .ok (.aload_n 1, 1) := by decide +kernel
theorem dX5_readLine_181 : decode cX5_readLine 181 = .ok (.invokevirtual 91, 3) := by decide +kernel
theorem dX5_readLine_184 : decode cX5_readLine 184 = .ok (.goto 16, 3) := by decide +kernel
theorem dX5_readLine_187 : decode cX5_readLine 187 = .ok (.aload_n 0, 1) := by decide +kernel
theorem dX5_readLine_188 : decode cX5_readLine 188 = .ok (.aload_n 1, 1) := by decide +kernel
theorem dX5_readLine_189 : decode cX5_readLine 189 = .ok (.invokevirtual 94, 3) := by decide +kernel
theorem dX5_readLine_192 : decode cX5_readLine 192 = .ok (.goto 8, 3) := by decide +kernel
theorem dX5_readLine_195 : decode cX5_readLine 195 = .ok (.aload_n 0, 1) := by decide +kernel
theorem dX5_readLine_196 : decode cX5_readLine 196 = .ok (.iconst 1, 1) := by decide +kernel
theorem dX5_readLine_197 : decode cX5_readLine 197 = .ok (.invokevirtual 61, 3) := by decide +kernel
theorem dX5_readLine_200 : decode cX5_readLine 200 = .ok (.aload_n 0, 1) := by decide +kernel
theorem dX5_readLine_201 : decode cX5_readLine 201 = .ok (.invokevirtual 36, 3) := by decide +kernel
theorem dX5_readLine_204 : decode cX5_readLine 204 = .ok (.aload_n 0, 1) := by decide +kernel
theorem dX5_readLine_205 : decode cX5_readLine 205 = .ok (.getfield 39, 3) := by decide +kernel
theorem dX5_readLine_208 : decode cX5_readLine 208 = .ok (.iconst 4, 1) := by decide +kernel
theorem dX5_readLine_209 : decode cX5_readLine 209 = .ok (.if_icmp .eq 8, 3) := by decide +kernel
theorem dX5_readLine_212 : decode cX5_readLine 212 = .ok (.aload_n 0, 1) := by decide +kernel
theorem dX5_readLine_213 : decode cX5_readLine 213 = .ok (.iconst 1, 1) := by decide +kernel
theorem dX5_readLine_214 : decode cX5_readLine 214 = .ok (.invokevirtual 61, 3) := by decide +kernel
theorem dX5_readLine_217 : decode cX5_readLine 217 = .ok (.aload_n 0, 1) := by decide +kernel
theorem dX5_readLine_218 : decode cX5_readLine 218 = .ok (.invokevirtual 36, 3) := by decide +kernel
theorem dX5_readLine_221 : decode cX5_readLine 221 = .ok (.return_, 1) := by decide +kernel
def fX5_readLine_200  (a0 : Nat) (h : hp_T) : Option hp_T := fx_b1 (fX5_advance a0 h) fun (h201 : hp_T) => if (h201.1 a0 7) = (4 : Int32) then (fx_b1 (fX5_advance a0 h201) fun (h218 : hp_T) => some h218) else (fx_b1 (fX5_fail a0 (1 : Int32) h201) fun (h214 : hp_T) => fx_b1 (fX5_advance a0 h214) fun (h218 : hp_T) => some h218)
set_option maxRecDepth 100000 in
set_option maxHeartbeats 4000000 in
theorem bX5_readLine_200 {l : Launch} {G : xr_G} {K : xr_K} {h1 : hp_T} (C : xr_C G K cX5_readLine RX5 2 (xr_R 4 126) none (some (xr_Qv G h1)))  (a0 : Nat) (ta0 : hp_sh a0 = (5, 0)) (h : hp_T) (hF : fX5_readLine_200 a0 h = some h1) : xr_j l G K 2 h [(0, .ref (G.2.2.1 a0))] 200 [] := by
  unfold fX5_readLine_200 at hF
  refine xr_aload_n C 0 dX5_readLine_200 rfl rfl ?_
  obtain ⟨h201, e201, hF⟩ := fx_b1E hF
  refine xr_callVv C mvX5_36 [] [] (mX5_advance l G a0 ta0 h h201 e201) ta0 (by decide) vc5 rfl ⟨rfl, rfl, (Nat.le_of_ble_eq_true rfl), (Nat.le_of_ble_eq_true rfl)⟩ rfl (Nat.le_of_ble_eq_true rfl) dX5_readLine_201 ?_
  refine xr_aload_n C 0 dX5_readLine_204 rfl rfl ?_
  refine xr_geti C flX5_39 rfl dX5_readLine_205 ta0 ?_
  refine xr_iconst (v := 4) C dX5_readLine_208 (by decide) ?_
  refine xr_icmp_eq C 217 dX5_readLine_209 (by decide) (fun c209 => ?_) (fun c209 => ?_)
  · have hF := fx_pos hF c209
    refine xr_aload_n C 0 dX5_readLine_217 rfl rfl ?_
    obtain ⟨h218, e218, hF⟩ := fx_b1E hF
    refine xr_callVv C mvX5_36 [] [] (mX5_advance l G a0 ta0 h201 h218 e218) ta0 (by decide) vc5 rfl ⟨rfl, rfl, (Nat.le_of_ble_eq_true rfl), (Nat.le_of_ble_eq_true rfl)⟩ rfl (Nat.le_of_ble_eq_true rfl) dX5_readLine_218 ?_
    cases hF
    exact xr_vret C dX5_readLine_221
  · have hF := fx_neg hF c209
    refine xr_aload_n C 0 dX5_readLine_212 rfl rfl ?_
    refine xr_iconst (v := 1) C dX5_readLine_213 (by decide) ?_
    obtain ⟨h214, e214, hF⟩ := fx_b1E hF
    refine xr_callVv C mvX5_61 [.int (1 : Int32)] [] (mX5_fail l G a0 (1 : Int32) ta0 h201 h214 e214) ta0 (by decide) vc5 rfl ⟨rfl, rfl, (Nat.le_of_ble_eq_true rfl), (Nat.le_of_ble_eq_true rfl)⟩ rfl (Nat.le_of_ble_eq_true rfl) dX5_readLine_214 ?_
    refine xr_aload_n C 0 dX5_readLine_217 rfl rfl ?_
    obtain ⟨h218, e218, hF⟩ := fx_b1E hF
    refine xr_callVv C mvX5_36 [] [] (mX5_advance l G a0 ta0 h214 h218 e218) ta0 (by decide) vc5 rfl ⟨rfl, rfl, (Nat.le_of_ble_eq_true rfl), (Nat.le_of_ble_eq_true rfl)⟩ rfl (Nat.le_of_ble_eq_true rfl) dX5_readLine_218 ?_
    cases hF
    exact xr_vret C dX5_readLine_221
def fX5_readLine_16  (a0 : Nat) (a1 : Nat) (s0 : Int32) (h : hp_T) : Option hp_T := if s0 = 168165 then (fx_b2 (fX5_readSetting a0 (h.1 a1 4) (0 : Int32) (300 : Int32) h) fun (r138 : Int32) (h138 : hp_T) => fx_let (hp_sI h138 a1 4 r138) fun (h141 : hp_T) => fX5_readLine_200 a0 h141) else if s0 = 215205 then (fx_b1 (fX5_readFree a0 a1 h) fun (h173 : hp_T) => fX5_readLine_200 a0 h173) else if s0 = 513619 then (fx_b1 (fX5_readPlayer a0 a1 (h.2.2 a1 0) h) fun (h153 : hp_T) => fX5_readLine_200 a0 h153) else if s0 = 644179 then (fx_b2 (fX5_readSetting a0 (h.1 a1 3) (0 : Int32) (12 : Int32) h) fun (r119 : Int32) (h119 : hp_T) => fx_let (hp_sI h119 a1 3 r119) fun (h122 : hp_T) => fX5_readLine_200 a0 h122) else if s0 = 6605428 then (fx_b1 (fX5_readFirst a0 a1 h) fun (h189 : hp_T) => fX5_readLine_200 a0 h189) else if s0 = 20579924 then (fx_b1 (fX5_readStart a0 a1 h) fun (h181 : hp_T) => fX5_readLine_200 a0 h181) else if s0 = 552909459 then (fx_b2 (fX5_readSetting a0 (h.1 a1 2) (3 : Int32) (25 : Int32) h) fun (r101 : Int32) (h101 : hp_T) => fx_let (hp_sI h101 a1 2 r101) fun (h104 : hp_T) => fX5_readLine_200 a0 h104) else if s0 = 679650899 then (fx_b1 (fX5_readPlayer a0 a1 (h.2.2 a1 1) h) fun (h165 : hp_T) => fX5_readLine_200 a0 h165) else (fx_b1 (fX5_fail a0 (1 : Int32) h) fun (h197 : hp_T) => fX5_readLine_200 a0 h197)
set_option maxRecDepth 100000 in
set_option maxHeartbeats 4000000 in
theorem bX5_readLine_16 {l : Launch} {G : xr_G} {K : xr_K} {h1 : hp_T} (C : xr_C G K cX5_readLine RX5 2 (xr_R 4 126) none (some (xr_Qv G h1)))  (a0 : Nat) (a1 : Nat) (s0 : Int32) (ta0 : hp_sh a0 = (5, 0)) (ta1 : hp_sh a1 = (8, 0)) (h : hp_T) (hF : fX5_readLine_16 a0 a1 s0 h = some h1) : xr_j l G K 2 h [(0, .ref (G.2.2.1 a0)), (1, .ref (G.2.2.1 a1))] 16 [.int s0] := by
  unfold fX5_readLine_16 at hF
  by_cases c16_0 : s0 = 168165
  · have hF := fx_pos hF c16_0
    refine xr_lookup C 128 dX5_readLine_16 (by decide) (by rw [c16_0]; first | done | rfl) (by decide) ?_
    refine xr_aload_n C 1 dX5_readLine_128 rfl rfl ?_
    refine xr_aload_n C 0 dX5_readLine_129 rfl rfl ?_
    refine xr_aload_n C 1 dX5_readLine_130 rfl rfl ?_
    refine xr_geti C flX5_81 rfl dX5_readLine_131 ta1 ?_
    refine xr_iconst (v := 0) C dX5_readLine_134 (by decide) ?_
    refine xr_sipush (v := 300) C dX5_readLine_135 (by decide) ?_
    obtain ⟨r138, h138, e138, hF⟩ := fx_b2E hF
    refine xr_callVi C mvX5_74 [.int (h.1 a1 4), .int (0 : Int32), .int (300 : Int32)] [.ref (G.2.2.1 a1)] (mX5_readSetting l G a0 (h.1 a1 4) (0 : Int32) (300 : Int32) ta0 h h138 r138 e138) ta0 (by decide) vc5 rfl ⟨rfl, rfl, (Nat.le_of_ble_eq_true rfl), (Nat.le_of_ble_eq_true rfl)⟩ rfl (Nat.le_of_ble_eq_true rfl) dX5_readLine_138 ?_
    refine xr_puti C fpX5_81 rfl rfl rfl dX5_readLine_141 ta1 (fun h141 e141 => ?_)
    have hF := fx_letE hF h141 e141
    refine xr_goto C 200 dX5_readLine_144 (by decide) ?_
    refine xr_sub [0] [(0, .ref (G.2.2.1 a0))] rfl ?_
    exact bX5_readLine_200 C   a0 ta0 h141 hF
  have hF := fx_neg hF c16_0
  by_cases c16_1 : s0 = 215205
  · have hF := fx_pos hF c16_1
    refine xr_lookup C 171 dX5_readLine_16 (by decide) (by rw [c16_1]; first | done | rfl) (by decide) ?_
    refine xr_aload_n C 0 dX5_readLine_171 rfl rfl ?_
    refine xr_aload_n C 1 dX5_readLine_172 rfl rfl ?_
    obtain ⟨h173, e173, hF⟩ := fx_b1E hF
    refine xr_callVv C mvX5_88 [.ref (G.2.2.1 a1)] [] (mX5_readFree l G a0 a1 ta0 ta1 h h173 e173) ta0 (by decide) vc5 rfl ⟨rfl, rfl, (Nat.le_of_ble_eq_true rfl), (Nat.le_of_ble_eq_true rfl)⟩ rfl (Nat.le_of_ble_eq_true rfl) dX5_readLine_173 ?_
    refine xr_goto C 200 dX5_readLine_176 (by decide) ?_
    refine xr_sub [0] [(0, .ref (G.2.2.1 a0))] rfl ?_
    exact bX5_readLine_200 C   a0 ta0 h173 hF
  have hF := fx_neg hF c16_1
  by_cases c16_2 : s0 = 513619
  · have hF := fx_pos hF c16_2
    refine xr_lookup C 147 dX5_readLine_16 (by decide) (by rw [c16_2]; first | done | rfl) (by decide) ?_
    refine xr_aload_n C 0 dX5_readLine_147 rfl rfl ?_
    refine xr_aload_n C 1 dX5_readLine_148 rfl rfl ?_
    refine xr_aload_n C 1 dX5_readLine_149 rfl rfl ?_
    refine xr_getr C flX5_49 rfl (by decide) dX5_readLine_150 ta1 (fun t150 => ?_)
    obtain ⟨h153, e153, hF⟩ := fx_b1E hF
    refine xr_callVv C mvX5_84 [.ref (G.2.2.1 a1), .ref (G.2.2.1 (h.2.2 a1 0))] [] (mX5_readPlayer l G a0 a1 (h.2.2 a1 0) ta0 ta1 t150 h h153 e153) ta0 (by decide) vc5 rfl ⟨rfl, rfl, (Nat.le_of_ble_eq_true rfl), (Nat.le_of_ble_eq_true rfl)⟩ rfl (Nat.le_of_ble_eq_true rfl) dX5_readLine_153 ?_
    refine xr_goto C 200 dX5_readLine_156 (by decide) ?_
    refine xr_sub [0] [(0, .ref (G.2.2.1 a0))] rfl ?_
    exact bX5_readLine_200 C   a0 ta0 h153 hF
  have hF := fx_neg hF c16_2
  by_cases c16_3 : s0 = 644179
  · have hF := fx_pos hF c16_3
    refine xr_lookup C 110 dX5_readLine_16 (by decide) (by rw [c16_3]; first | done | rfl) (by decide) ?_
    refine xr_aload_n C 1 dX5_readLine_110 rfl rfl ?_
    refine xr_aload_n C 0 dX5_readLine_111 rfl rfl ?_
    refine xr_aload_n C 1 dX5_readLine_112 rfl rfl ?_
    refine xr_geti C flX5_78 rfl dX5_readLine_113 ta1 ?_
    refine xr_iconst (v := 0) C dX5_readLine_116 (by decide) ?_
    refine xr_bipush (v := 12) C dX5_readLine_117 (by decide) ?_
    obtain ⟨r119, h119, e119, hF⟩ := fx_b2E hF
    refine xr_callVi C mvX5_74 [.int (h.1 a1 3), .int (0 : Int32), .int (12 : Int32)] [.ref (G.2.2.1 a1)] (mX5_readSetting l G a0 (h.1 a1 3) (0 : Int32) (12 : Int32) ta0 h h119 r119 e119) ta0 (by decide) vc5 rfl ⟨rfl, rfl, (Nat.le_of_ble_eq_true rfl), (Nat.le_of_ble_eq_true rfl)⟩ rfl (Nat.le_of_ble_eq_true rfl) dX5_readLine_119 ?_
    refine xr_puti C fpX5_78 rfl rfl rfl dX5_readLine_122 ta1 (fun h122 e122 => ?_)
    have hF := fx_letE hF h122 e122
    refine xr_goto C 200 dX5_readLine_125 (by decide) ?_
    refine xr_sub [0] [(0, .ref (G.2.2.1 a0))] rfl ?_
    exact bX5_readLine_200 C   a0 ta0 h122 hF
  have hF := fx_neg hF c16_3
  by_cases c16_4 : s0 = 6605428
  · have hF := fx_pos hF c16_4
    refine xr_lookup C 187 dX5_readLine_16 (by decide) (by rw [c16_4]; first | done | rfl) (by decide) ?_
    refine xr_aload_n C 0 dX5_readLine_187 rfl rfl ?_
    refine xr_aload_n C 1 dX5_readLine_188 rfl rfl ?_
    obtain ⟨h189, e189, hF⟩ := fx_b1E hF
    refine xr_callVv C mvX5_94 [.ref (G.2.2.1 a1)] [] (mX5_readFirst l G a0 a1 ta0 ta1 h h189 e189) ta0 (by decide) vc5 rfl ⟨rfl, rfl, (Nat.le_of_ble_eq_true rfl), (Nat.le_of_ble_eq_true rfl)⟩ rfl (Nat.le_of_ble_eq_true rfl) dX5_readLine_189 ?_
    refine xr_goto C 200 dX5_readLine_192 (by decide) ?_
    refine xr_sub [0] [(0, .ref (G.2.2.1 a0))] rfl ?_
    exact bX5_readLine_200 C   a0 ta0 h189 hF
  have hF := fx_neg hF c16_4
  by_cases c16_5 : s0 = 20579924
  · have hF := fx_pos hF c16_5
    refine xr_lookup C 179 dX5_readLine_16 (by decide) (by rw [c16_5]; first | done | rfl) (by decide) ?_
    refine xr_aload_n C 0 dX5_readLine_179 rfl rfl ?_
    refine xr_aload_n C 1 dX5_readLine_180 rfl rfl ?_
    obtain ⟨h181, e181, hF⟩ := fx_b1E hF
    refine xr_callVv C mvX5_91 [.ref (G.2.2.1 a1)] [] (mX5_readStart l G a0 a1 ta0 ta1 h h181 e181) ta0 (by decide) vc5 rfl ⟨rfl, rfl, (Nat.le_of_ble_eq_true rfl), (Nat.le_of_ble_eq_true rfl)⟩ rfl (Nat.le_of_ble_eq_true rfl) dX5_readLine_181 ?_
    refine xr_goto C 200 dX5_readLine_184 (by decide) ?_
    refine xr_sub [0] [(0, .ref (G.2.2.1 a0))] rfl ?_
    exact bX5_readLine_200 C   a0 ta0 h181 hF
  have hF := fx_neg hF c16_5
  by_cases c16_6 : s0 = 552909459
  · have hF := fx_pos hF c16_6
    refine xr_lookup C 92 dX5_readLine_16 (by decide) (by rw [c16_6]; first | done | rfl) (by decide) ?_
    refine xr_aload_n C 1 dX5_readLine_92 rfl rfl ?_
    refine xr_aload_n C 0 dX5_readLine_93 rfl rfl ?_
    refine xr_aload_n C 1 dX5_readLine_94 rfl rfl ?_
    refine xr_geti C flX5_71 rfl dX5_readLine_95 ta1 ?_
    refine xr_iconst (v := 3) C dX5_readLine_98 (by decide) ?_
    refine xr_bipush (v := 25) C dX5_readLine_99 (by decide) ?_
    obtain ⟨r101, h101, e101, hF⟩ := fx_b2E hF
    refine xr_callVi C mvX5_74 [.int (h.1 a1 2), .int (3 : Int32), .int (25 : Int32)] [.ref (G.2.2.1 a1)] (mX5_readSetting l G a0 (h.1 a1 2) (3 : Int32) (25 : Int32) ta0 h h101 r101 e101) ta0 (by decide) vc5 rfl ⟨rfl, rfl, (Nat.le_of_ble_eq_true rfl), (Nat.le_of_ble_eq_true rfl)⟩ rfl (Nat.le_of_ble_eq_true rfl) dX5_readLine_101 ?_
    refine xr_puti C fpX5_71 rfl rfl rfl dX5_readLine_104 ta1 (fun h104 e104 => ?_)
    have hF := fx_letE hF h104 e104
    refine xr_goto C 200 dX5_readLine_107 (by decide) ?_
    refine xr_sub [0] [(0, .ref (G.2.2.1 a0))] rfl ?_
    exact bX5_readLine_200 C   a0 ta0 h104 hF
  have hF := fx_neg hF c16_6
  by_cases c16_7 : s0 = 679650899
  · have hF := fx_pos hF c16_7
    refine xr_lookup C 159 dX5_readLine_16 (by decide) (by rw [c16_7]; first | done | rfl) (by decide) ?_
    refine xr_aload_n C 0 dX5_readLine_159 rfl rfl ?_
    refine xr_aload_n C 1 dX5_readLine_160 rfl rfl ?_
    refine xr_aload_n C 1 dX5_readLine_161 rfl rfl ?_
    refine xr_getr C flX5_58 rfl (by decide) dX5_readLine_162 ta1 (fun t162 => ?_)
    obtain ⟨h165, e165, hF⟩ := fx_b1E hF
    refine xr_callVv C mvX5_84 [.ref (G.2.2.1 a1), .ref (G.2.2.1 (h.2.2 a1 1))] [] (mX5_readPlayer l G a0 a1 (h.2.2 a1 1) ta0 ta1 t162 h h165 e165) ta0 (by decide) vc5 rfl ⟨rfl, rfl, (Nat.le_of_ble_eq_true rfl), (Nat.le_of_ble_eq_true rfl)⟩ rfl (Nat.le_of_ble_eq_true rfl) dX5_readLine_165 ?_
    refine xr_goto C 200 dX5_readLine_168 (by decide) ?_
    refine xr_sub [0] [(0, .ref (G.2.2.1 a0))] rfl ?_
    exact bX5_readLine_200 C   a0 ta0 h165 hF
  have hF := fx_neg hF c16_7
  refine xr_lookup (off := 179) C 195 dX5_readLine_16 (by decide) (fx_lkX5_readLine_16 c16_0 c16_1 c16_2 c16_3 c16_4 c16_5 c16_6 c16_7) (by decide) ?_
  refine xr_aload_n C 0 dX5_readLine_195 rfl rfl ?_
  refine xr_iconst (v := 1) C dX5_readLine_196 (by decide) ?_
  obtain ⟨h197, e197, hF⟩ := fx_b1E hF
  refine xr_callVv C mvX5_61 [.int (1 : Int32)] [] (mX5_fail l G a0 (1 : Int32) ta0 h h197 e197) ta0 (by decide) vc5 rfl ⟨rfl, rfl, (Nat.le_of_ble_eq_true rfl), (Nat.le_of_ble_eq_true rfl)⟩ rfl (Nat.le_of_ble_eq_true rfl) dX5_readLine_197 ?_
  refine xr_sub [0] [(0, .ref (G.2.2.1 a0))] rfl ?_
  exact bX5_readLine_200 C   a0 ta0 h197 hF
def fX5_readLine (a0 : Nat) (a1 : Nat) (h : hp_T) : Option hp_T := if (h.1 a0 7) = (2 : Int32) then (fX5_readLine_16 a0 a1 (h.1 a0 8) h) else (fX5_readLine_16 a0 a1 (0 : Int32) h)
set_option maxRecDepth 100000 in
set_option maxHeartbeats 4000000 in
theorem mX5_readLine (l : Launch) (G : xr_G) (a0 : Nat) (a1 : Nat) (ta0 : hp_sh a0 = (5, 0)) (ta1 : hp_sh a1 = (8, 0)) (h h1 : hp_T) (hF : fX5_readLine a0 a1 h = some h1) : xr_M l G yX5_readLine cX5_readLine 2 (xr_R 4 126) none [.ref (G.2.2.1 a0), .ref (G.2.2.1 a1)] h (xr_Qv G h1) := by
  refine xr_start rfl (Nat.le_of_ble_eq_true rfl) (fun K C => ?_)
  show xr_j l G K 2 h [(0, .ref (G.2.2.1 a0)), (1, .ref (G.2.2.1 a1))] 0 []
  unfold fX5_readLine at hF
  refine xr_aload_n C 0 dX5_readLine_0 rfl rfl ?_
  refine xr_geti C flX5_39 rfl dX5_readLine_1 ta0 ?_
  refine xr_iconst (v := 2) C dX5_readLine_4 (by decide) ?_
  refine xr_icmp_ne C 15 dX5_readLine_5 (by decide) (fun c5 => ?_) (fun c5 => ?_)
  · have hF := fx_neg hF c5
    refine xr_iconst (v := 0) C dX5_readLine_15 (by decide) ?_
    exact bX5_readLine_16 C   a0 a1 (0 : Int32) ta0 ta1 h hF
  · have hF := fx_pos hF c5
    refine xr_aload_n C 0 dX5_readLine_8 rfl rfl ?_
    refine xr_geti C flX5_68 rfl dX5_readLine_9 ta0 ?_
    refine xr_goto C 16 dX5_readLine_12 (by decide) ?_
    exact bX5_readLine_16 C   a0 a1 (h.1 a0 8) ta0 ta1 h hF
theorem dX8_fillUntold_0 : decode cX8_fillUntold 0 = .ok (.aload_n 0, 1) := by decide +kernel
theorem dX8_fillUntold_1 : decode cX8_fillUntold 1 = .ok (.aload_n 0, 1) := by decide +kernel
theorem dX8_fillUntold_2 : decode cX8_fillUntold 2 = .ok (.getfield 24, 3) := by decide +kernel
theorem dX8_fillUntold_5 : decode cX8_fillUntold 5 = .ok (.iconst (-1), 1) := by decide +kernel
theorem dX8_fillUntold_6 : decode cX8_fillUntold 6 = .ok (.if_icmp .ne 8, 3) := by decide +kernel
theorem dX8_fillUntold_9 : decode cX8_fillUntold 9 = .ok (.bipush 25, 2) := by decide +kernel
theorem dX8_fillUntold_11 : decode cX8_fillUntold 11 = .ok (.goto 7, 3) := by decide +kernel
theorem dX8_fillUntold_14 : decode cX8_fillUntold 14 = .ok (.aload_n 0, 1) := by decide +kernel
theorem dX8_fillUntold_15 : decode cX8_fillUntold 15 = .ok (.getfield 24, 3) := by decide +kernel
theorem dX8_fillUntold_18 : decode cX8_fillUntold 18 = .ok (.putfield 24, 3) := by decide +kernel
theorem dX8_fillUntold_21 : decode cX8_fillUntold 21 = .ok (.aload_n 0, 1) := by decide +kernel
theorem dX8_fillUntold_22 : decode cX8_fillUntold 22 = .ok (.aload_n 0, 1) := by decide +kernel
theorem dX8_fillUntold_23 : decode cX8_fillUntold 23 = .ok (.getfield 28, 3) := by decide +kernel
theorem dX8_fillUntold_26 : decode cX8_fillUntold 26 = .ok (.iconst (-1), 1) := by decide +kernel
theorem dX8_fillUntold_27 : decode cX8_fillUntold 27 = .ok (.if_icmp .ne 8, 3) := by decide +kernel
theorem dX8_fillUntold_30 : decode cX8_fillUntold 30 = .ok (.bipush 6, 2) := by decide +kernel
theorem dX8_fillUntold_32 : decode cX8_fillUntold 32 = .ok (.goto 7, 3) := by decide +kernel
theorem dX8_fillUntold_35 : decode cX8_fillUntold 35 = .ok (.aload_n 0, 1) := by decide +kernel
theorem dX8_fillUntold_36 : decode cX8_fillUntold 36 = .ok (.getfield 28, 3) := by decide +kernel
theorem dX8_fillUntold_39 : decode cX8_fillUntold 39 = .ok (.putfield 28, 3) := by decide +kernel
theorem dX8_fillUntold_42 : decode cX8_fillUntold 42 = .ok (.aload_n 0, 1) := by decide +kernel
theorem dX8_fillUntold_43 : decode cX8_fillUntold 43 = .ok (.aload_n 0, 1) := by decide +kernel
theorem dX8_fillUntold_44 : decode cX8_fillUntold 44 = .ok (.getfield 31, 3) := by decide +kernel
theorem dX8_fillUntold_47 : decode cX8_fillUntold 47 = .ok (.iconst (-1), 1) := by decide +kernel
theorem dX8_fillUntold_48 : decode cX8_fillUntold 48 = .ok (.if_icmp .ne 8, 3) := by decide +kernel
theorem dX8_fillUntold_51 : decode cX8_fillUntold 51 = .ok (.bipush 100, 2) := by decide +kernel
theorem dX8_fillUntold_53 : decode cX8_fillUntold 53 = .ok (.goto 7, 3) := by decide +kernel
theorem dX8_fillUntold_56 : decode cX8_fillUntold 56 = .ok (.aload_n 0, 1) := by decide +kernel
theorem dX8_fillUntold_57 : decode cX8_fillUntold 57 = .ok (.getfield 31, 3) := by decide +kernel
theorem dX8_fillUntold_60 : decode cX8_fillUntold 60 = .ok (.putfield 31, 3) := by decide +kernel
theorem dX8_fillUntold_63 : decode cX8_fillUntold 63 = .ok (.aload_n 0, 1) := by decide +kernel
theorem dX8_fillUntold_64 : decode cX8_fillUntold 64 = .ok (.aload_n 0, 1) := by decide +kernel
theorem dX8_fillUntold_65 : decode cX8_fillUntold 65 = .ok (.getfield 34, 3) := by decide +kernel
theorem dX8_fillUntold_68 : decode cX8_fillUntold 68 = .ok (.iconst (-1), 1) := by decide +kernel
theorem dX8_fillUntold_69 : decode cX8_fillUntold 69 = .ok (.if_icmp .ne 7, 3) := by decide +kernel
theorem dX8_fillUntold_72 : decode cX8_fillUntold 72 = .ok (.iconst 0, 1) := by decide +kernel
theorem dX8_fillUntold_73 : decode cX8_fillUntold 73 = .ok (.goto 7, 3) := by decide +kernel
theorem dX8_fillUntold_76 : decode cX8_fillUntold 76 = .ok (.aload_n 0, 1) := by decide +kernel
theorem dX8_fillUntold_77 : decode cX8_fillUntold 77 = .ok (.getfield 34, 3) := by decide +kernel
theorem dX8_fillUntold_80 : decode cX8_fillUntold 80 = .ok (.putfield 34, 3) := by decide +kernel
theorem dX8_fillUntold_83 : decode cX8_fillUntold 83 = .ok (.return_, 1) := by decide +kernel
def fX8_fillUntold_60  (a0 : Nat) (s0 : Nat) (s1 : Int32) (h : hp_T) : Option hp_T := fx_let (hp_sI h s0 4 s1) fun (h60 : hp_T) => if (h60.1 a0 5) = (-1 : Int32) then (fx_let (hp_sI h60 a0 5 (0 : Int32)) fun (h80 : hp_T) => some h80) else (fx_let (hp_sI h60 a0 5 (h60.1 a0 5)) fun (h80 : hp_T) => some h80)
set_option maxRecDepth 100000 in
set_option maxHeartbeats 4000000 in
theorem bX8_fillUntold_60 {l : Launch} {G : xr_G} {K : xr_K} {h1 : hp_T} (C : xr_C G K cX8_fillUntold RX8 1 (xr_R 0 0) none (some (xr_Qv G h1)))  (a0 : Nat) (s0 : Nat) (s1 : Int32) (ta0 : hp_sh a0 = (8, 0)) (ts0 : hp_sh s0 = (8, 0)) (h : hp_T) (hF : fX8_fillUntold_60 a0 s0 s1 h = some h1) : xr_j l G K 1 h [(0, .ref (G.2.2.1 a0))] 60 [.int s1, .ref (G.2.2.1 s0)] := by
  unfold fX8_fillUntold_60 at hF
  refine xr_puti C fpX8_31 rfl rfl rfl dX8_fillUntold_60 ts0 (fun h60 e60 => ?_)
  have hF := fx_letE hF h60 e60
  refine xr_aload_n C 0 dX8_fillUntold_63 rfl rfl ?_
  refine xr_aload_n C 0 dX8_fillUntold_64 rfl rfl ?_
  refine xr_geti C flX8_34 rfl dX8_fillUntold_65 ta0 ?_
  refine xr_iconst (v := -1) C dX8_fillUntold_68 (by decide) ?_
  refine xr_icmp_ne C 76 dX8_fillUntold_69 (by decide) (fun c69 => ?_) (fun c69 => ?_)
  · have hF := fx_neg hF c69
    refine xr_aload_n C 0 dX8_fillUntold_76 rfl rfl ?_
    refine xr_geti C flX8_34 rfl dX8_fillUntold_77 ta0 ?_
    refine xr_puti C fpX8_34 rfl rfl rfl dX8_fillUntold_80 ta0 (fun h80 e80 => ?_)
    have hF := fx_letE hF h80 e80
    cases hF
    exact xr_vret C dX8_fillUntold_83
  · have hF := fx_pos hF c69
    refine xr_iconst (v := 0) C dX8_fillUntold_72 (by decide) ?_
    refine xr_goto C 80 dX8_fillUntold_73 (by decide) ?_
    refine xr_puti C fpX8_34 rfl rfl rfl dX8_fillUntold_80 ta0 (fun h80 e80 => ?_)
    have hF := fx_letE hF h80 e80
    cases hF
    exact xr_vret C dX8_fillUntold_83
def fX8_fillUntold_39  (a0 : Nat) (s0 : Nat) (s1 : Int32) (h : hp_T) : Option hp_T := fx_let (hp_sI h s0 3 s1) fun (h39 : hp_T) => if (h39.1 a0 4) = (-1 : Int32) then (fX8_fillUntold_60 a0 a0 (100 : Int32) h39) else (fX8_fillUntold_60 a0 a0 (h39.1 a0 4) h39)
set_option maxRecDepth 100000 in
set_option maxHeartbeats 4000000 in
theorem bX8_fillUntold_39 {l : Launch} {G : xr_G} {K : xr_K} {h1 : hp_T} (C : xr_C G K cX8_fillUntold RX8 1 (xr_R 0 0) none (some (xr_Qv G h1)))  (a0 : Nat) (s0 : Nat) (s1 : Int32) (ta0 : hp_sh a0 = (8, 0)) (ts0 : hp_sh s0 = (8, 0)) (h : hp_T) (hF : fX8_fillUntold_39 a0 s0 s1 h = some h1) : xr_j l G K 1 h [(0, .ref (G.2.2.1 a0))] 39 [.int s1, .ref (G.2.2.1 s0)] := by
  unfold fX8_fillUntold_39 at hF
  refine xr_puti C fpX8_28 rfl rfl rfl dX8_fillUntold_39 ts0 (fun h39 e39 => ?_)
  have hF := fx_letE hF h39 e39
  refine xr_aload_n C 0 dX8_fillUntold_42 rfl rfl ?_
  refine xr_aload_n C 0 dX8_fillUntold_43 rfl rfl ?_
  refine xr_geti C flX8_31 rfl dX8_fillUntold_44 ta0 ?_
  refine xr_iconst (v := -1) C dX8_fillUntold_47 (by decide) ?_
  refine xr_icmp_ne C 56 dX8_fillUntold_48 (by decide) (fun c48 => ?_) (fun c48 => ?_)
  · have hF := fx_neg hF c48
    refine xr_aload_n C 0 dX8_fillUntold_56 rfl rfl ?_
    refine xr_geti C flX8_31 rfl dX8_fillUntold_57 ta0 ?_
    exact bX8_fillUntold_60 C   a0 a0 (h39.1 a0 4) ta0 ta0 h39 hF
  · have hF := fx_pos hF c48
    refine xr_bipush (v := 100) C dX8_fillUntold_51 (by decide) ?_
    refine xr_goto C 60 dX8_fillUntold_53 (by decide) ?_
    exact bX8_fillUntold_60 C   a0 a0 (100 : Int32) ta0 ta0 h39 hF
def fX8_fillUntold_18  (a0 : Nat) (s0 : Nat) (s1 : Int32) (h : hp_T) : Option hp_T := fx_let (hp_sI h s0 2 s1) fun (h18 : hp_T) => if (h18.1 a0 3) = (-1 : Int32) then (fX8_fillUntold_39 a0 a0 (6 : Int32) h18) else (fX8_fillUntold_39 a0 a0 (h18.1 a0 3) h18)
set_option maxRecDepth 100000 in
set_option maxHeartbeats 4000000 in
theorem bX8_fillUntold_18 {l : Launch} {G : xr_G} {K : xr_K} {h1 : hp_T} (C : xr_C G K cX8_fillUntold RX8 1 (xr_R 0 0) none (some (xr_Qv G h1)))  (a0 : Nat) (s0 : Nat) (s1 : Int32) (ta0 : hp_sh a0 = (8, 0)) (ts0 : hp_sh s0 = (8, 0)) (h : hp_T) (hF : fX8_fillUntold_18 a0 s0 s1 h = some h1) : xr_j l G K 1 h [(0, .ref (G.2.2.1 a0))] 18 [.int s1, .ref (G.2.2.1 s0)] := by
  unfold fX8_fillUntold_18 at hF
  refine xr_puti C fpX8_24 rfl rfl rfl dX8_fillUntold_18 ts0 (fun h18 e18 => ?_)
  have hF := fx_letE hF h18 e18
  refine xr_aload_n C 0 dX8_fillUntold_21 rfl rfl ?_
  refine xr_aload_n C 0 dX8_fillUntold_22 rfl rfl ?_
  refine xr_geti C flX8_28 rfl dX8_fillUntold_23 ta0 ?_
  refine xr_iconst (v := -1) C dX8_fillUntold_26 (by decide) ?_
  refine xr_icmp_ne C 35 dX8_fillUntold_27 (by decide) (fun c27 => ?_) (fun c27 => ?_)
  · have hF := fx_neg hF c27
    refine xr_aload_n C 0 dX8_fillUntold_35 rfl rfl ?_
    refine xr_geti C flX8_28 rfl dX8_fillUntold_36 ta0 ?_
    exact bX8_fillUntold_39 C   a0 a0 (h18.1 a0 3) ta0 ta0 h18 hF
  · have hF := fx_pos hF c27
    refine xr_bipush (v := 6) C dX8_fillUntold_30 (by decide) ?_
    refine xr_goto C 39 dX8_fillUntold_32 (by decide) ?_
    exact bX8_fillUntold_39 C   a0 a0 (6 : Int32) ta0 ta0 h18 hF
def fX8_fillUntold (a0 : Nat) (h : hp_T) : Option hp_T := if (h.1 a0 2) = (-1 : Int32) then (fX8_fillUntold_18 a0 a0 (25 : Int32) h) else (fX8_fillUntold_18 a0 a0 (h.1 a0 2) h)
set_option maxRecDepth 100000 in
set_option maxHeartbeats 4000000 in
theorem mX8_fillUntold (l : Launch) (G : xr_G) (a0 : Nat) (ta0 : hp_sh a0 = (8, 0)) (h h1 : hp_T) (hF : fX8_fillUntold a0 h = some h1) : xr_M l G yX8_fillUntold cX8_fillUntold 1 (xr_R 0 0) none [.ref (G.2.2.1 a0)] h (xr_Qv G h1) := by
  refine xr_start rfl (Nat.le_of_ble_eq_true rfl) (fun K C => ?_)
  show xr_j l G K 1 h [(0, .ref (G.2.2.1 a0))] 0 []
  unfold fX8_fillUntold at hF
  refine xr_aload_n C 0 dX8_fillUntold_0 rfl rfl ?_
  refine xr_aload_n C 0 dX8_fillUntold_1 rfl rfl ?_
  refine xr_geti C flX8_24 rfl dX8_fillUntold_2 ta0 ?_
  refine xr_iconst (v := -1) C dX8_fillUntold_5 (by decide) ?_
  refine xr_icmp_ne C 14 dX8_fillUntold_6 (by decide) (fun c6 => ?_) (fun c6 => ?_)
  · have hF := fx_neg hF c6
    refine xr_aload_n C 0 dX8_fillUntold_14 rfl rfl ?_
    refine xr_geti C flX8_24 rfl dX8_fillUntold_15 ta0 ?_
    exact bX8_fillUntold_18 C   a0 a0 (h.1 a0 2) ta0 ta0 h hF
  · have hF := fx_pos hF c6
    refine xr_bipush (v := 25) C dX8_fillUntold_9 (by decide) ?_
    refine xr_goto C 18 dX8_fillUntold_11 (by decide) ?_
    exact bX8_fillUntold_18 C   a0 a0 (25 : Int32) ta0 ta0 h hF
theorem dX5_readInto_0 : decode cX5_readInto 0 = .ok (.aload_n 0, 1) := by decide +kernel
theorem dX5_readInto_1 : decode cX5_readInto 1 = .ok (.iload_n 2, 1) := by decide +kernel
theorem dX5_readInto_2 : decode cX5_readInto 2 = .ok (.putfield 22, 3) := by decide +kernel
theorem dX5_readInto_5 : decode cX5_readInto 5 = .ok (.aload_n 0, 1) := by decide +kernel
theorem dX5_readInto_6 : decode cX5_readInto 6 = .ok (.iconst 0, 1) := by decide +kernel
theorem dX5_readInto_7 : decode cX5_readInto 7 = .ok (.putfield 19, 3) := by decide +kernel
theorem dX5_readInto_10 : decode cX5_readInto 10 = .ok (.aload_n 0, 1) := by decide +kernel
theorem dX5_readInto_11 : decode cX5_readInto 11 = .ok (.iconst 0, 1) := by decide +kernel
theorem dX5_readInto_12 : decode cX5_readInto 12 = .ok (.putfield 25, 3) := by decide +kernel
theorem dX5_readInto_15 : decode cX5_readInto 15 = .ok (.aload_n 0, 1) := by decide +kernel
theorem dX5_readInto_16 : decode cX5_readInto 16 = .ok (.iconst 0, 1) := by decide +kernel
theorem dX5_readInto_17 : decode cX5_readInto 17 = .ok (.putfield 28, 3) := by decide +kernel
theorem dX5_readInto_20 : decode cX5_readInto 20 = .ok (.aload_n 0, 1) := by decide +kernel
theorem dX5_readInto_21 : decode cX5_readInto 21 = .ok (.iconst (-1), 1) := by decide +kernel
theorem dX5_readInto_22 : decode cX5_readInto 22 = .ok (.putfield 15, 3) := by decide +kernel
theorem dX5_readInto_25 : decode cX5_readInto 25 = .ok (.aload_n 1, 1) := by decide +kernel
theorem dX5_readInto_26 : decode cX5_readInto 26 = .ok (.invokevirtual 31, 3) := by decide +kernel
theorem dX5_readInto_29 : decode cX5_readInto 29 = .ok (.aload_n 0, 1) := by decide +kernel
theorem dX5_readInto_30 : decode cX5_readInto 30 = .ok (.invokevirtual 36, 3) := by decide +kernel
theorem dX5_readInto_33 : decode cX5_readInto 33 = .ok (.iconst 0, 1) := by decide +kernel
theorem dX5_readInto_34 : decode cX5_readInto 34 = .ok (.istore_n 3, 1) := by decide +kernel
theorem dX5_readInto_35 : decode cX5_readInto 35 = .ok (.iload_n 3, 1) := by decide +kernel
theorem dX5_readInto_36 : decode cX5_readInto 36 = .ok (.aload_n 0, 1) := by decide +kernel
theorem dX5_readInto_37 : decode cX5_readInto 37 = .ok (.getfield 22, 3) := by decide +kernel
theorem dX5_readInto_40 : decode cX5_readInto 40 = .ok (.if_icmp .ge 38, 3) := by decide +kernel
theorem dX5_readInto_43 : decode cX5_readInto 43 = .ok (.aload_n 0, 1) := by decide +kernel
theorem dX5_readInto_44 : decode cX5_readInto 44 = .ok (.getfield 39, 3) := by decide +kernel
theorem dX5_readInto_47 : decode cX5_readInto 47 = .ok (.ifCond .eq 31, 3) := by decide +kernel
theorem dX5_readInto_50 : decode cX5_readInto 50 = .ok (.aload_n 0, 1) := by decide +kernel
theorem dX5_readInto_51 : decode cX5_readInto 51 = .ok (.getfield 28, 3) := by decide +kernel
theorem dX5_readInto_54 : decode cX5_readInto 54 = .ok (.ifCond .ne 24, 3) := by decide +kernel
theorem dX5_readInto_57 : decode cX5_readInto 57 = .ok (.aload_n 0, 1) := by decide +kernel
theorem dX5_readInto_58 : decode cX5_readInto 58 = .ok (.aload_n 1, 1) := by decide +kernel
theorem dX5_readInto_59 : decode cX5_readInto 59 = .ok (.invokevirtual 42, 3) := by decide +kernel
theorem dX5_readInto_62 : decode cX5_readInto 62 = .ok (.aload_n 1, 1) := by decide +kernel
theorem dX5_readInto_63 : decode cX5_readInto 63 = .ok (.dup, 1) := by decide +kernel
theorem dX5_readInto_64 : decode cX5_readInto 64 = .ok (.getfield 46, 3) := by decide +kernel
theorem dX5_readInto_67 : decode cX5_readInto 67 = .ok (.iconst 1, 1) := by decide +kernel
theorem dX5_readInto_68 : decode cX5_readInto 68 = .ok (.iadd, 1) := by decide +kernel
theorem dX5_readInto_69 : decode cX5_readInto 69 = .ok (.putfield 46, 3) := by decide +kernel
theorem dX5_readInto_72 : decode cX5_readInto 72 = .ok (.iinc 3 1, 3) := by decide +kernel
theorem dX5_readInto_75 : decode cX5_readInto 75 = .ok (.goto (-40), 3) := by decide +kernel
theorem dX5_readInto_78 : decode cX5_readInto 78 = .ok (.aload_n 1, 1) := by decide +kernel
theorem dX5_readInto_79 : decode cX5_readInto 79 = .ok (.getfield 49, 3) := by decide +kernel
theorem dX5_readInto_82 : decode cX5_readInto 82 = .ok (.getfield 53, 3) := by decide +kernel
theorem dX5_readInto_85 : decode cX5_readInto 85 = .ok (.bipush 6, 2) := by decide +kernel
theorem dX5_readInto_87 : decode cX5_readInto 87 = .ok (.if_icmp .lt 15, 3) := by decide +kernel
theorem dX5_readInto_90 : decode cX5_readInto 90 = .ok (.aload_n 1, 1) := by decide +kernel
theorem dX5_readInto_91 : decode cX5_readInto 91 = .ok (.getfield 58, 3) := by decide +kernel
theorem dX5_readInto_94 : decode cX5_readInto 94 = .ok (.getfield 53, 3) := by decide +kernel
theorem dX5_readInto_97 : decode cX5_readInto 97 = .ok (.bipush 6, 2) := by decide +kernel
theorem dX5_readInto_99 : decode cX5_readInto 99 = .ok (.if_icmp .ge 8, 3) := by decide +kernel
theorem dX5_readInto_102 : decode cX5_readInto 102 = .ok (.aload_n 0, 1) := by decide +kernel
theorem dX5_readInto_103 : decode cX5_readInto 103 = .ok (.iconst 4, 1) := by decide +kernel
theorem dX5_readInto_104 : decode cX5_readInto 104 = .ok (.invokevirtual 61, 3) := by decide +kernel
theorem dX5_readInto_107 : decode cX5_readInto 107 = .ok (.aload_n 1, 1) := by decide +kernel
theorem dX5_readInto_108 : decode cX5_readInto 108 = .ok (.invokevirtual 65, 3) := by decide +kernel
theorem dX5_readInto_111 : decode cX5_readInto 111 = .ok (.aload_n 0, 1) := by decide +kernel
theorem dX5_readInto_112 : decode cX5_readInto 112 = .ok (.getfield 28, 3) := by decide +kernel
theorem dX5_readInto_115 : decode cX5_readInto 115 = .ok (.ifCond .ne 7, 3) := by decide +kernel
theorem dX5_readInto_118 : decode cX5_readInto 118 = .ok (.iconst 1, 1) := by decide +kernel
theorem dX5_readInto_119 : decode cX5_readInto 119 = .ok (.goto 4, 3) := by decide +kernel
theorem dX5_readInto_122 : decode cX5_readInto 122 = .ok (.iconst 0, 1) := by decide +kernel
theorem dX5_readInto_123 : decode cX5_readInto 123 = .ok (.ireturn, 1) := by decide +kernel
def fX5_readInto_107  (a0 : Nat) (a1 : Nat) (h : hp_T) : Option (Int32 × hp_T) := fx_b1 (fX8_fillUntold a1 h) fun (h108 : hp_T) => if (h108.1 a0 2) = 0 then (some ((1 : Int32), h108)) else (some ((0 : Int32), h108))
set_option maxRecDepth 100000 in
set_option maxHeartbeats 4000000 in
theorem bX5_readInto_107 {l : Launch} {G : xr_G} {K : xr_K} {r : Int32} {h1 : hp_T} (C : xr_C G K cX5_readInto RX5 4 (xr_R 5 147) (some .boolean) (some (xr_Qi G r h1)))  (a0 : Nat) (a1 : Nat) (ta0 : hp_sh a0 = (5, 0)) (ta1 : hp_sh a1 = (8, 0)) (h : hp_T) (hF : fX5_readInto_107 a0 a1 h = some (r, h1)) : xr_j l G K 4 h [(0, .ref (G.2.2.1 a0)), (1, .ref (G.2.2.1 a1))] 107 [] := by
  unfold fX5_readInto_107 at hF
  refine xr_aload_n C 1 dX5_readInto_107 rfl rfl ?_
  obtain ⟨h108, e108, hF⟩ := fx_b1E hF
  refine xr_callVv C mvX5_65 [] [] (mX8_fillUntold l G a1 ta1 h h108 e108) ta1 (by decide) vc8 rfl ⟨rfl, rfl, (Nat.le_of_ble_eq_true rfl), (Nat.le_of_ble_eq_true rfl)⟩ rfl (Nat.le_of_ble_eq_true rfl) dX5_readInto_108 ?_
  refine xr_aload_n C 0 dX5_readInto_111 rfl rfl ?_
  refine xr_geti C flX5_28 rfl dX5_readInto_112 ta0 ?_
  refine xr_if_ne C 122 dX5_readInto_115 (by decide) (fun c115 => ?_) (fun c115 => ?_)
  · have hF := fx_neg hF c115
    refine xr_iconst (v := 0) C dX5_readInto_122 (by decide) ?_
    cases hF
    exact xr_zret C rfl dX5_readInto_123
  · have hF := fx_pos hF c115
    refine xr_iconst (v := 1) C dX5_readInto_118 (by decide) ?_
    refine xr_goto C 123 dX5_readInto_119 (by decide) ?_
    cases hF
    exact xr_zret C rfl dX5_readInto_123
def fX5_readInto_102  (a0 : Nat) (a1 : Nat) (h : hp_T) : Option (Int32 × hp_T) := fx_b1 (fX5_fail a0 (4 : Int32) h) fun (h104 : hp_T) => fX5_readInto_107 a0 a1 h104
set_option maxRecDepth 100000 in
set_option maxHeartbeats 4000000 in
theorem bX5_readInto_102 {l : Launch} {G : xr_G} {K : xr_K} {r : Int32} {h1 : hp_T} (C : xr_C G K cX5_readInto RX5 4 (xr_R 5 147) (some .boolean) (some (xr_Qi G r h1)))  (a0 : Nat) (a1 : Nat) (ta0 : hp_sh a0 = (5, 0)) (ta1 : hp_sh a1 = (8, 0)) (h : hp_T) (hF : fX5_readInto_102 a0 a1 h = some (r, h1)) : xr_j l G K 4 h [(0, .ref (G.2.2.1 a0)), (1, .ref (G.2.2.1 a1))] 102 [] := by
  unfold fX5_readInto_102 at hF
  refine xr_aload_n C 0 dX5_readInto_102 rfl rfl ?_
  refine xr_iconst (v := 4) C dX5_readInto_103 (by decide) ?_
  obtain ⟨h104, e104, hF⟩ := fx_b1E hF
  refine xr_callVv C mvX5_61 [.int (4 : Int32)] [] (mX5_fail l G a0 (4 : Int32) ta0 h h104 e104) ta0 (by decide) vc5 rfl ⟨rfl, rfl, (Nat.le_of_ble_eq_true rfl), (Nat.le_of_ble_eq_true rfl)⟩ rfl (Nat.le_of_ble_eq_true rfl) dX5_readInto_104 ?_
  exact bX5_readInto_107 C   a0 a1 ta0 ta1 h104 hF
def fX5_readInto_78  (a0 : Nat) (a1 : Nat) (h : hp_T) : Option (Int32 × hp_T) := if (h.1 (h.2.2 a1 0) 6) < (6 : Int32) then (fX5_readInto_102 a0 a1 h) else (if (6 : Int32) ≤ (h.1 (h.2.2 a1 1) 6) then (fX5_readInto_107 a0 a1 h) else (fX5_readInto_102 a0 a1 h))
set_option maxRecDepth 100000 in
set_option maxHeartbeats 4000000 in
theorem bX5_readInto_78 {l : Launch} {G : xr_G} {K : xr_K} {r : Int32} {h1 : hp_T} (C : xr_C G K cX5_readInto RX5 4 (xr_R 5 147) (some .boolean) (some (xr_Qi G r h1)))  (a0 : Nat) (a1 : Nat) (ta0 : hp_sh a0 = (5, 0)) (ta1 : hp_sh a1 = (8, 0)) (h : hp_T) (hF : fX5_readInto_78 a0 a1 h = some (r, h1)) : xr_j l G K 4 h [(0, .ref (G.2.2.1 a0)), (1, .ref (G.2.2.1 a1))] 78 [] := by
  unfold fX5_readInto_78 at hF
  refine xr_aload_n C 1 dX5_readInto_78 rfl rfl ?_
  refine xr_getr C flX5_49 rfl (by decide) dX5_readInto_79 ta1 (fun t79 => ?_)
  refine xr_geti C flX5_53 rfl dX5_readInto_82 t79 ?_
  refine xr_bipush (v := 6) C dX5_readInto_85 (by decide) ?_
  refine xr_icmp_lt C 102 dX5_readInto_87 (by decide) (fun c87 => ?_) (fun c87 => ?_)
  · have hF := fx_pos hF c87
    exact bX5_readInto_102 C   a0 a1 ta0 ta1 h hF
  · have hF := fx_neg hF c87
    refine xr_aload_n C 1 dX5_readInto_90 rfl rfl ?_
    refine xr_getr C flX5_58 rfl (by decide) dX5_readInto_91 ta1 (fun t91 => ?_)
    refine xr_geti C flX5_53 rfl dX5_readInto_94 t91 ?_
    refine xr_bipush (v := 6) C dX5_readInto_97 (by decide) ?_
    refine xr_icmp_ge C 107 dX5_readInto_99 (by decide) (fun c99 => ?_) (fun c99 => ?_)
    · have hF := fx_pos hF c99
      exact bX5_readInto_107 C   a0 a1 ta0 ta1 h hF
    · have hF := fx_neg hF c99
      exact bX5_readInto_102 C   a0 a1 ta0 ta1 h hF
def fX5_readInto_35  : Nat → Nat → Nat → Int32 → hp_T → Option (Int32 × hp_T)
  | 0, _, _, _, _ => none
  | n + 1, a0, a1, a3, h => if (h.1 a0 4) ≤ a3 then (fX5_readInto_78 a0 a1 h) else (if (h.1 a0 7) = 0 then (fX5_readInto_78 a0 a1 h) else (if (h.1 a0 2) = 0 then (fx_b1 (fX5_readLine a0 a1 h) fun (h59 : hp_T) => fx_let (hp_sI h59 a1 6 ((h59.1 a1 6) + (1 : Int32))) fun (h69 : hp_T) => fx_let (a3 + (1 : Int32)) fun (x72 : Int32) => fX5_readInto_35 n a0 a1 x72 h69) else (fX5_readInto_78 a0 a1 h)))
set_option maxRecDepth 100000 in
set_option maxHeartbeats 4000000 in
theorem bX5_readInto_35 {l : Launch} {G : xr_G} {K : xr_K} {r : Int32} {h1 : hp_T} (C : xr_C G K cX5_readInto RX5 4 (xr_R 5 147) (some .boolean) (some (xr_Qi G r h1)))  : ∀ (n : Nat) (a0 : Nat) (a1 : Nat) (a3 : Int32) (ta0 : hp_sh a0 = (5, 0)) (ta1 : hp_sh a1 = (8, 0)) (h : hp_T), fX5_readInto_35 n a0 a1 a3 h = some (r, h1) → xr_j l G K 4 h [(0, .ref (G.2.2.1 a0)), (1, .ref (G.2.2.1 a1)), (3, .int a3)] 35 [] := by
  intro n
  induction n with
  | zero =>
    intro a0 a1 a3 ta0 ta1 h hF
    cases hF
  | succ n ih =>
    intro a0 a1 a3 ta0 ta1 h hF
    rw [fX5_readInto_35] at hF
    refine xr_iload_n C 2 dX5_readInto_35 rfl rfl ?_
    refine xr_aload_n C 0 dX5_readInto_36 rfl rfl ?_
    refine xr_geti C flX5_22 rfl dX5_readInto_37 ta0 ?_
    refine xr_icmp_ge C 78 dX5_readInto_40 (by decide) (fun c40 => ?_) (fun c40 => ?_)
    · have hF := fx_pos hF c40
      refine xr_sub [0, 1] [(0, .ref (G.2.2.1 a0)), (1, .ref (G.2.2.1 a1))] rfl ?_
      exact bX5_readInto_78 C   a0 a1 ta0 ta1 h hF
    · have hF := fx_neg hF c40
      refine xr_aload_n C 0 dX5_readInto_43 rfl rfl ?_
      refine xr_geti C flX5_39 rfl dX5_readInto_44 ta0 ?_
      refine xr_if_eq C 78 dX5_readInto_47 (by decide) (fun c47 => ?_) (fun c47 => ?_)
      · have hF := fx_pos hF c47
        refine xr_sub [0, 1] [(0, .ref (G.2.2.1 a0)), (1, .ref (G.2.2.1 a1))] rfl ?_
        exact bX5_readInto_78 C   a0 a1 ta0 ta1 h hF
      · have hF := fx_neg hF c47
        refine xr_aload_n C 0 dX5_readInto_50 rfl rfl ?_
        refine xr_geti C flX5_28 rfl dX5_readInto_51 ta0 ?_
        refine xr_if_ne C 78 dX5_readInto_54 (by decide) (fun c54 => ?_) (fun c54 => ?_)
        · have hF := fx_neg hF c54
          refine xr_sub [0, 1] [(0, .ref (G.2.2.1 a0)), (1, .ref (G.2.2.1 a1))] rfl ?_
          exact bX5_readInto_78 C   a0 a1 ta0 ta1 h hF
        · have hF := fx_pos hF c54
          refine xr_aload_n C 0 dX5_readInto_57 rfl rfl ?_
          refine xr_aload_n C 1 dX5_readInto_58 rfl rfl ?_
          obtain ⟨h59, e59, hF⟩ := fx_b1E hF
          refine xr_callVv C mvX5_42 [.ref (G.2.2.1 a1)] [] (mX5_readLine l G a0 a1 ta0 ta1 h h59 e59) ta0 (by decide) vc5 rfl ⟨rfl, rfl, (Nat.le_of_ble_eq_true rfl), (Nat.le_of_ble_eq_true rfl)⟩ rfl (Nat.le_of_ble_eq_true rfl) dX5_readInto_59 ?_
          refine xr_aload_n C 1 dX5_readInto_62 rfl rfl ?_
          refine xr_dup C dX5_readInto_63 rfl ?_
          refine xr_geti C flX5_46 rfl dX5_readInto_64 ta1 ?_
          refine xr_iconst (v := 1) C dX5_readInto_67 (by decide) ?_
          refine xr_iadd C dX5_readInto_68 ?_
          refine xr_puti C fpX5_46 rfl rfl rfl dX5_readInto_69 ta1 (fun h69 e69 => ?_)
          have hF := fx_letE hF h69 e69
          obtain ⟨x72, e72⟩ : ∃ y : Int32, y = (a3 + (1 : Int32)) := ⟨_, rfl⟩
          have hF := fx_letE hF x72 e72
          refine xr_iinc C x72 2 [(3, .int x72), (0, .ref (G.2.2.1 a0)), (1, .ref (G.2.2.1 a1))] dX5_readInto_72 rfl (by rw [e72]; rfl) (Nat.le_of_ble_eq_true rfl) rfl ?_
          refine xr_goto C 35 dX5_readInto_75 (by decide) ?_
          refine xr_sub [1, 2, 0] [(0, .ref (G.2.2.1 a0)), (1, .ref (G.2.2.1 a1)), (3, .int x72)] rfl ?_
          exact ih a0 a1 x72 ta0 ta1 h69 hF
def fX5_readInto (a0 : Nat) (a1 : Nat) (a2 : Int32) (h : hp_T) : Option (Int32 × hp_T) := fx_let (hp_sI h a0 4 a2) fun (h2 : hp_T) => fx_let (hp_sI h2 a0 1 (0 : Int32)) fun (h7 : hp_T) => fx_let (hp_sI h7 a0 5 (0 : Int32)) fun (h12 : hp_T) => fx_let (hp_sI h12 a0 2 (0 : Int32)) fun (h17 : hp_T) => fx_let (hp_sI h17 a0 3 (-1 : Int32)) fun (h22 : hp_T) => fx_b1 (fX8_clear a1 h22) fun (h26 : hp_T) => fx_b1 (fX5_advance a0 h26) fun (h30 : hp_T) => fX5_readInto_35 fx_N a0 a1 (0 : Int32) h30
set_option maxRecDepth 100000 in
set_option maxHeartbeats 4000000 in
theorem mX5_readInto (l : Launch) (G : xr_G) (a0 : Nat) (a1 : Nat) (a2 : Int32) (ta0 : hp_sh a0 = (5, 0)) (ta1 : hp_sh a1 = (8, 0)) (h h1 : hp_T) (r : Int32) (hF : fX5_readInto a0 a1 a2 h = some (r, h1)) : xr_M l G yX5_readInto cX5_readInto 4 (xr_R 5 147) (some .boolean) [.ref (G.2.2.1 a0), .ref (G.2.2.1 a1), .int a2] h (xr_Qi G r h1) := by
  refine xr_start rfl (Nat.le_of_ble_eq_true rfl) (fun K C => ?_)
  show xr_j l G K 4 h [(0, .ref (G.2.2.1 a0)), (1, .ref (G.2.2.1 a1)), (2, .int a2)] 0 []
  unfold fX5_readInto at hF
  refine xr_aload_n C 0 dX5_readInto_0 rfl rfl ?_
  refine xr_iload_n C 2 dX5_readInto_1 rfl rfl ?_
  refine xr_puti C fpX5_22 rfl rfl rfl dX5_readInto_2 ta0 (fun h2 e2 => ?_)
  have hF := fx_letE hF h2 e2
  refine xr_aload_n C 0 dX5_readInto_5 rfl rfl ?_
  refine xr_iconst (v := 0) C dX5_readInto_6 (by decide) ?_
  refine xr_puti C fpX5_19 rfl rfl rfl dX5_readInto_7 ta0 (fun h7 e7 => ?_)
  have hF := fx_letE hF h7 e7
  refine xr_aload_n C 0 dX5_readInto_10 rfl rfl ?_
  refine xr_iconst (v := 0) C dX5_readInto_11 (by decide) ?_
  refine xr_puti C fpX5_25 rfl rfl rfl dX5_readInto_12 ta0 (fun h12 e12 => ?_)
  have hF := fx_letE hF h12 e12
  refine xr_aload_n C 0 dX5_readInto_15 rfl rfl ?_
  refine xr_iconst (v := 0) C dX5_readInto_16 (by decide) ?_
  refine xr_puti C fpX5_28 rfl rfl rfl dX5_readInto_17 ta0 (fun h17 e17 => ?_)
  have hF := fx_letE hF h17 e17
  refine xr_aload_n C 0 dX5_readInto_20 rfl rfl ?_
  refine xr_iconst (v := -1) C dX5_readInto_21 (by decide) ?_
  refine xr_puti C fpX5_15 rfl rfl rfl dX5_readInto_22 ta0 (fun h22 e22 => ?_)
  have hF := fx_letE hF h22 e22
  refine xr_aload_n C 1 dX5_readInto_25 rfl rfl ?_
  obtain ⟨h26, e26, hF⟩ := fx_b1E hF
  refine xr_callVv C mvX5_31 [] [] (mX8_clear l G a1 ta1 h22 h26 e26) ta1 (by decide) vc8 rfl ⟨rfl, rfl, (Nat.le_of_ble_eq_true rfl), (Nat.le_of_ble_eq_true rfl)⟩ rfl (Nat.le_of_ble_eq_true rfl) dX5_readInto_26 ?_
  refine xr_aload_n C 0 dX5_readInto_29 rfl rfl ?_
  obtain ⟨h30, e30, hF⟩ := fx_b1E hF
  refine xr_callVv C mvX5_36 [] [] (mX5_advance l G a0 ta0 h26 h30 e30) ta0 (by decide) vc5 rfl ⟨rfl, rfl, (Nat.le_of_ble_eq_true rfl), (Nat.le_of_ble_eq_true rfl)⟩ rfl (Nat.le_of_ble_eq_true rfl) dX5_readInto_30 ?_
  refine xr_iconst (v := 0) C dX5_readInto_33 (by decide) ?_
  refine xr_istore_n C [(3, .int (0 : Int32)), (0, .ref (G.2.2.1 a0)), (1, .ref (G.2.2.1 a1)), (2, .int a2)] dX5_readInto_34 rfl (Nat.le_of_ble_eq_true rfl) rfl ?_
  refine xr_sub [1, 2, 0] [(0, .ref (G.2.2.1 a0)), (1, .ref (G.2.2.1 a1)), (3, .int (0 : Int32))] rfl ?_
  exact bX5_readInto_35 C  fx_N a0 a1 (0 : Int32) ta0 ta1 h30 hF
theorem dX6_spotOf_0 : decode cX6_spotOf 0 = .ok (.iconst 0, 1) := by decide +kernel
theorem dX6_spotOf_1 : decode cX6_spotOf 1 = .ok (.istore_n 2, 1) := by decide +kernel
theorem dX6_spotOf_2 : decode cX6_spotOf 2 = .ok (.iload_n 2, 1) := by decide +kernel
theorem dX6_spotOf_3 : decode cX6_spotOf 3 = .ok (.bipush 6, 2) := by decide +kernel
theorem dX6_spotOf_5 : decode cX6_spotOf 5 = .ok (.if_icmp .ge 23, 3) := by decide +kernel
theorem dX6_spotOf_8 : decode cX6_spotOf 8 = .ok (.aload_n 0, 1) := by decide +kernel
theorem dX6_spotOf_9 : decode cX6_spotOf 9 = .ok (.getfield 9, 3) := by decide +kernel
theorem dX6_spotOf_12 : decode cX6_spotOf 12 = .ok (.iload_n 2, 1) := by decide +kernel
theorem dX6_spotOf_13 : decode cX6_spotOf 13 = .ok (.iaload, 1) := by decide +kernel
theorem dX6_spotOf_14 : decode cX6_spotOf 14 = .ok (.iload_n 1, 1) := by decide +kernel
theorem dX6_spotOf_15 : decode cX6_spotOf 15 = .ok (.if_icmp .ne 7, 3) := by decide +kernel
theorem dX6_spotOf_18 : decode cX6_spotOf 18 = .ok (.iload_n 2, 1) := by decide +kernel
theorem dX6_spotOf_19 : decode cX6_spotOf 19 = .ok (.iconst 1, 1) := by decide +kernel
theorem dX6_spotOf_20 : decode cX6_spotOf 20 = .ok (.iadd, 1) := by decide +kernel
theorem dX6_spotOf_21 : decode cX6_spotOf 21 = .ok (.ireturn, 1) := by decide +kernel
theorem dX6_spotOf_22 : decode cX6_spotOf 22 = .ok (.iinc 2 1, 3) := by decide +kernel
theorem dX6_spotOf_25 : decode cX6_spotOf 25 = .ok (.goto (-23), 3) := by decide +kernel
theorem dX6_spotOf_28 : decode cX6_spotOf 28 = .ok (.iconst 0, 1) := by decide +kernel
theorem dX6_spotOf_29 : decode cX6_spotOf 29 = .ok (.ireturn, 1) := by decide +kernel
def fX6_spotOf_2  : Nat → Nat → Int32 → Int32 → hp_T → Option (Int32 × hp_T)
  | 0, _, _, _, _ => none
  | n + 1, a0, a1, a2, h => if (6 : Int32) ≤ a2 then (some ((0 : Int32), h)) else (fx_g (fx_in a2 6) (if (h.1 (h.2.2 a0 0) (fx_ix a2)) = a1 then (some ((a2 + (1 : Int32)), h)) else (fx_let (a2 + (1 : Int32)) fun (x22 : Int32) => fX6_spotOf_2 n a0 a1 x22 h)))
set_option maxRecDepth 100000 in
set_option maxHeartbeats 4000000 in
theorem bX6_spotOf_2 {l : Launch} {G : xr_G} {K : xr_K} {r : Int32} {h1 : hp_T} (C : xr_C G K cX6_spotOf RX6 3 (xr_R 0 0) (some .int) (some (xr_Qi G r h1)))  : ∀ (n : Nat) (a0 : Nat) (a1 : Int32) (a2 : Int32) (ta0 : hp_sh a0 = (6, 0)) (h : hp_T), fX6_spotOf_2 n a0 a1 a2 h = some (r, h1) → xr_j l G K 3 h [(0, .ref (G.2.2.1 a0)), (1, .int a1), (2, .int a2)] 2 [] := by
  intro n
  induction n with
  | zero =>
    intro a0 a1 a2 ta0 h hF
    cases hF
  | succ n ih =>
    intro a0 a1 a2 ta0 h hF
    rw [fX6_spotOf_2] at hF
    refine xr_iload_n C 2 dX6_spotOf_2 rfl rfl ?_
    refine xr_bipush (v := 6) C dX6_spotOf_3 (by decide) ?_
    refine xr_icmp_ge C 28 dX6_spotOf_5 (by decide) (fun c5 => ?_) (fun c5 => ?_)
    · have hF := fx_pos hF c5
      refine xr_iconst (v := 0) C dX6_spotOf_28 (by decide) ?_
      cases hF
      exact xr_iret C dX6_spotOf_29
    · have hF := fx_neg hF c5
      refine xr_aload_n C 0 dX6_spotOf_8 rfl rfl ?_
      refine xr_getr C flX6_9 rfl (by decide) dX6_spotOf_9 ta0 (fun t9 => ?_)
      refine xr_iload_n C 2 dX6_spotOf_12 rfl rfl ?_
      obtain ⟨g13, hF⟩ := fx_gE hF
      refine xr_iald C dX6_spotOf_13 t9 g13 ?_
      refine xr_iload_n C 1 dX6_spotOf_14 rfl rfl ?_
      refine xr_icmp_ne C 22 dX6_spotOf_15 (by decide) (fun c15 => ?_) (fun c15 => ?_)
      · have hF := fx_neg hF c15
        obtain ⟨x22, e22⟩ : ∃ y : Int32, y = (a2 + (1 : Int32)) := ⟨_, rfl⟩
        have hF := fx_letE hF x22 e22
        refine xr_iinc C x22 2 [(2, .int x22), (0, .ref (G.2.2.1 a0)), (1, .int a1)] dX6_spotOf_22 rfl (by rw [e22]; rfl) (Nat.le_of_ble_eq_true rfl) rfl ?_
        refine xr_goto C 2 dX6_spotOf_25 (by decide) ?_
        refine xr_sub [1, 2, 0] [(0, .ref (G.2.2.1 a0)), (1, .int a1), (2, .int x22)] rfl ?_
        exact ih a0 a1 x22 ta0 h hF
      · have hF := fx_pos hF c15
        refine xr_iload_n C 2 dX6_spotOf_18 rfl rfl ?_
        refine xr_iconst (v := 1) C dX6_spotOf_19 (by decide) ?_
        refine xr_iadd C dX6_spotOf_20 ?_
        cases hF
        exact xr_iret C dX6_spotOf_21
def fX6_spotOf (a0 : Nat) (a1 : Int32) (h : hp_T) : Option (Int32 × hp_T) := fX6_spotOf_2 fx_N a0 a1 (0 : Int32) h
set_option maxRecDepth 100000 in
set_option maxHeartbeats 4000000 in
theorem mX6_spotOf (l : Launch) (G : xr_G) (a0 : Nat) (a1 : Int32) (ta0 : hp_sh a0 = (6, 0)) (h h1 : hp_T) (r : Int32) (hF : fX6_spotOf a0 a1 h = some (r, h1)) : xr_M l G yX6_spotOf cX6_spotOf 3 (xr_R 0 0) (some .int) [.ref (G.2.2.1 a0), .int a1] h (xr_Qi G r h1) := by
  refine xr_start rfl (Nat.le_of_ble_eq_true rfl) (fun K C => ?_)
  show xr_j l G K 3 h [(0, .ref (G.2.2.1 a0)), (1, .int a1)] 0 []
  unfold fX6_spotOf at hF
  refine xr_iconst (v := 0) C dX6_spotOf_0 (by decide) ?_
  refine xr_istore_n C [(2, .int (0 : Int32)), (0, .ref (G.2.2.1 a0)), (1, .int a1)] dX6_spotOf_1 rfl (Nat.le_of_ble_eq_true rfl) rfl ?_
  refine xr_sub [1, 2, 0] [(0, .ref (G.2.2.1 a0)), (1, .int a1), (2, .int (0 : Int32))] rfl ?_
  exact bX6_spotOf_2 C  fx_N a0 a1 (0 : Int32) ta0 h hF
theorem dX6_exchange_0 : decode cX6_exchange 0 = .ok (.aload_n 0, 1) := by decide +kernel
theorem dX6_exchange_1 : decode cX6_exchange 1 = .ok (.iload_n 1, 1) := by decide +kernel
theorem dX6_exchange_2 : decode cX6_exchange 2 = .ok (.invokevirtual 64, 3) := by decide +kernel
theorem dX6_exchange_5 : decode cX6_exchange 5 = .ok (.istore_n 3, 1) := by decide +kernel
theorem dX6_exchange_6 : decode cX6_exchange 6 = .ok (.iload_n 3, 1) := by decide +kernel
theorem dX6_exchange_7 : decode cX6_exchange 7 = .ok (.ifCond .eq 12, 3) := by decide +kernel
theorem dX6_exchange_10 : decode cX6_exchange 10 = .ok (.aload_n 0, 1) := by decide +kernel
theorem dX6_exchange_11 : decode cX6_exchange 11 = .ok (.getfield 9, 3) := by decide +kernel
theorem dX6_exchange_14 : decode cX6_exchange 14 = .ok (.iload_n 3, 1) := by decide +kernel
theorem dX6_exchange_15 : decode cX6_exchange 15 = .ok (.iconst 1, 1) := by decide +kernel
theorem dX6_exchange_16 : decode cX6_exchange 16 = .ok (.isub, 1) := by decide +kernel
theorem dX6_exchange_17 : decode cX6_exchange 17 = .ok (.iload_n 2, 1) := by decide +kernel
theorem dX6_exchange_18 : decode cX6_exchange 18 = .ok (.iastore, 1) := by decide +kernel
theorem dX6_exchange_19 : decode cX6_exchange 19 = .ok (.aload_n 0, 1) := by decide +kernel
theorem dX6_exchange_20 : decode cX6_exchange 20 = .ok (.getfield 15, 3) := by decide +kernel
theorem dX6_exchange_23 : decode cX6_exchange 23 = .ok (.iload_n 1, 1) := by decide +kernel
theorem dX6_exchange_24 : decode cX6_exchange 24 = .ok (.iload_n 2, 1) := by decide +kernel
theorem dX6_exchange_25 : decode cX6_exchange 25 = .ok (.iastore, 1) := by decide +kernel
theorem dX6_exchange_26 : decode cX6_exchange 26 = .ok (.aload_n 0, 1) := by decide +kernel
theorem dX6_exchange_27 : decode cX6_exchange 27 = .ok (.getfield 15, 3) := by decide +kernel
theorem dX6_exchange_30 : decode cX6_exchange 30 = .ok (.iload_n 2, 1) := by decide +kernel
theorem dX6_exchange_31 : decode cX6_exchange 31 = .ok (.iload_n 1, 1) := by decide +kernel
theorem dX6_exchange_32 : decode cX6_exchange 32 = .ok (.iastore, 1) := by decide +kernel
theorem dX6_exchange_33 : decode cX6_exchange 33 = .ok (.aload_n 0, 1) := by decide +kernel
theorem dX6_exchange_34 : decode cX6_exchange 34 = .ok (.dup, 1) := by decide +kernel
theorem dX6_exchange_35 : decode cX6_exchange 35 = .ok (.getfield 55, 3) := by decide +kernel
theorem dX6_exchange_38 : decode cX6_exchange 38 = .ok (.iconst 1, 1) := by decide +kernel
theorem dX6_exchange_39 : decode cX6_exchange 39 = .ok (.isub, 1) := by decide +kernel
theorem dX6_exchange_40 : decode cX6_exchange 40 = .ok (.putfield 55, 3) := by decide +kernel
theorem dX6_exchange_43 : decode cX6_exchange 43 = .ok (.return_, 1) := by decide +kernel
def fX6_exchange_19  (a0 : Nat) (a1 : Int32) (a2 : Int32) (h : hp_T) : Option hp_T := fx_g (fx_in a1 12) (fx_let (hp_sI h (h.2.2 a0 1) (fx_ix a1) a2) fun (h25 : hp_T) => fx_g (fx_in a2 12) (fx_let (hp_sI h25 (h25.2.2 a0 1) (fx_ix a2) a1) fun (h32 : hp_T) => fx_let (hp_sI h32 a0 6 ((h32.1 a0 6) - (1 : Int32))) fun (h40 : hp_T) => some h40))
set_option maxRecDepth 100000 in
set_option maxHeartbeats 4000000 in
theorem bX6_exchange_19 {l : Launch} {G : xr_G} {K : xr_K} {h1 : hp_T} (C : xr_C G K cX6_exchange RX6 4 (xr_R 1 22) none (some (xr_Qv G h1)))  (a0 : Nat) (a1 : Int32) (a2 : Int32) (ta0 : hp_sh a0 = (6, 0)) (h : hp_T) (hF : fX6_exchange_19 a0 a1 a2 h = some h1) : xr_j l G K 4 h [(0, .ref (G.2.2.1 a0)), (1, .int a1), (2, .int a2)] 19 [] := by
  unfold fX6_exchange_19 at hF
  refine xr_aload_n C 0 dX6_exchange_19 rfl rfl ?_
  refine xr_getr C flX6_15 rfl (by decide) dX6_exchange_20 ta0 (fun t20 => ?_)
  refine xr_iload_n C 1 dX6_exchange_23 rfl rfl ?_
  refine xr_iload_n C 2 dX6_exchange_24 rfl rfl ?_
  obtain ⟨g25, hF⟩ := fx_gE hF
  refine xr_iast C dX6_exchange_25 t20 g25 (fun h25 e25 => ?_)
  have hF := fx_letE hF h25 e25
  refine xr_aload_n C 0 dX6_exchange_26 rfl rfl ?_
  refine xr_getr C flX6_15 rfl (by decide) dX6_exchange_27 ta0 (fun t27 => ?_)
  refine xr_iload_n C 2 dX6_exchange_30 rfl rfl ?_
  refine xr_iload_n C 1 dX6_exchange_31 rfl rfl ?_
  obtain ⟨g32, hF⟩ := fx_gE hF
  refine xr_iast C dX6_exchange_32 t27 g32 (fun h32 e32 => ?_)
  have hF := fx_letE hF h32 e32
  refine xr_aload_n C 0 dX6_exchange_33 rfl rfl ?_
  refine xr_dup C dX6_exchange_34 rfl ?_
  refine xr_geti C flX6_55 rfl dX6_exchange_35 ta0 ?_
  refine xr_iconst (v := 1) C dX6_exchange_38 (by decide) ?_
  refine xr_isub C dX6_exchange_39 ?_
  refine xr_puti C fpX6_55 rfl rfl rfl dX6_exchange_40 ta0 (fun h40 e40 => ?_)
  have hF := fx_letE hF h40 e40
  cases hF
  exact xr_vret C dX6_exchange_43
def fX6_exchange (a0 : Nat) (a1 : Int32) (a2 : Int32) (h : hp_T) : Option hp_T := fx_b2 (fX6_spotOf a0 a1 h) fun (r2 : Int32) (h2 : hp_T) => if r2 = 0 then (fX6_exchange_19 a0 a1 a2 h2) else (fx_g (fx_in (r2 - (1 : Int32)) 6) (fx_let (hp_sI h2 (h2.2.2 a0 0) (fx_ix (r2 - (1 : Int32))) a2) fun (h18 : hp_T) => fX6_exchange_19 a0 a1 a2 h18))
set_option maxRecDepth 100000 in
set_option maxHeartbeats 4000000 in
theorem mX6_exchange (l : Launch) (G : xr_G) (a0 : Nat) (a1 : Int32) (a2 : Int32) (ta0 : hp_sh a0 = (6, 0)) (h h1 : hp_T) (hF : fX6_exchange a0 a1 a2 h = some h1) : xr_M l G yX6_exchange cX6_exchange 4 (xr_R 1 22) none [.ref (G.2.2.1 a0), .int a1, .int a2] h (xr_Qv G h1) := by
  refine xr_start rfl (Nat.le_of_ble_eq_true rfl) (fun K C => ?_)
  show xr_j l G K 4 h [(0, .ref (G.2.2.1 a0)), (1, .int a1), (2, .int a2)] 0 []
  unfold fX6_exchange at hF
  refine xr_aload_n C 0 dX6_exchange_0 rfl rfl ?_
  refine xr_iload_n C 1 dX6_exchange_1 rfl rfl ?_
  obtain ⟨r2, h2, e2, hF⟩ := fx_b2E hF
  refine xr_callVi C mvX6_64 [.int a1] [] (mX6_spotOf l G a0 a1 ta0 h h2 r2 e2) ta0 (by decide) vc6 rfl ⟨rfl, rfl, (Nat.le_of_ble_eq_true rfl), (Nat.le_of_ble_eq_true rfl)⟩ rfl (Nat.le_of_ble_eq_true rfl) dX6_exchange_2 ?_
  refine xr_istore_n C [(3, .int r2), (0, .ref (G.2.2.1 a0)), (1, .int a1), (2, .int a2)] dX6_exchange_5 rfl (Nat.le_of_ble_eq_true rfl) rfl ?_
  refine xr_iload_n C 0 dX6_exchange_6 rfl rfl ?_
  refine xr_if_eq C 19 dX6_exchange_7 (by decide) (fun c7 => ?_) (fun c7 => ?_)
  · have hF := fx_pos hF c7
    refine xr_sub [1, 2, 3] [(0, .ref (G.2.2.1 a0)), (1, .int a1), (2, .int a2)] rfl ?_
    exact bX6_exchange_19 C   a0 a1 a2 ta0 h2 hF
  · have hF := fx_neg hF c7
    refine xr_aload_n C 1 dX6_exchange_10 rfl rfl ?_
    refine xr_getr C flX6_9 rfl (by decide) dX6_exchange_11 ta0 (fun t11 => ?_)
    refine xr_iload_n C 0 dX6_exchange_14 rfl rfl ?_
    refine xr_iconst (v := 1) C dX6_exchange_15 (by decide) ?_
    refine xr_isub C dX6_exchange_16 ?_
    refine xr_iload_n C 3 dX6_exchange_17 rfl rfl ?_
    obtain ⟨g18, hF⟩ := fx_gE hF
    refine xr_iast C dX6_exchange_18 t11 g18 (fun h18 e18 => ?_)
    have hF := fx_letE hF h18 e18
    refine xr_sub [1, 2, 3] [(0, .ref (G.2.2.1 a0)), (1, .int a1), (2, .int a2)] rfl ?_
    exact bX6_exchange_19 C   a0 a1 a2 ta0 h18 hF
theorem dX7_skill_0 : decode cX7_skill 0 = .ok (.aload_n 0, 1) := by decide +kernel
theorem dX7_skill_1 : decode cX7_skill 1 = .ok (.getfield 15, 3) := by decide +kernel
theorem dX7_skill_4 : decode cX7_skill 4 = .ok (.iload_n 1, 1) := by decide +kernel
theorem dX7_skill_5 : decode cX7_skill 5 = .ok (.iaload, 1) := by decide +kernel
theorem dX7_skill_6 : decode cX7_skill 6 = .ok (.aload_n 0, 1) := by decide +kernel
theorem dX7_skill_7 : decode cX7_skill 7 = .ok (.getfield 18, 3) := by decide +kernel
theorem dX7_skill_10 : decode cX7_skill 10 = .ok (.iload_n 1, 1) := by decide +kernel
theorem dX7_skill_11 : decode cX7_skill 11 = .ok (.iaload, 1) := by decide +kernel
theorem dX7_skill_12 : decode cX7_skill 12 = .ok (.iadd, 1) := by decide +kernel
theorem dX7_skill_13 : decode cX7_skill 13 = .ok (.aload_n 0, 1) := by decide +kernel
theorem dX7_skill_14 : decode cX7_skill 14 = .ok (.getfield 21, 3) := by decide +kernel
theorem dX7_skill_17 : decode cX7_skill 17 = .ok (.iload_n 1, 1) := by decide +kernel
theorem dX7_skill_18 : decode cX7_skill 18 = .ok (.iaload, 1) := by decide +kernel
theorem dX7_skill_19 : decode cX7_skill 19 = .ok (.iadd, 1) := by decide +kernel
theorem dX7_skill_20 : decode cX7_skill 20 = .ok (.ireturn, 1) := by decide +kernel
def fX7_skill (a0 : Nat) (a1 : Int32) (h : hp_T) : Option (Int32 × hp_T) := fx_g (fx_in a1 12) (fx_g (fx_in a1 12) (fx_g (fx_in a1 12) (some ((((h.1 (h.2.2 a0 1) (fx_ix a1)) + (h.1 (h.2.2 a0 2) (fx_ix a1))) + (h.1 (h.2.2 a0 3) (fx_ix a1))), h))))
set_option maxRecDepth 100000 in
set_option maxHeartbeats 4000000 in
theorem mX7_skill (l : Launch) (G : xr_G) (a0 : Nat) (a1 : Int32) (ta0 : hp_sh a0 = (7, 0)) (h h1 : hp_T) (r : Int32) (hF : fX7_skill a0 a1 h = some (r, h1)) : xr_M l G yX7_skill cX7_skill 2 (xr_R 0 0) (some .int) [.ref (G.2.2.1 a0), .int a1] h (xr_Qi G r h1) := by
  refine xr_start rfl (Nat.le_of_ble_eq_true rfl) (fun K C => ?_)
  show xr_j l G K 2 h [(0, .ref (G.2.2.1 a0)), (1, .int a1)] 0 []
  unfold fX7_skill at hF
  refine xr_aload_n C 0 dX7_skill_0 rfl rfl ?_
  refine xr_getr C flX7_15 rfl (by decide) dX7_skill_1 ta0 (fun t1 => ?_)
  refine xr_iload_n C 1 dX7_skill_4 rfl rfl ?_
  obtain ⟨g5, hF⟩ := fx_gE hF
  refine xr_iald C dX7_skill_5 t1 g5 ?_
  refine xr_aload_n C 0 dX7_skill_6 rfl rfl ?_
  refine xr_getr C flX7_18 rfl (by decide) dX7_skill_7 ta0 (fun t7 => ?_)
  refine xr_iload_n C 1 dX7_skill_10 rfl rfl ?_
  obtain ⟨g11, hF⟩ := fx_gE hF
  refine xr_iald C dX7_skill_11 t7 g11 ?_
  refine xr_iadd C dX7_skill_12 ?_
  refine xr_aload_n C 0 dX7_skill_13 rfl rfl ?_
  refine xr_getr C flX7_21 rfl (by decide) dX7_skill_14 ta0 (fun t14 => ?_)
  refine xr_iload_n C 1 dX7_skill_17 rfl rfl ?_
  obtain ⟨g18, hF⟩ := fx_gE hF
  refine xr_iald C dX7_skill_18 t14 g18 ?_
  refine xr_iadd C dX7_skill_19 ?_
  cases hF
  exact xr_iret C dX7_skill_20
theorem dX7_betterThan_0 : decode cX7_betterThan 0 = .ok (.iconst 0, 1) := by decide +kernel
theorem dX7_betterThan_1 : decode cX7_betterThan 1 = .ok (.istore_n 2, 1) := by decide +kernel
theorem dX7_betterThan_2 : decode cX7_betterThan 2 = .ok (.iconst 0, 1) := by decide +kernel
theorem dX7_betterThan_3 : decode cX7_betterThan 3 = .ok (.istore_n 3, 1) := by decide +kernel
theorem dX7_betterThan_4 : decode cX7_betterThan 4 = .ok (.iload_n 3, 1) := by decide +kernel
theorem dX7_betterThan_5 : decode cX7_betterThan 5 = .ok (.aload_n 0, 1) := by decide +kernel
theorem dX7_betterThan_6 : decode cX7_betterThan 6 = .ok (.getfield 31, 3) := by decide +kernel
theorem dX7_betterThan_9 : decode cX7_betterThan 9 = .ok (.if_icmp .ge 40, 3) := by decide +kernel
theorem dX7_betterThan_12 : decode cX7_betterThan 12 = .ok (.aload_n 0, 1) := by decide +kernel
theorem dX7_betterThan_13 : decode cX7_betterThan 13 = .ok (.iload_n 3, 1) := by decide +kernel
theorem dX7_betterThan_14 : decode cX7_betterThan 14 = .ok (.invokevirtual 37, 3) := by decide +kernel
theorem dX7_betterThan_17 : decode cX7_betterThan 17 = .ok (.aload_n 0, 1) := by decide +kernel
theorem dX7_betterThan_18 : decode cX7_betterThan 18 = .ok (.iload_n 1, 1) := by decide +kernel
theorem dX7_betterThan_19 : decode cX7_betterThan 19 = .ok (.invokevirtual 37, 3) := by decide +kernel
theorem dX7_betterThan_22 : decode cX7_betterThan 22 = .ok (.isub, 1) := by decide +kernel
theorem dX7_betterThan_23 : decode cX7_betterThan 23 = .ok (.istore 4, 2) := by decide +kernel
theorem dX7_betterThan_25 : decode cX7_betterThan 25 = .ok (.iload 4, 2) := by decide +kernel
theorem dX7_betterThan_27 : decode cX7_betterThan 27 = .ok (.ifCond .gt 13, 3) := by decide +kernel
theorem dX7_betterThan_30 : decode cX7_betterThan 30 = .ok (.iload 4, 2) := by decide +kernel
theorem dX7_betterThan_32 : decode cX7_betterThan 32 = .ok (.ifCond .ne 11, 3) := by decide +kernel
theorem dX7_betterThan_35 : decode cX7_betterThan 35 = .ok (.iload_n 3, 1) := by decide +kernel
theorem dX7_betterThan_36 : decode cX7_betterThan 36 = .ok (.iload_n 1, 1) := by decide +kernel
theorem dX7_betterThan_37 : decode cX7_betterThan 37 = .ok (.if_icmp .ge 6, 3) := by decide +kernel
theorem dX7_betterThan_40 : decode cX7_betterThan 40 = .ok (.iinc 2 1, 3) := by decide +kernel
theorem dX7_betterThan_43 : decode cX7_betterThan 43 = .ok (.iinc 3 1, 3) := by decide +kernel
theorem dX7_betterThan_46 : decode cX7_betterThan 46 = .ok (.goto (-42), 3) := by decide +kernel
theorem dX7_betterThan_49 : decode cX7_betterThan 49 = .ok (.iload_n 2, 1) := by decide +kernel
theorem dX7_betterThan_50 : decode cX7_betterThan 50 = .ok (.ireturn, 1) := by decide +kernel
def fX7_betterThan_43 (k4 : Nat → Int32 → Int32 → Int32 → hp_T → Option (Int32 × hp_T)) (a0 : Nat) (a1 : Int32) (a2 : Int32) (a3 : Int32) (h : hp_T) : Option (Int32 × hp_T) := fx_let (a3 + (1 : Int32)) fun (x43 : Int32) => k4 a0 a1 a2 x43 h
set_option maxRecDepth 100000 in
set_option maxHeartbeats 4000000 in
theorem bX7_betterThan_43 {l : Launch} {G : xr_G} {K : xr_K} {r : Int32} {h1 : hp_T} (C : xr_C G K cX7_betterThan RX7 5 (xr_R 1 21) (some .int) (some (xr_Qi G r h1))) (k4 : Nat → Int32 → Int32 → Int32 → hp_T → Option (Int32 × hp_T)) (j4 : ∀ (a0 : Nat) (a1 : Int32) (a2 : Int32) (a3 : Int32) (ta0 : hp_sh a0 = (7, 0)) (h : hp_T), k4 a0 a1 a2 a3 h = some (r, h1) → xr_j l G K 5 h [(0, .ref (G.2.2.1 a0)), (1, .int a1), (2, .int a2), (3, .int a3)] 4 []) (a0 : Nat) (a1 : Int32) (a2 : Int32) (a3 : Int32) (ta0 : hp_sh a0 = (7, 0)) (h : hp_T) (hF : fX7_betterThan_43 k4 a0 a1 a2 a3 h = some (r, h1)) : xr_j l G K 5 h [(0, .ref (G.2.2.1 a0)), (1, .int a1), (2, .int a2), (3, .int a3)] 43 [] := by
  unfold fX7_betterThan_43 at hF
  obtain ⟨x43, e43⟩ : ∃ y : Int32, y = (a3 + (1 : Int32)) := ⟨_, rfl⟩
  have hF := fx_letE hF x43 e43
  refine xr_iinc C x43 3 [(3, .int x43), (0, .ref (G.2.2.1 a0)), (1, .int a1), (2, .int a2)] dX7_betterThan_43 rfl (by rw [e43]; rfl) (Nat.le_of_ble_eq_true rfl) rfl ?_
  refine xr_goto C 4 dX7_betterThan_46 (by decide) ?_
  refine xr_sub [1, 2, 3, 0] [(0, .ref (G.2.2.1 a0)), (1, .int a1), (2, .int a2), (3, .int x43)] rfl ?_
  exact j4 a0 a1 a2 x43 ta0 h hF
def fX7_betterThan_40 (k4 : Nat → Int32 → Int32 → Int32 → hp_T → Option (Int32 × hp_T)) (a0 : Nat) (a1 : Int32) (a2 : Int32) (a3 : Int32) (h : hp_T) : Option (Int32 × hp_T) := fx_let (a2 + (1 : Int32)) fun (x40 : Int32) => fX7_betterThan_43 k4 a0 a1 x40 a3 h
set_option maxRecDepth 100000 in
set_option maxHeartbeats 4000000 in
theorem bX7_betterThan_40 {l : Launch} {G : xr_G} {K : xr_K} {r : Int32} {h1 : hp_T} (C : xr_C G K cX7_betterThan RX7 5 (xr_R 1 21) (some .int) (some (xr_Qi G r h1))) (k4 : Nat → Int32 → Int32 → Int32 → hp_T → Option (Int32 × hp_T)) (j4 : ∀ (a0 : Nat) (a1 : Int32) (a2 : Int32) (a3 : Int32) (ta0 : hp_sh a0 = (7, 0)) (h : hp_T), k4 a0 a1 a2 a3 h = some (r, h1) → xr_j l G K 5 h [(0, .ref (G.2.2.1 a0)), (1, .int a1), (2, .int a2), (3, .int a3)] 4 []) (a0 : Nat) (a1 : Int32) (a2 : Int32) (a3 : Int32) (ta0 : hp_sh a0 = (7, 0)) (h : hp_T) (hF : fX7_betterThan_40 k4 a0 a1 a2 a3 h = some (r, h1)) : xr_j l G K 5 h [(0, .ref (G.2.2.1 a0)), (1, .int a1), (2, .int a2), (3, .int a3)] 40 [] := by
  unfold fX7_betterThan_40 at hF
  obtain ⟨x40, e40⟩ : ∃ y : Int32, y = (a2 + (1 : Int32)) := ⟨_, rfl⟩
  have hF := fx_letE hF x40 e40
  refine xr_iinc C x40 2 [(2, .int x40), (0, .ref (G.2.2.1 a0)), (1, .int a1), (3, .int a3)] dX7_betterThan_40 rfl (by rw [e40]; rfl) (Nat.le_of_ble_eq_true rfl) rfl ?_
  refine xr_sub [1, 2, 0, 3] [(0, .ref (G.2.2.1 a0)), (1, .int a1), (2, .int x40), (3, .int a3)] rfl ?_
  exact bX7_betterThan_43 C k4 j4  a0 a1 x40 a3 ta0 h hF
def fX7_betterThan_4  : Nat → Nat → Int32 → Int32 → Int32 → hp_T → Option (Int32 × hp_T)
  | 0, _, _, _, _, _ => none
  | n + 1, a0, a1, a2, a3, h => if (h.1 a0 5) ≤ a3 then (some (a2, h)) else (fx_b2 (fX7_skill a0 a3 h) fun (r14 : Int32) (h14 : hp_T) => fx_b2 (fX7_skill a0 a1 h14) fun (r19 : Int32) (h19 : hp_T) => fx_let (r14 - r19) fun (x23 : Int32) => if 0 < x23 then (fX7_betterThan_40 (fX7_betterThan_4 n) a0 a1 a2 a3 h19) else (if x23 = 0 then (if a1 ≤ a3 then (fX7_betterThan_43 (fX7_betterThan_4 n) a0 a1 a2 a3 h19) else (fX7_betterThan_40 (fX7_betterThan_4 n) a0 a1 a2 a3 h19)) else (fX7_betterThan_43 (fX7_betterThan_4 n) a0 a1 a2 a3 h19)))
set_option maxRecDepth 100000 in
set_option maxHeartbeats 4000000 in
theorem bX7_betterThan_4 {l : Launch} {G : xr_G} {K : xr_K} {r : Int32} {h1 : hp_T} (C : xr_C G K cX7_betterThan RX7 5 (xr_R 1 21) (some .int) (some (xr_Qi G r h1)))  : ∀ (n : Nat) (a0 : Nat) (a1 : Int32) (a2 : Int32) (a3 : Int32) (ta0 : hp_sh a0 = (7, 0)) (h : hp_T), fX7_betterThan_4 n a0 a1 a2 a3 h = some (r, h1) → xr_j l G K 5 h [(0, .ref (G.2.2.1 a0)), (1, .int a1), (2, .int a2), (3, .int a3)] 4 [] := by
  intro n
  induction n with
  | zero =>
    intro a0 a1 a2 a3 ta0 h hF
    cases hF
  | succ n ih =>
    intro a0 a1 a2 a3 ta0 h hF
    rw [fX7_betterThan_4] at hF
    refine xr_iload_n C 3 dX7_betterThan_4 rfl rfl ?_
    refine xr_aload_n C 0 dX7_betterThan_5 rfl rfl ?_
    refine xr_geti C flX7_31 rfl dX7_betterThan_6 ta0 ?_
    refine xr_icmp_ge C 49 dX7_betterThan_9 (by decide) (fun c9 => ?_) (fun c9 => ?_)
    · have hF := fx_pos hF c9
      refine xr_iload_n C 2 dX7_betterThan_49 rfl rfl ?_
      cases hF
      exact xr_iret C dX7_betterThan_50
    · have hF := fx_neg hF c9
      refine xr_aload_n C 0 dX7_betterThan_12 rfl rfl ?_
      refine xr_iload_n C 3 dX7_betterThan_13 rfl rfl ?_
      obtain ⟨r14, h14, e14, hF⟩ := fx_b2E hF
      refine xr_callVi C mvX7_37 [.int a3] [] (mX7_skill l G a0 a3 ta0 h h14 r14 e14) ta0 (by decide) vc7 rfl ⟨rfl, rfl, (Nat.le_of_ble_eq_true rfl), (Nat.le_of_ble_eq_true rfl)⟩ rfl (Nat.le_of_ble_eq_true rfl) dX7_betterThan_14 ?_
      refine xr_aload_n C 0 dX7_betterThan_17 rfl rfl ?_
      refine xr_iload_n C 1 dX7_betterThan_18 rfl rfl ?_
      obtain ⟨r19, h19, e19, hF⟩ := fx_b2E hF
      refine xr_callVi C mvX7_37 [.int a1] [.int r14] (mX7_skill l G a0 a1 ta0 h14 h19 r19 e19) ta0 (by decide) vc7 rfl ⟨rfl, rfl, (Nat.le_of_ble_eq_true rfl), (Nat.le_of_ble_eq_true rfl)⟩ rfl (Nat.le_of_ble_eq_true rfl) dX7_betterThan_19 ?_
      refine xr_isub C dX7_betterThan_22 ?_
      refine xr_topi (fun x23 e23 => ?_)
      have hF := fx_letE hF x23 e23
      refine xr_istore C [(4, .int x23), (0, .ref (G.2.2.1 a0)), (1, .int a1), (2, .int a2), (3, .int a3)] dX7_betterThan_23 (Nat.le_of_ble_eq_true rfl) rfl ?_
      refine xr_iload C 0 dX7_betterThan_25 rfl ?_
      refine xr_if_gt C 40 dX7_betterThan_27 (by decide) (fun c27 => ?_) (fun c27 => ?_)
      · have hF := fx_pos hF c27
        refine xr_sub [1, 2, 3, 4] [(0, .ref (G.2.2.1 a0)), (1, .int a1), (2, .int a2), (3, .int a3)] rfl ?_
        exact bX7_betterThan_40 C (fX7_betterThan_4 n) (fun a0 a1 a2 a3 ta0 h hF => ih a0 a1 a2 a3 ta0 h hF)  a0 a1 a2 a3 ta0 h19 hF
      · have hF := fx_neg hF c27
        refine xr_iload C 0 dX7_betterThan_30 rfl ?_
        refine xr_if_ne C 43 dX7_betterThan_32 (by decide) (fun c32 => ?_) (fun c32 => ?_)
        · have hF := fx_neg hF c32
          refine xr_sub [1, 2, 3, 4] [(0, .ref (G.2.2.1 a0)), (1, .int a1), (2, .int a2), (3, .int a3)] rfl ?_
          exact bX7_betterThan_43 C (fX7_betterThan_4 n) (fun a0 a1 a2 a3 ta0 h hF => ih a0 a1 a2 a3 ta0 h hF)  a0 a1 a2 a3 ta0 h19 hF
        · have hF := fx_pos hF c32
          refine xr_iload_n C 4 dX7_betterThan_35 rfl rfl ?_
          refine xr_iload_n C 2 dX7_betterThan_36 rfl rfl ?_
          refine xr_icmp_ge C 43 dX7_betterThan_37 (by decide) (fun c37 => ?_) (fun c37 => ?_)
          · have hF := fx_pos hF c37
            refine xr_sub [1, 2, 3, 4] [(0, .ref (G.2.2.1 a0)), (1, .int a1), (2, .int a2), (3, .int a3)] rfl ?_
            exact bX7_betterThan_43 C (fX7_betterThan_4 n) (fun a0 a1 a2 a3 ta0 h hF => ih a0 a1 a2 a3 ta0 h hF)  a0 a1 a2 a3 ta0 h19 hF
          · have hF := fx_neg hF c37
            refine xr_sub [1, 2, 3, 4] [(0, .ref (G.2.2.1 a0)), (1, .int a1), (2, .int a2), (3, .int a3)] rfl ?_
            exact bX7_betterThan_40 C (fX7_betterThan_4 n) (fun a0 a1 a2 a3 ta0 h hF => ih a0 a1 a2 a3 ta0 h hF)  a0 a1 a2 a3 ta0 h19 hF
def fX7_betterThan (a0 : Nat) (a1 : Int32) (h : hp_T) : Option (Int32 × hp_T) := fX7_betterThan_4 fx_N a0 a1 (0 : Int32) (0 : Int32) h
set_option maxRecDepth 100000 in
set_option maxHeartbeats 4000000 in
theorem mX7_betterThan (l : Launch) (G : xr_G) (a0 : Nat) (a1 : Int32) (ta0 : hp_sh a0 = (7, 0)) (h h1 : hp_T) (r : Int32) (hF : fX7_betterThan a0 a1 h = some (r, h1)) : xr_M l G yX7_betterThan cX7_betterThan 5 (xr_R 1 21) (some .int) [.ref (G.2.2.1 a0), .int a1] h (xr_Qi G r h1) := by
  refine xr_start rfl (Nat.le_of_ble_eq_true rfl) (fun K C => ?_)
  show xr_j l G K 5 h [(0, .ref (G.2.2.1 a0)), (1, .int a1)] 0 []
  unfold fX7_betterThan at hF
  refine xr_iconst (v := 0) C dX7_betterThan_0 (by decide) ?_
  refine xr_istore_n C [(2, .int (0 : Int32)), (0, .ref (G.2.2.1 a0)), (1, .int a1)] dX7_betterThan_1 rfl (Nat.le_of_ble_eq_true rfl) rfl ?_
  refine xr_iconst (v := 0) C dX7_betterThan_2 (by decide) ?_
  refine xr_istore_n C [(3, .int (0 : Int32)), (2, .int (0 : Int32)), (0, .ref (G.2.2.1 a0)), (1, .int a1)] dX7_betterThan_3 rfl (Nat.le_of_ble_eq_true rfl) rfl ?_
  refine xr_sub [2, 3, 1, 0] [(0, .ref (G.2.2.1 a0)), (1, .int a1), (2, .int (0 : Int32)), (3, .int (0 : Int32))] rfl ?_
  exact bX7_betterThan_4 C  fx_N a0 a1 (0 : Int32) (0 : Int32) ta0 h hF
theorem dX9_feed_0 : decode cX9_feed 0 = .ok (.aload_n 0, 1) := by decide +kernel
theorem dX9_feed_1 : decode cX9_feed 1 = .ok (.getfield 12, 3) := by decide +kernel
theorem dX9_feed_4 : decode cX9_feed 4 = .ok (.getfield 75, 3) := by decide +kernel
theorem dX9_feed_7 : decode cX9_feed 7 = .ok (.bipush 20, 2) := by decide +kernel
theorem dX9_feed_9 : decode cX9_feed 9 = .ok (.iadd, 1) := by decide +kernel
theorem dX9_feed_10 : decode cX9_feed 10 = .ok (.sipush 900, 3) := by decide +kernel
theorem dX9_feed_13 : decode cX9_feed 13 = .ok (.if_icmp .le 5, 3) := by decide +kernel
theorem dX9_feed_16 : decode cX9_feed 16 = .ok (.iconst (-1), 1) := by decide +kernel
theorem dX9_feed_17 : decode cX9_feed 17 = .ok (.ireturn, 1) := by decide +kernel
theorem dX9_feed_18 : decode cX9_feed 18 = .ok (.aload_n 0, 1) := by decide +kernel
theorem dX9_feed_19 : decode cX9_feed 19 = .ok (.getfield 12, 3) := by decide +kernel
theorem dX9_feed_22 : decode cX9_feed 22 = .ok (.iload_n 1, 1) := by decide +kernel
theorem dX9_feed_23 : decode cX9_feed 23 = .ok (.invokevirtual 79, 3) := by decide +kernel
theorem dX9_feed_26 : decode cX9_feed 26 = .ok (.aload_n 0, 1) := by decide +kernel
theorem dX9_feed_27 : decode cX9_feed 27 = .ok (.getfield 12, 3) := by decide +kernel
theorem dX9_feed_30 : decode cX9_feed 30 = .ok (.iload_n 2, 1) := by decide +kernel
theorem dX9_feed_31 : decode cX9_feed 31 = .ok (.invokevirtual 79, 3) := by decide +kernel
theorem dX9_feed_34 : decode cX9_feed 34 = .ok (.aload_n 0, 1) := by decide +kernel
theorem dX9_feed_35 : decode cX9_feed 35 = .ok (.getfield 12, 3) := by decide +kernel
theorem dX9_feed_38 : decode cX9_feed 38 = .ok (.iload_n 3, 1) := by decide +kernel
theorem dX9_feed_39 : decode cX9_feed 39 = .ok (.invokevirtual 79, 3) := by decide +kernel
theorem dX9_feed_42 : decode cX9_feed 42 = .ok (.aload_n 0, 1) := by decide +kernel
theorem dX9_feed_43 : decode cX9_feed 43 = .ok (.getfield 12, 3) := by decide +kernel
theorem dX9_feed_46 : decode cX9_feed 46 = .ok (.iload 4, 2) := by decide +kernel
theorem dX9_feed_48 : decode cX9_feed 48 = .ok (.invokevirtual 79, 3) := by decide +kernel
theorem dX9_feed_51 : decode cX9_feed 51 = .ok (.aload_n 0, 1) := by decide +kernel
theorem dX9_feed_52 : decode cX9_feed 52 = .ok (.getfield 12, 3) := by decide +kernel
theorem dX9_feed_55 : decode cX9_feed 55 = .ok (.iload 5, 2) := by decide +kernel
theorem dX9_feed_57 : decode cX9_feed 57 = .ok (.invokevirtual 79, 3) := by decide +kernel
theorem dX9_feed_60 : decode cX9_feed 60 = .ok (.aload_n 0, 1) := by decide +kernel
theorem dX9_feed_61 : decode cX9_feed 61 = .ok (.getfield 12, 3) := by decide +kernel
theorem dX9_feed_64 : decode cX9_feed 64 = .ok (.getfield 75, 3) := by decide +kernel
theorem dX9_feed_67 : decode cX9_feed 67 = .ok (.ireturn, 1) := by decide +kernel
def fX9_feed (a0 : Nat) (a1 : Int32) (a2 : Int32) (a3 : Int32) (a4 : Int32) (a5 : Int32) (h : hp_T) : Option (Int32 × hp_T) := if ((h.1 (h.2.2 a0 0) 1) + (20 : Int32)) ≤ (900 : Int32) then (fx_b1 (fX5_take (h.2.2 a0 0) a1 h) fun (h23 : hp_T) => fx_b1 (fX5_take (h23.2.2 a0 0) a2 h23) fun (h31 : hp_T) => fx_b1 (fX5_take (h31.2.2 a0 0) a3 h31) fun (h39 : hp_T) => fx_b1 (fX5_take (h39.2.2 a0 0) a4 h39) fun (h48 : hp_T) => fx_b1 (fX5_take (h48.2.2 a0 0) a5 h48) fun (h57 : hp_T) => some ((h57.1 (h57.2.2 a0 0) 1), h57)) else (some ((-1 : Int32), h))
set_option maxRecDepth 100000 in
set_option maxHeartbeats 4000000 in
theorem mX9_feed (l : Launch) (G : xr_G) (a0 : Nat) (a1 : Int32) (a2 : Int32) (a3 : Int32) (a4 : Int32) (a5 : Int32) (ta0 : hp_sh a0 = (9, 0)) (h h1 : hp_T) (r : Int32) (hF : fX9_feed a0 a1 a2 a3 a4 a5 h = some (r, h1)) : xr_M l G yX9_feed cX9_feed 6 (xr_R 1 22) (some .int) [.ref (G.2.2.1 a0), .int a1, .int a2, .int a3, .int a4, .int a5] h (xr_Qi G r h1) := by
  refine xr_start rfl (Nat.le_of_ble_eq_true rfl) (fun K C => ?_)
  show xr_j l G K 6 h [(0, .ref (G.2.2.1 a0)), (1, .int a1), (2, .int a2), (3, .int a3), (4, .int a4), (5, .int a5)] 0 []
  unfold fX9_feed at hF
  refine xr_aload_n C 0 dX9_feed_0 rfl rfl ?_
  refine xr_getr C flX9_12 rfl (by decide) dX9_feed_1 ta0 (fun t1 => ?_)
  refine xr_geti C flX9_75 rfl dX9_feed_4 t1 ?_
  refine xr_bipush (v := 20) C dX9_feed_7 (by decide) ?_
  refine xr_iadd C dX9_feed_9 ?_
  refine xr_sipush (v := 900) C dX9_feed_10 (by decide) ?_
  refine xr_icmp_le C 18 dX9_feed_13 (by decide) (fun c13 => ?_) (fun c13 => ?_)
  · have hF := fx_pos hF c13
    refine xr_aload_n C 0 dX9_feed_18 rfl rfl ?_
    refine xr_getr C flX9_12 rfl (by decide) dX9_feed_19 ta0 (fun t19 => ?_)
    refine xr_iload_n C 1 dX9_feed_22 rfl rfl ?_
    obtain ⟨h23, e23, hF⟩ := fx_b1E hF
    refine xr_callVv C mvX9_79 [.int a1] [] (mX5_take l G (h.2.2 a0 0) a1 t19 h h23 e23) t19 (by decide) vc5 rfl ⟨rfl, rfl, (Nat.le_of_ble_eq_true rfl), (Nat.le_of_ble_eq_true rfl)⟩ rfl (Nat.le_of_ble_eq_true rfl) dX9_feed_23 ?_
    refine xr_aload_n C 0 dX9_feed_26 rfl rfl ?_
    refine xr_getr C flX9_12 rfl (by decide) dX9_feed_27 ta0 (fun t27 => ?_)
    refine xr_iload_n C 2 dX9_feed_30 rfl rfl ?_
    obtain ⟨h31, e31, hF⟩ := fx_b1E hF
    refine xr_callVv C mvX9_79 [.int a2] [] (mX5_take l G (h23.2.2 a0 0) a2 t27 h23 h31 e31) t27 (by decide) vc5 rfl ⟨rfl, rfl, (Nat.le_of_ble_eq_true rfl), (Nat.le_of_ble_eq_true rfl)⟩ rfl (Nat.le_of_ble_eq_true rfl) dX9_feed_31 ?_
    refine xr_aload_n C 0 dX9_feed_34 rfl rfl ?_
    refine xr_getr C flX9_12 rfl (by decide) dX9_feed_35 ta0 (fun t35 => ?_)
    refine xr_iload_n C 3 dX9_feed_38 rfl rfl ?_
    obtain ⟨h39, e39, hF⟩ := fx_b1E hF
    refine xr_callVv C mvX9_79 [.int a3] [] (mX5_take l G (h31.2.2 a0 0) a3 t35 h31 h39 e39) t35 (by decide) vc5 rfl ⟨rfl, rfl, (Nat.le_of_ble_eq_true rfl), (Nat.le_of_ble_eq_true rfl)⟩ rfl (Nat.le_of_ble_eq_true rfl) dX9_feed_39 ?_
    refine xr_aload_n C 0 dX9_feed_42 rfl rfl ?_
    refine xr_getr C flX9_12 rfl (by decide) dX9_feed_43 ta0 (fun t43 => ?_)
    refine xr_iload C 4 dX9_feed_46 rfl ?_
    obtain ⟨h48, e48, hF⟩ := fx_b1E hF
    refine xr_callVv C mvX9_79 [.int a4] [] (mX5_take l G (h39.2.2 a0 0) a4 t43 h39 h48 e48) t43 (by decide) vc5 rfl ⟨rfl, rfl, (Nat.le_of_ble_eq_true rfl), (Nat.le_of_ble_eq_true rfl)⟩ rfl (Nat.le_of_ble_eq_true rfl) dX9_feed_48 ?_
    refine xr_aload_n C 0 dX9_feed_51 rfl rfl ?_
    refine xr_getr C flX9_12 rfl (by decide) dX9_feed_52 ta0 (fun t52 => ?_)
    refine xr_iload C 5 dX9_feed_55 rfl ?_
    obtain ⟨h57, e57, hF⟩ := fx_b1E hF
    refine xr_callVv C mvX9_79 [.int a5] [] (mX5_take l G (h48.2.2 a0 0) a5 t52 h48 h57 e57) t52 (by decide) vc5 rfl ⟨rfl, rfl, (Nat.le_of_ble_eq_true rfl), (Nat.le_of_ble_eq_true rfl)⟩ rfl (Nat.le_of_ble_eq_true rfl) dX9_feed_57 ?_
    refine xr_aload_n C 0 dX9_feed_60 rfl rfl ?_
    refine xr_getr C flX9_12 rfl (by decide) dX9_feed_61 ta0 (fun t61 => ?_)
    refine xr_geti C flX9_75 rfl dX9_feed_64 t61 ?_
    cases hF
    exact xr_iret C dX9_feed_67
  · have hF := fx_neg hF c13
    refine xr_iconst (v := -1) C dX9_feed_16 (by decide) ?_
    cases hF
    exact xr_iret C dX9_feed_17
theorem dX9_forgetSubBests_0 : decode cX9_forgetSubBests 0 = .ok (.aload_n 0, 1) := by decide +kernel
theorem dX9_forgetSubBests_1 : decode cX9_forgetSubBests 1 = .ok (.getfield 58, 3) := by decide +kernel
theorem dX9_forgetSubBests_4 : decode cX9_forgetSubBests 4 = .ok (.iconst 0, 1) := by decide +kernel
theorem dX9_forgetSubBests_5 : decode cX9_forgetSubBests 5 = .ok (.aaload, 1) := by decide +kernel
theorem dX9_forgetSubBests_6 : decode cX9_forgetSubBests 6 = .ok (.invokevirtual 320, 3) := by decide +kernel
theorem dX9_forgetSubBests_9 : decode cX9_forgetSubBests 9 = .ok (.aload_n 0, 1) := by decide +kernel
theorem dX9_forgetSubBests_10 : decode cX9_forgetSubBests 10 = .ok (.getfield 58, 3) := by decide +kernel
theorem dX9_forgetSubBests_13 : decode cX9_forgetSubBests 13 = .ok (.iconst 1, 1) := by decide +kernel
theorem dX9_forgetSubBests_14 : decode cX9_forgetSubBests 14 = .ok (.aaload, 1) := by decide +kernel
theorem dX9_forgetSubBests_15 : decode cX9_forgetSubBests 15 = .ok (.invokevirtual 320, 3) := by decide +kernel
theorem dX9_forgetSubBests_18 : decode cX9_forgetSubBests 18 = .ok (.return_, 1) := by decide +kernel
def fX9_forgetSubBests (a0 : Nat) (h : hp_T) : Option hp_T := fx_b1 (fX0_clear (h.2.2 (h.2.2 a0 9) (fx_ix (0 : Int32))) h) fun (h6 : hp_T) => fx_b1 (fX0_clear (h6.2.2 (h6.2.2 a0 9) (fx_ix (1 : Int32))) h6) fun (h15 : hp_T) => some h15
set_option maxRecDepth 100000 in
set_option maxHeartbeats 4000000 in
theorem mX9_forgetSubBests (l : Launch) (G : xr_G) (a0 : Nat) (ta0 : hp_sh a0 = (9, 0)) (h h1 : hp_T) (hF : fX9_forgetSubBests a0 h = some h1) : xr_M l G yX9_forgetSubBests cX9_forgetSubBests 1 (xr_R 1 20) none [.ref (G.2.2.1 a0)] h (xr_Qv G h1) := by
  refine xr_start rfl (Nat.le_of_ble_eq_true rfl) (fun K C => ?_)
  show xr_j l G K 1 h [(0, .ref (G.2.2.1 a0))] 0 []
  unfold fX9_forgetSubBests at hF
  refine xr_aload_n C 0 dX9_forgetSubBests_0 rfl rfl ?_
  refine xr_getr C flX9_58 rfl (by decide) dX9_forgetSubBests_1 ta0 (fun t1 => ?_)
  refine xr_iconst (v := 0) C dX9_forgetSubBests_4 (by decide) ?_
  refine xr_aald24 C dX9_forgetSubBests_5 t1 (by decide) (fun t5 => ?_)
  obtain ⟨h6, e6, hF⟩ := fx_b1E hF
  refine xr_callVv C mvX9_320 [] [] (mX0_clear l G (h.2.2 (h.2.2 a0 9) (fx_ix (0 : Int32))) t5 h h6 e6) t5 (by decide) vc0 rfl ⟨rfl, rfl, (Nat.le_of_ble_eq_true rfl), (Nat.le_of_ble_eq_true rfl)⟩ rfl (Nat.le_of_ble_eq_true rfl) dX9_forgetSubBests_6 ?_
  refine xr_aload_n C 0 dX9_forgetSubBests_9 rfl rfl ?_
  refine xr_getr C flX9_58 rfl (by decide) dX9_forgetSubBests_10 ta0 (fun t10 => ?_)
  refine xr_iconst (v := 1) C dX9_forgetSubBests_13 (by decide) ?_
  refine xr_aald24 C dX9_forgetSubBests_14 t10 (by decide) (fun t14 => ?_)
  obtain ⟨h15, e15, hF⟩ := fx_b1E hF
  refine xr_callVv C mvX9_320 [] [] (mX0_clear l G (h6.2.2 (h6.2.2 a0 9) (fx_ix (1 : Int32))) t14 h6 h15 e15) t14 (by decide) vc0 rfl ⟨rfl, rfl, (Nat.le_of_ble_eq_true rfl), (Nat.le_of_ble_eq_true rfl)⟩ rfl (Nat.le_of_ble_eq_true rfl) dX9_forgetSubBests_15 ?_
  cases hF
  exact xr_vret C dX9_forgetSubBests_18
theorem dX9_beginSet_0 : decode cX9_beginSet 0 = .ok (.aload_n 0, 1) := by decide +kernel
theorem dX9_beginSet_1 : decode cX9_beginSet 1 = .ok (.iconst 1, 1) := by decide +kernel
theorem dX9_beginSet_2 : decode cX9_beginSet 2 = .ok (.putfield 113, 3) := by decide +kernel
theorem dX9_beginSet_5 : decode cX9_beginSet 5 = .ok (.aload_n 0, 1) := by decide +kernel
theorem dX9_beginSet_6 : decode cX9_beginSet 6 = .ok (.iconst 0, 1) := by decide +kernel
theorem dX9_beginSet_7 : decode cX9_beginSet 7 = .ok (.putfield 134, 3) := by decide +kernel
theorem dX9_beginSet_10 : decode cX9_beginSet 10 = .ok (.aload_n 0, 1) := by decide +kernel
theorem dX9_beginSet_11 : decode cX9_beginSet 11 = .ok (.iconst 0, 1) := by decide +kernel
theorem dX9_beginSet_12 : decode cX9_beginSet 12 = .ok (.putfield 137, 3) := by decide +kernel
theorem dX9_beginSet_15 : decode cX9_beginSet 15 = .ok (.aload_n 0, 1) := by decide +kernel
theorem dX9_beginSet_16 : decode cX9_beginSet 16 = .ok (.iconst 0, 1) := by decide +kernel
theorem dX9_beginSet_17 : decode cX9_beginSet 17 = .ok (.putfield 140, 3) := by decide +kernel
theorem dX9_beginSet_20 : decode cX9_beginSet 20 = .ok (.aload_n 0, 1) := by decide +kernel
theorem dX9_beginSet_21 : decode cX9_beginSet 21 = .ok (.getfield 62, 3) := by decide +kernel
theorem dX9_beginSet_24 : decode cX9_beginSet 24 = .ok (.iconst 0, 1) := by decide +kernel
theorem dX9_beginSet_25 : decode cX9_beginSet 25 = .ok (.aaload, 1) := by decide +kernel
theorem dX9_beginSet_26 : decode cX9_beginSet 26 = .ok (.iconst 0, 1) := by decide +kernel
theorem dX9_beginSet_27 : decode cX9_beginSet 27 = .ok (.putfield 143, 3) := by decide +kernel
theorem dX9_beginSet_30 : decode cX9_beginSet 30 = .ok (.aload_n 0, 1) := by decide +kernel
theorem dX9_beginSet_31 : decode cX9_beginSet 31 = .ok (.getfield 62, 3) := by decide +kernel
theorem dX9_beginSet_34 : decode cX9_beginSet 34 = .ok (.iconst 1, 1) := by decide +kernel
theorem dX9_beginSet_35 : decode cX9_beginSet 35 = .ok (.aaload, 1) := by decide +kernel
theorem dX9_beginSet_36 : decode cX9_beginSet 36 = .ok (.iconst 0, 1) := by decide +kernel
theorem dX9_beginSet_37 : decode cX9_beginSet 37 = .ok (.putfield 143, 3) := by decide +kernel
theorem dX9_beginSet_40 : decode cX9_beginSet 40 = .ok (.aload_n 0, 1) := by decide +kernel
theorem dX9_beginSet_41 : decode cX9_beginSet 41 = .ok (.getfield 33, 3) := by decide +kernel
theorem dX9_beginSet_44 : decode cX9_beginSet 44 = .ok (.aload_n 0, 1) := by decide +kernel
theorem dX9_beginSet_45 : decode cX9_beginSet 45 = .ok (.getfield 68, 3) := by decide +kernel
theorem dX9_beginSet_48 : decode cX9_beginSet 48 = .ok (.invokevirtual 146, 3) := by decide +kernel
theorem dX9_beginSet_51 : decode cX9_beginSet 51 = .ok (.aload_n 0, 1) := by decide +kernel
theorem dX9_beginSet_52 : decode cX9_beginSet 52 = .ok (.invokevirtual 150, 3) := by decide +kernel
theorem dX9_beginSet_55 : decode cX9_beginSet 55 = .ok (.return_, 1) := by decide +kernel
def fX9_beginSet (a0 : Nat) (h : hp_T) : Option hp_T := fx_let (hp_sI h a0 13 (1 : Int32)) fun (h2 : hp_T) => fx_let (hp_sI h2 a0 15 (0 : Int32)) fun (h7 : hp_T) => fx_let (hp_sI h7 a0 16 (0 : Int32)) fun (h12 : hp_T) => fx_let (hp_sI h12 a0 14 (0 : Int32)) fun (h17 : hp_T) => fx_let (hp_sI h17 (h17.2.2 (h17.2.2 a0 10) (fx_ix (0 : Int32))) 0 (0 : Int32)) fun (h27 : hp_T) => fx_let (hp_sI h27 (h27.2.2 (h27.2.2 a0 10) (fx_ix (1 : Int32))) 0 (0 : Int32)) fun (h37 : hp_T) => fx_b1 (fX1_begin (h37.2.2 a0 3) (h37.2.2 a0 11) h37) fun (h48 : hp_T) => fx_b1 (fX9_forgetSubBests a0 h48) fun (h52 : hp_T) => some h52
set_option maxRecDepth 100000 in
set_option maxHeartbeats 4000000 in
theorem mX9_beginSet (l : Launch) (G : xr_G) (a0 : Nat) (ta0 : hp_sh a0 = (9, 0)) (h h1 : hp_T) (hF : fX9_beginSet a0 h = some h1) : xr_M l G yX9_beginSet cX9_beginSet 1 (xr_R 3 103) none [.ref (G.2.2.1 a0)] h (xr_Qv G h1) := by
  refine xr_start rfl (Nat.le_of_ble_eq_true rfl) (fun K C => ?_)
  show xr_j l G K 1 h [(0, .ref (G.2.2.1 a0))] 0 []
  unfold fX9_beginSet at hF
  refine xr_aload_n C 0 dX9_beginSet_0 rfl rfl ?_
  refine xr_iconst (v := 1) C dX9_beginSet_1 (by decide) ?_
  refine xr_puti C fpX9_113 rfl rfl rfl dX9_beginSet_2 ta0 (fun h2 e2 => ?_)
  have hF := fx_letE hF h2 e2
  refine xr_aload_n C 0 dX9_beginSet_5 rfl rfl ?_
  refine xr_iconst (v := 0) C dX9_beginSet_6 (by decide) ?_
  refine xr_puti C fpX9_134 rfl rfl rfl dX9_beginSet_7 ta0 (fun h7 e7 => ?_)
  have hF := fx_letE hF h7 e7
  refine xr_aload_n C 0 dX9_beginSet_10 rfl rfl ?_
  refine xr_iconst (v := 0) C dX9_beginSet_11 (by decide) ?_
  refine xr_puti C fpX9_137 rfl rfl rfl dX9_beginSet_12 ta0 (fun h12 e12 => ?_)
  have hF := fx_letE hF h12 e12
  refine xr_aload_n C 0 dX9_beginSet_15 rfl rfl ?_
  refine xr_iconst (v := 0) C dX9_beginSet_16 (by decide) ?_
  refine xr_puti C fpX9_140 rfl rfl rfl dX9_beginSet_17 ta0 (fun h17 e17 => ?_)
  have hF := fx_letE hF h17 e17
  refine xr_aload_n C 0 dX9_beginSet_20 rfl rfl ?_
  refine xr_getr C flX9_62 rfl (by decide) dX9_beginSet_21 ta0 (fun t21 => ?_)
  refine xr_iconst (v := 0) C dX9_beginSet_24 (by decide) ?_
  refine xr_aald24 C dX9_beginSet_25 t21 (by decide) (fun t25 => ?_)
  refine xr_iconst (v := 0) C dX9_beginSet_26 (by decide) ?_
  refine xr_puti C fpX9_143 rfl rfl rfl dX9_beginSet_27 t25 (fun h27 e27 => ?_)
  have hF := fx_letE hF h27 e27
  refine xr_aload_n C 0 dX9_beginSet_30 rfl rfl ?_
  refine xr_getr C flX9_62 rfl (by decide) dX9_beginSet_31 ta0 (fun t31 => ?_)
  refine xr_iconst (v := 1) C dX9_beginSet_34 (by decide) ?_
  refine xr_aald24 C dX9_beginSet_35 t31 (by decide) (fun t35 => ?_)
  refine xr_iconst (v := 0) C dX9_beginSet_36 (by decide) ?_
  refine xr_puti C fpX9_143 rfl rfl rfl dX9_beginSet_37 t35 (fun h37 e37 => ?_)
  have hF := fx_letE hF h37 e37
  refine xr_aload_n C 0 dX9_beginSet_40 rfl rfl ?_
  refine xr_getr C flX9_33 rfl (by decide) dX9_beginSet_41 ta0 (fun t41 => ?_)
  refine xr_aload_n C 0 dX9_beginSet_44 rfl rfl ?_
  refine xr_getr C flX9_68 rfl (by decide) dX9_beginSet_45 ta0 (fun t45 => ?_)
  obtain ⟨h48, e48, hF⟩ := fx_b1E hF
  refine xr_callVv C mvX9_146 [.ref (G.2.2.1 (h37.2.2 a0 11))] [] (mX1_begin l G (h37.2.2 a0 3) (h37.2.2 a0 11) t41 t45 h37 h48 e48) t41 (by decide) vc1 rfl ⟨rfl, rfl, (Nat.le_of_ble_eq_true rfl), (Nat.le_of_ble_eq_true rfl)⟩ rfl (Nat.le_of_ble_eq_true rfl) dX9_beginSet_48 ?_
  refine xr_aload_n C 0 dX9_beginSet_51 rfl rfl ?_
  obtain ⟨h52, e52, hF⟩ := fx_b1E hF
  refine xr_callVv C mvX9_150 [] [] (mX9_forgetSubBests l G a0 ta0 h48 h52 e52) ta0 (by decide) vc9 rfl ⟨rfl, rfl, (Nat.le_of_ble_eq_true rfl), (Nat.le_of_ble_eq_true rfl)⟩ rfl (Nat.le_of_ble_eq_true rfl) dX9_beginSet_52 ?_
  cases hF
  exact xr_vret C dX9_beginSet_55
theorem dX9_text_0 : decode cX9_text 0 = .ok (.iload_n 1, 1) := by decide +kernel
theorem dX9_text_1 : decode cX9_text 1 = .ok (.ifCond .lt 14, 3) := by decide +kernel
theorem dX9_text_4 : decode cX9_text 4 = .ok (.iload_n 1, 1) := by decide +kernel
theorem dX9_text_5 : decode cX9_text 5 = .ok (.aload_n 0, 1) := by decide +kernel
theorem dX9_text_6 : decode cX9_text 6 = .ok (.getfield 12, 3) := by decide +kernel
theorem dX9_text_9 : decode cX9_text 9 = .ok (.getfield 75, 3) := by decide +kernel
theorem dX9_text_12 : decode cX9_text 12 = .ok (.if_icmp .le 6, 3) := by decide +kernel
theorem dX9_text_15 : decode cX9_text 15 = .ok (.bipush (-2), 2) := by decide +kernel
theorem dX9_text_17 : decode cX9_text 17 = .ok (.ireturn, 1) := by decide +kernel
theorem dX9_text_18 : decode cX9_text 18 = .ok (.aload_n 0, 1) := by decide +kernel
theorem dX9_text_19 : decode cX9_text 19 = .ok (.getfield 12, 3) := by decide +kernel
theorem dX9_text_22 : decode cX9_text 22 = .ok (.aload_n 0, 1) := by decide +kernel
theorem dX9_text_23 : decode cX9_text 23 = .ok (.getfield 72, 3) := by decide +kernel
theorem dX9_text_26 : decode cX9_text 26 = .ok (.iload_n 1, 1) := by decide +kernel
theorem dX9_text_27 : decode cX9_text 27 = .ok (.invokevirtual 83, 3) := by decide +kernel
theorem dX9_text_30 : decode cX9_text 30 = .ok (.ifCond .ne 5, 3) := by decide +kernel
theorem dX9_text_33 : decode cX9_text 33 = .ok (.iconst (-1), 1) := by decide +kernel
theorem dX9_text_34 : decode cX9_text 34 = .ok (.ireturn, 1) := by decide +kernel
theorem dX9_text_35 : decode cX9_text 35 = .ok (.aload_n 0, 1) := by decide +kernel
theorem dX9_text_36 : decode cX9_text 36 = .ok (.getfield 68, 3) := by decide +kernel
theorem dX9_text_39 : decode cX9_text 39 = .ok (.astore_n 2, 1) := by decide +kernel
theorem dX9_text_40 : decode cX9_text 40 = .ok (.aload_n 0, 1) := by decide +kernel
theorem dX9_text_41 : decode cX9_text 41 = .ok (.aload_n 0, 1) := by decide +kernel
theorem dX9_text_42 : decode cX9_text 42 = .ok (.getfield 72, 3) := by decide +kernel
theorem dX9_text_45 : decode cX9_text 45 = .ok (.putfield 68, 3) := by decide +kernel
theorem dX9_text_48 : decode cX9_text 48 = .ok (.aload_n 0, 1) := by decide +kernel
theorem dX9_text_49 : decode cX9_text 49 = .ok (.aload_n 2, 1) := by decide +kernel
theorem dX9_text_50 : decode cX9_text 50 = .ok (.putfield 72, 3) := by decide +kernel
theorem dX9_text_53 : decode cX9_text 53 = .ok (.aload_n 0, 1) := by decide +kernel
theorem dX9_text_54 : decode cX9_text 54 = .ok (.invokevirtual 87, 3) := by decide +kernel
theorem dX9_text_57 : decode cX9_text 57 = .ok (.aload_n 0, 1) := by decide +kernel
theorem dX9_text_58 : decode cX9_text 58 = .ok (.getfield 68, 3) := by decide +kernel
theorem dX9_text_61 : decode cX9_text 61 = .ok (.getfield 90, 3) := by decide +kernel
theorem dX9_text_64 : decode cX9_text 64 = .ok (.ireturn, 1) := by decide +kernel
def fX9_text (a0 : Nat) (a1 : Int32) (h : hp_T) : Option (Int32 × hp_T) := if a1 < 0 then (some ((-2 : Int32), h)) else (if a1 ≤ (h.1 (h.2.2 a0 0) 1) then (fx_b2 (fX5_readInto (h.2.2 a0 0) (h.2.2 a0 12) a1 h) fun (r27 : Int32) (h27 : hp_T) => if r27 = 0 then (some ((-1 : Int32), h27)) else (fx_let (hp_sR h27 a0 11 (h27.2.2 a0 12)) fun (h45 : hp_T) => fx_let (hp_sR h45 a0 12 (h27.2.2 a0 11)) fun (h50 : hp_T) => fx_b1 (fX9_beginSet a0 h50) fun (h54 : hp_T) => some ((h54.1 (h54.2.2 a0 11) 6), h54))) else (some ((-2 : Int32), h)))
set_option maxRecDepth 100000 in
set_option maxHeartbeats 4000000 in
theorem mX9_text (l : Launch) (G : xr_G) (a0 : Nat) (a1 : Int32) (ta0 : hp_sh a0 = (9, 0)) (h h1 : hp_T) (r : Int32) (hF : fX9_text a0 a1 h = some (r, h1)) : xr_M l G yX9_text cX9_text 3 (xr_R 6 170) (some .int) [.ref (G.2.2.1 a0), .int a1] h (xr_Qi G r h1) := by
  refine xr_start rfl (Nat.le_of_ble_eq_true rfl) (fun K C => ?_)
  show xr_j l G K 3 h [(0, .ref (G.2.2.1 a0)), (1, .int a1)] 0 []
  unfold fX9_text at hF
  refine xr_iload_n C 1 dX9_text_0 rfl rfl ?_
  refine xr_if_lt C 15 dX9_text_1 (by decide) (fun c1 => ?_) (fun c1 => ?_)
  · have hF := fx_pos hF c1
    refine xr_bipush (v := -2) C dX9_text_15 (by decide) ?_
    cases hF
    exact xr_iret C dX9_text_17
  · have hF := fx_neg hF c1
    refine xr_iload_n C 1 dX9_text_4 rfl rfl ?_
    refine xr_aload_n C 0 dX9_text_5 rfl rfl ?_
    refine xr_getr C flX9_12 rfl (by decide) dX9_text_6 ta0 (fun t6 => ?_)
    refine xr_geti C flX9_75 rfl dX9_text_9 t6 ?_
    refine xr_icmp_le C 18 dX9_text_12 (by decide) (fun c12 => ?_) (fun c12 => ?_)
    · have hF := fx_pos hF c12
      refine xr_aload_n C 0 dX9_text_18 rfl rfl ?_
      refine xr_getr C flX9_12 rfl (by decide) dX9_text_19 ta0 (fun t19 => ?_)
      refine xr_aload_n C 0 dX9_text_22 rfl rfl ?_
      refine xr_getr C flX9_72 rfl (by decide) dX9_text_23 ta0 (fun t23 => ?_)
      refine xr_iload_n C 1 dX9_text_26 rfl rfl ?_
      obtain ⟨r27, h27, e27, hF⟩ := fx_b2E hF
      refine xr_callVi C mvX9_83 [.ref (G.2.2.1 (h.2.2 a0 12)), .int a1] [] (mX5_readInto l G (h.2.2 a0 0) (h.2.2 a0 12) a1 t19 t23 h h27 r27 e27) t19 (by decide) vc5 rfl ⟨rfl, rfl, (Nat.le_of_ble_eq_true rfl), (Nat.le_of_ble_eq_true rfl)⟩ rfl (Nat.le_of_ble_eq_true rfl) dX9_text_27 ?_
      refine xr_if_ne C 35 dX9_text_30 (by decide) (fun c30 => ?_) (fun c30 => ?_)
      · have hF := fx_neg hF c30
        refine xr_aload_n C 0 dX9_text_35 rfl rfl ?_
        refine xr_getr C flX9_68 rfl (by decide) dX9_text_36 ta0 (fun t36 => ?_)
        refine xr_astore_n C [(2, .ref (G.2.2.1 (h27.2.2 a0 11))), (0, .ref (G.2.2.1 a0)), (1, .int a1)] dX9_text_39 rfl (Nat.le_of_ble_eq_true rfl) rfl ?_
        refine xr_aload_n C 1 dX9_text_40 rfl rfl ?_
        refine xr_aload_n C 1 dX9_text_41 rfl rfl ?_
        refine xr_getr C flX9_72 rfl (by decide) dX9_text_42 ta0 (fun t42 => ?_)
        refine xr_putr C fpX9_68 rfl (by decide) (fun _ => rfl) (fun _ => rfl) dX9_text_45 ta0 t42 (fun h45 e45 => ?_)
        have hF := fx_letE hF h45 e45
        refine xr_aload_n C 1 dX9_text_48 rfl rfl ?_
        refine xr_aload_n C 0 dX9_text_49 rfl rfl ?_
        refine xr_putr C fpX9_72 rfl (by decide) (fun _ => rfl) (fun _ => rfl) dX9_text_50 ta0 t36 (fun h50 e50 => ?_)
        have hF := fx_letE hF h50 e50
        refine xr_aload_n C 1 dX9_text_53 rfl rfl ?_
        obtain ⟨h54, e54, hF⟩ := fx_b1E hF
        refine xr_callVv C mvX9_87 [] [] (mX9_beginSet l G a0 ta0 h50 h54 e54) ta0 (by decide) vc9 rfl ⟨rfl, rfl, (Nat.le_of_ble_eq_true rfl), (Nat.le_of_ble_eq_true rfl)⟩ rfl (Nat.le_of_ble_eq_true rfl) dX9_text_54 ?_
        refine xr_aload_n C 1 dX9_text_57 rfl rfl ?_
        refine xr_getr C flX9_68 rfl (by decide) dX9_text_58 ta0 (fun t58 => ?_)
        refine xr_geti C flX9_90 rfl dX9_text_61 t58 ?_
        cases hF
        exact xr_iret C dX9_text_64
      · have hF := fx_pos hF c30
        refine xr_iconst (v := -1) C dX9_text_33 (by decide) ?_
        cases hF
        exact xr_iret C dX9_text_34
    · have hF := fx_neg hF c12
      refine xr_bipush (v := -2) C dX9_text_15 (by decide) ?_
      cases hF
      exact xr_iret C dX9_text_17
theorem dX9_fault_0 : decode cX9_fault 0 = .ok (.iload_n 1, 1) := by decide +kernel
theorem dX9_fault_1 : decode cX9_fault 1 = .ok (.lookupswitch 43 #[(0, 27), (1, 35)], 27) := by decide +kernel
theorem dX9_fault_28 : decode cX9_fault 28 = .ok (.aload_n 0, 1) := by decide +kernel
theorem dX9_fault_29 : decode cX9_fault 29 = .ok (.getfield 12, 3) := by decide +kernel
theorem dX9_fault_32 : decode cX9_fault 32 = .ok (.getfield 93, 3) := by decide +kernel
theorem dX9_fault_35 : decode cX9_fault 35 = .ok (.ireturn, 1) := by decide +kernel
theorem dX9_fault_36 : decode cX9_fault 36 = .ok (.aload_n 0, 1) := by decide +kernel
theorem dX9_fault_37 : decode cX9_fault 37 = .ok (.getfield 12, 3) := by decide +kernel
theorem dX9_fault_40 : decode cX9_fault 40 = .ok (.getfield 96, 3) := by decide +kernel
theorem dX9_fault_43 : decode cX9_fault 43 = .ok (.ireturn, 1) := by decide +kernel
theorem dX9_fault_44 : decode cX9_fault 44 = .ok (.iconst (-1), 1) := by decide +kernel
theorem dX9_fault_45 : decode cX9_fault 45 = .ok (.ireturn, 1) := by decide +kernel
def fX9_fault (a0 : Nat) (a1 : Int32) (h : hp_T) : Option (Int32 × hp_T) := if a1 = 0 then (some ((h.1 (h.2.2 a0 0) 2), h)) else if a1 = 1 then (some ((h.1 (h.2.2 a0 0) 3), h)) else (some ((-1 : Int32), h))
set_option maxRecDepth 100000 in
set_option maxHeartbeats 4000000 in
theorem mX9_fault (l : Launch) (G : xr_G) (a0 : Nat) (a1 : Int32) (ta0 : hp_sh a0 = (9, 0)) (h h1 : hp_T) (r : Int32) (hF : fX9_fault a0 a1 h = some (r, h1)) : xr_M l G yX9_fault cX9_fault 2 (xr_R 0 0) (some .int) [.ref (G.2.2.1 a0), .int a1] h (xr_Qi G r h1) := by
  refine xr_start rfl (Nat.le_of_ble_eq_true rfl) (fun K C => ?_)
  show xr_j l G K 2 h [(0, .ref (G.2.2.1 a0)), (1, .int a1)] 0 []
  unfold fX9_fault at hF
  refine xr_iload_n C 1 dX9_fault_0 rfl rfl ?_
  by_cases c1_0 : a1 = 0
  · have hF := fx_pos hF c1_0
    refine xr_lookup C 28 dX9_fault_1 (by decide) (by rw [c1_0]; first | done | rfl) (by decide) ?_
    refine xr_aload_n C 0 dX9_fault_28 rfl rfl ?_
    refine xr_getr C flX9_12 rfl (by decide) dX9_fault_29 ta0 (fun t29 => ?_)
    refine xr_geti C flX9_93 rfl dX9_fault_32 t29 ?_
    cases hF
    exact xr_iret C dX9_fault_35
  have hF := fx_neg hF c1_0
  by_cases c1_1 : a1 = 1
  · have hF := fx_pos hF c1_1
    refine xr_lookup C 36 dX9_fault_1 (by decide) (by rw [c1_1]; first | done | rfl) (by decide) ?_
    refine xr_aload_n C 0 dX9_fault_36 rfl rfl ?_
    refine xr_getr C flX9_12 rfl (by decide) dX9_fault_37 ta0 (fun t37 => ?_)
    refine xr_geti C flX9_96 rfl dX9_fault_40 t37 ?_
    cases hF
    exact xr_iret C dX9_fault_43
  have hF := fx_neg hF c1_1
  refine xr_lookup (off := 43) C 44 dX9_fault_1 (by decide) (fx_lkX9_fault_1 c1_0 c1_1) (by decide) ?_
  refine xr_iconst (v := -1) C dX9_fault_44 (by decide) ?_
  cases hF
  exact xr_iret C dX9_fault_45
theorem dX9_isSide_0 : decode cX9_isSide 0 = .ok (.aload_n 0, 1) := by decide +kernel
theorem dX9_isSide_1 : decode cX9_isSide 1 = .ok (.getfield 113, 3) := by decide +kernel
theorem dX9_isSide_4 : decode cX9_isSide 4 = .ok (.ifCond .eq 16, 3) := by decide +kernel
theorem dX9_isSide_7 : decode cX9_isSide 7 = .ok (.iload_n 1, 1) := by decide +kernel
theorem dX9_isSide_8 : decode cX9_isSide 8 = .ok (.ifCond .eq 8, 3) := by decide +kernel
theorem dX9_isSide_11 : decode cX9_isSide 11 = .ok (.iload_n 1, 1) := by decide +kernel
theorem dX9_isSide_12 : decode cX9_isSide 12 = .ok (.iconst 1, 1) := by decide +kernel
theorem dX9_isSide_13 : decode cX9_isSide 13 = .ok (.if_icmp .ne 7, 3) := by decide +kernel
theorem dX9_isSide_16 : decode cX9_isSide 16 = .ok (.iconst 1, 1) := by decide +kernel
theorem dX9_isSide_17 : decode cX9_isSide 17 = .ok (.goto 4, 3) := by decide +kernel
theorem dX9_isSide_20 : decode cX9_isSide 20 = .ok (.iconst 0, 1) := by decide +kernel
theorem dX9_isSide_21 : decode cX9_isSide 21 = .ok (.ireturn, 1) := by decide +kernel
def fX9_isSide (a0 : Nat) (a1 : Int32) (h : hp_T) : Option (Int32 × hp_T) := if (h.1 a0 13) = 0 then (some ((0 : Int32), h)) else (if a1 = 0 then (some ((1 : Int32), h)) else (if a1 = (1 : Int32) then (some ((1 : Int32), h)) else (some ((0 : Int32), h))))
set_option maxRecDepth 100000 in
set_option maxHeartbeats 4000000 in
theorem mX9_isSide (l : Launch) (G : xr_G) (a0 : Nat) (a1 : Int32) (ta0 : hp_sh a0 = (9, 0)) (h h1 : hp_T) (r : Int32) (hF : fX9_isSide a0 a1 h = some (r, h1)) : xr_M l G yX9_isSide cX9_isSide 2 (xr_R 0 0) (some .boolean) [.ref (G.2.2.1 a0), .int a1] h (xr_Qi G r h1) := by
  refine xr_start rfl (Nat.le_of_ble_eq_true rfl) (fun K C => ?_)
  show xr_j l G K 2 h [(0, .ref (G.2.2.1 a0)), (1, .int a1)] 0 []
  unfold fX9_isSide at hF
  refine xr_aload_n C 0 dX9_isSide_0 rfl rfl ?_
  refine xr_geti C flX9_113 rfl dX9_isSide_1 ta0 ?_
  refine xr_if_eq C 20 dX9_isSide_4 (by decide) (fun c4 => ?_) (fun c4 => ?_)
  · have hF := fx_pos hF c4
    refine xr_iconst (v := 0) C dX9_isSide_20 (by decide) ?_
    cases hF
    exact xr_zret C rfl dX9_isSide_21
  · have hF := fx_neg hF c4
    refine xr_iload_n C 1 dX9_isSide_7 rfl rfl ?_
    refine xr_if_eq C 16 dX9_isSide_8 (by decide) (fun c8 => ?_) (fun c8 => ?_)
    · have hF := fx_pos hF c8
      refine xr_iconst (v := 1) C dX9_isSide_16 (by decide) ?_
      refine xr_goto C 21 dX9_isSide_17 (by decide) ?_
      cases hF
      exact xr_zret C rfl dX9_isSide_21
    · have hF := fx_neg hF c8
      refine xr_iload_n C 1 dX9_isSide_11 rfl rfl ?_
      refine xr_iconst (v := 1) C dX9_isSide_12 (by decide) ?_
      refine xr_icmp_ne C 20 dX9_isSide_13 (by decide) (fun c13 => ?_) (fun c13 => ?_)
      · have hF := fx_neg hF c13
        refine xr_iconst (v := 0) C dX9_isSide_20 (by decide) ?_
        cases hF
        exact xr_zret C rfl dX9_isSide_21
      · have hF := fx_pos hF c13
        refine xr_iconst (v := 1) C dX9_isSide_16 (by decide) ?_
        refine xr_goto C 21 dX9_isSide_17 (by decide) ?_
        cases hF
        exact xr_zret C rfl dX9_isSide_21
theorem dX9_named_0 : decode cX9_named 0 = .ok (.aload_n 0, 1) := by decide +kernel
theorem dX9_named_1 : decode cX9_named 1 = .ok (.iload_n 1, 1) := by decide +kernel
theorem dX9_named_2 : decode cX9_named 2 = .ok (.invokevirtual 99, 3) := by decide +kernel
theorem dX9_named_5 : decode cX9_named 5 = .ok (.ifCond .ne 5, 3) := by decide +kernel
theorem dX9_named_8 : decode cX9_named 8 = .ok (.iconst (-1), 1) := by decide +kernel
theorem dX9_named_9 : decode cX9_named 9 = .ok (.ireturn, 1) := by decide +kernel
theorem dX9_named_10 : decode cX9_named 10 = .ok (.aload_n 0, 1) := by decide +kernel
theorem dX9_named_11 : decode cX9_named 11 = .ok (.getfield 68, 3) := by decide +kernel
theorem dX9_named_14 : decode cX9_named 14 = .ok (.iload_n 1, 1) := by decide +kernel
theorem dX9_named_15 : decode cX9_named 15 = .ok (.invokevirtual 103, 3) := by decide +kernel
theorem dX9_named_18 : decode cX9_named 18 = .ok (.iload_n 2, 1) := by decide +kernel
theorem dX9_named_19 : decode cX9_named 19 = .ok (.invokevirtual 107, 3) := by decide +kernel
theorem dX9_named_22 : decode cX9_named 22 = .ok (.istore_n 3, 1) := by decide +kernel
theorem dX9_named_23 : decode cX9_named 23 = .ok (.iload_n 3, 1) := by decide +kernel
theorem dX9_named_24 : decode cX9_named 24 = .ok (.iconst (-1), 1) := by decide +kernel
theorem dX9_named_25 : decode cX9_named 25 = .ok (.if_icmp .ne 8, 3) := by decide +kernel
theorem dX9_named_28 : decode cX9_named 28 = .ok (.bipush (-2), 2) := by decide +kernel
theorem dX9_named_30 : decode cX9_named 30 = .ok (.goto 4, 3) := by decide +kernel
theorem dX9_named_33 : decode cX9_named 33 = .ok (.iload_n 3, 1) := by decide +kernel
theorem dX9_named_34 : decode cX9_named 34 = .ok (.ireturn, 1) := by decide +kernel
def fX9_named (a0 : Nat) (a1 : Int32) (a2 : Int32) (h : hp_T) : Option (Int32 × hp_T) := fx_b2 (fX9_isSide a0 a1 h) fun (r2 : Int32) (h2 : hp_T) => if r2 = 0 then (some ((-1 : Int32), h2)) else (fx_b2 (fX8_squad (h2.2.2 a0 11) a1 h2) fun (r15 : Nat) (h15 : hp_T) => fx_b2 (fX7_find r15 a2 h15) fun (r19 : Int32) (h19 : hp_T) => if r19 = (-1 : Int32) then (some ((-2 : Int32), h19)) else (some (r19, h19)))
set_option maxRecDepth 100000 in
set_option maxHeartbeats 4000000 in
theorem mX9_named (l : Launch) (G : xr_G) (a0 : Nat) (a1 : Int32) (a2 : Int32) (ta0 : hp_sh a0 = (9, 0)) (h h1 : hp_T) (r : Int32) (hF : fX9_named a0 a1 a2 h = some (r, h1)) : xr_M l G yX9_named cX9_named 4 (xr_R 1 22) (some .int) [.ref (G.2.2.1 a0), .int a1, .int a2] h (xr_Qi G r h1) := by
  refine xr_start rfl (Nat.le_of_ble_eq_true rfl) (fun K C => ?_)
  show xr_j l G K 4 h [(0, .ref (G.2.2.1 a0)), (1, .int a1), (2, .int a2)] 0 []
  unfold fX9_named at hF
  refine xr_aload_n C 0 dX9_named_0 rfl rfl ?_
  refine xr_iload_n C 1 dX9_named_1 rfl rfl ?_
  obtain ⟨r2, h2, e2, hF⟩ := fx_b2E hF
  refine xr_callVi C mvX9_99 [.int a1] [] (mX9_isSide l G a0 a1 ta0 h h2 r2 e2) ta0 (by decide) vc9 rfl ⟨rfl, rfl, (Nat.le_of_ble_eq_true rfl), (Nat.le_of_ble_eq_true rfl)⟩ rfl (Nat.le_of_ble_eq_true rfl) dX9_named_2 ?_
  refine xr_if_ne C 10 dX9_named_5 (by decide) (fun c5 => ?_) (fun c5 => ?_)
  · have hF := fx_neg hF c5
    refine xr_aload_n C 0 dX9_named_10 rfl rfl ?_
    refine xr_getr C flX9_68 rfl (by decide) dX9_named_11 ta0 (fun t11 => ?_)
    refine xr_iload_n C 1 dX9_named_14 rfl rfl ?_
    obtain ⟨r15, h15, e15, hF⟩ := fx_b2E hF
    refine xr_callVr C mvX9_103 [.int a1] [] (mX8_squad l G (h2.2.2 a0 11) a1 t11 h2 h15 r15 e15) t11 (by decide) vc8 rfl ⟨rfl, rfl, (Nat.le_of_ble_eq_true rfl), (Nat.le_of_ble_eq_true rfl)⟩ rfl (Nat.le_of_ble_eq_true rfl) dX9_named_15 (fun t15 => ?_)
    refine xr_iload_n C 2 dX9_named_18 rfl rfl ?_
    obtain ⟨r19, h19, e19, hF⟩ := fx_b2E hF
    refine xr_callVi C mvX9_107 [.int a2] [] (mX7_find l G r15 a2 t15 h15 h19 r19 e19) t15 (by decide) vc7 rfl ⟨rfl, rfl, (Nat.le_of_ble_eq_true rfl), (Nat.le_of_ble_eq_true rfl)⟩ rfl (Nat.le_of_ble_eq_true rfl) dX9_named_19 ?_
    refine xr_istore_n C [(3, .int r19), (0, .ref (G.2.2.1 a0)), (1, .int a1), (2, .int a2)] dX9_named_22 rfl (Nat.le_of_ble_eq_true rfl) rfl ?_
    refine xr_iload_n C 0 dX9_named_23 rfl rfl ?_
    refine xr_iconst (v := -1) C dX9_named_24 (by decide) ?_
    refine xr_icmp_ne C 33 dX9_named_25 (by decide) (fun c25 => ?_) (fun c25 => ?_)
    · have hF := fx_neg hF c25
      refine xr_iload_n C 0 dX9_named_33 rfl rfl ?_
      cases hF
      exact xr_iret C dX9_named_34
    · have hF := fx_pos hF c25
      refine xr_bipush (v := -2) C dX9_named_28 (by decide) ?_
      refine xr_goto C 34 dX9_named_30 (by decide) ?_
      cases hF
      exact xr_iret C dX9_named_34
  · have hF := fx_pos hF c5
    refine xr_iconst (v := -1) C dX9_named_8 (by decide) ?_
    cases hF
    exact xr_iret C dX9_named_9
theorem dX9_count_0 : decode cX9_count 0 = .ok (.iload_n 1, 1) := by decide +kernel
theorem dX9_count_1 : decode cX9_count 1 = .ok (.bipush 7, 2) := by decide +kernel
theorem dX9_count_3 : decode cX9_count 3 = .ok (.if_icmp .ne 11, 3) := by decide +kernel
theorem dX9_count_6 : decode cX9_count 6 = .ok (.aload_n 0, 1) := by decide +kernel
theorem dX9_count_7 : decode cX9_count 7 = .ok (.getfield 12, 3) := by decide +kernel
theorem dX9_count_10 : decode cX9_count 10 = .ok (.getfield 75, 3) := by decide +kernel
theorem dX9_count_13 : decode cX9_count 13 = .ok (.ireturn, 1) := by decide +kernel
theorem dX9_count_14 : decode cX9_count 14 = .ok (.aload_n 0, 1) := by decide +kernel
theorem dX9_count_15 : decode cX9_count 15 = .ok (.getfield 113, 3) := by decide +kernel
theorem dX9_count_18 : decode cX9_count 18 = .ok (.ifCond .ne 5, 3) := by decide +kernel
theorem dX9_count_21 : decode cX9_count 21 = .ok (.iconst (-1), 1) := by decide +kernel
theorem dX9_count_22 : decode cX9_count 22 = .ok (.ireturn, 1) := by decide +kernel
theorem dX9_count_23 : decode cX9_count 23 = .ok (.iload_n 1, 1) := by decide +kernel
theorem dX9_count_24 : decode cX9_count 24 = .ok (.tableswitch 103 0 6 #[44, 52, 60, 68, 76, 87, 98], 44) := by decide +kernel
theorem dX9_count_68 : decode cX9_count 68 = .ok (.aload_n 0, 1) := by decide +kernel
theorem dX9_count_69 : decode cX9_count 69 = .ok (.getfield 68, 3) := by decide +kernel
theorem dX9_count_72 : decode cX9_count 72 = .ok (.getfield 90, 3) := by decide +kernel
theorem dX9_count_75 : decode cX9_count 75 = .ok (.ireturn, 1) := by decide +kernel
theorem dX9_count_76 : decode cX9_count 76 = .ok (.aload_n 0, 1) := by decide +kernel
theorem dX9_count_77 : decode cX9_count 77 = .ok (.getfield 68, 3) := by decide +kernel
theorem dX9_count_80 : decode cX9_count 80 = .ok (.getfield 117, 3) := by decide +kernel
theorem dX9_count_83 : decode cX9_count 83 = .ok (.ireturn, 1) := by decide +kernel
theorem dX9_count_84 : decode cX9_count 84 = .ok (.aload_n 0, 1) := by decide +kernel
theorem dX9_count_85 : decode cX9_count 85 = .ok (.getfield 68, 3) := by decide +kernel
theorem dX9_count_88 : decode cX9_count 88 = .ok (.getfield 120, 3) := by decide +kernel
theorem dX9_count_91 : decode cX9_count 91 = .ok (.ireturn, 1) := by decide +kernel
theorem dX9_count_92 : decode cX9_count 92 = .ok (.aload_n 0, 1) := by decide +kernel
theorem dX9_count_93 : decode cX9_count 93 = .ok (.getfield 68, 3) := by decide +kernel
theorem dX9_count_96 : decode cX9_count 96 = .ok (.getfield 123, 3) := by decide +kernel
theorem dX9_count_99 : decode cX9_count 99 = .ok (.ireturn, 1) := by decide +kernel
theorem dX9_count_100 : decode cX9_count 100 = .ok (.aload_n 0, 1) := by decide +kernel
theorem dX9_count_101 : decode cX9_count 101 = .ok (.getfield 68, 3) := by decide +kernel
theorem dX9_count_104 : decode cX9_count 104 = .ok (.getfield 126, 3) := by decide +kernel
theorem dX9_count_107 : decode cX9_count 107 = .ok (.getfield 130, 3) := by decide +kernel
theorem dX9_count_110 : decode cX9_count 110 = .ok (.ireturn, 1) := by decide +kernel
theorem dX9_count_111 : decode cX9_count 111 = .ok (.aload_n 0, 1) := by decide +kernel
theorem dX9_count_112 : decode cX9_count 112 = .ok (.getfield 68, 3) := by decide +kernel
theorem dX9_count_115 : decode cX9_count 115 = .ok (.getfield 131, 3) := by decide +kernel
theorem dX9_count_118 : decode cX9_count 118 = .ok (.getfield 130, 3) := by decide +kernel
theorem dX9_count_121 : decode cX9_count 121 = .ok (.ireturn, 1) := by decide +kernel
theorem dX9_count_122 : decode cX9_count 122 = .ok (.aload_n 0, 1) := by decide +kernel
theorem dX9_count_123 : decode cX9_count 123 = .ok (.getfield 134, 3) := by decide +kernel
theorem dX9_count_126 : decode cX9_count 126 = .ok (.ireturn, 1) := by decide +kernel
theorem dX9_count_127 : decode cX9_count 127 = .ok (.iconst (-1), 1) := by decide +kernel
theorem dX9_count_128 : decode cX9_count 128 = .ok (.ireturn, 1) := by decide +kernel
def fX9_count (a0 : Nat) (a1 : Int32) (h : hp_T) : Option (Int32 × hp_T) := if a1 = (7 : Int32) then (some ((h.1 (h.2.2 a0 0) 1), h)) else (if (h.1 a0 13) = 0 then (some ((-1 : Int32), h)) else (if a1 = 0 then (some ((h.1 (h.2.2 a0 11) 6), h)) else if a1 = 1 then (some ((h.1 (h.2.2 a0 11) 2), h)) else if a1 = 2 then (some ((h.1 (h.2.2 a0 11) 3), h)) else if a1 = 3 then (some ((h.1 (h.2.2 a0 11) 4), h)) else if a1 = 4 then (some ((h.1 (h.2.2 (h.2.2 a0 11) 0) 5), h)) else if a1 = 5 then (some ((h.1 (h.2.2 (h.2.2 a0 11) 1) 5), h)) else if a1 = 6 then (some ((h.1 a0 15), h)) else (some ((-1 : Int32), h))))
set_option maxRecDepth 100000 in
set_option maxHeartbeats 4000000 in
theorem mX9_count (l : Launch) (G : xr_G) (a0 : Nat) (a1 : Int32) (ta0 : hp_sh a0 = (9, 0)) (h h1 : hp_T) (r : Int32) (hF : fX9_count a0 a1 h = some (r, h1)) : xr_M l G yX9_count cX9_count 2 (xr_R 0 0) (some .int) [.ref (G.2.2.1 a0), .int a1] h (xr_Qi G r h1) := by
  refine xr_start rfl (Nat.le_of_ble_eq_true rfl) (fun K C => ?_)
  show xr_j l G K 2 h [(0, .ref (G.2.2.1 a0)), (1, .int a1)] 0 []
  unfold fX9_count at hF
  refine xr_iload_n C 1 dX9_count_0 rfl rfl ?_
  refine xr_bipush (v := 7) C dX9_count_1 (by decide) ?_
  refine xr_icmp_ne C 14 dX9_count_3 (by decide) (fun c3 => ?_) (fun c3 => ?_)
  · have hF := fx_neg hF c3
    refine xr_aload_n C 0 dX9_count_14 rfl rfl ?_
    refine xr_geti C flX9_113 rfl dX9_count_15 ta0 ?_
    refine xr_if_ne C 23 dX9_count_18 (by decide) (fun c18 => ?_) (fun c18 => ?_)
    · have hF := fx_neg hF c18
      refine xr_iload_n C 1 dX9_count_23 rfl rfl ?_
      by_cases c24_0 : a1 = 0
      · have hF := fx_pos hF c24_0
        refine xr_tableIn C 68 dX9_count_24 (by rw [c24_0]; decide) (by rw [c24_0]; decide) (by rw [c24_0]; first | done | rfl) (by decide) ?_
        refine xr_aload_n C 0 dX9_count_68 rfl rfl ?_
        refine xr_getr C flX9_68 rfl (by decide) dX9_count_69 ta0 (fun t69 => ?_)
        refine xr_geti C flX9_90 rfl dX9_count_72 t69 ?_
        cases hF
        exact xr_iret C dX9_count_75
      have hF := fx_neg hF c24_0
      by_cases c24_1 : a1 = 1
      · have hF := fx_pos hF c24_1
        refine xr_tableIn C 76 dX9_count_24 (by rw [c24_1]; decide) (by rw [c24_1]; decide) (by rw [c24_1]; first | done | rfl) (by decide) ?_
        refine xr_aload_n C 0 dX9_count_76 rfl rfl ?_
        refine xr_getr C flX9_68 rfl (by decide) dX9_count_77 ta0 (fun t77 => ?_)
        refine xr_geti C flX9_117 rfl dX9_count_80 t77 ?_
        cases hF
        exact xr_iret C dX9_count_83
      have hF := fx_neg hF c24_1
      by_cases c24_2 : a1 = 2
      · have hF := fx_pos hF c24_2
        refine xr_tableIn C 84 dX9_count_24 (by rw [c24_2]; decide) (by rw [c24_2]; decide) (by rw [c24_2]; first | done | rfl) (by decide) ?_
        refine xr_aload_n C 0 dX9_count_84 rfl rfl ?_
        refine xr_getr C flX9_68 rfl (by decide) dX9_count_85 ta0 (fun t85 => ?_)
        refine xr_geti C flX9_120 rfl dX9_count_88 t85 ?_
        cases hF
        exact xr_iret C dX9_count_91
      have hF := fx_neg hF c24_2
      by_cases c24_3 : a1 = 3
      · have hF := fx_pos hF c24_3
        refine xr_tableIn C 92 dX9_count_24 (by rw [c24_3]; decide) (by rw [c24_3]; decide) (by rw [c24_3]; first | done | rfl) (by decide) ?_
        refine xr_aload_n C 0 dX9_count_92 rfl rfl ?_
        refine xr_getr C flX9_68 rfl (by decide) dX9_count_93 ta0 (fun t93 => ?_)
        refine xr_geti C flX9_123 rfl dX9_count_96 t93 ?_
        cases hF
        exact xr_iret C dX9_count_99
      have hF := fx_neg hF c24_3
      by_cases c24_4 : a1 = 4
      · have hF := fx_pos hF c24_4
        refine xr_tableIn C 100 dX9_count_24 (by rw [c24_4]; decide) (by rw [c24_4]; decide) (by rw [c24_4]; first | done | rfl) (by decide) ?_
        refine xr_aload_n C 0 dX9_count_100 rfl rfl ?_
        refine xr_getr C flX9_68 rfl (by decide) dX9_count_101 ta0 (fun t101 => ?_)
        refine xr_getr C flX9_126 rfl (by decide) dX9_count_104 t101 (fun t104 => ?_)
        refine xr_geti C flX9_130 rfl dX9_count_107 t104 ?_
        cases hF
        exact xr_iret C dX9_count_110
      have hF := fx_neg hF c24_4
      by_cases c24_5 : a1 = 5
      · have hF := fx_pos hF c24_5
        refine xr_tableIn C 111 dX9_count_24 (by rw [c24_5]; decide) (by rw [c24_5]; decide) (by rw [c24_5]; first | done | rfl) (by decide) ?_
        refine xr_aload_n C 0 dX9_count_111 rfl rfl ?_
        refine xr_getr C flX9_68 rfl (by decide) dX9_count_112 ta0 (fun t112 => ?_)
        refine xr_getr C flX9_131 rfl (by decide) dX9_count_115 t112 (fun t115 => ?_)
        refine xr_geti C flX9_130 rfl dX9_count_118 t115 ?_
        cases hF
        exact xr_iret C dX9_count_121
      have hF := fx_neg hF c24_5
      by_cases c24_6 : a1 = 6
      · have hF := fx_pos hF c24_6
        refine xr_tableIn C 122 dX9_count_24 (by rw [c24_6]; decide) (by rw [c24_6]; decide) (by rw [c24_6]; first | done | rfl) (by decide) ?_
        refine xr_aload_n C 0 dX9_count_122 rfl rfl ?_
        refine xr_geti C flX9_134 rfl dX9_count_123 ta0 ?_
        cases hF
        exact xr_iret C dX9_count_126
      have hF := fx_neg hF c24_6
      refine xr_tableOut C 127 dX9_count_24 (fx_out7 c24_0 c24_1 c24_2 c24_3 c24_4 c24_5 c24_6) (by decide) ?_
      refine xr_iconst (v := -1) C dX9_count_127 (by decide) ?_
      cases hF
      exact xr_iret C dX9_count_128
    · have hF := fx_pos hF c18
      refine xr_iconst (v := -1) C dX9_count_21 (by decide) ?_
      cases hF
      exact xr_iret C dX9_count_22
  · have hF := fx_pos hF c3
    refine xr_aload_n C 0 dX9_count_6 rfl rfl ?_
    refine xr_getr C flX9_12 rfl (by decide) dX9_count_7 ta0 (fun t7 => ?_)
    refine xr_geti C flX9_75 rfl dX9_count_10 t7 ?_
    cases hF
    exact xr_iret C dX9_count_13
theorem dX9_ranked_0 : decode cX9_ranked 0 = .ok (.aload_n 0, 1) := by decide +kernel
theorem dX9_ranked_1 : decode cX9_ranked 1 = .ok (.iload_n 1, 1) := by decide +kernel
theorem dX9_ranked_2 : decode cX9_ranked 2 = .ok (.invokevirtual 99, 3) := by decide +kernel
theorem dX9_ranked_5 : decode cX9_ranked 5 = .ok (.ifCond .eq 7, 3) := by decide +kernel
theorem dX9_ranked_8 : decode cX9_ranked 8 = .ok (.iload_n 2, 1) := by decide +kernel
theorem dX9_ranked_9 : decode cX9_ranked 9 = .ok (.ifCond .ge 5, 3) := by decide +kernel
theorem dX9_ranked_12 : decode cX9_ranked 12 = .ok (.iconst (-1), 1) := by decide +kernel
theorem dX9_ranked_13 : decode cX9_ranked 13 = .ok (.ireturn, 1) := by decide +kernel
theorem dX9_ranked_14 : decode cX9_ranked 14 = .ok (.aload_n 0, 1) := by decide +kernel
theorem dX9_ranked_15 : decode cX9_ranked 15 = .ok (.getfield 68, 3) := by decide +kernel
theorem dX9_ranked_18 : decode cX9_ranked 18 = .ok (.iload_n 1, 1) := by decide +kernel
theorem dX9_ranked_19 : decode cX9_ranked 19 = .ok (.invokevirtual 103, 3) := by decide +kernel
theorem dX9_ranked_22 : decode cX9_ranked 22 = .ok (.astore_n 3, 1) := by decide +kernel
theorem dX9_ranked_23 : decode cX9_ranked 23 = .ok (.iconst 0, 1) := by decide +kernel
theorem dX9_ranked_24 : decode cX9_ranked 24 = .ok (.istore 4, 2) := by decide +kernel
theorem dX9_ranked_26 : decode cX9_ranked 26 = .ok (.iload 4, 2) := by decide +kernel
theorem dX9_ranked_28 : decode cX9_ranked 28 = .ok (.aload_n 3, 1) := by decide +kernel
theorem dX9_ranked_29 : decode cX9_ranked 29 = .ok (.getfield 130, 3) := by decide +kernel
theorem dX9_ranked_32 : decode cX9_ranked 32 = .ok (.if_icmp .ge 22, 3) := by decide +kernel
theorem dX9_ranked_35 : decode cX9_ranked 35 = .ok (.aload_n 3, 1) := by decide +kernel
theorem dX9_ranked_36 : decode cX9_ranked 36 = .ok (.iload 4, 2) := by decide +kernel
theorem dX9_ranked_38 : decode cX9_ranked 38 = .ok (.invokevirtual 198, 3) := by decide +kernel
theorem dX9_ranked_41 : decode cX9_ranked 41 = .ok (.iload_n 2, 1) := by decide +kernel
theorem dX9_ranked_42 : decode cX9_ranked 42 = .ok (.if_icmp .ne 6, 3) := by decide +kernel
theorem dX9_ranked_45 : decode cX9_ranked 45 = .ok (.iload 4, 2) := by decide +kernel
theorem dX9_ranked_47 : decode cX9_ranked 47 = .ok (.ireturn, 1) := by decide +kernel
theorem dX9_ranked_48 : decode cX9_ranked 48 = .ok (.iinc 4 1, 3) := by decide +kernel
theorem dX9_ranked_51 : decode cX9_ranked 51 = .ok (.goto (-25), 3) := by decide +kernel
theorem dX9_ranked_54 : decode cX9_ranked 54 = .ok (.bipush (-2), 2) := by decide +kernel
theorem dX9_ranked_56 : decode cX9_ranked 56 = .ok (.ireturn, 1) := by decide +kernel
def fX9_ranked_26  : Nat → Int32 → Nat → Int32 → hp_T → Option (Int32 × hp_T)
  | 0, _, _, _, _ => none
  | n + 1, a2, a3, a4, h => if (h.1 a3 5) ≤ a4 then (some ((-2 : Int32), h)) else (fx_b2 (fX7_betterThan a3 a4 h) fun (r38 : Int32) (h38 : hp_T) => if r38 = a2 then (some (a4, h38)) else (fx_let (a4 + (1 : Int32)) fun (x48 : Int32) => fX9_ranked_26 n a2 a3 x48 h38))
set_option maxRecDepth 100000 in
set_option maxHeartbeats 4000000 in
theorem bX9_ranked_26 {l : Launch} {G : xr_G} {K : xr_K} {r : Int32} {h1 : hp_T} (C : xr_C G K cX9_ranked RX9 5 (xr_R 2 45) (some .int) (some (xr_Qi G r h1)))  : ∀ (n : Nat) (a2 : Int32) (a3 : Nat) (a4 : Int32) (ta3 : hp_sh a3 = (7, 0)) (h : hp_T), fX9_ranked_26 n a2 a3 a4 h = some (r, h1) → xr_j l G K 5 h [(2, .int a2), (3, .ref (G.2.2.1 a3)), (4, .int a4)] 26 [] := by
  intro n
  induction n with
  | zero =>
    intro a2 a3 a4 ta3 h hF
    cases hF
  | succ n ih =>
    intro a2 a3 a4 ta3 h hF
    rw [fX9_ranked_26] at hF
    refine xr_iload C 2 dX9_ranked_26 rfl ?_
    refine xr_aload_n C 1 dX9_ranked_28 rfl rfl ?_
    refine xr_geti C flX9_130 rfl dX9_ranked_29 ta3 ?_
    refine xr_icmp_ge C 54 dX9_ranked_32 (by decide) (fun c32 => ?_) (fun c32 => ?_)
    · have hF := fx_pos hF c32
      refine xr_bipush (v := -2) C dX9_ranked_54 (by decide) ?_
      cases hF
      exact xr_iret C dX9_ranked_56
    · have hF := fx_neg hF c32
      refine xr_aload_n C 1 dX9_ranked_35 rfl rfl ?_
      refine xr_iload C 2 dX9_ranked_36 rfl ?_
      obtain ⟨r38, h38, e38, hF⟩ := fx_b2E hF
      refine xr_callVi C mvX9_198 [.int a4] [] (mX7_betterThan l G a3 a4 ta3 h h38 r38 e38) ta3 (by decide) vc7 rfl ⟨rfl, rfl, (Nat.le_of_ble_eq_true rfl), (Nat.le_of_ble_eq_true rfl)⟩ rfl (Nat.le_of_ble_eq_true rfl) dX9_ranked_38 ?_
      refine xr_iload_n C 0 dX9_ranked_41 rfl rfl ?_
      refine xr_icmp_ne C 48 dX9_ranked_42 (by decide) (fun c42 => ?_) (fun c42 => ?_)
      · have hF := fx_neg hF c42
        obtain ⟨x48, e48⟩ : ∃ y : Int32, y = (a4 + (1 : Int32)) := ⟨_, rfl⟩
        have hF := fx_letE hF x48 e48
        refine xr_iinc C x48 2 [(4, .int x48), (2, .int a2), (3, .ref (G.2.2.1 a3))] dX9_ranked_48 rfl (by rw [e48]; rfl) (Nat.le_of_ble_eq_true rfl) rfl ?_
        refine xr_goto C 26 dX9_ranked_51 (by decide) ?_
        refine xr_sub [1, 2, 0] [(2, .int a2), (3, .ref (G.2.2.1 a3)), (4, .int x48)] rfl ?_
        exact ih a2 a3 x48 ta3 h38 hF
      · have hF := fx_pos hF c42
        refine xr_iload C 2 dX9_ranked_45 rfl ?_
        cases hF
        exact xr_iret C dX9_ranked_47
def fX9_ranked (a0 : Nat) (a1 : Int32) (a2 : Int32) (h : hp_T) : Option (Int32 × hp_T) := fx_b2 (fX9_isSide a0 a1 h) fun (r2 : Int32) (h2 : hp_T) => if r2 = 0 then (some ((-1 : Int32), h2)) else (if 0 ≤ a2 then (fx_b2 (fX8_squad (h2.2.2 a0 11) a1 h2) fun (r19 : Nat) (h19 : hp_T) => fX9_ranked_26 fx_N a2 r19 (0 : Int32) h19) else (some ((-1 : Int32), h2)))
set_option maxRecDepth 100000 in
set_option maxHeartbeats 4000000 in
theorem mX9_ranked (l : Launch) (G : xr_G) (a0 : Nat) (a1 : Int32) (a2 : Int32) (ta0 : hp_sh a0 = (9, 0)) (h h1 : hp_T) (r : Int32) (hF : fX9_ranked a0 a1 a2 h = some (r, h1)) : xr_M l G yX9_ranked cX9_ranked 5 (xr_R 2 45) (some .int) [.ref (G.2.2.1 a0), .int a1, .int a2] h (xr_Qi G r h1) := by
  refine xr_start rfl (Nat.le_of_ble_eq_true rfl) (fun K C => ?_)
  show xr_j l G K 5 h [(0, .ref (G.2.2.1 a0)), (1, .int a1), (2, .int a2)] 0 []
  unfold fX9_ranked at hF
  refine xr_aload_n C 0 dX9_ranked_0 rfl rfl ?_
  refine xr_iload_n C 1 dX9_ranked_1 rfl rfl ?_
  obtain ⟨r2, h2, e2, hF⟩ := fx_b2E hF
  refine xr_callVi C mvX9_99 [.int a1] [] (mX9_isSide l G a0 a1 ta0 h h2 r2 e2) ta0 (by decide) vc9 rfl ⟨rfl, rfl, (Nat.le_of_ble_eq_true rfl), (Nat.le_of_ble_eq_true rfl)⟩ rfl (Nat.le_of_ble_eq_true rfl) dX9_ranked_2 ?_
  refine xr_if_eq C 12 dX9_ranked_5 (by decide) (fun c5 => ?_) (fun c5 => ?_)
  · have hF := fx_pos hF c5
    refine xr_iconst (v := -1) C dX9_ranked_12 (by decide) ?_
    cases hF
    exact xr_iret C dX9_ranked_13
  · have hF := fx_neg hF c5
    refine xr_iload_n C 2 dX9_ranked_8 rfl rfl ?_
    refine xr_if_ge C 14 dX9_ranked_9 (by decide) (fun c9 => ?_) (fun c9 => ?_)
    · have hF := fx_pos hF c9
      refine xr_aload_n C 0 dX9_ranked_14 rfl rfl ?_
      refine xr_getr C flX9_68 rfl (by decide) dX9_ranked_15 ta0 (fun t15 => ?_)
      refine xr_iload_n C 1 dX9_ranked_18 rfl rfl ?_
      obtain ⟨r19, h19, e19, hF⟩ := fx_b2E hF
      refine xr_callVr C mvX9_103 [.int a1] [] (mX8_squad l G (h2.2.2 a0 11) a1 t15 h2 h19 r19 e19) t15 (by decide) vc8 rfl ⟨rfl, rfl, (Nat.le_of_ble_eq_true rfl), (Nat.le_of_ble_eq_true rfl)⟩ rfl (Nat.le_of_ble_eq_true rfl) dX9_ranked_19 (fun t19 => ?_)
      refine xr_astore_n C [(3, .ref (G.2.2.1 r19)), (0, .ref (G.2.2.1 a0)), (1, .int a1), (2, .int a2)] dX9_ranked_22 rfl (Nat.le_of_ble_eq_true rfl) rfl ?_
      refine xr_iconst (v := 0) C dX9_ranked_23 (by decide) ?_
      refine xr_istore C [(4, .int (0 : Int32)), (3, .ref (G.2.2.1 r19)), (0, .ref (G.2.2.1 a0)), (1, .int a1), (2, .int a2)] dX9_ranked_24 (Nat.le_of_ble_eq_true rfl) rfl ?_
      refine xr_sub [4, 1, 0] [(2, .int a2), (3, .ref (G.2.2.1 r19)), (4, .int (0 : Int32))] rfl ?_
      exact bX9_ranked_26 C  fx_N a2 r19 (0 : Int32) t19 h19 hF
    · have hF := fx_neg hF c9
      refine xr_iconst (v := -1) C dX9_ranked_12 (by decide) ?_
      cases hF
      exact xr_iret C dX9_ranked_13
theorem dX9_isSpot_0 : decode cX9_isSpot 0 = .ok (.iload_n 0, 1) := by decide +kernel
theorem dX9_isSpot_1 : decode cX9_isSpot 1 = .ok (.iconst 1, 1) := by decide +kernel
theorem dX9_isSpot_2 : decode cX9_isSpot 2 = .ok (.if_icmp .lt 13, 3) := by decide +kernel
theorem dX9_isSpot_5 : decode cX9_isSpot 5 = .ok (.iload_n 0, 1) := by decide +kernel
theorem dX9_isSpot_6 : decode cX9_isSpot 6 = .ok (.bipush 6, 2) := by decide +kernel
theorem dX9_isSpot_8 : decode cX9_isSpot 8 = .ok (.if_icmp .gt 7, 3) := by decide +kernel
theorem dX9_isSpot_11 : decode cX9_isSpot 11 = .ok (.iconst 1, 1) := by decide +kernel
theorem dX9_isSpot_12 : decode cX9_isSpot 12 = .ok (.goto 4, 3) := by decide +kernel
theorem dX9_isSpot_15 : decode cX9_isSpot 15 = .ok (.iconst 0, 1) := by decide +kernel
theorem dX9_isSpot_16 : decode cX9_isSpot 16 = .ok (.ireturn, 1) := by decide +kernel
def fX9_isSpot (a0 : Int32) (h : hp_T) : Option (Int32 × hp_T) := if a0 < (1 : Int32) then (some ((0 : Int32), h)) else (if (6 : Int32) < a0 then (some ((0 : Int32), h)) else (some ((1 : Int32), h)))
set_option maxRecDepth 100000 in
set_option maxHeartbeats 4000000 in
theorem mX9_isSpot (l : Launch) (G : xr_G) (a0 : Int32)  (h h1 : hp_T) (r : Int32) (hF : fX9_isSpot a0 h = some (r, h1)) : xr_M l G yX9_isSpot cX9_isSpot 1 (xr_R 0 0) (some .boolean) [.int a0] h (xr_Qi G r h1) := by
  refine xr_start rfl (Nat.le_of_ble_eq_true rfl) (fun K C => ?_)
  show xr_j l G K 1 h [(0, .int a0)] 0 []
  unfold fX9_isSpot at hF
  refine xr_iload_n C 0 dX9_isSpot_0 rfl rfl ?_
  refine xr_iconst (v := 1) C dX9_isSpot_1 (by decide) ?_
  refine xr_icmp_lt C 15 dX9_isSpot_2 (by decide) (fun c2 => ?_) (fun c2 => ?_)
  · have hF := fx_pos hF c2
    refine xr_iconst (v := 0) C dX9_isSpot_15 (by decide) ?_
    cases hF
    exact xr_zret C rfl dX9_isSpot_16
  · have hF := fx_neg hF c2
    refine xr_iload_n C 0 dX9_isSpot_5 rfl rfl ?_
    refine xr_bipush (v := 6) C dX9_isSpot_6 (by decide) ?_
    refine xr_icmp_gt C 15 dX9_isSpot_8 (by decide) (fun c8 => ?_) (fun c8 => ?_)
    · have hF := fx_pos hF c8
      refine xr_iconst (v := 0) C dX9_isSpot_15 (by decide) ?_
      cases hF
      exact xr_zret C rfl dX9_isSpot_16
    · have hF := fx_neg hF c8
      refine xr_iconst (v := 1) C dX9_isSpot_11 (by decide) ?_
      refine xr_goto C 16 dX9_isSpot_12 (by decide) ?_
      cases hF
      exact xr_zret C rfl dX9_isSpot_16
theorem dX9_whoIsOn_0 : decode cX9_whoIsOn 0 = .ok (.aload_n 0, 1) := by decide +kernel
theorem dX9_whoIsOn_1 : decode cX9_whoIsOn 1 = .ok (.getfield 33, 3) := by decide +kernel
theorem dX9_whoIsOn_4 : decode cX9_whoIsOn 4 = .ok (.iload_n 1, 1) := by decide +kernel
theorem dX9_whoIsOn_5 : decode cX9_whoIsOn 5 = .ok (.invokevirtual 207, 3) := by decide +kernel
theorem dX9_whoIsOn_8 : decode cX9_whoIsOn 8 = .ok (.astore_n 3, 1) := by decide +kernel
theorem dX9_whoIsOn_9 : decode cX9_whoIsOn 9 = .ok (.aload_n 3, 1) := by decide +kernel
theorem dX9_whoIsOn_10 : decode cX9_whoIsOn 10 = .ok (.getfield 241, 3) := by decide +kernel
theorem dX9_whoIsOn_13 : decode cX9_whoIsOn 13 = .ok (.iload_n 2, 1) := by decide +kernel
theorem dX9_whoIsOn_14 : decode cX9_whoIsOn 14 = .ok (.if_icmp .ne 17, 3) := by decide +kernel
theorem dX9_whoIsOn_17 : decode cX9_whoIsOn 17 = .ok (.aload_n 0, 1) := by decide +kernel
theorem dX9_whoIsOn_18 : decode cX9_whoIsOn 18 = .ok (.getfield 68, 3) := by decide +kernel
theorem dX9_whoIsOn_21 : decode cX9_whoIsOn 21 = .ok (.iload_n 1, 1) := by decide +kernel
theorem dX9_whoIsOn_22 : decode cX9_whoIsOn 22 = .ok (.invokevirtual 103, 3) := by decide +kernel
theorem dX9_whoIsOn_25 : decode cX9_whoIsOn 25 = .ok (.getfield 173, 3) := by decide +kernel
theorem dX9_whoIsOn_28 : decode cX9_whoIsOn 28 = .ok (.goto 11, 3) := by decide +kernel
theorem dX9_whoIsOn_31 : decode cX9_whoIsOn 31 = .ok (.aload_n 3, 1) := by decide +kernel
theorem dX9_whoIsOn_32 : decode cX9_whoIsOn 32 = .ok (.getfield 211, 3) := by decide +kernel
theorem dX9_whoIsOn_35 : decode cX9_whoIsOn 35 = .ok (.iload_n 2, 1) := by decide +kernel
theorem dX9_whoIsOn_36 : decode cX9_whoIsOn 36 = .ok (.iconst 1, 1) := by decide +kernel
theorem dX9_whoIsOn_37 : decode cX9_whoIsOn 37 = .ok (.isub, 1) := by decide +kernel
theorem dX9_whoIsOn_38 : decode cX9_whoIsOn 38 = .ok (.iaload, 1) := by decide +kernel
theorem dX9_whoIsOn_39 : decode cX9_whoIsOn 39 = .ok (.ireturn, 1) := by decide +kernel
def fX9_whoIsOn (a0 : Nat) (a1 : Int32) (a2 : Int32) (h : hp_T) : Option (Int32 × hp_T) := fx_b2 (fX1_team (h.2.2 a0 3) a1 h) fun (r5 : Nat) (h5 : hp_T) => if (h5.1 r5 4) = a2 then (fx_b2 (fX8_squad (h5.2.2 a0 11) a1 h5) fun (r22 : Nat) (h22 : hp_T) => some ((h22.1 r22 7), h22)) else (fx_g (fx_in (a2 - (1 : Int32)) 6) (some ((h5.1 (h5.2.2 r5 0) (fx_ix (a2 - (1 : Int32)))), h5)))
set_option maxRecDepth 100000 in
set_option maxHeartbeats 4000000 in
theorem mX9_whoIsOn (l : Launch) (G : xr_G) (a0 : Nat) (a1 : Int32) (a2 : Int32) (ta0 : hp_sh a0 = (9, 0)) (h h1 : hp_T) (r : Int32) (hF : fX9_whoIsOn a0 a1 a2 h = some (r, h1)) : xr_M l G yX9_whoIsOn cX9_whoIsOn 4 (xr_R 1 21) (some .int) [.ref (G.2.2.1 a0), .int a1, .int a2] h (xr_Qi G r h1) := by
  refine xr_start rfl (Nat.le_of_ble_eq_true rfl) (fun K C => ?_)
  show xr_j l G K 4 h [(0, .ref (G.2.2.1 a0)), (1, .int a1), (2, .int a2)] 0 []
  unfold fX9_whoIsOn at hF
  refine xr_aload_n C 0 dX9_whoIsOn_0 rfl rfl ?_
  refine xr_getr C flX9_33 rfl (by decide) dX9_whoIsOn_1 ta0 (fun t1 => ?_)
  refine xr_iload_n C 1 dX9_whoIsOn_4 rfl rfl ?_
  obtain ⟨r5, h5, e5, hF⟩ := fx_b2E hF
  refine xr_callVr C mvX9_207 [.int a1] [] (mX1_team l G (h.2.2 a0 3) a1 t1 h h5 r5 e5) t1 (by decide) vc1 rfl ⟨rfl, rfl, (Nat.le_of_ble_eq_true rfl), (Nat.le_of_ble_eq_true rfl)⟩ rfl (Nat.le_of_ble_eq_true rfl) dX9_whoIsOn_5 (fun t5 => ?_)
  refine xr_astore_n C [(3, .ref (G.2.2.1 r5)), (0, .ref (G.2.2.1 a0)), (1, .int a1), (2, .int a2)] dX9_whoIsOn_8 rfl (Nat.le_of_ble_eq_true rfl) rfl ?_
  refine xr_aload_n C 0 dX9_whoIsOn_9 rfl rfl ?_
  refine xr_geti C flX9_241 rfl dX9_whoIsOn_10 t5 ?_
  refine xr_iload_n C 3 dX9_whoIsOn_13 rfl rfl ?_
  refine xr_icmp_ne C 31 dX9_whoIsOn_14 (by decide) (fun c14 => ?_) (fun c14 => ?_)
  · have hF := fx_neg hF c14
    refine xr_aload_n C 0 dX9_whoIsOn_31 rfl rfl ?_
    refine xr_getr C flX9_211 rfl (by decide) dX9_whoIsOn_32 t5 (fun t32 => ?_)
    refine xr_iload_n C 3 dX9_whoIsOn_35 rfl rfl ?_
    refine xr_iconst (v := 1) C dX9_whoIsOn_36 (by decide) ?_
    refine xr_isub C dX9_whoIsOn_37 ?_
    obtain ⟨g38, hF⟩ := fx_gE hF
    refine xr_iald C dX9_whoIsOn_38 t32 g38 ?_
    cases hF
    exact xr_iret C dX9_whoIsOn_39
  · have hF := fx_pos hF c14
    refine xr_aload_n C 1 dX9_whoIsOn_17 rfl rfl ?_
    refine xr_getr C flX9_68 rfl (by decide) dX9_whoIsOn_18 ta0 (fun t18 => ?_)
    refine xr_iload_n C 2 dX9_whoIsOn_21 rfl rfl ?_
    obtain ⟨r22, h22, e22, hF⟩ := fx_b2E hF
    refine xr_callVr C mvX9_103 [.int a1] [] (mX8_squad l G (h5.2.2 a0 11) a1 t18 h5 h22 r22 e22) t18 (by decide) vc8 rfl ⟨rfl, rfl, (Nat.le_of_ble_eq_true rfl), (Nat.le_of_ble_eq_true rfl)⟩ rfl (Nat.le_of_ble_eq_true rfl) dX9_whoIsOn_22 (fun t22 => ?_)
    refine xr_geti C flX9_173 rfl dX9_whoIsOn_25 t22 ?_
    refine xr_goto C 39 dX9_whoIsOn_28 (by decide) ?_
    cases hF
    exact xr_iret C dX9_whoIsOn_39
theorem dX9_on_0 : decode cX9_on 0 = .ok (.aload_n 0, 1) := by decide +kernel
theorem dX9_on_1 : decode cX9_on 1 = .ok (.iload_n 1, 1) := by decide +kernel
theorem dX9_on_2 : decode cX9_on 2 = .ok (.invokevirtual 99, 3) := by decide +kernel
theorem dX9_on_5 : decode cX9_on 5 = .ok (.ifCond .eq 19, 3) := by decide +kernel
theorem dX9_on_8 : decode cX9_on 8 = .ok (.iload_n 2, 1) := by decide +kernel
theorem dX9_on_9 : decode cX9_on 9 = .ok (.invokestatic 201, 3) := by decide +kernel
theorem dX9_on_12 : decode cX9_on 12 = .ok (.ifCond .eq 12, 3) := by decide +kernel
theorem dX9_on_15 : decode cX9_on 15 = .ok (.aload_n 0, 1) := by decide +kernel
theorem dX9_on_16 : decode cX9_on 16 = .ok (.iload_n 1, 1) := by decide +kernel
theorem dX9_on_17 : decode cX9_on 17 = .ok (.iload_n 2, 1) := by decide +kernel
theorem dX9_on_18 : decode cX9_on 18 = .ok (.invokevirtual 204, 3) := by decide +kernel
theorem dX9_on_21 : decode cX9_on 21 = .ok (.goto 4, 3) := by decide +kernel
theorem dX9_on_24 : decode cX9_on 24 = .ok (.iconst (-1), 1) := by decide +kernel
theorem dX9_on_25 : decode cX9_on 25 = .ok (.ireturn, 1) := by decide +kernel
def fX9_on (a0 : Nat) (a1 : Int32) (a2 : Int32) (h : hp_T) : Option (Int32 × hp_T) := fx_b2 (fX9_isSide a0 a1 h) fun (r2 : Int32) (h2 : hp_T) => if r2 = 0 then (some ((-1 : Int32), h2)) else (fx_b2 (fX9_isSpot a2 h2) fun (r9 : Int32) (h9 : hp_T) => if r9 = 0 then (some ((-1 : Int32), h9)) else (fx_b2 (fX9_whoIsOn a0 a1 a2 h9) fun (r18 : Int32) (h18 : hp_T) => some (r18, h18)))
set_option maxRecDepth 100000 in
set_option maxHeartbeats 4000000 in
theorem mX9_on (l : Launch) (G : xr_G) (a0 : Nat) (a1 : Int32) (a2 : Int32) (ta0 : hp_sh a0 = (9, 0)) (h h1 : hp_T) (r : Int32) (hF : fX9_on a0 a1 a2 h = some (r, h1)) : xr_M l G yX9_on cX9_on 3 (xr_R 2 44) (some .int) [.ref (G.2.2.1 a0), .int a1, .int a2] h (xr_Qi G r h1) := by
  refine xr_start rfl (Nat.le_of_ble_eq_true rfl) (fun K C => ?_)
  show xr_j l G K 3 h [(0, .ref (G.2.2.1 a0)), (1, .int a1), (2, .int a2)] 0 []
  unfold fX9_on at hF
  refine xr_aload_n C 0 dX9_on_0 rfl rfl ?_
  refine xr_iload_n C 1 dX9_on_1 rfl rfl ?_
  obtain ⟨r2, h2, e2, hF⟩ := fx_b2E hF
  refine xr_callVi C mvX9_99 [.int a1] [] (mX9_isSide l G a0 a1 ta0 h h2 r2 e2) ta0 (by decide) vc9 rfl ⟨rfl, rfl, (Nat.le_of_ble_eq_true rfl), (Nat.le_of_ble_eq_true rfl)⟩ rfl (Nat.le_of_ble_eq_true rfl) dX9_on_2 ?_
  refine xr_if_eq C 24 dX9_on_5 (by decide) (fun c5 => ?_) (fun c5 => ?_)
  · have hF := fx_pos hF c5
    refine xr_iconst (v := -1) C dX9_on_24 (by decide) ?_
    cases hF
    exact xr_iret C dX9_on_25
  · have hF := fx_neg hF c5
    refine xr_iload_n C 2 dX9_on_8 rfl rfl ?_
    obtain ⟨r9, h9, e9, hF⟩ := fx_b2E hF
    refine xr_callSi C mvX9_201 [.int a2] [] (mX9_isSpot l G a2  h2 h9 r9 e9) rfl ⟨rfl, rfl, (Nat.le_of_ble_eq_true rfl), (Nat.le_of_ble_eq_true rfl)⟩ rfl (Nat.le_of_ble_eq_true rfl) dX9_on_9 ?_
    refine xr_if_eq C 24 dX9_on_12 (by decide) (fun c12 => ?_) (fun c12 => ?_)
    · have hF := fx_pos hF c12
      refine xr_iconst (v := -1) C dX9_on_24 (by decide) ?_
      cases hF
      exact xr_iret C dX9_on_25
    · have hF := fx_neg hF c12
      refine xr_aload_n C 0 dX9_on_15 rfl rfl ?_
      refine xr_iload_n C 1 dX9_on_16 rfl rfl ?_
      refine xr_iload_n C 2 dX9_on_17 rfl rfl ?_
      obtain ⟨r18, h18, e18, hF⟩ := fx_b2E hF
      refine xr_callVi C mvX9_204 [.int a1, .int a2] [] (mX9_whoIsOn l G a0 a1 a2 ta0 h9 h18 r18 e18) ta0 (by decide) vc9 rfl ⟨rfl, rfl, (Nat.le_of_ble_eq_true rfl), (Nat.le_of_ble_eq_true rfl)⟩ rfl (Nat.le_of_ble_eq_true rfl) dX9_on_18 ?_
      refine xr_goto C 25 dX9_on_21 (by decide) ?_
      cases hF
      exact xr_iret C dX9_on_25
theorem dX9_lineUp_0 : decode cX9_lineUp 0 = .ok (.aload_n 0, 1) := by decide +kernel
theorem dX9_lineUp_1 : decode cX9_lineUp 1 = .ok (.iload_n 1, 1) := by decide +kernel
theorem dX9_lineUp_2 : decode cX9_lineUp 2 = .ok (.invokevirtual 99, 3) := by decide +kernel
theorem dX9_lineUp_5 : decode cX9_lineUp 5 = .ok (.ifCond .eq 28, 3) := by decide +kernel
theorem dX9_lineUp_8 : decode cX9_lineUp 8 = .ok (.iload_n 2, 1) := by decide +kernel
theorem dX9_lineUp_9 : decode cX9_lineUp 9 = .ok (.invokestatic 201, 3) := by decide +kernel
theorem dX9_lineUp_12 : decode cX9_lineUp 12 = .ok (.ifCond .eq 21, 3) := by decide +kernel
theorem dX9_lineUp_15 : decode cX9_lineUp 15 = .ok (.aload_n 0, 1) := by decide +kernel
theorem dX9_lineUp_16 : decode cX9_lineUp 16 = .ok (.getfield 33, 3) := by decide +kernel
theorem dX9_lineUp_19 : decode cX9_lineUp 19 = .ok (.iload_n 1, 1) := by decide +kernel
theorem dX9_lineUp_20 : decode cX9_lineUp 20 = .ok (.invokevirtual 207, 3) := by decide +kernel
theorem dX9_lineUp_23 : decode cX9_lineUp 23 = .ok (.getfield 211, 3) := by decide +kernel
theorem dX9_lineUp_26 : decode cX9_lineUp 26 = .ok (.iload_n 2, 1) := by decide +kernel
theorem dX9_lineUp_27 : decode cX9_lineUp 27 = .ok (.iconst 1, 1) := by decide +kernel
theorem dX9_lineUp_28 : decode cX9_lineUp 28 = .ok (.isub, 1) := by decide +kernel
theorem dX9_lineUp_29 : decode cX9_lineUp 29 = .ok (.iaload, 1) := by decide +kernel
theorem dX9_lineUp_30 : decode cX9_lineUp 30 = .ok (.goto 4, 3) := by decide +kernel
theorem dX9_lineUp_33 : decode cX9_lineUp 33 = .ok (.iconst (-1), 1) := by decide +kernel
theorem dX9_lineUp_34 : decode cX9_lineUp 34 = .ok (.ireturn, 1) := by decide +kernel
def fX9_lineUp (a0 : Nat) (a1 : Int32) (a2 : Int32) (h : hp_T) : Option (Int32 × hp_T) := fx_b2 (fX9_isSide a0 a1 h) fun (r2 : Int32) (h2 : hp_T) => if r2 = 0 then (some ((-1 : Int32), h2)) else (fx_b2 (fX9_isSpot a2 h2) fun (r9 : Int32) (h9 : hp_T) => if r9 = 0 then (some ((-1 : Int32), h9)) else (fx_b2 (fX1_team (h9.2.2 a0 3) a1 h9) fun (r20 : Nat) (h20 : hp_T) => fx_g (fx_in (a2 - (1 : Int32)) 6) (some ((h20.1 (h20.2.2 r20 0) (fx_ix (a2 - (1 : Int32)))), h20))))
set_option maxRecDepth 100000 in
set_option maxHeartbeats 4000000 in
theorem mX9_lineUp (l : Launch) (G : xr_G) (a0 : Nat) (a1 : Int32) (a2 : Int32) (ta0 : hp_sh a0 = (9, 0)) (h h1 : hp_T) (r : Int32) (hF : fX9_lineUp a0 a1 a2 h = some (r, h1)) : xr_M l G yX9_lineUp cX9_lineUp 3 (xr_R 1 21) (some .int) [.ref (G.2.2.1 a0), .int a1, .int a2] h (xr_Qi G r h1) := by
  refine xr_start rfl (Nat.le_of_ble_eq_true rfl) (fun K C => ?_)
  show xr_j l G K 3 h [(0, .ref (G.2.2.1 a0)), (1, .int a1), (2, .int a2)] 0 []
  unfold fX9_lineUp at hF
  refine xr_aload_n C 0 dX9_lineUp_0 rfl rfl ?_
  refine xr_iload_n C 1 dX9_lineUp_1 rfl rfl ?_
  obtain ⟨r2, h2, e2, hF⟩ := fx_b2E hF
  refine xr_callVi C mvX9_99 [.int a1] [] (mX9_isSide l G a0 a1 ta0 h h2 r2 e2) ta0 (by decide) vc9 rfl ⟨rfl, rfl, (Nat.le_of_ble_eq_true rfl), (Nat.le_of_ble_eq_true rfl)⟩ rfl (Nat.le_of_ble_eq_true rfl) dX9_lineUp_2 ?_
  refine xr_if_eq C 33 dX9_lineUp_5 (by decide) (fun c5 => ?_) (fun c5 => ?_)
  · have hF := fx_pos hF c5
    refine xr_iconst (v := -1) C dX9_lineUp_33 (by decide) ?_
    cases hF
    exact xr_iret C dX9_lineUp_34
  · have hF := fx_neg hF c5
    refine xr_iload_n C 2 dX9_lineUp_8 rfl rfl ?_
    obtain ⟨r9, h9, e9, hF⟩ := fx_b2E hF
    refine xr_callSi C mvX9_201 [.int a2] [] (mX9_isSpot l G a2  h2 h9 r9 e9) rfl ⟨rfl, rfl, (Nat.le_of_ble_eq_true rfl), (Nat.le_of_ble_eq_true rfl)⟩ rfl (Nat.le_of_ble_eq_true rfl) dX9_lineUp_9 ?_
    refine xr_if_eq C 33 dX9_lineUp_12 (by decide) (fun c12 => ?_) (fun c12 => ?_)
    · have hF := fx_pos hF c12
      refine xr_iconst (v := -1) C dX9_lineUp_33 (by decide) ?_
      cases hF
      exact xr_iret C dX9_lineUp_34
    · have hF := fx_neg hF c12
      refine xr_aload_n C 0 dX9_lineUp_15 rfl rfl ?_
      refine xr_getr C flX9_33 rfl (by decide) dX9_lineUp_16 ta0 (fun t16 => ?_)
      refine xr_iload_n C 1 dX9_lineUp_19 rfl rfl ?_
      obtain ⟨r20, h20, e20, hF⟩ := fx_b2E hF
      refine xr_callVr C mvX9_207 [.int a1] [] (mX1_team l G (h9.2.2 a0 3) a1 t16 h9 h20 r20 e20) t16 (by decide) vc1 rfl ⟨rfl, rfl, (Nat.le_of_ble_eq_true rfl), (Nat.le_of_ble_eq_true rfl)⟩ rfl (Nat.le_of_ble_eq_true rfl) dX9_lineUp_20 (fun t20 => ?_)
      refine xr_getr C flX9_211 rfl (by decide) dX9_lineUp_23 t20 (fun t23 => ?_)
      refine xr_iload_n C 2 dX9_lineUp_26 rfl rfl ?_
      refine xr_iconst (v := 1) C dX9_lineUp_27 (by decide) ?_
      refine xr_isub C dX9_lineUp_28 ?_
      obtain ⟨g29, hF⟩ := fx_gE hF
      refine xr_iald C dX9_lineUp_29 t23 g29 ?_
      refine xr_goto C 34 dX9_lineUp_30 (by decide) ?_
      cases hF
      exact xr_iret C dX9_lineUp_34
theorem dX9_fillTrials_0 : decode cX9_fillTrials 0 = .ok (.iconst 1, 1) := by decide +kernel
theorem dX9_fillTrials_1 : decode cX9_fillTrials 1 = .ok (.istore_n 1, 1) := by decide +kernel
theorem dX9_fillTrials_2 : decode cX9_fillTrials 2 = .ok (.iload_n 1, 1) := by decide +kernel
theorem dX9_fillTrials_3 : decode cX9_fillTrials 3 = .ok (.bipush 6, 2) := by decide +kernel
theorem dX9_fillTrials_5 : decode cX9_fillTrials 5 = .ok (.if_icmp .gt 37, 3) := by decide +kernel
theorem dX9_fillTrials_8 : decode cX9_fillTrials 8 = .ok (.aload_n 0, 1) := by decide +kernel
theorem dX9_fillTrials_9 : decode cX9_fillTrials 9 = .ok (.getfield 45, 3) := by decide +kernel
theorem dX9_fillTrials_12 : decode cX9_fillTrials 12 = .ok (.iload_n 1, 1) := by decide +kernel
theorem dX9_fillTrials_13 : decode cX9_fillTrials 13 = .ok (.iconst 1, 1) := by decide +kernel
theorem dX9_fillTrials_14 : decode cX9_fillTrials 14 = .ok (.isub, 1) := by decide +kernel
theorem dX9_fillTrials_15 : decode cX9_fillTrials 15 = .ok (.aload_n 0, 1) := by decide +kernel
theorem dX9_fillTrials_16 : decode cX9_fillTrials 16 = .ok (.iconst 0, 1) := by decide +kernel
theorem dX9_fillTrials_17 : decode cX9_fillTrials 17 = .ok (.iload_n 1, 1) := by decide +kernel
theorem dX9_fillTrials_18 : decode cX9_fillTrials 18 = .ok (.invokevirtual 204, 3) := by decide +kernel
theorem dX9_fillTrials_21 : decode cX9_fillTrials 21 = .ok (.iastore, 1) := by decide +kernel
theorem dX9_fillTrials_22 : decode cX9_fillTrials 22 = .ok (.aload_n 0, 1) := by decide +kernel
theorem dX9_fillTrials_23 : decode cX9_fillTrials 23 = .ok (.getfield 48, 3) := by decide +kernel
theorem dX9_fillTrials_26 : decode cX9_fillTrials 26 = .ok (.iload_n 1, 1) := by decide +kernel
theorem dX9_fillTrials_27 : decode cX9_fillTrials 27 = .ok (.iconst 1, 1) := by decide +kernel
theorem dX9_fillTrials_28 : decode cX9_fillTrials 28 = .ok (.isub, 1) := by decide +kernel
theorem dX9_fillTrials_29 : decode cX9_fillTrials 29 = .ok (.aload_n 0, 1) := by decide +kernel
theorem dX9_fillTrials_30 : decode cX9_fillTrials 30 = .ok (.iconst 1, 1) := by decide +kernel
theorem dX9_fillTrials_31 : decode cX9_fillTrials 31 = .ok (.iload_n 1, 1) := by decide +kernel
theorem dX9_fillTrials_32 : decode cX9_fillTrials 32 = .ok (.invokevirtual 204, 3) := by decide +kernel
theorem dX9_fillTrials_35 : decode cX9_fillTrials 35 = .ok (.iastore, 1) := by decide +kernel
theorem dX9_fillTrials_36 : decode cX9_fillTrials 36 = .ok (.iinc 1 1, 3) := by decide +kernel
theorem dX9_fillTrials_39 : decode cX9_fillTrials 39 = .ok (.goto (-37), 3) := by decide +kernel
theorem dX9_fillTrials_42 : decode cX9_fillTrials 42 = .ok (.return_, 1) := by decide +kernel
def fX9_fillTrials_2  : Nat → Nat → Int32 → hp_T → Option hp_T
  | 0, _, _, _ => none
  | n + 1, a0, a1, h => if (6 : Int32) < a1 then (some h) else (fx_b2 (fX9_whoIsOn a0 (0 : Int32) a1 h) fun (r18 : Int32) (h18 : hp_T) => fx_g (fx_in (a1 - (1 : Int32)) 6) (fx_let (hp_sI h18 (h.2.2 a0 6) (fx_ix (a1 - (1 : Int32))) r18) fun (h21 : hp_T) => fx_b2 (fX9_whoIsOn a0 (1 : Int32) a1 h21) fun (r32 : Int32) (h32 : hp_T) => fx_g (fx_in (a1 - (1 : Int32)) 6) (fx_let (hp_sI h32 (h21.2.2 a0 7) (fx_ix (a1 - (1 : Int32))) r32) fun (h35 : hp_T) => fx_let (a1 + (1 : Int32)) fun (x36 : Int32) => fX9_fillTrials_2 n a0 x36 h35)))
set_option maxRecDepth 100000 in
set_option maxHeartbeats 4000000 in
theorem bX9_fillTrials_2 {l : Launch} {G : xr_G} {K : xr_K} {h1 : hp_T} (C : xr_C G K cX9_fillTrials RX9 2 (xr_R 2 44) none (some (xr_Qv G h1)))  : ∀ (n : Nat) (a0 : Nat) (a1 : Int32) (ta0 : hp_sh a0 = (9, 0)) (h : hp_T), fX9_fillTrials_2 n a0 a1 h = some h1 → xr_j l G K 2 h [(0, .ref (G.2.2.1 a0)), (1, .int a1)] 2 [] := by
  intro n
  induction n with
  | zero =>
    intro a0 a1 ta0 h hF
    cases hF
  | succ n ih =>
    intro a0 a1 ta0 h hF
    rw [fX9_fillTrials_2] at hF
    refine xr_iload_n C 1 dX9_fillTrials_2 rfl rfl ?_
    refine xr_bipush (v := 6) C dX9_fillTrials_3 (by decide) ?_
    refine xr_icmp_gt C 42 dX9_fillTrials_5 (by decide) (fun c5 => ?_) (fun c5 => ?_)
    · have hF := fx_pos hF c5
      cases hF
      exact xr_vret C dX9_fillTrials_42
    · have hF := fx_neg hF c5
      refine xr_aload_n C 0 dX9_fillTrials_8 rfl rfl ?_
      refine xr_getr C flX9_45 rfl (by decide) dX9_fillTrials_9 ta0 (fun t9 => ?_)
      refine xr_iload_n C 1 dX9_fillTrials_12 rfl rfl ?_
      refine xr_iconst (v := 1) C dX9_fillTrials_13 (by decide) ?_
      refine xr_isub C dX9_fillTrials_14 ?_
      refine xr_aload_n C 0 dX9_fillTrials_15 rfl rfl ?_
      refine xr_iconst (v := 0) C dX9_fillTrials_16 (by decide) ?_
      refine xr_iload_n C 1 dX9_fillTrials_17 rfl rfl ?_
      obtain ⟨r18, h18, e18, hF⟩ := fx_b2E hF
      refine xr_callVi C mvX9_204 [.int (0 : Int32), .int a1] [.int (a1 - (1 : Int32)), .ref (G.2.2.1 (h.2.2 a0 6))] (mX9_whoIsOn l G a0 (0 : Int32) a1 ta0 h h18 r18 e18) ta0 (by decide) vc9 rfl ⟨rfl, rfl, (Nat.le_of_ble_eq_true rfl), (Nat.le_of_ble_eq_true rfl)⟩ rfl (Nat.le_of_ble_eq_true rfl) dX9_fillTrials_18 ?_
      obtain ⟨g21, hF⟩ := fx_gE hF
      refine xr_iast C dX9_fillTrials_21 t9 g21 (fun h21 e21 => ?_)
      have hF := fx_letE hF h21 e21
      refine xr_aload_n C 0 dX9_fillTrials_22 rfl rfl ?_
      refine xr_getr C flX9_48 rfl (by decide) dX9_fillTrials_23 ta0 (fun t23 => ?_)
      refine xr_iload_n C 1 dX9_fillTrials_26 rfl rfl ?_
      refine xr_iconst (v := 1) C dX9_fillTrials_27 (by decide) ?_
      refine xr_isub C dX9_fillTrials_28 ?_
      refine xr_aload_n C 0 dX9_fillTrials_29 rfl rfl ?_
      refine xr_iconst (v := 1) C dX9_fillTrials_30 (by decide) ?_
      refine xr_iload_n C 1 dX9_fillTrials_31 rfl rfl ?_
      obtain ⟨r32, h32, e32, hF⟩ := fx_b2E hF
      refine xr_callVi C mvX9_204 [.int (1 : Int32), .int a1] [.int (a1 - (1 : Int32)), .ref (G.2.2.1 (h21.2.2 a0 7))] (mX9_whoIsOn l G a0 (1 : Int32) a1 ta0 h21 h32 r32 e32) ta0 (by decide) vc9 rfl ⟨rfl, rfl, (Nat.le_of_ble_eq_true rfl), (Nat.le_of_ble_eq_true rfl)⟩ rfl (Nat.le_of_ble_eq_true rfl) dX9_fillTrials_32 ?_
      obtain ⟨g35, hF⟩ := fx_gE hF
      refine xr_iast C dX9_fillTrials_35 t23 g35 (fun h35 e35 => ?_)
      have hF := fx_letE hF h35 e35
      obtain ⟨x36, e36⟩ : ∃ y : Int32, y = (a1 + (1 : Int32)) := ⟨_, rfl⟩
      have hF := fx_letE hF x36 e36
      refine xr_iinc C x36 1 [(1, .int x36), (0, .ref (G.2.2.1 a0))] dX9_fillTrials_36 rfl (by rw [e36]; rfl) (Nat.le_of_ble_eq_true rfl) rfl ?_
      refine xr_goto C 2 dX9_fillTrials_39 (by decide) ?_
      refine xr_sub [1, 0] [(0, .ref (G.2.2.1 a0)), (1, .int x36)] rfl ?_
      exact ih a0 x36 ta0 h35 hF
def fX9_fillTrials (a0 : Nat) (h : hp_T) : Option hp_T := fX9_fillTrials_2 fx_N a0 (1 : Int32) h
set_option maxRecDepth 100000 in
set_option maxHeartbeats 4000000 in
theorem mX9_fillTrials (l : Launch) (G : xr_G) (a0 : Nat) (ta0 : hp_sh a0 = (9, 0)) (h h1 : hp_T) (hF : fX9_fillTrials a0 h = some h1) : xr_M l G yX9_fillTrials cX9_fillTrials 2 (xr_R 2 44) none [.ref (G.2.2.1 a0)] h (xr_Qv G h1) := by
  refine xr_start rfl (Nat.le_of_ble_eq_true rfl) (fun K C => ?_)
  show xr_j l G K 2 h [(0, .ref (G.2.2.1 a0))] 0 []
  unfold fX9_fillTrials at hF
  refine xr_iconst (v := 1) C dX9_fillTrials_0 (by decide) ?_
  refine xr_istore_n C [(1, .int (1 : Int32)), (0, .ref (G.2.2.1 a0))] dX9_fillTrials_1 rfl (Nat.le_of_ble_eq_true rfl) rfl ?_
  refine xr_sub [1, 0] [(0, .ref (G.2.2.1 a0)), (1, .int (1 : Int32))] rfl ?_
  exact bX9_fillTrials_2 C  fx_N a0 (1 : Int32) ta0 h hF
theorem dX9_weighTrials_0 : decode cX9_weighTrials 0 = .ok (.aload_n 0, 1) := by decide +kernel
theorem dX9_weighTrials_1 : decode cX9_weighTrials 1 = .ok (.getfield 19, 3) := by decide +kernel
theorem dX9_weighTrials_4 : decode cX9_weighTrials 4 = .ok (.aload_n 0, 1) := by decide +kernel
theorem dX9_weighTrials_5 : decode cX9_weighTrials 5 = .ok (.getfield 68, 3) := by decide +kernel
theorem dX9_weighTrials_8 : decode cX9_weighTrials 8 = .ok (.aload_n 0, 1) := by decide +kernel
theorem dX9_weighTrials_9 : decode cX9_weighTrials 9 = .ok (.getfield 45, 3) := by decide +kernel
theorem dX9_weighTrials_12 : decode cX9_weighTrials 12 = .ok (.aload_n 0, 1) := by decide +kernel
theorem dX9_weighTrials_13 : decode cX9_weighTrials 13 = .ok (.getfield 48, 3) := by decide +kernel
theorem dX9_weighTrials_16 : decode cX9_weighTrials 16 = .ok (.invokevirtual 389, 3) := by decide +kernel
theorem dX9_weighTrials_19 : decode cX9_weighTrials 19 = .ok (.return_, 1) := by decide +kernel
def fX9_weighTrials (a0 : Nat) (h : hp_T) : Option hp_T := fx_b1 (fX4_weigh (h.2.2 a0 1) (h.2.2 a0 11) (h.2.2 a0 6) (h.2.2 a0 7) h) fun (h16 : hp_T) => some h16
set_option maxRecDepth 100000 in
set_option maxHeartbeats 4000000 in
theorem mX9_weighTrials (l : Launch) (G : xr_G) (a0 : Nat) (ta0 : hp_sh a0 = (9, 0)) (h h1 : hp_T) (hF : fX9_weighTrials a0 h = some h1) : xr_M l G yX9_weighTrials cX9_weighTrials 1 (xr_R 3 68) none [.ref (G.2.2.1 a0)] h (xr_Qv G h1) := by
  refine xr_start rfl (Nat.le_of_ble_eq_true rfl) (fun K C => ?_)
  show xr_j l G K 1 h [(0, .ref (G.2.2.1 a0))] 0 []
  unfold fX9_weighTrials at hF
  refine xr_aload_n C 0 dX9_weighTrials_0 rfl rfl ?_
  refine xr_getr C flX9_19 rfl (by decide) dX9_weighTrials_1 ta0 (fun t1 => ?_)
  refine xr_aload_n C 0 dX9_weighTrials_4 rfl rfl ?_
  refine xr_getr C flX9_68 rfl (by decide) dX9_weighTrials_5 ta0 (fun t5 => ?_)
  refine xr_aload_n C 0 dX9_weighTrials_8 rfl rfl ?_
  refine xr_getr C flX9_45 rfl (by decide) dX9_weighTrials_9 ta0 (fun t9 => ?_)
  refine xr_aload_n C 0 dX9_weighTrials_12 rfl rfl ?_
  refine xr_getr C flX9_48 rfl (by decide) dX9_weighTrials_13 ta0 (fun t13 => ?_)
  obtain ⟨h16, e16, hF⟩ := fx_b1E hF
  refine xr_callVv C mvX9_389 [.ref (G.2.2.1 (h.2.2 a0 11)), .ref (G.2.2.1 (h.2.2 a0 6)), .ref (G.2.2.1 (h.2.2 a0 7))] [] (mX4_weigh l G (h.2.2 a0 1) (h.2.2 a0 11) (h.2.2 a0 6) (h.2.2 a0 7) t1 t5 t9 t13 h h16 e16) t1 (by decide) vc4 rfl ⟨rfl, rfl, (Nat.le_of_ble_eq_true rfl), (Nat.le_of_ble_eq_true rfl)⟩ rfl (Nat.le_of_ble_eq_true rfl) dX9_weighTrials_16 ?_
  cases hF
  exact xr_vret C dX9_weighTrials_19
theorem dX9_weighCourt_0 : decode cX9_weighCourt 0 = .ok (.aload_n 0, 1) := by decide +kernel
theorem dX9_weighCourt_1 : decode cX9_weighCourt 1 = .ok (.invokevirtual 379, 3) := by decide +kernel
theorem dX9_weighCourt_4 : decode cX9_weighCourt 4 = .ok (.aload_n 0, 1) := by decide +kernel
theorem dX9_weighCourt_5 : decode cX9_weighCourt 5 = .ok (.invokevirtual 386, 3) := by decide +kernel
theorem dX9_weighCourt_8 : decode cX9_weighCourt 8 = .ok (.return_, 1) := by decide +kernel
def fX9_weighCourt (a0 : Nat) (h : hp_T) : Option hp_T := fx_b1 (fX9_fillTrials a0 h) fun (h1 : hp_T) => fx_b1 (fX9_weighTrials a0 h1) fun (h5 : hp_T) => some h5
set_option maxRecDepth 100000 in
set_option maxHeartbeats 4000000 in
theorem mX9_weighCourt (l : Launch) (G : xr_G) (a0 : Nat) (ta0 : hp_sh a0 = (9, 0)) (h h1 : hp_T) (hF : fX9_weighCourt a0 h = some h1) : xr_M l G yX9_weighCourt cX9_weighCourt 1 (xr_R 4 88) none [.ref (G.2.2.1 a0)] h (xr_Qv G h1) := by
  refine xr_start rfl (Nat.le_of_ble_eq_true rfl) (fun K C => ?_)
  show xr_j l G K 1 h [(0, .ref (G.2.2.1 a0))] 0 []
  unfold fX9_weighCourt at hF
  refine xr_aload_n C 0 dX9_weighCourt_0 rfl rfl ?_
  obtain ⟨h1, e1, hF⟩ := fx_b1E hF
  refine xr_callVv C mvX9_379 [] [] (mX9_fillTrials l G a0 ta0 h h1 e1) ta0 (by decide) vc9 rfl ⟨rfl, rfl, (Nat.le_of_ble_eq_true rfl), (Nat.le_of_ble_eq_true rfl)⟩ rfl (Nat.le_of_ble_eq_true rfl) dX9_weighCourt_1 ?_
  refine xr_aload_n C 0 dX9_weighCourt_4 rfl rfl ?_
  obtain ⟨h5, e5, hF⟩ := fx_b1E hF
  refine xr_callVv C mvX9_386 [] [] (mX9_weighTrials l G a0 ta0 h1 h5 e5) ta0 (by decide) vc9 rfl ⟨rfl, rfl, (Nat.le_of_ble_eq_true rfl), (Nat.le_of_ble_eq_true rfl)⟩ rfl (Nat.le_of_ble_eq_true rfl) dX9_weighCourt_5 ?_
  cases hF
  exact xr_vret C dX9_weighCourt_8
theorem dX9_strength_0 : decode cX9_strength 0 = .ok (.aload_n 0, 1) := by decide +kernel
theorem dX9_strength_1 : decode cX9_strength 1 = .ok (.iload_n 1, 1) := by decide +kernel
theorem dX9_strength_2 : decode cX9_strength 2 = .ok (.invokevirtual 99, 3) := by decide +kernel
theorem dX9_strength_5 : decode cX9_strength 5 = .ok (.ifCond .ne 5, 3) := by decide +kernel
theorem dX9_strength_8 : decode cX9_strength 8 = .ok (.iconst (-1), 1) := by decide +kernel
theorem dX9_strength_9 : decode cX9_strength 9 = .ok (.ireturn, 1) := by decide +kernel
theorem dX9_strength_10 : decode cX9_strength 10 = .ok (.aload_n 0, 1) := by decide +kernel
theorem dX9_strength_11 : decode cX9_strength 11 = .ok (.invokevirtual 216, 3) := by decide +kernel
theorem dX9_strength_14 : decode cX9_strength 14 = .ok (.aload_n 0, 1) := by decide +kernel
theorem dX9_strength_15 : decode cX9_strength 15 = .ok (.getfield 19, 3) := by decide +kernel
theorem dX9_strength_18 : decode cX9_strength 18 = .ok (.iload_n 1, 1) := by decide +kernel
theorem dX9_strength_19 : decode cX9_strength 19 = .ok (.invokevirtual 219, 3) := by decide +kernel
theorem dX9_strength_22 : decode cX9_strength 22 = .ok (.astore_n 3, 1) := by decide +kernel
theorem dX9_strength_23 : decode cX9_strength 23 = .ok (.iload_n 2, 1) := by decide +kernel
theorem dX9_strength_24 : decode cX9_strength 24 = .ok (.tableswitch 49 0 2 #[28, 35, 42], 28) := by decide +kernel
theorem dX9_strength_52 : decode cX9_strength 52 = .ok (.aload_n 3, 1) := by decide +kernel
theorem dX9_strength_53 : decode cX9_strength 53 = .ok (.getfield 223, 3) := by decide +kernel
theorem dX9_strength_56 : decode cX9_strength 56 = .ok (.iconst 0, 1) := by decide +kernel
theorem dX9_strength_57 : decode cX9_strength 57 = .ok (.iaload, 1) := by decide +kernel
theorem dX9_strength_58 : decode cX9_strength 58 = .ok (.ireturn, 1) := by decide +kernel
theorem dX9_strength_59 : decode cX9_strength 59 = .ok (.aload_n 3, 1) := by decide +kernel
theorem dX9_strength_60 : decode cX9_strength 60 = .ok (.getfield 228, 3) := by decide +kernel
theorem dX9_strength_63 : decode cX9_strength 63 = .ok (.iconst 0, 1) := by decide +kernel
theorem dX9_strength_64 : decode cX9_strength 64 = .ok (.iaload, 1) := by decide +kernel
theorem dX9_strength_65 : decode cX9_strength 65 = .ok (.ireturn, 1) := by decide +kernel
theorem dX9_strength_66 : decode cX9_strength 66 = .ok (.aload_n 3, 1) := by decide +kernel
theorem dX9_strength_67 : decode cX9_strength 67 = .ok (.getfield 231, 3) := by decide +kernel
theorem dX9_strength_70 : decode cX9_strength 70 = .ok (.iconst 0, 1) := by decide +kernel
theorem dX9_strength_71 : decode cX9_strength 71 = .ok (.iaload, 1) := by decide +kernel
theorem dX9_strength_72 : decode cX9_strength 72 = .ok (.ireturn, 1) := by decide +kernel
theorem dX9_strength_73 : decode cX9_strength 73 = .ok (.iconst (-1), 1) := by decide +kernel
theorem dX9_strength_74 : decode cX9_strength 74 = .ok (.ireturn, 1) := by decide +kernel
def fX9_strength (a0 : Nat) (a1 : Int32) (a2 : Int32) (h : hp_T) : Option (Int32 × hp_T) := fx_b2 (fX9_isSide a0 a1 h) fun (r2 : Int32) (h2 : hp_T) => if r2 = 0 then (some ((-1 : Int32), h2)) else (fx_b1 (fX9_weighCourt a0 h2) fun (h11 : hp_T) => fx_b2 (fX4_force (h11.2.2 a0 1) a1 h11) fun (r19 : Nat) (h19 : hp_T) => if a2 = 0 then (some ((h19.1 (h19.2.2 r19 1) (fx_ix (0 : Int32))), h19)) else if a2 = 1 then (some ((h19.1 (h19.2.2 r19 2) (fx_ix (0 : Int32))), h19)) else if a2 = 2 then (some ((h19.1 (h19.2.2 r19 0) (fx_ix (0 : Int32))), h19)) else (some ((-1 : Int32), h19)))
set_option maxRecDepth 100000 in
set_option maxHeartbeats 4000000 in
theorem mX9_strength (l : Launch) (G : xr_G) (a0 : Nat) (a1 : Int32) (a2 : Int32) (ta0 : hp_sh a0 = (9, 0)) (h h1 : hp_T) (r : Int32) (hF : fX9_strength a0 a1 a2 h = some (r, h1)) : xr_M l G yX9_strength cX9_strength 4 (xr_R 5 108) (some .int) [.ref (G.2.2.1 a0), .int a1, .int a2] h (xr_Qi G r h1) := by
  refine xr_start rfl (Nat.le_of_ble_eq_true rfl) (fun K C => ?_)
  show xr_j l G K 4 h [(0, .ref (G.2.2.1 a0)), (1, .int a1), (2, .int a2)] 0 []
  unfold fX9_strength at hF
  refine xr_aload_n C 0 dX9_strength_0 rfl rfl ?_
  refine xr_iload_n C 1 dX9_strength_1 rfl rfl ?_
  obtain ⟨r2, h2, e2, hF⟩ := fx_b2E hF
  refine xr_callVi C mvX9_99 [.int a1] [] (mX9_isSide l G a0 a1 ta0 h h2 r2 e2) ta0 (by decide) vc9 rfl ⟨rfl, rfl, (Nat.le_of_ble_eq_true rfl), (Nat.le_of_ble_eq_true rfl)⟩ rfl (Nat.le_of_ble_eq_true rfl) dX9_strength_2 ?_
  refine xr_if_ne C 10 dX9_strength_5 (by decide) (fun c5 => ?_) (fun c5 => ?_)
  · have hF := fx_neg hF c5
    refine xr_aload_n C 0 dX9_strength_10 rfl rfl ?_
    obtain ⟨h11, e11, hF⟩ := fx_b1E hF
    refine xr_callVv C mvX9_216 [] [] (mX9_weighCourt l G a0 ta0 h2 h11 e11) ta0 (by decide) vc9 rfl ⟨rfl, rfl, (Nat.le_of_ble_eq_true rfl), (Nat.le_of_ble_eq_true rfl)⟩ rfl (Nat.le_of_ble_eq_true rfl) dX9_strength_11 ?_
    refine xr_aload_n C 0 dX9_strength_14 rfl rfl ?_
    refine xr_getr C flX9_19 rfl (by decide) dX9_strength_15 ta0 (fun t15 => ?_)
    refine xr_iload_n C 1 dX9_strength_18 rfl rfl ?_
    obtain ⟨r19, h19, e19, hF⟩ := fx_b2E hF
    refine xr_callVr C mvX9_219 [.int a1] [] (mX4_force l G (h11.2.2 a0 1) a1 t15 h11 h19 r19 e19) t15 (by decide) vc4 rfl ⟨rfl, rfl, (Nat.le_of_ble_eq_true rfl), (Nat.le_of_ble_eq_true rfl)⟩ rfl (Nat.le_of_ble_eq_true rfl) dX9_strength_19 (fun t19 => ?_)
    refine xr_astore_n C [(3, .ref (G.2.2.1 r19)), (0, .ref (G.2.2.1 a0)), (1, .int a1), (2, .int a2)] dX9_strength_22 rfl (Nat.le_of_ble_eq_true rfl) rfl ?_
    refine xr_iload_n C 3 dX9_strength_23 rfl rfl ?_
    by_cases c24_0 : a2 = 0
    · have hF := fx_pos hF c24_0
      refine xr_tableIn C 52 dX9_strength_24 (by rw [c24_0]; decide) (by rw [c24_0]; decide) (by rw [c24_0]; first | done | rfl) (by decide) ?_
      refine xr_aload_n C 0 dX9_strength_52 rfl rfl ?_
      refine xr_getr C flX9_223 rfl (by decide) dX9_strength_53 t19 (fun t53 => ?_)
      refine xr_iconst (v := 0) C dX9_strength_56 (by decide) ?_
      refine xr_iald C dX9_strength_57 t53 (by decide) ?_
      cases hF
      exact xr_iret C dX9_strength_58
    have hF := fx_neg hF c24_0
    by_cases c24_1 : a2 = 1
    · have hF := fx_pos hF c24_1
      refine xr_tableIn C 59 dX9_strength_24 (by rw [c24_1]; decide) (by rw [c24_1]; decide) (by rw [c24_1]; first | done | rfl) (by decide) ?_
      refine xr_aload_n C 0 dX9_strength_59 rfl rfl ?_
      refine xr_getr C flX9_228 rfl (by decide) dX9_strength_60 t19 (fun t60 => ?_)
      refine xr_iconst (v := 0) C dX9_strength_63 (by decide) ?_
      refine xr_iald C dX9_strength_64 t60 (by decide) ?_
      cases hF
      exact xr_iret C dX9_strength_65
    have hF := fx_neg hF c24_1
    by_cases c24_2 : a2 = 2
    · have hF := fx_pos hF c24_2
      refine xr_tableIn C 66 dX9_strength_24 (by rw [c24_2]; decide) (by rw [c24_2]; decide) (by rw [c24_2]; first | done | rfl) (by decide) ?_
      refine xr_aload_n C 0 dX9_strength_66 rfl rfl ?_
      refine xr_getr C flX9_231 rfl (by decide) dX9_strength_67 t19 (fun t67 => ?_)
      refine xr_iconst (v := 0) C dX9_strength_70 (by decide) ?_
      refine xr_iald C dX9_strength_71 t67 (by decide) ?_
      cases hF
      exact xr_iret C dX9_strength_72
    have hF := fx_neg hF c24_2
    refine xr_tableOut C 73 dX9_strength_24 (fx_out3 c24_0 c24_1 c24_2) (by decide) ?_
    refine xr_iconst (v := -1) C dX9_strength_73 (by decide) ?_
    cases hF
    exact xr_iret C dX9_strength_74
  · have hF := fx_pos hF c5
    refine xr_iconst (v := -1) C dX9_strength_8 (by decide) ?_
    cases hF
    exact xr_iret C dX9_strength_9
theorem dX9_isPlayer_0 : decode cX9_isPlayer 0 = .ok (.aload_n 0, 1) := by decide +kernel
theorem dX9_isPlayer_1 : decode cX9_isPlayer 1 = .ok (.iload_n 1, 1) := by decide +kernel
theorem dX9_isPlayer_2 : decode cX9_isPlayer 2 = .ok (.invokevirtual 99, 3) := by decide +kernel
theorem dX9_isPlayer_5 : decode cX9_isPlayer 5 = .ok (.ifCond .eq 26, 3) := by decide +kernel
theorem dX9_isPlayer_8 : decode cX9_isPlayer 8 = .ok (.iload_n 2, 1) := by decide +kernel
theorem dX9_isPlayer_9 : decode cX9_isPlayer 9 = .ok (.ifCond .lt 22, 3) := by decide +kernel
theorem dX9_isPlayer_12 : decode cX9_isPlayer 12 = .ok (.iload_n 2, 1) := by decide +kernel
theorem dX9_isPlayer_13 : decode cX9_isPlayer 13 = .ok (.aload_n 0, 1) := by decide +kernel
theorem dX9_isPlayer_14 : decode cX9_isPlayer 14 = .ok (.getfield 68, 3) := by decide +kernel
theorem dX9_isPlayer_17 : decode cX9_isPlayer 17 = .ok (.iload_n 1, 1) := by decide +kernel
theorem dX9_isPlayer_18 : decode cX9_isPlayer 18 = .ok (.invokevirtual 103, 3) := by decide +kernel
theorem dX9_isPlayer_21 : decode cX9_isPlayer 21 = .ok (.getfield 130, 3) := by decide +kernel
theorem dX9_isPlayer_24 : decode cX9_isPlayer 24 = .ok (.if_icmp .ge 7, 3) := by decide +kernel
theorem dX9_isPlayer_27 : decode cX9_isPlayer 27 = .ok (.iconst 1, 1) := by decide +kernel
theorem dX9_isPlayer_28 : decode cX9_isPlayer 28 = .ok (.goto 4, 3) := by decide +kernel
theorem dX9_isPlayer_31 : decode cX9_isPlayer 31 = .ok (.iconst 0, 1) := by decide +kernel
theorem dX9_isPlayer_32 : decode cX9_isPlayer 32 = .ok (.ireturn, 1) := by decide +kernel
def fX9_isPlayer (a0 : Nat) (a1 : Int32) (a2 : Int32) (h : hp_T) : Option (Int32 × hp_T) := fx_b2 (fX9_isSide a0 a1 h) fun (r2 : Int32) (h2 : hp_T) => if r2 = 0 then (some ((0 : Int32), h2)) else (if a2 < 0 then (some ((0 : Int32), h2)) else (fx_b2 (fX8_squad (h2.2.2 a0 11) a1 h2) fun (r18 : Nat) (h18 : hp_T) => if (h18.1 r18 5) ≤ a2 then (some ((0 : Int32), h18)) else (some ((1 : Int32), h18))))
set_option maxRecDepth 100000 in
set_option maxHeartbeats 4000000 in
theorem mX9_isPlayer (l : Launch) (G : xr_G) (a0 : Nat) (a1 : Int32) (a2 : Int32) (ta0 : hp_sh a0 = (9, 0)) (h h1 : hp_T) (r : Int32) (hF : fX9_isPlayer a0 a1 a2 h = some (r, h1)) : xr_M l G yX9_isPlayer cX9_isPlayer 3 (xr_R 1 21) (some .boolean) [.ref (G.2.2.1 a0), .int a1, .int a2] h (xr_Qi G r h1) := by
  refine xr_start rfl (Nat.le_of_ble_eq_true rfl) (fun K C => ?_)
  show xr_j l G K 3 h [(0, .ref (G.2.2.1 a0)), (1, .int a1), (2, .int a2)] 0 []
  unfold fX9_isPlayer at hF
  refine xr_aload_n C 0 dX9_isPlayer_0 rfl rfl ?_
  refine xr_iload_n C 1 dX9_isPlayer_1 rfl rfl ?_
  obtain ⟨r2, h2, e2, hF⟩ := fx_b2E hF
  refine xr_callVi C mvX9_99 [.int a1] [] (mX9_isSide l G a0 a1 ta0 h h2 r2 e2) ta0 (by decide) vc9 rfl ⟨rfl, rfl, (Nat.le_of_ble_eq_true rfl), (Nat.le_of_ble_eq_true rfl)⟩ rfl (Nat.le_of_ble_eq_true rfl) dX9_isPlayer_2 ?_
  refine xr_if_eq C 31 dX9_isPlayer_5 (by decide) (fun c5 => ?_) (fun c5 => ?_)
  · have hF := fx_pos hF c5
    refine xr_iconst (v := 0) C dX9_isPlayer_31 (by decide) ?_
    cases hF
    exact xr_zret C rfl dX9_isPlayer_32
  · have hF := fx_neg hF c5
    refine xr_iload_n C 2 dX9_isPlayer_8 rfl rfl ?_
    refine xr_if_lt C 31 dX9_isPlayer_9 (by decide) (fun c9 => ?_) (fun c9 => ?_)
    · have hF := fx_pos hF c9
      refine xr_iconst (v := 0) C dX9_isPlayer_31 (by decide) ?_
      cases hF
      exact xr_zret C rfl dX9_isPlayer_32
    · have hF := fx_neg hF c9
      refine xr_iload_n C 2 dX9_isPlayer_12 rfl rfl ?_
      refine xr_aload_n C 0 dX9_isPlayer_13 rfl rfl ?_
      refine xr_getr C flX9_68 rfl (by decide) dX9_isPlayer_14 ta0 (fun t14 => ?_)
      refine xr_iload_n C 1 dX9_isPlayer_17 rfl rfl ?_
      obtain ⟨r18, h18, e18, hF⟩ := fx_b2E hF
      refine xr_callVr C mvX9_103 [.int a1] [.int a2] (mX8_squad l G (h2.2.2 a0 11) a1 t14 h2 h18 r18 e18) t14 (by decide) vc8 rfl ⟨rfl, rfl, (Nat.le_of_ble_eq_true rfl), (Nat.le_of_ble_eq_true rfl)⟩ rfl (Nat.le_of_ble_eq_true rfl) dX9_isPlayer_18 (fun t18 => ?_)
      refine xr_geti C flX9_130 rfl dX9_isPlayer_21 t18 ?_
      refine xr_icmp_ge C 31 dX9_isPlayer_24 (by decide) (fun c24 => ?_) (fun c24 => ?_)
      · have hF := fx_pos hF c24
        refine xr_iconst (v := 0) C dX9_isPlayer_31 (by decide) ?_
        cases hF
        exact xr_zret C rfl dX9_isPlayer_32
      · have hF := fx_neg hF c24
        refine xr_iconst (v := 1) C dX9_isPlayer_27 (by decide) ?_
        refine xr_goto C 32 dX9_isPlayer_28 (by decide) ?_
        cases hF
        exact xr_zret C rfl dX9_isPlayer_32
theorem dX9_together_0 : decode cX9_together 0 = .ok (.aload_n 0, 1) := by decide +kernel
theorem dX9_together_1 : decode cX9_together 1 = .ok (.iload_n 1, 1) := by decide +kernel
theorem dX9_together_2 : decode cX9_together 2 = .ok (.iload_n 2, 1) := by decide +kernel
theorem dX9_together_3 : decode cX9_together 3 = .ok (.invokevirtual 153, 3) := by decide +kernel
theorem dX9_together_6 : decode cX9_together 6 = .ok (.ifCond .eq 28, 3) := by decide +kernel
theorem dX9_together_9 : decode cX9_together 9 = .ok (.aload_n 0, 1) := by decide +kernel
theorem dX9_together_10 : decode cX9_together 10 = .ok (.iload_n 1, 1) := by decide +kernel
theorem dX9_together_11 : decode cX9_together 11 = .ok (.iload_n 3, 1) := by decide +kernel
theorem dX9_together_12 : decode cX9_together 12 = .ok (.invokevirtual 153, 3) := by decide +kernel
theorem dX9_together_15 : decode cX9_together 15 = .ok (.ifCond .eq 19, 3) := by decide +kernel
theorem dX9_together_18 : decode cX9_together 18 = .ok (.iload_n 2, 1) := by decide +kernel
theorem dX9_together_19 : decode cX9_together 19 = .ok (.iload_n 3, 1) := by decide +kernel
theorem dX9_together_20 : decode cX9_together 20 = .ok (.if_icmp .eq 14, 3) := by decide +kernel
theorem dX9_together_23 : decode cX9_together 23 = .ok (.iload 4, 2) := by decide +kernel
theorem dX9_together_25 : decode cX9_together 25 = .ok (.ifCond .lt 9, 3) := by decide +kernel
theorem dX9_together_28 : decode cX9_together 28 = .ok (.iload 4, 2) := by decide +kernel
theorem dX9_together_30 : decode cX9_together 30 = .ok (.iconst 1, 1) := by decide +kernel
theorem dX9_together_31 : decode cX9_together 31 = .ok (.if_icmp .le 5, 3) := by decide +kernel
theorem dX9_together_34 : decode cX9_together 34 = .ok (.iconst (-1), 1) := by decide +kernel
theorem dX9_together_35 : decode cX9_together 35 = .ok (.ireturn, 1) := by decide +kernel
theorem dX9_together_36 : decode cX9_together 36 = .ok (.aload_n 0, 1) := by decide +kernel
theorem dX9_together_37 : decode cX9_together 37 = .ok (.getfield 33, 3) := by decide +kernel
theorem dX9_together_40 : decode cX9_together 40 = .ok (.iload_n 1, 1) := by decide +kernel
theorem dX9_together_41 : decode cX9_together 41 = .ok (.invokevirtual 207, 3) := by decide +kernel
theorem dX9_together_44 : decode cX9_together 44 = .ok (.iload_n 2, 1) := by decide +kernel
theorem dX9_together_45 : decode cX9_together 45 = .ok (.invokevirtual 232, 3) := by decide +kernel
theorem dX9_together_48 : decode cX9_together 48 = .ok (.istore 5, 2) := by decide +kernel
theorem dX9_together_50 : decode cX9_together 50 = .ok (.aload_n 0, 1) := by decide +kernel
theorem dX9_together_51 : decode cX9_together 51 = .ok (.getfield 33, 3) := by decide +kernel
theorem dX9_together_54 : decode cX9_together 54 = .ok (.iload_n 1, 1) := by decide +kernel
theorem dX9_together_55 : decode cX9_together 55 = .ok (.invokevirtual 207, 3) := by decide +kernel
theorem dX9_together_58 : decode cX9_together 58 = .ok (.iload_n 3, 1) := by decide +kernel
theorem dX9_together_59 : decode cX9_together 59 = .ok (.invokevirtual 232, 3) := by decide +kernel
theorem dX9_together_62 : decode cX9_together 62 = .ok (.istore 6, 2) := by decide +kernel
theorem dX9_together_64 : decode cX9_together 64 = .ok (.iload 5, 2) := by decide +kernel
theorem dX9_together_66 : decode cX9_together 66 = .ok (.ifCond .eq 8, 3) := by decide +kernel
theorem dX9_together_69 : decode cX9_together 69 = .ok (.iload 6, 2) := by decide +kernel
theorem dX9_together_71 : decode cX9_together 71 = .ok (.ifCond .ne 6, 3) := by decide +kernel
theorem dX9_together_74 : decode cX9_together 74 = .ok (.bipush (-2), 2) := by decide +kernel
theorem dX9_together_76 : decode cX9_together 76 = .ok (.ireturn, 1) := by decide +kernel
theorem dX9_together_77 : decode cX9_together 77 = .ok (.iload 4, 2) := by decide +kernel
theorem dX9_together_79 : decode cX9_together 79 = .ok (.ifCond .ne 7, 3) := by decide +kernel
theorem dX9_together_82 : decode cX9_together 82 = .ok (.iconst 1, 1) := by decide +kernel
theorem dX9_together_83 : decode cX9_together 83 = .ok (.goto 4, 3) := by decide +kernel
theorem dX9_together_86 : decode cX9_together 86 = .ok (.iconst 0, 1) := by decide +kernel
theorem dX9_together_87 : decode cX9_together 87 = .ok (.istore 7, 2) := by decide +kernel
theorem dX9_together_89 : decode cX9_together 89 = .ok (.iconst 0, 1) := by decide +kernel
theorem dX9_together_90 : decode cX9_together 90 = .ok (.istore 8, 2) := by decide +kernel
theorem dX9_together_92 : decode cX9_together 92 = .ok (.iconst 0, 1) := by decide +kernel
theorem dX9_together_93 : decode cX9_together 93 = .ok (.istore 9, 2) := by decide +kernel
theorem dX9_together_95 : decode cX9_together 95 = .ok (.iload 9, 2) := by decide +kernel
theorem dX9_together_97 : decode cX9_together 97 = .ok (.bipush 6, 2) := by decide +kernel
theorem dX9_together_99 : decode cX9_together 99 = .ok (.if_icmp .ge 42, 3) := by decide +kernel
theorem dX9_together_102 : decode cX9_together 102 = .ok (.iload 5, 2) := by decide +kernel
theorem dX9_together_104 : decode cX9_together 104 = .ok (.iload 9, 2) := by decide +kernel
theorem dX9_together_106 : decode cX9_together 106 = .ok (.invokestatic 235, 3) := by decide +kernel
theorem dX9_together_109 : decode cX9_together 109 = .ok (.invokestatic 238, 3) := by decide +kernel
theorem dX9_together_112 : decode cX9_together 112 = .ok (.iload 7, 2) := by decide +kernel
theorem dX9_together_114 : decode cX9_together 114 = .ok (.if_icmp .ne 21, 3) := by decide +kernel
theorem dX9_together_117 : decode cX9_together 117 = .ok (.iload 6, 2) := by decide +kernel
theorem dX9_together_119 : decode cX9_together 119 = .ok (.iload 9, 2) := by decide +kernel
theorem dX9_together_121 : decode cX9_together 121 = .ok (.invokestatic 235, 3) := by decide +kernel
theorem dX9_together_124 : decode cX9_together 124 = .ok (.invokestatic 238, 3) := by decide +kernel
theorem dX9_together_127 : decode cX9_together 127 = .ok (.iload 7, 2) := by decide +kernel
theorem dX9_together_129 : decode cX9_together 129 = .ok (.if_icmp .ne 6, 3) := by decide +kernel
theorem dX9_together_132 : decode cX9_together 132 = .ok (.iinc 8 1, 3) := by decide +kernel
theorem dX9_together_135 : decode cX9_together 135 = .ok (.iinc 9 1, 3) := by decide +kernel
theorem dX9_together_138 : decode cX9_together 138 = .ok (.goto (-43), 3) := by decide +kernel
theorem dX9_together_141 : decode cX9_together 141 = .ok (.iload 8, 2) := by decide +kernel
theorem dX9_together_143 : decode cX9_together 143 = .ok (.ireturn, 1) := by decide +kernel
def fX9_together_135 (k95 : Int32 → Int32 → Int32 → Int32 → Int32 → hp_T → Option (Int32 × hp_T)) (a5 : Int32) (a6 : Int32) (a7 : Int32) (a8 : Int32) (a9 : Int32) (h : hp_T) : Option (Int32 × hp_T) := fx_let (a9 + (1 : Int32)) fun (x135 : Int32) => k95 a5 a6 a7 a8 x135 h
set_option maxRecDepth 100000 in
set_option maxHeartbeats 4000000 in
theorem bX9_together_135 {l : Launch} {G : xr_G} {K : xr_K} {r : Int32} {h1 : hp_T} (C : xr_C G K cX9_together RX9 10 (xr_R 2 43) (some .int) (some (xr_Qi G r h1))) (k95 : Int32 → Int32 → Int32 → Int32 → Int32 → hp_T → Option (Int32 × hp_T)) (j95 : ∀ (a5 : Int32) (a6 : Int32) (a7 : Int32) (a8 : Int32) (a9 : Int32) (h : hp_T), k95 a5 a6 a7 a8 a9 h = some (r, h1) → xr_j l G K 10 h [(5, .int a5), (6, .int a6), (7, .int a7), (8, .int a8), (9, .int a9)] 95 []) (a5 : Int32) (a6 : Int32) (a7 : Int32) (a8 : Int32) (a9 : Int32) (h : hp_T) (hF : fX9_together_135 k95 a5 a6 a7 a8 a9 h = some (r, h1)) : xr_j l G K 10 h [(5, .int a5), (6, .int a6), (7, .int a7), (8, .int a8), (9, .int a9)] 135 [] := by
  unfold fX9_together_135 at hF
  obtain ⟨x135, e135⟩ : ∃ y : Int32, y = (a9 + (1 : Int32)) := ⟨_, rfl⟩
  have hF := fx_letE hF x135 e135
  refine xr_iinc C x135 4 [(9, .int x135), (5, .int a5), (6, .int a6), (7, .int a7), (8, .int a8)] dX9_together_135 rfl (by rw [e135]; rfl) (Nat.le_of_ble_eq_true rfl) rfl ?_
  refine xr_goto C 95 dX9_together_138 (by decide) ?_
  refine xr_sub [1, 2, 3, 4, 0] [(5, .int a5), (6, .int a6), (7, .int a7), (8, .int a8), (9, .int x135)] rfl ?_
  exact j95 a5 a6 a7 a8 x135 h hF
def fX9_together_95  : Nat → Int32 → Int32 → Int32 → Int32 → Int32 → hp_T → Option (Int32 × hp_T)
  | 0, _, _, _, _, _, _ => none
  | n + 1, a5, a6, a7, a8, a9, h => if (6 : Int32) ≤ a9 then (some (a8, h)) else (fx_b2 (fX9_spotBehind a5 a9 h) fun (r106 : Int32) (h106 : hp_T) => fx_b2 (fX9_isFront r106 h106) fun (r109 : Int32) (h109 : hp_T) => if r109 = a7 then (fx_b2 (fX9_spotBehind a6 a9 h109) fun (r121 : Int32) (h121 : hp_T) => fx_b2 (fX9_isFront r121 h121) fun (r124 : Int32) (h124 : hp_T) => if r124 = a7 then (fx_let (a8 + (1 : Int32)) fun (x132 : Int32) => fX9_together_135 (fX9_together_95 n) a5 a6 a7 x132 a9 h124) else (fX9_together_135 (fX9_together_95 n) a5 a6 a7 a8 a9 h124)) else (fX9_together_135 (fX9_together_95 n) a5 a6 a7 a8 a9 h109))
set_option maxRecDepth 100000 in
set_option maxHeartbeats 4000000 in
theorem bX9_together_95 {l : Launch} {G : xr_G} {K : xr_K} {r : Int32} {h1 : hp_T} (C : xr_C G K cX9_together RX9 10 (xr_R 2 43) (some .int) (some (xr_Qi G r h1)))  : ∀ (n : Nat) (a5 : Int32) (a6 : Int32) (a7 : Int32) (a8 : Int32) (a9 : Int32) (h : hp_T), fX9_together_95 n a5 a6 a7 a8 a9 h = some (r, h1) → xr_j l G K 10 h [(5, .int a5), (6, .int a6), (7, .int a7), (8, .int a8), (9, .int a9)] 95 [] := by
  intro n
  induction n with
  | zero =>
    intro a5 a6 a7 a8 a9 h hF
    cases hF
  | succ n ih =>
    intro a5 a6 a7 a8 a9 h hF
    rw [fX9_together_95] at hF
    refine xr_iload C 4 dX9_together_95 rfl ?_
    refine xr_bipush (v := 6) C dX9_together_97 (by decide) ?_
    refine xr_icmp_ge C 141 dX9_together_99 (by decide) (fun c99 => ?_) (fun c99 => ?_)
    · have hF := fx_pos hF c99
      refine xr_iload C 3 dX9_together_141 rfl ?_
      cases hF
      exact xr_iret C dX9_together_143
    · have hF := fx_neg hF c99
      refine xr_iload C 0 dX9_together_102 rfl ?_
      refine xr_iload C 4 dX9_together_104 rfl ?_
      obtain ⟨r106, h106, e106, hF⟩ := fx_b2E hF
      refine xr_callSi C mvX9_235 [.int a5, .int a9] [] (mX9_spotBehind l G a5 a9  h h106 r106 e106) rfl ⟨rfl, rfl, (Nat.le_of_ble_eq_true rfl), (Nat.le_of_ble_eq_true rfl)⟩ rfl (Nat.le_of_ble_eq_true rfl) dX9_together_106 ?_
      obtain ⟨r109, h109, e109, hF⟩ := fx_b2E hF
      refine xr_callSi C mvX9_238 [.int r106] [] (mX9_isFront l G r106  h106 h109 r109 e109) rfl ⟨rfl, rfl, (Nat.le_of_ble_eq_true rfl), (Nat.le_of_ble_eq_true rfl)⟩ rfl (Nat.le_of_ble_eq_true rfl) dX9_together_109 ?_
      refine xr_iload C 2 dX9_together_112 rfl ?_
      refine xr_icmp_ne C 135 dX9_together_114 (by decide) (fun c114 => ?_) (fun c114 => ?_)
      · have hF := fx_neg hF c114
        exact bX9_together_135 C (fX9_together_95 n) (fun a5 a6 a7 a8 a9 h hF => ih a5 a6 a7 a8 a9 h hF)  a5 a6 a7 a8 a9 h109 hF
      · have hF := fx_pos hF c114
        refine xr_iload C 1 dX9_together_117 rfl ?_
        refine xr_iload C 4 dX9_together_119 rfl ?_
        obtain ⟨r121, h121, e121, hF⟩ := fx_b2E hF
        refine xr_callSi C mvX9_235 [.int a6, .int a9] [] (mX9_spotBehind l G a6 a9  h109 h121 r121 e121) rfl ⟨rfl, rfl, (Nat.le_of_ble_eq_true rfl), (Nat.le_of_ble_eq_true rfl)⟩ rfl (Nat.le_of_ble_eq_true rfl) dX9_together_121 ?_
        obtain ⟨r124, h124, e124, hF⟩ := fx_b2E hF
        refine xr_callSi C mvX9_238 [.int r121] [] (mX9_isFront l G r121  h121 h124 r124 e124) rfl ⟨rfl, rfl, (Nat.le_of_ble_eq_true rfl), (Nat.le_of_ble_eq_true rfl)⟩ rfl (Nat.le_of_ble_eq_true rfl) dX9_together_124 ?_
        refine xr_iload C 2 dX9_together_127 rfl ?_
        refine xr_icmp_ne C 135 dX9_together_129 (by decide) (fun c129 => ?_) (fun c129 => ?_)
        · have hF := fx_neg hF c129
          exact bX9_together_135 C (fX9_together_95 n) (fun a5 a6 a7 a8 a9 h hF => ih a5 a6 a7 a8 a9 h hF)  a5 a6 a7 a8 a9 h124 hF
        · have hF := fx_pos hF c129
          obtain ⟨x132, e132⟩ : ∃ y : Int32, y = (a8 + (1 : Int32)) := ⟨_, rfl⟩
          have hF := fx_letE hF x132 e132
          refine xr_iinc C x132 3 [(8, .int x132), (5, .int a5), (6, .int a6), (7, .int a7), (9, .int a9)] dX9_together_132 rfl (by rw [e132]; rfl) (Nat.le_of_ble_eq_true rfl) rfl ?_
          refine xr_sub [1, 2, 3, 0, 4] [(5, .int a5), (6, .int a6), (7, .int a7), (8, .int x132), (9, .int a9)] rfl ?_
          exact bX9_together_135 C (fX9_together_95 n) (fun a5 a6 a7 a8 a9 h hF => ih a5 a6 a7 a8 a9 h hF)  a5 a6 a7 x132 a9 h124 hF
def fX9_together_87  (a5 : Int32) (a6 : Int32) (s0 : Int32) (h : hp_T) : Option (Int32 × hp_T) := fX9_together_95 fx_N a5 a6 s0 (0 : Int32) (0 : Int32) h
set_option maxRecDepth 100000 in
set_option maxHeartbeats 4000000 in
theorem bX9_together_87 {l : Launch} {G : xr_G} {K : xr_K} {r : Int32} {h1 : hp_T} (C : xr_C G K cX9_together RX9 10 (xr_R 2 43) (some .int) (some (xr_Qi G r h1)))  (a5 : Int32) (a6 : Int32) (s0 : Int32) (h : hp_T) (hF : fX9_together_87 a5 a6 s0 h = some (r, h1)) : xr_j l G K 10 h [(5, .int a5), (6, .int a6)] 87 [.int s0] := by
  unfold fX9_together_87 at hF
  refine xr_istore C [(7, .int s0), (5, .int a5), (6, .int a6)] dX9_together_87 (Nat.le_of_ble_eq_true rfl) rfl ?_
  refine xr_iconst (v := 0) C dX9_together_89 (by decide) ?_
  refine xr_istore C [(8, .int (0 : Int32)), (7, .int s0), (5, .int a5), (6, .int a6)] dX9_together_90 (Nat.le_of_ble_eq_true rfl) rfl ?_
  refine xr_iconst (v := 0) C dX9_together_92 (by decide) ?_
  refine xr_istore C [(9, .int (0 : Int32)), (8, .int (0 : Int32)), (7, .int s0), (5, .int a5), (6, .int a6)] dX9_together_93 (Nat.le_of_ble_eq_true rfl) rfl ?_
  refine xr_sub [3, 4, 2, 1, 0] [(5, .int a5), (6, .int a6), (7, .int s0), (8, .int (0 : Int32)), (9, .int (0 : Int32))] rfl ?_
  exact bX9_together_95 C  fx_N a5 a6 s0 (0 : Int32) (0 : Int32) h hF
def fX9_together (a0 : Nat) (a1 : Int32) (a2 : Int32) (a3 : Int32) (a4 : Int32) (h : hp_T) : Option (Int32 × hp_T) := fx_b2 (fX9_isPlayer a0 a1 a2 h) fun (r3 : Int32) (h3 : hp_T) => if r3 = 0 then (some ((-1 : Int32), h3)) else (fx_b2 (fX9_isPlayer a0 a1 a3 h3) fun (r12 : Int32) (h12 : hp_T) => if r12 = 0 then (some ((-1 : Int32), h12)) else (if a2 = a3 then (some ((-1 : Int32), h12)) else (if a4 < 0 then (some ((-1 : Int32), h12)) else (if a4 ≤ (1 : Int32) then (fx_b2 (fX1_team (h12.2.2 a0 3) a1 h12) fun (r41 : Nat) (h41 : hp_T) => fx_b2 (fX6_spotOf r41 a2 h41) fun (r45 : Int32) (h45 : hp_T) => fx_b2 (fX1_team (h45.2.2 a0 3) a1 h45) fun (r55 : Nat) (h55 : hp_T) => fx_b2 (fX6_spotOf r55 a3 h55) fun (r59 : Int32) (h59 : hp_T) => if r45 = 0 then (some ((-2 : Int32), h59)) else (if r59 = 0 then (some ((-2 : Int32), h59)) else (if a4 = 0 then (fX9_together_87 r45 r59 (1 : Int32) h59) else (fX9_together_87 r45 r59 (0 : Int32) h59)))) else (some ((-1 : Int32), h12))))))
set_option maxRecDepth 100000 in
set_option maxHeartbeats 4000000 in
theorem mX9_together (l : Launch) (G : xr_G) (a0 : Nat) (a1 : Int32) (a2 : Int32) (a3 : Int32) (a4 : Int32) (ta0 : hp_sh a0 = (9, 0)) (h h1 : hp_T) (r : Int32) (hF : fX9_together a0 a1 a2 a3 a4 h = some (r, h1)) : xr_M l G yX9_together cX9_together 10 (xr_R 2 43) (some .int) [.ref (G.2.2.1 a0), .int a1, .int a2, .int a3, .int a4] h (xr_Qi G r h1) := by
  refine xr_start rfl (Nat.le_of_ble_eq_true rfl) (fun K C => ?_)
  show xr_j l G K 10 h [(0, .ref (G.2.2.1 a0)), (1, .int a1), (2, .int a2), (3, .int a3), (4, .int a4)] 0 []
  unfold fX9_together at hF
  refine xr_aload_n C 0 dX9_together_0 rfl rfl ?_
  refine xr_iload_n C 1 dX9_together_1 rfl rfl ?_
  refine xr_iload_n C 2 dX9_together_2 rfl rfl ?_
  obtain ⟨r3, h3, e3, hF⟩ := fx_b2E hF
  refine xr_callVi C mvX9_153 [.int a1, .int a2] [] (mX9_isPlayer l G a0 a1 a2 ta0 h h3 r3 e3) ta0 (by decide) vc9 rfl ⟨rfl, rfl, (Nat.le_of_ble_eq_true rfl), (Nat.le_of_ble_eq_true rfl)⟩ rfl (Nat.le_of_ble_eq_true rfl) dX9_together_3 ?_
  refine xr_if_eq C 34 dX9_together_6 (by decide) (fun c6 => ?_) (fun c6 => ?_)
  · have hF := fx_pos hF c6
    refine xr_iconst (v := -1) C dX9_together_34 (by decide) ?_
    cases hF
    exact xr_iret C dX9_together_35
  · have hF := fx_neg hF c6
    refine xr_aload_n C 0 dX9_together_9 rfl rfl ?_
    refine xr_iload_n C 1 dX9_together_10 rfl rfl ?_
    refine xr_iload_n C 3 dX9_together_11 rfl rfl ?_
    obtain ⟨r12, h12, e12, hF⟩ := fx_b2E hF
    refine xr_callVi C mvX9_153 [.int a1, .int a3] [] (mX9_isPlayer l G a0 a1 a3 ta0 h3 h12 r12 e12) ta0 (by decide) vc9 rfl ⟨rfl, rfl, (Nat.le_of_ble_eq_true rfl), (Nat.le_of_ble_eq_true rfl)⟩ rfl (Nat.le_of_ble_eq_true rfl) dX9_together_12 ?_
    refine xr_if_eq C 34 dX9_together_15 (by decide) (fun c15 => ?_) (fun c15 => ?_)
    · have hF := fx_pos hF c15
      refine xr_iconst (v := -1) C dX9_together_34 (by decide) ?_
      cases hF
      exact xr_iret C dX9_together_35
    · have hF := fx_neg hF c15
      refine xr_iload_n C 2 dX9_together_18 rfl rfl ?_
      refine xr_iload_n C 3 dX9_together_19 rfl rfl ?_
      refine xr_icmp_eq C 34 dX9_together_20 (by decide) (fun c20 => ?_) (fun c20 => ?_)
      · have hF := fx_pos hF c20
        refine xr_iconst (v := -1) C dX9_together_34 (by decide) ?_
        cases hF
        exact xr_iret C dX9_together_35
      · have hF := fx_neg hF c20
        refine xr_iload C 4 dX9_together_23 rfl ?_
        refine xr_if_lt C 34 dX9_together_25 (by decide) (fun c25 => ?_) (fun c25 => ?_)
        · have hF := fx_pos hF c25
          refine xr_iconst (v := -1) C dX9_together_34 (by decide) ?_
          cases hF
          exact xr_iret C dX9_together_35
        · have hF := fx_neg hF c25
          refine xr_iload C 4 dX9_together_28 rfl ?_
          refine xr_iconst (v := 1) C dX9_together_30 (by decide) ?_
          refine xr_icmp_le C 36 dX9_together_31 (by decide) (fun c31 => ?_) (fun c31 => ?_)
          · have hF := fx_pos hF c31
            refine xr_aload_n C 0 dX9_together_36 rfl rfl ?_
            refine xr_getr C flX9_33 rfl (by decide) dX9_together_37 ta0 (fun t37 => ?_)
            refine xr_iload_n C 1 dX9_together_40 rfl rfl ?_
            obtain ⟨r41, h41, e41, hF⟩ := fx_b2E hF
            refine xr_callVr C mvX9_207 [.int a1] [] (mX1_team l G (h12.2.2 a0 3) a1 t37 h12 h41 r41 e41) t37 (by decide) vc1 rfl ⟨rfl, rfl, (Nat.le_of_ble_eq_true rfl), (Nat.le_of_ble_eq_true rfl)⟩ rfl (Nat.le_of_ble_eq_true rfl) dX9_together_41 (fun t41 => ?_)
            refine xr_iload_n C 2 dX9_together_44 rfl rfl ?_
            obtain ⟨r45, h45, e45, hF⟩ := fx_b2E hF
            refine xr_callVi C mvX9_232 [.int a2] [] (mX6_spotOf l G r41 a2 t41 h41 h45 r45 e45) t41 (by decide) vc6 rfl ⟨rfl, rfl, (Nat.le_of_ble_eq_true rfl), (Nat.le_of_ble_eq_true rfl)⟩ rfl (Nat.le_of_ble_eq_true rfl) dX9_together_45 ?_
            refine xr_istore C [(5, .int r45), (0, .ref (G.2.2.1 a0)), (1, .int a1), (2, .int a2), (3, .int a3), (4, .int a4)] dX9_together_48 (Nat.le_of_ble_eq_true rfl) rfl ?_
            refine xr_aload_n C 1 dX9_together_50 rfl rfl ?_
            refine xr_getr C flX9_33 rfl (by decide) dX9_together_51 ta0 (fun t51 => ?_)
            refine xr_iload_n C 2 dX9_together_54 rfl rfl ?_
            obtain ⟨r55, h55, e55, hF⟩ := fx_b2E hF
            refine xr_callVr C mvX9_207 [.int a1] [] (mX1_team l G (h45.2.2 a0 3) a1 t51 h45 h55 r55 e55) t51 (by decide) vc1 rfl ⟨rfl, rfl, (Nat.le_of_ble_eq_true rfl), (Nat.le_of_ble_eq_true rfl)⟩ rfl (Nat.le_of_ble_eq_true rfl) dX9_together_55 (fun t55 => ?_)
            refine xr_iload_n C 4 dX9_together_58 rfl rfl ?_
            obtain ⟨r59, h59, e59, hF⟩ := fx_b2E hF
            refine xr_callVi C mvX9_232 [.int a3] [] (mX6_spotOf l G r55 a3 t55 h55 h59 r59 e59) t55 (by decide) vc6 rfl ⟨rfl, rfl, (Nat.le_of_ble_eq_true rfl), (Nat.le_of_ble_eq_true rfl)⟩ rfl (Nat.le_of_ble_eq_true rfl) dX9_together_59 ?_
            refine xr_istore C [(6, .int r59), (5, .int r45), (0, .ref (G.2.2.1 a0)), (1, .int a1), (2, .int a2), (3, .int a3), (4, .int a4)] dX9_together_62 (Nat.le_of_ble_eq_true rfl) rfl ?_
            refine xr_iload C 1 dX9_together_64 rfl ?_
            refine xr_if_eq C 74 dX9_together_66 (by decide) (fun c66 => ?_) (fun c66 => ?_)
            · have hF := fx_pos hF c66
              refine xr_bipush (v := -2) C dX9_together_74 (by decide) ?_
              cases hF
              exact xr_iret C dX9_together_76
            · have hF := fx_neg hF c66
              refine xr_iload C 0 dX9_together_69 rfl ?_
              refine xr_if_ne C 77 dX9_together_71 (by decide) (fun c71 => ?_) (fun c71 => ?_)
              · have hF := fx_neg hF c71
                refine xr_iload C 6 dX9_together_77 rfl ?_
                refine xr_if_ne C 86 dX9_together_79 (by decide) (fun c79 => ?_) (fun c79 => ?_)
                · have hF := fx_neg hF c79
                  refine xr_iconst (v := 0) C dX9_together_86 (by decide) ?_
                  refine xr_sub [1, 0] [(5, .int r45), (6, .int r59)] rfl ?_
                  exact bX9_together_87 C   r45 r59 (0 : Int32) h59 hF
                · have hF := fx_pos hF c79
                  refine xr_iconst (v := 1) C dX9_together_82 (by decide) ?_
                  refine xr_goto C 87 dX9_together_83 (by decide) ?_
                  refine xr_sub [1, 0] [(5, .int r45), (6, .int r59)] rfl ?_
                  exact bX9_together_87 C   r45 r59 (1 : Int32) h59 hF
              · have hF := fx_pos hF c71
                refine xr_bipush (v := -2) C dX9_together_74 (by decide) ?_
                cases hF
                exact xr_iret C dX9_together_76
          · have hF := fx_neg hF c31
            refine xr_iconst (v := -1) C dX9_together_34 (by decide) ?_
            cases hF
            exact xr_iret C dX9_together_35
