theorem dX10_wordHere_0 : decode cX10_wordHere 0 = .ok (.iconst 0, 1) := by decide +kernel
theorem dX10_wordHere_1 : decode cX10_wordHere 1 = .ok (.istore_n 1, 1) := by decide +kernel
theorem dX10_wordHere_2 : decode cX10_wordHere 2 = .ok (.iconst 0, 1) := by decide +kernel
theorem dX10_wordHere_3 : decode cX10_wordHere 3 = .ok (.istore_n 2, 1) := by decide +kernel
theorem dX10_wordHere_4 : decode cX10_wordHere 4 = .ok (.iload_n 2, 1) := by decide +kernel
theorem dX10_wordHere_5 : decode cX10_wordHere 5 = .ok (.ldc 101, 2) := by decide +kernel
theorem dX10_wordHere_7 : decode cX10_wordHere 7 = .ok (.invokevirtual 103, 3) := by decide +kernel
theorem dX10_wordHere_10 : decode cX10_wordHere 10 = .ok (.if_icmp .ge 113, 3) := by decide +kernel
theorem dX10_wordHere_13 : decode cX10_wordHere 13 = .ok (.iconst 0, 1) := by decide +kernel
theorem dX10_wordHere_14 : decode cX10_wordHere 14 = .ok (.istore_n 3, 1) := by decide +kernel
theorem dX10_wordHere_15 : decode cX10_wordHere 15 = .ok (.ldc 101, 2) := by decide +kernel
theorem dX10_wordHere_17 : decode cX10_wordHere 17 = .ok (.iload_n 2, 1) := by decide +kernel
theorem dX10_wordHere_18 : decode cX10_wordHere 18 = .ok (.iload_n 3, 1) := by decide +kernel
theorem dX10_wordHere_19 : decode cX10_wordHere 19 = .ok (.iadd, 1) := by decide +kernel
theorem dX10_wordHere_20 : decode cX10_wordHere 20 = .ok (.invokevirtual 108, 3) := by decide +kernel
theorem dX10_wordHere_23 : decode cX10_wordHere 23 = .ok (.bipush 32, 2) := by decide +kernel
theorem dX10_wordHere_25 : decode cX10_wordHere 25 = .ok (.if_icmp .eq 44, 3) := by decide +kernel
theorem dX10_wordHere_28 : decode cX10_wordHere 28 = .ok (.aload_n 0, 1) := by decide +kernel
theorem dX10_wordHere_29 : decode cX10_wordHere 29 = .ok (.getfield 79, 3) := by decide +kernel
theorem dX10_wordHere_32 : decode cX10_wordHere 32 = .ok (.iload_n 3, 1) := by decide +kernel
theorem dX10_wordHere_33 : decode cX10_wordHere 33 = .ok (.iadd, 1) := by decide +kernel
theorem dX10_wordHere_34 : decode cX10_wordHere 34 = .ok (.aload_n 0, 1) := by decide +kernel
theorem dX10_wordHere_35 : decode cX10_wordHere 35 = .ok (.getfield 69, 3) := by decide +kernel
theorem dX10_wordHere_38 : decode cX10_wordHere 38 = .ok (.if_icmp .ge 31, 3) := by decide +kernel
theorem dX10_wordHere_41 : decode cX10_wordHere 41 = .ok (.aload_n 0, 1) := by decide +kernel
theorem dX10_wordHere_42 : decode cX10_wordHere 42 = .ok (.getfield 7, 3) := by decide +kernel
theorem dX10_wordHere_45 : decode cX10_wordHere 45 = .ok (.aload_n 0, 1) := by decide +kernel
theorem dX10_wordHere_46 : decode cX10_wordHere 46 = .ok (.getfield 79, 3) := by decide +kernel
theorem dX10_wordHere_49 : decode cX10_wordHere 49 = .ok (.iload_n 3, 1) := by decide +kernel
theorem dX10_wordHere_50 : decode cX10_wordHere 50 = .ok (.iadd, 1) := by decide +kernel
theorem dX10_wordHere_51 : decode cX10_wordHere 51 = .ok (.iaload, 1) := by decide +kernel
theorem dX10_wordHere_52 : decode cX10_wordHere 52 = .ok (.ldc 101, 2) := by decide +kernel
theorem dX10_wordHere_54 : decode cX10_wordHere 54 = .ok (.iload_n 2, 1) := by decide +kernel
theorem dX10_wordHere_55 : decode cX10_wordHere 55 = .ok (.iload_n 3, 1) := by decide +kernel
theorem dX10_wordHere_56 : decode cX10_wordHere 56 = .ok (.iadd, 1) := by decide +kernel
theorem dX10_wordHere_57 : decode cX10_wordHere 57 = .ok (.invokevirtual 108, 3) := by decide +kernel
theorem dX10_wordHere_60 : decode cX10_wordHere 60 = .ok (.if_icmp .ne 9, 3) := by decide +kernel
theorem dX10_wordHere_63 : decode cX10_wordHere 63 = .ok (.iinc 3 1, 3) := by decide +kernel
theorem dX10_wordHere_66 : decode cX10_wordHere 66 = .ok (.goto (-51), 3) := by decide +kernel
theorem dX10_wordHere_69 : decode cX10_wordHere 69 = .ok (.ldc 101, 2) := by decide +kernel
theorem dX10_wordHere_71 : decode cX10_wordHere 71 = .ok (.iload_n 2, 1) := by decide +kernel
theorem dX10_wordHere_72 : decode cX10_wordHere 72 = .ok (.iload_n 3, 1) := by decide +kernel
theorem dX10_wordHere_73 : decode cX10_wordHere 73 = .ok (.iadd, 1) := by decide +kernel
theorem dX10_wordHere_74 : decode cX10_wordHere 74 = .ok (.invokevirtual 108, 3) := by decide +kernel
theorem dX10_wordHere_77 : decode cX10_wordHere 77 = .ok (.bipush 32, 2) := by decide +kernel
theorem dX10_wordHere_79 : decode cX10_wordHere 79 = .ok (.if_icmp .ne 18, 3) := by decide +kernel
theorem dX10_wordHere_82 : decode cX10_wordHere 82 = .ok (.aload_n 0, 1) := by decide +kernel
theorem dX10_wordHere_83 : decode cX10_wordHere 83 = .ok (.getfield 79, 3) := by decide +kernel
theorem dX10_wordHere_86 : decode cX10_wordHere 86 = .ok (.iload_n 3, 1) := by decide +kernel
theorem dX10_wordHere_87 : decode cX10_wordHere 87 = .ok (.iadd, 1) := by decide +kernel
theorem dX10_wordHere_88 : decode cX10_wordHere 88 = .ok (.aload_n 0, 1) := by decide +kernel
theorem dX10_wordHere_89 : decode cX10_wordHere 89 = .ok (.getfield 69, 3) := by decide +kernel
theorem dX10_wordHere_92 : decode cX10_wordHere 92 = .ok (.if_icmp .ne 5, 3) := by decide +kernel
theorem dX10_wordHere_95 : decode cX10_wordHere 95 = .ok (.iload_n 1, 1) := by decide +kernel
theorem dX10_wordHere_96 : decode cX10_wordHere 96 = .ok (.ireturn, 1) := by decide +kernel
theorem dX10_wordHere_97 : decode cX10_wordHere 97 = .ok (.ldc 101, 2) := by decide +kernel
theorem dX10_wordHere_99 : decode cX10_wordHere 99 = .ok (.iload_n 2, 1) := by decide +kernel
theorem dX10_wordHere_100 : decode cX10_wordHere 100 = .ok (.invokevirtual 108, 3) := by decide +kernel
theorem dX10_wordHere_103 : decode cX10_wordHere 103 = .ok (.bipush 32, 2) := by decide +kernel
theorem dX10_wordHere_105 : decode cX10_wordHere 105 = .ok (.if_icmp .eq 9, 3) := by decide +kernel
theorem dX10_wordHere_108 : decode cX10_wordHere 108 = .ok (.iinc 2 1, 3) := by decide +kernel
theorem dX10_wordHere_111 : decode cX10_wordHere 111 = .ok (.goto (-14), 3) := by decide +kernel
theorem dX10_wordHere_114 : decode cX10_wordHere 114 = .ok (.iinc 2 1, 3) := by decide +kernel
theorem dX10_wordHere_117 : decode cX10_wordHere 117 = .ok (.iinc 1 1, 3) := by decide +kernel
theorem dX10_wordHere_120 : decode cX10_wordHere 120 = .ok (.goto (-116), 3) := by decide +kernel
theorem dX10_wordHere_123 : decode cX10_wordHere 123 = .ok (.iconst (-1), 1) := by decide +kernel
theorem dX10_wordHere_124 : decode cX10_wordHere 124 = .ok (.ireturn, 1) := by decide +kernel
def fX10_wordHere_97 (k4 : Nat → Int32 → Int32 → hp_T → Option (Int32 × hp_T)) : Nat → Nat → Int32 → Int32 → hp_T → Option (Int32 × hp_T)
  | 0, _, _, _, _ => none
  | n + 1, a0, a1, a2, h => fx_g (fx_in a2 46) (if (hp_st 0 (fx_ix a2)) = (32 : Int32) then (fx_let (a2 + (1 : Int32)) fun (x114 : Int32) => fx_let (a1 + (1 : Int32)) fun (x117 : Int32) => k4 a0 x117 x114 h) else (fx_let (a2 + (1 : Int32)) fun (x108 : Int32) => fX10_wordHere_97 k4 n a0 a1 x108 h))
set_option maxRecDepth 100000 in
set_option maxHeartbeats 4000000 in
theorem bX10_wordHere_97 {l : Launch} {G : xr_G} {K : xr_K} {r : Int32} {h1 : hp_T} (C : xr_C G K cX10_wordHere RX10 4 (xr_R 4 141) (some .int) (some (xr_Qi G r h1))) (k4 : Nat → Int32 → Int32 → hp_T → Option (Int32 × hp_T)) (j4 : ∀ (a0 : Nat) (a1 : Int32) (a2 : Int32) (ta0 : hp_sh a0 = (10, 0)) (h : hp_T), k4 a0 a1 a2 h = some (r, h1) → xr_j l G K 4 h [(0, .ref (G.2.2.1 a0)), (1, .int a1), (2, .int a2)] 4 []) : ∀ (n : Nat) (a0 : Nat) (a1 : Int32) (a2 : Int32) (ta0 : hp_sh a0 = (10, 0)) (h : hp_T), fX10_wordHere_97 k4 n a0 a1 a2 h = some (r, h1) → xr_j l G K 4 h [(0, .ref (G.2.2.1 a0)), (1, .int a1), (2, .int a2)] 97 [] := by
  intro n
  induction n with
  | zero =>
    intro a0 a1 a2 ta0 h hF
    cases hF
  | succ n ih =>
    intro a0 a1 a2 ta0 h hF
    rw [fX10_wordHere_97] at hF
    refine xr_ldcS0 C rfl dX10_wordHere_97 ?_
    refine xr_iload_n C 2 dX10_wordHere_99 rfl rfl ?_
    obtain ⟨g100, hF⟩ := fx_gE hF
    refine xr_charAt C 0 (by decide) mvX10_108 (Nat.le_of_ble_eq_true rfl) (Nat.le_of_ble_eq_true rfl) (Nat.le_of_ble_eq_true rfl) g100 dX10_wordHere_100 ?_
    refine xr_bipush (v := 32) C dX10_wordHere_103 (by decide) ?_
    refine xr_icmp_eq C 114 dX10_wordHere_105 (by decide) (fun c105 => ?_) (fun c105 => ?_)
    · have hF := fx_pos hF c105
      obtain ⟨x114, e114⟩ : ∃ y : Int32, y = (a2 + (1 : Int32)) := ⟨_, rfl⟩
      have hF := fx_letE hF x114 e114
      refine xr_iinc C x114 2 [(2, .int x114), (0, .ref (G.2.2.1 a0)), (1, .int a1)] dX10_wordHere_114 rfl (by rw [e114]; rfl) (Nat.le_of_ble_eq_true rfl) rfl ?_
      obtain ⟨x117, e117⟩ : ∃ y : Int32, y = (a1 + (1 : Int32)) := ⟨_, rfl⟩
      have hF := fx_letE hF x117 e117
      refine xr_iinc C x117 2 [(1, .int x117), (2, .int x114), (0, .ref (G.2.2.1 a0))] dX10_wordHere_117 rfl (by rw [e117]; rfl) (Nat.le_of_ble_eq_true rfl) rfl ?_
      refine xr_goto C 4 dX10_wordHere_120 (by decide) ?_
      refine xr_sub [2, 0, 1] [(0, .ref (G.2.2.1 a0)), (1, .int x117), (2, .int x114)] rfl ?_
      exact j4 a0 x117 x114 ta0 h hF
    · have hF := fx_neg hF c105
      obtain ⟨x108, e108⟩ : ∃ y : Int32, y = (a2 + (1 : Int32)) := ⟨_, rfl⟩
      have hF := fx_letE hF x108 e108
      refine xr_iinc C x108 2 [(2, .int x108), (0, .ref (G.2.2.1 a0)), (1, .int a1)] dX10_wordHere_108 rfl (by rw [e108]; rfl) (Nat.le_of_ble_eq_true rfl) rfl ?_
      refine xr_goto C 97 dX10_wordHere_111 (by decide) ?_
      refine xr_sub [1, 2, 0] [(0, .ref (G.2.2.1 a0)), (1, .int a1), (2, .int x108)] rfl ?_
      exact ih a0 a1 x108 ta0 h hF
def fX10_wordHere_69 (k4 : Nat → Int32 → Int32 → hp_T → Option (Int32 × hp_T)) (a0 : Nat) (a1 : Int32) (a2 : Int32) (a3 : Int32) (h : hp_T) : Option (Int32 × hp_T) := fx_g (fx_in (a2 + a3) 46) (if (hp_st 0 (fx_ix (a2 + a3))) = (32 : Int32) then (if ((h.1 a0 10) + a3) = (h.1 a0 9) then (some (a1, h)) else (fX10_wordHere_97 k4 fx_N a0 a1 a2 h)) else (fX10_wordHere_97 k4 fx_N a0 a1 a2 h))
set_option maxRecDepth 100000 in
set_option maxHeartbeats 4000000 in
theorem bX10_wordHere_69 {l : Launch} {G : xr_G} {K : xr_K} {r : Int32} {h1 : hp_T} (C : xr_C G K cX10_wordHere RX10 4 (xr_R 4 141) (some .int) (some (xr_Qi G r h1))) (k4 : Nat → Int32 → Int32 → hp_T → Option (Int32 × hp_T)) (j4 : ∀ (a0 : Nat) (a1 : Int32) (a2 : Int32) (ta0 : hp_sh a0 = (10, 0)) (h : hp_T), k4 a0 a1 a2 h = some (r, h1) → xr_j l G K 4 h [(0, .ref (G.2.2.1 a0)), (1, .int a1), (2, .int a2)] 4 []) (a0 : Nat) (a1 : Int32) (a2 : Int32) (a3 : Int32) (ta0 : hp_sh a0 = (10, 0)) (h : hp_T) (hF : fX10_wordHere_69 k4 a0 a1 a2 a3 h = some (r, h1)) : xr_j l G K 4 h [(0, .ref (G.2.2.1 a0)), (1, .int a1), (2, .int a2), (3, .int a3)] 69 [] := by
  unfold fX10_wordHere_69 at hF
  refine xr_ldcS0 C rfl dX10_wordHere_69 ?_
  refine xr_iload_n C 2 dX10_wordHere_71 rfl rfl ?_
  refine xr_iload_n C 3 dX10_wordHere_72 rfl rfl ?_
  refine xr_iadd C dX10_wordHere_73 ?_
  obtain ⟨g74, hF⟩ := fx_gE hF
  refine xr_charAt C 0 (by decide) mvX10_108 (Nat.le_of_ble_eq_true rfl) (Nat.le_of_ble_eq_true rfl) (Nat.le_of_ble_eq_true rfl) g74 dX10_wordHere_74 ?_
  refine xr_bipush (v := 32) C dX10_wordHere_77 (by decide) ?_
  refine xr_icmp_ne C 97 dX10_wordHere_79 (by decide) (fun c79 => ?_) (fun c79 => ?_)
  · have hF := fx_neg hF c79
    refine xr_sub [0, 1, 2] [(0, .ref (G.2.2.1 a0)), (1, .int a1), (2, .int a2)] rfl ?_
    exact bX10_wordHere_97 C k4 j4 fx_N a0 a1 a2 ta0 h hF
  · have hF := fx_pos hF c79
    refine xr_aload_n C 0 dX10_wordHere_82 rfl rfl ?_
    refine xr_geti C flX10_79 rfl dX10_wordHere_83 ta0 ?_
    refine xr_iload_n C 3 dX10_wordHere_86 rfl rfl ?_
    refine xr_iadd C dX10_wordHere_87 ?_
    refine xr_aload_n C 0 dX10_wordHere_88 rfl rfl ?_
    refine xr_geti C flX10_69 rfl dX10_wordHere_89 ta0 ?_
    refine xr_icmp_ne C 97 dX10_wordHere_92 (by decide) (fun c92 => ?_) (fun c92 => ?_)
    · have hF := fx_neg hF c92
      refine xr_sub [0, 1, 2] [(0, .ref (G.2.2.1 a0)), (1, .int a1), (2, .int a2)] rfl ?_
      exact bX10_wordHere_97 C k4 j4 fx_N a0 a1 a2 ta0 h hF
    · have hF := fx_pos hF c92
      refine xr_iload_n C 1 dX10_wordHere_95 rfl rfl ?_
      cases hF
      exact xr_iret C dX10_wordHere_96
def fX10_wordHere_15 (k4 : Nat → Int32 → Int32 → hp_T → Option (Int32 × hp_T)) : Nat → Nat → Int32 → Int32 → Int32 → hp_T → Option (Int32 × hp_T)
  | 0, _, _, _, _, _ => none
  | n + 1, a0, a1, a2, a3, h => fx_g (fx_in (a2 + a3) 46) (if (hp_st 0 (fx_ix (a2 + a3))) = (32 : Int32) then (fX10_wordHere_69 k4 a0 a1 a2 a3 h) else (if (h.1 a0 9) ≤ ((h.1 a0 10) + a3) then (fX10_wordHere_69 k4 a0 a1 a2 a3 h) else (fx_g (fx_in ((h.1 a0 10) + a3) 900) (fx_g (fx_in (a2 + a3) 46) (if (h.1 (h.2.2 a0 1) (fx_ix ((h.1 a0 10) + a3))) = (hp_st 0 (fx_ix (a2 + a3))) then (fx_let (a3 + (1 : Int32)) fun (x63 : Int32) => fX10_wordHere_15 k4 n a0 a1 a2 x63 h) else (fX10_wordHere_69 k4 a0 a1 a2 a3 h))))))
set_option maxRecDepth 100000 in
set_option maxHeartbeats 4000000 in
theorem bX10_wordHere_15 {l : Launch} {G : xr_G} {K : xr_K} {r : Int32} {h1 : hp_T} (C : xr_C G K cX10_wordHere RX10 4 (xr_R 4 141) (some .int) (some (xr_Qi G r h1))) (k4 : Nat → Int32 → Int32 → hp_T → Option (Int32 × hp_T)) (j4 : ∀ (a0 : Nat) (a1 : Int32) (a2 : Int32) (ta0 : hp_sh a0 = (10, 0)) (h : hp_T), k4 a0 a1 a2 h = some (r, h1) → xr_j l G K 4 h [(0, .ref (G.2.2.1 a0)), (1, .int a1), (2, .int a2)] 4 []) : ∀ (n : Nat) (a0 : Nat) (a1 : Int32) (a2 : Int32) (a3 : Int32) (ta0 : hp_sh a0 = (10, 0)) (h : hp_T), fX10_wordHere_15 k4 n a0 a1 a2 a3 h = some (r, h1) → xr_j l G K 4 h [(0, .ref (G.2.2.1 a0)), (1, .int a1), (2, .int a2), (3, .int a3)] 15 [] := by
  intro n
  induction n with
  | zero =>
    intro a0 a1 a2 a3 ta0 h hF
    cases hF
  | succ n ih =>
    intro a0 a1 a2 a3 ta0 h hF
    rw [fX10_wordHere_15] at hF
    refine xr_ldcS0 C rfl dX10_wordHere_15 ?_
    refine xr_iload_n C 2 dX10_wordHere_17 rfl rfl ?_
    refine xr_iload_n C 3 dX10_wordHere_18 rfl rfl ?_
    refine xr_iadd C dX10_wordHere_19 ?_
    obtain ⟨g20, hF⟩ := fx_gE hF
    refine xr_charAt C 0 (by decide) mvX10_108 (Nat.le_of_ble_eq_true rfl) (Nat.le_of_ble_eq_true rfl) (Nat.le_of_ble_eq_true rfl) g20 dX10_wordHere_20 ?_
    refine xr_bipush (v := 32) C dX10_wordHere_23 (by decide) ?_
    refine xr_icmp_eq C 69 dX10_wordHere_25 (by decide) (fun c25 => ?_) (fun c25 => ?_)
    · have hF := fx_pos hF c25
      exact bX10_wordHere_69 C k4 j4  a0 a1 a2 a3 ta0 h hF
    · have hF := fx_neg hF c25
      refine xr_aload_n C 0 dX10_wordHere_28 rfl rfl ?_
      refine xr_geti C flX10_79 rfl dX10_wordHere_29 ta0 ?_
      refine xr_iload_n C 3 dX10_wordHere_32 rfl rfl ?_
      refine xr_iadd C dX10_wordHere_33 ?_
      refine xr_aload_n C 0 dX10_wordHere_34 rfl rfl ?_
      refine xr_geti C flX10_69 rfl dX10_wordHere_35 ta0 ?_
      refine xr_icmp_ge C 69 dX10_wordHere_38 (by decide) (fun c38 => ?_) (fun c38 => ?_)
      · have hF := fx_pos hF c38
        exact bX10_wordHere_69 C k4 j4  a0 a1 a2 a3 ta0 h hF
      · have hF := fx_neg hF c38
        refine xr_aload_n C 0 dX10_wordHere_41 rfl rfl ?_
        refine xr_getr C flX10_7 rfl (by decide) dX10_wordHere_42 ta0 (fun t42 => ?_)
        refine xr_aload_n C 0 dX10_wordHere_45 rfl rfl ?_
        refine xr_geti C flX10_79 rfl dX10_wordHere_46 ta0 ?_
        refine xr_iload_n C 3 dX10_wordHere_49 rfl rfl ?_
        refine xr_iadd C dX10_wordHere_50 ?_
        obtain ⟨g51, hF⟩ := fx_gE hF
        refine xr_iald C dX10_wordHere_51 t42 g51 ?_
        refine xr_ldcS0 C rfl dX10_wordHere_52 ?_
        refine xr_iload_n C 2 dX10_wordHere_54 rfl rfl ?_
        refine xr_iload_n C 3 dX10_wordHere_55 rfl rfl ?_
        refine xr_iadd C dX10_wordHere_56 ?_
        obtain ⟨g57, hF⟩ := fx_gE hF
        refine xr_charAt C 0 (by decide) mvX10_108 (Nat.le_of_ble_eq_true rfl) (Nat.le_of_ble_eq_true rfl) (Nat.le_of_ble_eq_true rfl) g57 dX10_wordHere_57 ?_
        refine xr_icmp_ne C 69 dX10_wordHere_60 (by decide) (fun c60 => ?_) (fun c60 => ?_)
        · have hF := fx_neg hF c60
          exact bX10_wordHere_69 C k4 j4  a0 a1 a2 a3 ta0 h hF
        · have hF := fx_pos hF c60
          obtain ⟨x63, e63⟩ : ∃ y : Int32, y = (a3 + (1 : Int32)) := ⟨_, rfl⟩
          have hF := fx_letE hF x63 e63
          refine xr_iinc C x63 3 [(3, .int x63), (0, .ref (G.2.2.1 a0)), (1, .int a1), (2, .int a2)] dX10_wordHere_63 rfl (by rw [e63]; rfl) (Nat.le_of_ble_eq_true rfl) rfl ?_
          refine xr_goto C 15 dX10_wordHere_66 (by decide) ?_
          refine xr_sub [1, 2, 3, 0] [(0, .ref (G.2.2.1 a0)), (1, .int a1), (2, .int a2), (3, .int x63)] rfl ?_
          exact ih a0 a1 a2 x63 ta0 h hF
def fX10_wordHere_4  : Nat → Nat → Int32 → Int32 → hp_T → Option (Int32 × hp_T)
  | 0, _, _, _, _ => none
  | n + 1, a0, a1, a2, h => if (46 : Int32) ≤ a2 then (some ((-1 : Int32), h)) else (fX10_wordHere_15 (fX10_wordHere_4 n) fx_N a0 a1 a2 (0 : Int32) h)
set_option maxRecDepth 100000 in
set_option maxHeartbeats 4000000 in
theorem bX10_wordHere_4 {l : Launch} {G : xr_G} {K : xr_K} {r : Int32} {h1 : hp_T} (C : xr_C G K cX10_wordHere RX10 4 (xr_R 4 141) (some .int) (some (xr_Qi G r h1)))  : ∀ (n : Nat) (a0 : Nat) (a1 : Int32) (a2 : Int32) (ta0 : hp_sh a0 = (10, 0)) (h : hp_T), fX10_wordHere_4 n a0 a1 a2 h = some (r, h1) → xr_j l G K 4 h [(0, .ref (G.2.2.1 a0)), (1, .int a1), (2, .int a2)] 4 [] := by
  intro n
  induction n with
  | zero =>
    intro a0 a1 a2 ta0 h hF
    cases hF
  | succ n ih =>
    intro a0 a1 a2 ta0 h hF
    rw [fX10_wordHere_4] at hF
    refine xr_iload_n C 2 dX10_wordHere_4 rfl rfl ?_
    refine xr_ldcS0 C rfl dX10_wordHere_5 ?_
    refine xr_strlen (v := 46) C 0 (by decide) mvX10_103 (Nat.le_of_ble_eq_true rfl) (Nat.le_of_ble_eq_true rfl) (Nat.le_of_ble_eq_true rfl) (by decide) dX10_wordHere_7 ?_
    refine xr_icmp_ge C 123 dX10_wordHere_10 (by decide) (fun c10 => ?_) (fun c10 => ?_)
    · have hF := fx_pos hF c10
      refine xr_iconst (v := -1) C dX10_wordHere_123 (by decide) ?_
      cases hF
      exact xr_iret C dX10_wordHere_124
    · have hF := fx_neg hF c10
      refine xr_iconst (v := 0) C dX10_wordHere_13 (by decide) ?_
      refine xr_istore_n C [(3, .int (0 : Int32)), (0, .ref (G.2.2.1 a0)), (1, .int a1), (2, .int a2)] dX10_wordHere_14 rfl (Nat.le_of_ble_eq_true rfl) rfl ?_
      refine xr_sub [1, 2, 3, 0] [(0, .ref (G.2.2.1 a0)), (1, .int a1), (2, .int a2), (3, .int (0 : Int32))] rfl ?_
      exact bX10_wordHere_15 C (fX10_wordHere_4 n) (fun a0 a1 a2 ta0 h hF => ih a0 a1 a2 ta0 h hF) fx_N a0 a1 a2 (0 : Int32) ta0 h hF
def fX10_wordHere (a0 : Nat) (h : hp_T) : Option (Int32 × hp_T) := fX10_wordHere_4 fx_N a0 (0 : Int32) (0 : Int32) h
set_option maxRecDepth 100000 in
set_option maxHeartbeats 4000000 in
theorem mX10_wordHere (l : Launch) (G : xr_G) (a0 : Nat) (ta0 : hp_sh a0 = (10, 0)) (h h1 : hp_T) (r : Int32) (hF : fX10_wordHere a0 h = some (r, h1)) : xr_M l G yX10_wordHere cX10_wordHere 4 (xr_R 4 141) (some .int) [.ref (G.2.2.1 a0)] h (xr_Qi G r h1) := by
  refine xr_start rfl (Nat.le_of_ble_eq_true rfl) (fun K C => ?_)
  show xr_j l G K 4 h [(0, .ref (G.2.2.1 a0))] 0 []
  unfold fX10_wordHere at hF
  refine xr_iconst (v := 0) C dX10_wordHere_0 (by decide) ?_
  refine xr_istore_n C [(1, .int (0 : Int32)), (0, .ref (G.2.2.1 a0))] dX10_wordHere_1 rfl (Nat.le_of_ble_eq_true rfl) rfl ?_
  refine xr_iconst (v := 0) C dX10_wordHere_2 (by decide) ?_
  refine xr_istore_n C [(2, .int (0 : Int32)), (1, .int (0 : Int32)), (0, .ref (G.2.2.1 a0))] dX10_wordHere_3 rfl (Nat.le_of_ble_eq_true rfl) rfl ?_
  refine xr_sub [2, 1, 0] [(0, .ref (G.2.2.1 a0)), (1, .int (0 : Int32)), (2, .int (0 : Int32))] rfl ?_
  exact bX10_wordHere_4 C  fx_N a0 (0 : Int32) (0 : Int32) ta0 h hF
theorem dX10_token_0 : decode cX10_token 0 = .ok (.aload_n 0, 1) := by decide +kernel
theorem dX10_token_1 : decode cX10_token 1 = .ok (.invokevirtual 75, 3) := by decide +kernel
theorem dX10_token_4 : decode cX10_token 4 = .ok (.bipush 10, 2) := by decide +kernel
theorem dX10_token_6 : decode cX10_token 6 = .ok (.if_icmp .eq 12, 3) := by decide +kernel
theorem dX10_token_9 : decode cX10_token 9 = .ok (.aload_n 0, 1) := by decide +kernel
theorem dX10_token_10 : decode cX10_token 10 = .ok (.invokevirtual 75, 3) := by decide +kernel
theorem dX10_token_13 : decode cX10_token 13 = .ok (.bipush 32, 2) := by decide +kernel
theorem dX10_token_15 : decode cX10_token 15 = .ok (.if_icmp .ne 16, 3) := by decide +kernel
theorem dX10_token_18 : decode cX10_token 18 = .ok (.aload_n 0, 1) := by decide +kernel
theorem dX10_token_19 : decode cX10_token 19 = .ok (.dup, 1) := by decide +kernel
theorem dX10_token_20 : decode cX10_token 20 = .ok (.getfield 69, 3) := by decide +kernel
theorem dX10_token_23 : decode cX10_token 23 = .ok (.iconst 1, 1) := by decide +kernel
theorem dX10_token_24 : decode cX10_token 24 = .ok (.iadd, 1) := by decide +kernel
theorem dX10_token_25 : decode cX10_token 25 = .ok (.putfield 69, 3) := by decide +kernel
theorem dX10_token_28 : decode cX10_token 28 = .ok (.goto (-28), 3) := by decide +kernel
theorem dX10_token_31 : decode cX10_token 31 = .ok (.aload_n 0, 1) := by decide +kernel
theorem dX10_token_32 : decode cX10_token 32 = .ok (.aload_n 0, 1) := by decide +kernel
theorem dX10_token_33 : decode cX10_token 33 = .ok (.getfield 69, 3) := by decide +kernel
theorem dX10_token_36 : decode cX10_token 36 = .ok (.putfield 79, 3) := by decide +kernel
theorem dX10_token_39 : decode cX10_token 39 = .ok (.aload_n 0, 1) := by decide +kernel
theorem dX10_token_40 : decode cX10_token 40 = .ok (.invokevirtual 75, 3) := by decide +kernel
theorem dX10_token_43 : decode cX10_token 43 = .ok (.istore_n 1, 1) := by decide +kernel
theorem dX10_token_44 : decode cX10_token 44 = .ok (.iload_n 1, 1) := by decide +kernel
theorem dX10_token_45 : decode cX10_token 45 = .ok (.iconst (-1), 1) := by decide +kernel
theorem dX10_token_46 : decode cX10_token 46 = .ok (.if_icmp .ne 11, 3) := by decide +kernel
theorem dX10_token_49 : decode cX10_token 49 = .ok (.aload_n 0, 1) := by decide +kernel
theorem dX10_token_50 : decode cX10_token 50 = .ok (.iconst 3, 1) := by decide +kernel
theorem dX10_token_51 : decode cX10_token 51 = .ok (.putfield 82, 3) := by decide +kernel
theorem dX10_token_54 : decode cX10_token 54 = .ok (.goto 207, 3) := by decide +kernel
theorem dX10_token_57 : decode cX10_token 57 = .ok (.iload_n 1, 1) := by decide +kernel
theorem dX10_token_58 : decode cX10_token 58 = .ok (.invokestatic 85, 3) := by decide +kernel
theorem dX10_token_61 : decode cX10_token 61 = .ok (.ifCond .eq 99, 3) := by decide +kernel
theorem dX10_token_64 : decode cX10_token 64 = .ok (.aload_n 0, 1) := by decide +kernel
theorem dX10_token_65 : decode cX10_token 65 = .ok (.iconst 0, 1) := by decide +kernel
theorem dX10_token_66 : decode cX10_token 66 = .ok (.putfield 89, 3) := by decide +kernel
theorem dX10_token_69 : decode cX10_token 69 = .ok (.aload_n 0, 1) := by decide +kernel
theorem dX10_token_70 : decode cX10_token 70 = .ok (.invokevirtual 75, 3) := by decide +kernel
theorem dX10_token_73 : decode cX10_token 73 = .ok (.invokestatic 85, 3) := by decide +kernel
theorem dX10_token_76 : decode cX10_token 76 = .ok (.ifCond .eq 50, 3) := by decide +kernel
theorem dX10_token_79 : decode cX10_token 79 = .ok (.aload_n 0, 1) := by decide +kernel
theorem dX10_token_80 : decode cX10_token 80 = .ok (.getfield 69, 3) := by decide +kernel
theorem dX10_token_83 : decode cX10_token 83 = .ok (.aload_n 0, 1) := by decide +kernel
theorem dX10_token_84 : decode cX10_token 84 = .ok (.getfield 79, 3) := by decide +kernel
theorem dX10_token_87 : decode cX10_token 87 = .ok (.isub, 1) := by decide +kernel
theorem dX10_token_88 : decode cX10_token 88 = .ok (.bipush 6, 2) := by decide +kernel
theorem dX10_token_90 : decode cX10_token 90 = .ok (.if_icmp .ge 23, 3) := by decide +kernel
theorem dX10_token_93 : decode cX10_token 93 = .ok (.aload_n 0, 1) := by decide +kernel
theorem dX10_token_94 : decode cX10_token 94 = .ok (.aload_n 0, 1) := by decide +kernel
theorem dX10_token_95 : decode cX10_token 95 = .ok (.getfield 89, 3) := by decide +kernel
theorem dX10_token_98 : decode cX10_token 98 = .ok (.iconst 5, 1) := by decide +kernel
theorem dX10_token_99 : decode cX10_token 99 = .ok (.ishl, 1) := by decide +kernel
theorem dX10_token_100 : decode cX10_token 100 = .ok (.aload_n 0, 1) := by decide +kernel
theorem dX10_token_101 : decode cX10_token 101 = .ok (.invokevirtual 75, 3) := by decide +kernel
theorem dX10_token_104 : decode cX10_token 104 = .ok (.bipush 97, 2) := by decide +kernel
theorem dX10_token_106 : decode cX10_token 106 = .ok (.isub, 1) := by decide +kernel
theorem dX10_token_107 : decode cX10_token 107 = .ok (.iconst 1, 1) := by decide +kernel
theorem dX10_token_108 : decode cX10_token 108 = .ok (.iadd, 1) := by decide +kernel
theorem dX10_token_109 : decode cX10_token 109 = .ok (.ior, 1) := by decide +kernel
theorem dX10_token_110 : decode cX10_token 110 = .ok (.putfield 89, 3) := by decide +kernel
theorem dX10_token_113 : decode cX10_token 113 = .ok (.aload_n 0, 1) := by decide +kernel
theorem dX10_token_114 : decode cX10_token 114 = .ok (.dup, 1) := by decide +kernel
theorem dX10_token_115 : decode cX10_token 115 = .ok (.getfield 69, 3) := by decide +kernel
theorem dX10_token_118 : decode cX10_token 118 = .ok (.iconst 1, 1) := by decide +kernel
theorem dX10_token_119 : decode cX10_token 119 = .ok (.iadd, 1) := by decide +kernel
theorem dX10_token_120 : decode cX10_token 120 = .ok (.putfield 69, 3) := by decide +kernel
theorem dX10_token_123 : decode cX10_token 123 = .ok (.goto (-54), 3) := by decide +kernel
theorem dX10_token_126 : decode cX10_token 126 = .ok (.aload_n 0, 1) := by decide +kernel
theorem dX10_token_127 : decode cX10_token 127 = .ok (.aload_n 0, 1) := by decide +kernel
theorem dX10_token_128 : decode cX10_token 128 = .ok (.getfield 69, 3) := by decide +kernel
theorem dX10_token_131 : decode cX10_token 131 = .ok (.aload_n 0, 1) := by decide +kernel
theorem dX10_token_132 : decode cX10_token 132 = .ok (.getfield 79, 3) := by decide +kernel
theorem dX10_token_135 : decode cX10_token 135 = .ok (.isub, 1) := by decide +kernel
theorem dX10_token_136 : decode cX10_token 136 = .ok (.bipush 6, 2) := by decide +kernel
theorem dX10_token_138 : decode cX10_token 138 = .ok (.if_icmp .gt 7, 3) := by decide +kernel
theorem dX10_token_141 : decode cX10_token 141 = .ok (.iconst 0, 1) := by decide +kernel
theorem dX10_token_142 : decode cX10_token 142 = .ok (.goto 4, 3) := by decide +kernel
theorem dX10_token_145 : decode cX10_token 145 = .ok (.iconst 4, 1) := by decide +kernel
theorem dX10_token_146 : decode cX10_token 146 = .ok (.putfield 82, 3) := by decide +kernel
theorem dX10_token_149 : decode cX10_token 149 = .ok (.aload_n 0, 1) := by decide +kernel
theorem dX10_token_150 : decode cX10_token 150 = .ok (.aload_n 0, 1) := by decide +kernel
theorem dX10_token_151 : decode cX10_token 151 = .ok (.invokevirtual 92, 3) := by decide +kernel
theorem dX10_token_154 : decode cX10_token 154 = .ok (.putfield 95, 3) := by decide +kernel
theorem dX10_token_157 : decode cX10_token 157 = .ok (.goto 104, 3) := by decide +kernel
theorem dX10_token_160 : decode cX10_token 160 = .ok (.iload_n 1, 1) := by decide +kernel
theorem dX10_token_161 : decode cX10_token 161 = .ok (.invokestatic 98, 3) := by decide +kernel
theorem dX10_token_164 : decode cX10_token 164 = .ok (.ifCond .eq 72, 3) := by decide +kernel
theorem dX10_token_167 : decode cX10_token 167 = .ok (.aload_n 0, 1) := by decide +kernel
theorem dX10_token_168 : decode cX10_token 168 = .ok (.iconst 1, 1) := by decide +kernel
theorem dX10_token_169 : decode cX10_token 169 = .ok (.putfield 82, 3) := by decide +kernel
theorem dX10_token_172 : decode cX10_token 172 = .ok (.aload_n 0, 1) := by decide +kernel
theorem dX10_token_173 : decode cX10_token 173 = .ok (.iconst 0, 1) := by decide +kernel
theorem dX10_token_174 : decode cX10_token 174 = .ok (.putfield 95, 3) := by decide +kernel
theorem dX10_token_177 : decode cX10_token 177 = .ok (.aload_n 0, 1) := by decide +kernel
theorem dX10_token_178 : decode cX10_token 178 = .ok (.invokevirtual 75, 3) := by decide +kernel
theorem dX10_token_181 : decode cX10_token 181 = .ok (.invokestatic 98, 3) := by decide +kernel
theorem dX10_token_184 : decode cX10_token 184 = .ok (.ifCond .eq 77, 3) := by decide +kernel
theorem dX10_token_187 : decode cX10_token 187 = .ok (.aload_n 0, 1) := by decide +kernel
theorem dX10_token_188 : decode cX10_token 188 = .ok (.aload_n 0, 1) := by decide +kernel
theorem dX10_token_189 : decode cX10_token 189 = .ok (.getfield 95, 3) := by decide +kernel
theorem dX10_token_192 : decode cX10_token 192 = .ok (.sipush 9999, 3) := by decide +kernel
theorem dX10_token_195 : decode cX10_token 195 = .ok (.if_icmp .le 10, 3) := by decide +kernel
theorem dX10_token_198 : decode cX10_token 198 = .ok (.aload_n 0, 1) := by decide +kernel
theorem dX10_token_199 : decode cX10_token 199 = .ok (.getfield 95, 3) := by decide +kernel
theorem dX10_token_202 : decode cX10_token 202 = .ok (.goto 18, 3) := by decide +kernel
theorem dX10_token_205 : decode cX10_token 205 = .ok (.bipush 10, 2) := by decide +kernel
theorem dX10_token_207 : decode cX10_token 207 = .ok (.aload_n 0, 1) := by decide +kernel
theorem dX10_token_208 : decode cX10_token 208 = .ok (.getfield 95, 3) := by decide +kernel
theorem dX10_token_211 : decode cX10_token 211 = .ok (.imul, 1) := by decide +kernel
theorem dX10_token_212 : decode cX10_token 212 = .ok (.aload_n 0, 1) := by decide +kernel
theorem dX10_token_213 : decode cX10_token 213 = .ok (.invokevirtual 75, 3) := by decide +kernel
theorem dX10_token_216 : decode cX10_token 216 = .ok (.iadd, 1) := by decide +kernel
theorem dX10_token_217 : decode cX10_token 217 = .ok (.bipush 48, 2) := by decide +kernel
theorem dX10_token_219 : decode cX10_token 219 = .ok (.isub, 1) := by decide +kernel
theorem dX10_token_220 : decode cX10_token 220 = .ok (.putfield 95, 3) := by decide +kernel
theorem dX10_token_223 : decode cX10_token 223 = .ok (.aload_n 0, 1) := by decide +kernel
theorem dX10_token_224 : decode cX10_token 224 = .ok (.dup, 1) := by decide +kernel
theorem dX10_token_225 : decode cX10_token 225 = .ok (.getfield 69, 3) := by decide +kernel
theorem dX10_token_228 : decode cX10_token 228 = .ok (.iconst 1, 1) := by decide +kernel
theorem dX10_token_229 : decode cX10_token 229 = .ok (.iadd, 1) := by decide +kernel
theorem dX10_token_230 : decode cX10_token 230 = .ok (.putfield 69, 3) := by decide +kernel
theorem dX10_token_233 : decode cX10_token 233 = .ok (.goto (-56), 3) := by decide +kernel
theorem dX10_token_236 : decode cX10_token 236 = .ok (.aload_n 0, 1) := by decide +kernel
theorem dX10_token_237 : decode cX10_token 237 = .ok (.iload_n 1, 1) := by decide +kernel
theorem dX10_token_238 : decode cX10_token 238 = .ok (.bipush 59, 2) := by decide +kernel
theorem dX10_token_240 : decode cX10_token 240 = .ok (.if_icmp .ne 7, 3) := by decide +kernel
theorem dX10_token_243 : decode cX10_token 243 = .ok (.iconst 2, 1) := by decide +kernel
theorem dX10_token_244 : decode cX10_token 244 = .ok (.goto 4, 3) := by decide +kernel
theorem dX10_token_247 : decode cX10_token 247 = .ok (.iconst 4, 1) := by decide +kernel
theorem dX10_token_248 : decode cX10_token 248 = .ok (.putfield 82, 3) := by decide +kernel
theorem dX10_token_251 : decode cX10_token 251 = .ok (.aload_n 0, 1) := by decide +kernel
theorem dX10_token_252 : decode cX10_token 252 = .ok (.dup, 1) := by decide +kernel
theorem dX10_token_253 : decode cX10_token 253 = .ok (.getfield 69, 3) := by decide +kernel
theorem dX10_token_256 : decode cX10_token 256 = .ok (.iconst 1, 1) := by decide +kernel
theorem dX10_token_257 : decode cX10_token 257 = .ok (.iadd, 1) := by decide +kernel
theorem dX10_token_258 : decode cX10_token 258 = .ok (.putfield 69, 3) := by decide +kernel
theorem dX10_token_261 : decode cX10_token 261 = .ok (.return_, 1) := by decide +kernel
def fX10_token_248  (a0 : Nat) (s0 : Nat) (s1 : Int32) (h : hp_T) : Option hp_T := fx_let (hp_sI h s0 11 s1) fun (h248 : hp_T) => fx_let (hp_sI h248 a0 9 ((h248.1 a0 9) + (1 : Int32))) fun (h258 : hp_T) => some h258
set_option maxRecDepth 100000 in
set_option maxHeartbeats 4000000 in
theorem bX10_token_248 {l : Launch} {G : xr_G} {K : xr_K} {h1 : hp_T} (C : xr_C G K cX10_token RX10 2 (xr_R 5 164) none (some (xr_Qv G h1)))  (a0 : Nat) (s0 : Nat) (s1 : Int32) (ta0 : hp_sh a0 = (10, 0)) (ts0 : hp_sh s0 = (10, 0)) (h : hp_T) (hF : fX10_token_248 a0 s0 s1 h = some h1) : xr_j l G K 2 h [(0, .ref (G.2.2.1 a0))] 248 [.int s1, .ref (G.2.2.1 s0)] := by
  unfold fX10_token_248 at hF
  refine xr_puti C fpX10_82 rfl rfl rfl dX10_token_248 ts0 (fun h248 e248 => ?_)
  have hF := fx_letE hF h248 e248
  refine xr_aload_n C 0 dX10_token_251 rfl rfl ?_
  refine xr_dup C dX10_token_252 rfl ?_
  refine xr_geti C flX10_69 rfl dX10_token_253 ta0 ?_
  refine xr_iconst (v := 1) C dX10_token_256 (by decide) ?_
  refine xr_iadd C dX10_token_257 ?_
  refine xr_puti C fpX10_69 rfl rfl rfl dX10_token_258 ta0 (fun h258 e258 => ?_)
  have hF := fx_letE hF h258 e258
  cases hF
  exact xr_vret C dX10_token_261
def fX10_token_220 (k177 : Nat → hp_T → Option hp_T) (a0 : Nat) (s0 : Nat) (s1 : Int32) (h : hp_T) : Option hp_T := fx_let (hp_sI h s0 12 s1) fun (h220 : hp_T) => fx_let (hp_sI h220 a0 9 ((h220.1 a0 9) + (1 : Int32))) fun (h230 : hp_T) => k177 a0 h230
set_option maxRecDepth 100000 in
set_option maxHeartbeats 4000000 in
theorem bX10_token_220 {l : Launch} {G : xr_G} {K : xr_K} {h1 : hp_T} (C : xr_C G K cX10_token RX10 2 (xr_R 5 164) none (some (xr_Qv G h1))) (k177 : Nat → hp_T → Option hp_T) (j177 : ∀ (a0 : Nat) (ta0 : hp_sh a0 = (10, 0)) (h : hp_T), k177 a0 h = some h1 → xr_j l G K 2 h [(0, .ref (G.2.2.1 a0))] 177 []) (a0 : Nat) (s0 : Nat) (s1 : Int32) (ta0 : hp_sh a0 = (10, 0)) (ts0 : hp_sh s0 = (10, 0)) (h : hp_T) (hF : fX10_token_220 k177 a0 s0 s1 h = some h1) : xr_j l G K 2 h [(0, .ref (G.2.2.1 a0))] 220 [.int s1, .ref (G.2.2.1 s0)] := by
  unfold fX10_token_220 at hF
  refine xr_puti C fpX10_95 rfl rfl rfl dX10_token_220 ts0 (fun h220 e220 => ?_)
  have hF := fx_letE hF h220 e220
  refine xr_aload_n C 0 dX10_token_223 rfl rfl ?_
  refine xr_dup C dX10_token_224 rfl ?_
  refine xr_geti C flX10_69 rfl dX10_token_225 ta0 ?_
  refine xr_iconst (v := 1) C dX10_token_228 (by decide) ?_
  refine xr_iadd C dX10_token_229 ?_
  refine xr_puti C fpX10_69 rfl rfl rfl dX10_token_230 ta0 (fun h230 e230 => ?_)
  have hF := fx_letE hF h230 e230
  refine xr_goto C 177 dX10_token_233 (by decide) ?_
  exact j177 a0 ta0 h230 hF
def fX10_token_177  : Nat → Nat → hp_T → Option hp_T
  | 0, _, _ => none
  | n + 1, a0, h => fx_b2 (fX10_here a0 h) fun (r178 : Int32) (h178 : hp_T) => fx_b2 (fX10_isDigit r178 h178) fun (r181 : Int32) (h181 : hp_T) => if r181 = 0 then (some h181) else (if (h181.1 a0 12) ≤ (9999 : Int32) then (fx_b2 (fX10_here a0 h181) fun (r213 : Int32) (h213 : hp_T) => fX10_token_220 (fX10_token_177 n) a0 a0 ((((10 : Int32) * (h181.1 a0 12)) + r213) - (48 : Int32)) h213) else (fX10_token_220 (fX10_token_177 n) a0 a0 (h181.1 a0 12) h181))
set_option maxRecDepth 100000 in
set_option maxHeartbeats 4000000 in
theorem bX10_token_177 {l : Launch} {G : xr_G} {K : xr_K} {h1 : hp_T} (C : xr_C G K cX10_token RX10 2 (xr_R 5 164) none (some (xr_Qv G h1)))  : ∀ (n : Nat) (a0 : Nat) (ta0 : hp_sh a0 = (10, 0)) (h : hp_T), fX10_token_177 n a0 h = some h1 → xr_j l G K 2 h [(0, .ref (G.2.2.1 a0))] 177 [] := by
  intro n
  induction n with
  | zero =>
    intro a0 ta0 h hF
    cases hF
  | succ n ih =>
    intro a0 ta0 h hF
    rw [fX10_token_177] at hF
    refine xr_aload_n C 0 dX10_token_177 rfl rfl ?_
    obtain ⟨r178, h178, e178, hF⟩ := fx_b2E hF
    refine xr_callVi C mvX10_75 [] [] (mX10_here l G a0 ta0 h h178 r178 e178) ta0 (by decide) vc10 rfl ⟨rfl, rfl, (Nat.le_of_ble_eq_true rfl), (Nat.le_of_ble_eq_true rfl)⟩ rfl (Nat.le_of_ble_eq_true rfl) dX10_token_178 ?_
    obtain ⟨r181, h181, e181, hF⟩ := fx_b2E hF
    refine xr_callSi C mvX10_98 [.int r178] [] (mX10_isDigit l G r178  h178 h181 r181 e181) rfl ⟨rfl, rfl, (Nat.le_of_ble_eq_true rfl), (Nat.le_of_ble_eq_true rfl)⟩ rfl (Nat.le_of_ble_eq_true rfl) dX10_token_181 ?_
    refine xr_if_eq C 261 dX10_token_184 (by decide) (fun c184 => ?_) (fun c184 => ?_)
    · have hF := fx_pos hF c184
      cases hF
      exact xr_vret C dX10_token_261
    · have hF := fx_neg hF c184
      refine xr_aload_n C 0 dX10_token_187 rfl rfl ?_
      refine xr_aload_n C 0 dX10_token_188 rfl rfl ?_
      refine xr_geti C flX10_95 rfl dX10_token_189 ta0 ?_
      refine xr_sipush (v := 9999) C dX10_token_192 (by decide) ?_
      refine xr_icmp_le C 205 dX10_token_195 (by decide) (fun c195 => ?_) (fun c195 => ?_)
      · have hF := fx_pos hF c195
        refine xr_bipush (v := 10) C dX10_token_205 (by decide) ?_
        refine xr_aload_n C 0 dX10_token_207 rfl rfl ?_
        refine xr_geti C flX10_95 rfl dX10_token_208 ta0 ?_
        refine xr_imul C dX10_token_211 ?_
        refine xr_aload_n C 0 dX10_token_212 rfl rfl ?_
        obtain ⟨r213, h213, e213, hF⟩ := fx_b2E hF
        refine xr_callVi C mvX10_75 [] [.int ((10 : Int32) * (h181.1 a0 12)), .ref (G.2.2.1 a0)] (mX10_here l G a0 ta0 h181 h213 r213 e213) ta0 (by decide) vc10 rfl ⟨rfl, rfl, (Nat.le_of_ble_eq_true rfl), (Nat.le_of_ble_eq_true rfl)⟩ rfl (Nat.le_of_ble_eq_true rfl) dX10_token_213 ?_
        refine xr_iadd C dX10_token_216 ?_
        refine xr_bipush (v := 48) C dX10_token_217 (by decide) ?_
        refine xr_isub C dX10_token_219 ?_
        exact bX10_token_220 C (fX10_token_177 n) (fun a0 ta0 h hF => ih a0 ta0 h hF)  a0 a0 ((((10 : Int32) * (h181.1 a0 12)) + r213) - (48 : Int32)) ta0 ta0 h213 hF
      · have hF := fx_neg hF c195
        refine xr_aload_n C 0 dX10_token_198 rfl rfl ?_
        refine xr_geti C flX10_95 rfl dX10_token_199 ta0 ?_
        refine xr_goto C 220 dX10_token_202 (by decide) ?_
        exact bX10_token_220 C (fX10_token_177 n) (fun a0 ta0 h hF => ih a0 ta0 h hF)  a0 a0 (h181.1 a0 12) ta0 ta0 h181 hF
def fX10_token_146  (a0 : Nat) (s0 : Nat) (s1 : Int32) (h : hp_T) : Option hp_T := fx_let (hp_sI h s0 11 s1) fun (h146 : hp_T) => fx_b2 (fX10_wordHere a0 h146) fun (r151 : Int32) (h151 : hp_T) => fx_let (hp_sI h151 a0 12 r151) fun (h154 : hp_T) => some h154
set_option maxRecDepth 100000 in
set_option maxHeartbeats 4000000 in
theorem bX10_token_146 {l : Launch} {G : xr_G} {K : xr_K} {h1 : hp_T} (C : xr_C G K cX10_token RX10 2 (xr_R 5 164) none (some (xr_Qv G h1)))  (a0 : Nat) (s0 : Nat) (s1 : Int32) (ta0 : hp_sh a0 = (10, 0)) (ts0 : hp_sh s0 = (10, 0)) (h : hp_T) (hF : fX10_token_146 a0 s0 s1 h = some h1) : xr_j l G K 2 h [(0, .ref (G.2.2.1 a0))] 146 [.int s1, .ref (G.2.2.1 s0)] := by
  unfold fX10_token_146 at hF
  refine xr_puti C fpX10_82 rfl rfl rfl dX10_token_146 ts0 (fun h146 e146 => ?_)
  have hF := fx_letE hF h146 e146
  refine xr_aload_n C 0 dX10_token_149 rfl rfl ?_
  refine xr_aload_n C 0 dX10_token_150 rfl rfl ?_
  obtain ⟨r151, h151, e151, hF⟩ := fx_b2E hF
  refine xr_callVi C mvX10_92 [] [.ref (G.2.2.1 a0)] (mX10_wordHere l G a0 ta0 h146 h151 r151 e151) ta0 (by decide) vc10 rfl ⟨rfl, rfl, (Nat.le_of_ble_eq_true rfl), (Nat.le_of_ble_eq_true rfl)⟩ rfl (Nat.le_of_ble_eq_true rfl) dX10_token_151 ?_
  refine xr_puti C fpX10_95 rfl rfl rfl dX10_token_154 ta0 (fun h154 e154 => ?_)
  have hF := fx_letE hF h154 e154
  refine xr_goto C 261 dX10_token_157 (by decide) ?_
  cases hF
  exact xr_vret C dX10_token_261
def fX10_token_113 (k69 : Nat → hp_T → Option hp_T) (a0 : Nat) (h : hp_T) : Option hp_T := fx_let (hp_sI h a0 9 ((h.1 a0 9) + (1 : Int32))) fun (h120 : hp_T) => k69 a0 h120
set_option maxRecDepth 100000 in
set_option maxHeartbeats 4000000 in
theorem bX10_token_113 {l : Launch} {G : xr_G} {K : xr_K} {h1 : hp_T} (C : xr_C G K cX10_token RX10 2 (xr_R 5 164) none (some (xr_Qv G h1))) (k69 : Nat → hp_T → Option hp_T) (j69 : ∀ (a0 : Nat) (ta0 : hp_sh a0 = (10, 0)) (h : hp_T), k69 a0 h = some h1 → xr_j l G K 2 h [(0, .ref (G.2.2.1 a0))] 69 []) (a0 : Nat) (ta0 : hp_sh a0 = (10, 0)) (h : hp_T) (hF : fX10_token_113 k69 a0 h = some h1) : xr_j l G K 2 h [(0, .ref (G.2.2.1 a0))] 113 [] := by
  unfold fX10_token_113 at hF
  refine xr_aload_n C 0 dX10_token_113 rfl rfl ?_
  refine xr_dup C dX10_token_114 rfl ?_
  refine xr_geti C flX10_69 rfl dX10_token_115 ta0 ?_
  refine xr_iconst (v := 1) C dX10_token_118 (by decide) ?_
  refine xr_iadd C dX10_token_119 ?_
  refine xr_puti C fpX10_69 rfl rfl rfl dX10_token_120 ta0 (fun h120 e120 => ?_)
  have hF := fx_letE hF h120 e120
  refine xr_goto C 69 dX10_token_123 (by decide) ?_
  exact j69 a0 ta0 h120 hF
def fX10_token_69  : Nat → Nat → hp_T → Option hp_T
  | 0, _, _ => none
  | n + 1, a0, h => fx_b2 (fX10_here a0 h) fun (r70 : Int32) (h70 : hp_T) => fx_b2 (fX10_isSmall r70 h70) fun (r73 : Int32) (h73 : hp_T) => if r73 = 0 then (if (6 : Int32) < ((h73.1 a0 9) - (h73.1 a0 10)) then (fX10_token_146 a0 a0 (4 : Int32) h73) else (fX10_token_146 a0 a0 (0 : Int32) h73)) else (if (6 : Int32) ≤ ((h73.1 a0 9) - (h73.1 a0 10)) then (fX10_token_113 (fX10_token_69 n) a0 h73) else (fx_b2 (fX10_here a0 h73) fun (r101 : Int32) (h101 : hp_T) => fx_let (hp_sI h101 a0 13 ((fx_shl (h73.1 a0 13) (5 : Int32)) ||| ((r101 - (97 : Int32)) + (1 : Int32)))) fun (h110 : hp_T) => fX10_token_113 (fX10_token_69 n) a0 h110))
set_option maxRecDepth 100000 in
set_option maxHeartbeats 4000000 in
theorem bX10_token_69 {l : Launch} {G : xr_G} {K : xr_K} {h1 : hp_T} (C : xr_C G K cX10_token RX10 2 (xr_R 5 164) none (some (xr_Qv G h1)))  : ∀ (n : Nat) (a0 : Nat) (ta0 : hp_sh a0 = (10, 0)) (h : hp_T), fX10_token_69 n a0 h = some h1 → xr_j l G K 2 h [(0, .ref (G.2.2.1 a0))] 69 [] := by
  intro n
  induction n with
  | zero =>
    intro a0 ta0 h hF
    cases hF
  | succ n ih =>
    intro a0 ta0 h hF
    rw [fX10_token_69] at hF
    refine xr_aload_n C 0 dX10_token_69 rfl rfl ?_
    obtain ⟨r70, h70, e70, hF⟩ := fx_b2E hF
    refine xr_callVi C mvX10_75 [] [] (mX10_here l G a0 ta0 h h70 r70 e70) ta0 (by decide) vc10 rfl ⟨rfl, rfl, (Nat.le_of_ble_eq_true rfl), (Nat.le_of_ble_eq_true rfl)⟩ rfl (Nat.le_of_ble_eq_true rfl) dX10_token_70 ?_
    obtain ⟨r73, h73, e73, hF⟩ := fx_b2E hF
    refine xr_callSi C mvX10_85 [.int r70] [] (mX10_isSmall l G r70  h70 h73 r73 e73) rfl ⟨rfl, rfl, (Nat.le_of_ble_eq_true rfl), (Nat.le_of_ble_eq_true rfl)⟩ rfl (Nat.le_of_ble_eq_true rfl) dX10_token_73 ?_
    refine xr_if_eq C 126 dX10_token_76 (by decide) (fun c76 => ?_) (fun c76 => ?_)
    · have hF := fx_pos hF c76
      refine xr_aload_n C 0 dX10_token_126 rfl rfl ?_
      refine xr_aload_n C 0 dX10_token_127 rfl rfl ?_
      refine xr_geti C flX10_69 rfl dX10_token_128 ta0 ?_
      refine xr_aload_n C 0 dX10_token_131 rfl rfl ?_
      refine xr_geti C flX10_79 rfl dX10_token_132 ta0 ?_
      refine xr_isub C dX10_token_135 ?_
      refine xr_bipush (v := 6) C dX10_token_136 (by decide) ?_
      refine xr_icmp_gt C 145 dX10_token_138 (by decide) (fun c138 => ?_) (fun c138 => ?_)
      · have hF := fx_pos hF c138
        refine xr_iconst (v := 4) C dX10_token_145 (by decide) ?_
        exact bX10_token_146 C   a0 a0 (4 : Int32) ta0 ta0 h73 hF
      · have hF := fx_neg hF c138
        refine xr_iconst (v := 0) C dX10_token_141 (by decide) ?_
        refine xr_goto C 146 dX10_token_142 (by decide) ?_
        exact bX10_token_146 C   a0 a0 (0 : Int32) ta0 ta0 h73 hF
    · have hF := fx_neg hF c76
      refine xr_aload_n C 0 dX10_token_79 rfl rfl ?_
      refine xr_geti C flX10_69 rfl dX10_token_80 ta0 ?_
      refine xr_aload_n C 0 dX10_token_83 rfl rfl ?_
      refine xr_geti C flX10_79 rfl dX10_token_84 ta0 ?_
      refine xr_isub C dX10_token_87 ?_
      refine xr_bipush (v := 6) C dX10_token_88 (by decide) ?_
      refine xr_icmp_ge C 113 dX10_token_90 (by decide) (fun c90 => ?_) (fun c90 => ?_)
      · have hF := fx_pos hF c90
        exact bX10_token_113 C (fX10_token_69 n) (fun a0 ta0 h hF => ih a0 ta0 h hF)  a0 ta0 h73 hF
      · have hF := fx_neg hF c90
        refine xr_aload_n C 0 dX10_token_93 rfl rfl ?_
        refine xr_aload_n C 0 dX10_token_94 rfl rfl ?_
        refine xr_geti C flX10_89 rfl dX10_token_95 ta0 ?_
        refine xr_iconst (v := 5) C dX10_token_98 (by decide) ?_
        refine xr_ishl C dX10_token_99 ?_
        refine xr_aload_n C 0 dX10_token_100 rfl rfl ?_
        obtain ⟨r101, h101, e101, hF⟩ := fx_b2E hF
        refine xr_callVi C mvX10_75 [] [.int (fx_shl (h73.1 a0 13) (5 : Int32)), .ref (G.2.2.1 a0)] (mX10_here l G a0 ta0 h73 h101 r101 e101) ta0 (by decide) vc10 rfl ⟨rfl, rfl, (Nat.le_of_ble_eq_true rfl), (Nat.le_of_ble_eq_true rfl)⟩ rfl (Nat.le_of_ble_eq_true rfl) dX10_token_101 ?_
        refine xr_bipush (v := 97) C dX10_token_104 (by decide) ?_
        refine xr_isub C dX10_token_106 ?_
        refine xr_iconst (v := 1) C dX10_token_107 (by decide) ?_
        refine xr_iadd C dX10_token_108 ?_
        refine xr_ior C dX10_token_109 ?_
        refine xr_puti C fpX10_89 rfl rfl rfl dX10_token_110 ta0 (fun h110 e110 => ?_)
        have hF := fx_letE hF h110 e110
        exact bX10_token_113 C (fX10_token_69 n) (fun a0 ta0 h hF => ih a0 ta0 h hF)  a0 ta0 h110 hF
def fX10_token_18 (k0 : Nat → hp_T → Option hp_T) (a0 : Nat) (h : hp_T) : Option hp_T := fx_let (hp_sI h a0 9 ((h.1 a0 9) + (1 : Int32))) fun (h25 : hp_T) => k0 a0 h25
set_option maxRecDepth 100000 in
set_option maxHeartbeats 4000000 in
theorem bX10_token_18 {l : Launch} {G : xr_G} {K : xr_K} {h1 : hp_T} (C : xr_C G K cX10_token RX10 2 (xr_R 5 164) none (some (xr_Qv G h1))) (k0 : Nat → hp_T → Option hp_T) (j0 : ∀ (a0 : Nat) (ta0 : hp_sh a0 = (10, 0)) (h : hp_T), k0 a0 h = some h1 → xr_j l G K 2 h [(0, .ref (G.2.2.1 a0))] 0 []) (a0 : Nat) (ta0 : hp_sh a0 = (10, 0)) (h : hp_T) (hF : fX10_token_18 k0 a0 h = some h1) : xr_j l G K 2 h [(0, .ref (G.2.2.1 a0))] 18 [] := by
  unfold fX10_token_18 at hF
  refine xr_aload_n C 0 dX10_token_18 rfl rfl ?_
  refine xr_dup C dX10_token_19 rfl ?_
  refine xr_geti C flX10_69 rfl dX10_token_20 ta0 ?_
  refine xr_iconst (v := 1) C dX10_token_23 (by decide) ?_
  refine xr_iadd C dX10_token_24 ?_
  refine xr_puti C fpX10_69 rfl rfl rfl dX10_token_25 ta0 (fun h25 e25 => ?_)
  have hF := fx_letE hF h25 e25
  refine xr_goto C 0 dX10_token_28 (by decide) ?_
  exact j0 a0 ta0 h25 hF
def fX10_token_0  : Nat → Nat → hp_T → Option hp_T
  | 0, _, _ => none
  | n + 1, a0, h => fx_b2 (fX10_here a0 h) fun (r1 : Int32) (h1 : hp_T) => if r1 = (10 : Int32) then (fX10_token_18 (fX10_token_0 n) a0 h1) else (fx_b2 (fX10_here a0 h1) fun (r10 : Int32) (h10 : hp_T) => if r10 = (32 : Int32) then (fX10_token_18 (fX10_token_0 n) a0 h10) else (fx_let (hp_sI h10 a0 10 (h10.1 a0 9)) fun (h36 : hp_T) => fx_b2 (fX10_here a0 h36) fun (r40 : Int32) (h40 : hp_T) => if r40 = (-1 : Int32) then (fx_let (hp_sI h40 a0 11 (3 : Int32)) fun (h51 : hp_T) => some h51) else (fx_b2 (fX10_isSmall r40 h40) fun (r58 : Int32) (h58 : hp_T) => if r58 = 0 then (fx_b2 (fX10_isDigit r40 h58) fun (r161 : Int32) (h161 : hp_T) => if r161 = 0 then (if r40 = (59 : Int32) then (fX10_token_248 a0 a0 (2 : Int32) h161) else (fX10_token_248 a0 a0 (4 : Int32) h161)) else (fx_let (hp_sI h161 a0 11 (1 : Int32)) fun (h169 : hp_T) => fx_let (hp_sI h169 a0 12 (0 : Int32)) fun (h174 : hp_T) => fX10_token_177 fx_N a0 h174)) else (fx_let (hp_sI h58 a0 13 (0 : Int32)) fun (h66 : hp_T) => fX10_token_69 fx_N a0 h66))))
set_option maxRecDepth 100000 in
set_option maxHeartbeats 4000000 in
theorem bX10_token_0 {l : Launch} {G : xr_G} {K : xr_K} {h1 : hp_T} (C : xr_C G K cX10_token RX10 2 (xr_R 5 164) none (some (xr_Qv G h1)))  : ∀ (n : Nat) (a0 : Nat) (ta0 : hp_sh a0 = (10, 0)) (h : hp_T), fX10_token_0 n a0 h = some h1 → xr_j l G K 2 h [(0, .ref (G.2.2.1 a0))] 0 [] := by
  intro n
  induction n with
  | zero =>
    intro a0 ta0 h hF
    cases hF
  | succ n ih =>
    intro a0 ta0 h hF
    rw [fX10_token_0] at hF
    refine xr_aload_n C 0 dX10_token_0 rfl rfl ?_
    obtain ⟨r1, h1, e1, hF⟩ := fx_b2E hF
    refine xr_callVi C mvX10_75 [] [] (mX10_here l G a0 ta0 h h1 r1 e1) ta0 (by decide) vc10 rfl ⟨rfl, rfl, (Nat.le_of_ble_eq_true rfl), (Nat.le_of_ble_eq_true rfl)⟩ rfl (Nat.le_of_ble_eq_true rfl) dX10_token_1 ?_
    refine xr_bipush (v := 10) C dX10_token_4 (by decide) ?_
    refine xr_icmp_eq C 18 dX10_token_6 (by decide) (fun c6 => ?_) (fun c6 => ?_)
    · have hF := fx_pos hF c6
      exact bX10_token_18 C (fX10_token_0 n) (fun a0 ta0 h hF => ih a0 ta0 h hF)  a0 ta0 h1 hF
    · have hF := fx_neg hF c6
      refine xr_aload_n C 0 dX10_token_9 rfl rfl ?_
      obtain ⟨r10, h10, e10, hF⟩ := fx_b2E hF
      refine xr_callVi C mvX10_75 [] [] (mX10_here l G a0 ta0 h1 h10 r10 e10) ta0 (by decide) vc10 rfl ⟨rfl, rfl, (Nat.le_of_ble_eq_true rfl), (Nat.le_of_ble_eq_true rfl)⟩ rfl (Nat.le_of_ble_eq_true rfl) dX10_token_10 ?_
      refine xr_bipush (v := 32) C dX10_token_13 (by decide) ?_
      refine xr_icmp_ne C 31 dX10_token_15 (by decide) (fun c15 => ?_) (fun c15 => ?_)
      · have hF := fx_neg hF c15
        refine xr_aload_n C 0 dX10_token_31 rfl rfl ?_
        refine xr_aload_n C 0 dX10_token_32 rfl rfl ?_
        refine xr_geti C flX10_69 rfl dX10_token_33 ta0 ?_
        refine xr_puti C fpX10_79 rfl rfl rfl dX10_token_36 ta0 (fun h36 e36 => ?_)
        have hF := fx_letE hF h36 e36
        refine xr_aload_n C 0 dX10_token_39 rfl rfl ?_
        obtain ⟨r40, h40, e40, hF⟩ := fx_b2E hF
        refine xr_callVi C mvX10_75 [] [] (mX10_here l G a0 ta0 h36 h40 r40 e40) ta0 (by decide) vc10 rfl ⟨rfl, rfl, (Nat.le_of_ble_eq_true rfl), (Nat.le_of_ble_eq_true rfl)⟩ rfl (Nat.le_of_ble_eq_true rfl) dX10_token_40 ?_
        refine xr_istore_n C [(1, .int r40), (0, .ref (G.2.2.1 a0))] dX10_token_43 rfl (Nat.le_of_ble_eq_true rfl) rfl ?_
        refine xr_iload_n C 0 dX10_token_44 rfl rfl ?_
        refine xr_iconst (v := -1) C dX10_token_45 (by decide) ?_
        refine xr_icmp_ne C 57 dX10_token_46 (by decide) (fun c46 => ?_) (fun c46 => ?_)
        · have hF := fx_neg hF c46
          refine xr_iload_n C 0 dX10_token_57 rfl rfl ?_
          obtain ⟨r58, h58, e58, hF⟩ := fx_b2E hF
          refine xr_callSi C mvX10_85 [.int r40] [] (mX10_isSmall l G r40  h40 h58 r58 e58) rfl ⟨rfl, rfl, (Nat.le_of_ble_eq_true rfl), (Nat.le_of_ble_eq_true rfl)⟩ rfl (Nat.le_of_ble_eq_true rfl) dX10_token_58 ?_
          refine xr_if_eq C 160 dX10_token_61 (by decide) (fun c61 => ?_) (fun c61 => ?_)
          · have hF := fx_pos hF c61
            refine xr_iload_n C 0 dX10_token_160 rfl rfl ?_
            obtain ⟨r161, h161, e161, hF⟩ := fx_b2E hF
            refine xr_callSi C mvX10_98 [.int r40] [] (mX10_isDigit l G r40  h58 h161 r161 e161) rfl ⟨rfl, rfl, (Nat.le_of_ble_eq_true rfl), (Nat.le_of_ble_eq_true rfl)⟩ rfl (Nat.le_of_ble_eq_true rfl) dX10_token_161 ?_
            refine xr_if_eq C 236 dX10_token_164 (by decide) (fun c164 => ?_) (fun c164 => ?_)
            · have hF := fx_pos hF c164
              refine xr_aload_n C 1 dX10_token_236 rfl rfl ?_
              refine xr_iload_n C 0 dX10_token_237 rfl rfl ?_
              refine xr_bipush (v := 59) C dX10_token_238 (by decide) ?_
              refine xr_icmp_ne C 247 dX10_token_240 (by decide) (fun c240 => ?_) (fun c240 => ?_)
              · have hF := fx_neg hF c240
                refine xr_iconst (v := 4) C dX10_token_247 (by decide) ?_
                refine xr_sub [1] [(0, .ref (G.2.2.1 a0))] rfl ?_
                exact bX10_token_248 C   a0 a0 (4 : Int32) ta0 ta0 h161 hF
              · have hF := fx_pos hF c240
                refine xr_iconst (v := 2) C dX10_token_243 (by decide) ?_
                refine xr_goto C 248 dX10_token_244 (by decide) ?_
                refine xr_sub [1] [(0, .ref (G.2.2.1 a0))] rfl ?_
                exact bX10_token_248 C   a0 a0 (2 : Int32) ta0 ta0 h161 hF
            · have hF := fx_neg hF c164
              refine xr_aload_n C 1 dX10_token_167 rfl rfl ?_
              refine xr_iconst (v := 1) C dX10_token_168 (by decide) ?_
              refine xr_puti C fpX10_82 rfl rfl rfl dX10_token_169 ta0 (fun h169 e169 => ?_)
              have hF := fx_letE hF h169 e169
              refine xr_aload_n C 1 dX10_token_172 rfl rfl ?_
              refine xr_iconst (v := 0) C dX10_token_173 (by decide) ?_
              refine xr_puti C fpX10_95 rfl rfl rfl dX10_token_174 ta0 (fun h174 e174 => ?_)
              have hF := fx_letE hF h174 e174
              refine xr_sub [1] [(0, .ref (G.2.2.1 a0))] rfl ?_
              exact bX10_token_177 C  fx_N a0 ta0 h174 hF
          · have hF := fx_neg hF c61
            refine xr_aload_n C 1 dX10_token_64 rfl rfl ?_
            refine xr_iconst (v := 0) C dX10_token_65 (by decide) ?_
            refine xr_puti C fpX10_89 rfl rfl rfl dX10_token_66 ta0 (fun h66 e66 => ?_)
            have hF := fx_letE hF h66 e66
            refine xr_sub [1] [(0, .ref (G.2.2.1 a0))] rfl ?_
            exact bX10_token_69 C  fx_N a0 ta0 h66 hF
        · have hF := fx_pos hF c46
          refine xr_aload_n C 1 dX10_token_49 rfl rfl ?_
          refine xr_iconst (v := 3) C dX10_token_50 (by decide) ?_
          refine xr_puti C fpX10_82 rfl rfl rfl dX10_token_51 ta0 (fun h51 e51 => ?_)
          have hF := fx_letE hF h51 e51
          refine xr_goto C 261 dX10_token_54 (by decide) ?_
          cases hF
          exact xr_vret C dX10_token_261
      · have hF := fx_pos hF c15
        exact bX10_token_18 C (fX10_token_0 n) (fun a0 ta0 h hF => ih a0 ta0 h hF)  a0 ta0 h10 hF
def fX10_token (a0 : Nat) (h : hp_T) : Option hp_T := fX10_token_0 fx_N a0 h
set_option maxRecDepth 100000 in
set_option maxHeartbeats 4000000 in
theorem mX10_token (l : Launch) (G : xr_G) (a0 : Nat) (ta0 : hp_sh a0 = (10, 0)) (h h1 : hp_T) (hF : fX10_token a0 h = some h1) : xr_M l G yX10_token cX10_token 2 (xr_R 5 164) none [.ref (G.2.2.1 a0)] h (xr_Qv G h1) := by
  refine xr_start rfl (Nat.le_of_ble_eq_true rfl) (fun K C => ?_)
  show xr_j l G K 2 h [(0, .ref (G.2.2.1 a0))] 0 []
  unfold fX10_token at hF
  exact bX10_token_0 C  fx_N a0 ta0 h hF
theorem dX10_goOn_0 : decode cX10_goOn 0 = .ok (.aload_n 0, 1) := by decide +kernel
theorem dX10_goOn_1 : decode cX10_goOn 1 = .ok (.getfield 112, 3) := by decide +kernel
theorem dX10_goOn_4 : decode cX10_goOn 4 = .ok (.ifCond .ne 7, 3) := by decide +kernel
theorem dX10_goOn_7 : decode cX10_goOn 7 = .ok (.aload_n 0, 1) := by decide +kernel
theorem dX10_goOn_8 : decode cX10_goOn 8 = .ok (.invokevirtual 118, 3) := by decide +kernel
theorem dX10_goOn_11 : decode cX10_goOn 11 = .ok (.return_, 1) := by decide +kernel
def fX10_goOn (a0 : Nat) (h : hp_T) : Option hp_T := if (h.1 a0 14) = 0 then (fx_b1 (fX10_token a0 h) fun (h8 : hp_T) => some h8) else (some h)
set_option maxRecDepth 100000 in
set_option maxHeartbeats 4000000 in
theorem mX10_goOn (l : Launch) (G : xr_G) (a0 : Nat) (ta0 : hp_sh a0 = (10, 0)) (h h1 : hp_T) (hF : fX10_goOn a0 h = some h1) : xr_M l G yX10_goOn cX10_goOn 1 (xr_R 6 185) none [.ref (G.2.2.1 a0)] h (xr_Qv G h1) := by
  refine xr_start rfl (Nat.le_of_ble_eq_true rfl) (fun K C => ?_)
  show xr_j l G K 1 h [(0, .ref (G.2.2.1 a0))] 0 []
  unfold fX10_goOn at hF
  refine xr_aload_n C 0 dX10_goOn_0 rfl rfl ?_
  refine xr_geti C flX10_112 rfl dX10_goOn_1 ta0 ?_
  refine xr_if_ne C 11 dX10_goOn_4 (by decide) (fun c4 => ?_) (fun c4 => ?_)
  · have hF := fx_neg hF c4
    cases hF
    exact xr_vret C dX10_goOn_11
  · have hF := fx_pos hF c4
    refine xr_aload_n C 0 dX10_goOn_7 rfl rfl ?_
    obtain ⟨h8, e8, hF⟩ := fx_b1E hF
    refine xr_callVv C mvX10_118 [] [] (mX10_token l G a0 ta0 h h8 e8) ta0 (by decide) vc10 rfl ⟨rfl, rfl, (Nat.le_of_ble_eq_true rfl), (Nat.le_of_ble_eq_true rfl)⟩ rfl (Nat.le_of_ble_eq_true rfl) dX10_goOn_8 ?_
    cases hF
    exact xr_vret C dX10_goOn_11
theorem dX10_number_0 : decode cX10_number 0 = .ok (.aload_n 0, 1) := by decide +kernel
theorem dX10_number_1 : decode cX10_number 1 = .ok (.getfield 112, 3) := by decide +kernel
theorem dX10_number_4 : decode cX10_number 4 = .ok (.ifCond .ne 16, 3) := by decide +kernel
theorem dX10_number_7 : decode cX10_number 7 = .ok (.aload_n 0, 1) := by decide +kernel
theorem dX10_number_8 : decode cX10_number 8 = .ok (.getfield 82, 3) := by decide +kernel
theorem dX10_number_11 : decode cX10_number 11 = .ok (.iconst 1, 1) := by decide +kernel
theorem dX10_number_12 : decode cX10_number 12 = .ok (.if_icmp .eq 8, 3) := by decide +kernel
theorem dX10_number_15 : decode cX10_number 15 = .ok (.aload_n 0, 1) := by decide +kernel
theorem dX10_number_16 : decode cX10_number 16 = .ok (.iconst 1, 1) := by decide +kernel
theorem dX10_number_17 : decode cX10_number 17 = .ok (.invokevirtual 121, 3) := by decide +kernel
theorem dX10_number_20 : decode cX10_number 20 = .ok (.aload_n 0, 1) := by decide +kernel
theorem dX10_number_21 : decode cX10_number 21 = .ok (.getfield 112, 3) := by decide +kernel
theorem dX10_number_24 : decode cX10_number 24 = .ok (.ifCond .ne 24, 3) := by decide +kernel
theorem dX10_number_27 : decode cX10_number 27 = .ok (.aload_n 0, 1) := by decide +kernel
theorem dX10_number_28 : decode cX10_number 28 = .ok (.getfield 95, 3) := by decide +kernel
theorem dX10_number_31 : decode cX10_number 31 = .ok (.iload_n 1, 1) := by decide +kernel
theorem dX10_number_32 : decode cX10_number 32 = .ok (.if_icmp .lt 11, 3) := by decide +kernel
theorem dX10_number_35 : decode cX10_number 35 = .ok (.aload_n 0, 1) := by decide +kernel
theorem dX10_number_36 : decode cX10_number 36 = .ok (.getfield 95, 3) := by decide +kernel
theorem dX10_number_39 : decode cX10_number 39 = .ok (.iload_n 2, 1) := by decide +kernel
theorem dX10_number_40 : decode cX10_number 40 = .ok (.if_icmp .le 8, 3) := by decide +kernel
theorem dX10_number_43 : decode cX10_number 43 = .ok (.aload_n 0, 1) := by decide +kernel
theorem dX10_number_44 : decode cX10_number 44 = .ok (.iconst 2, 1) := by decide +kernel
theorem dX10_number_45 : decode cX10_number 45 = .ok (.invokevirtual 121, 3) := by decide +kernel
theorem dX10_number_48 : decode cX10_number 48 = .ok (.aload_n 0, 1) := by decide +kernel
theorem dX10_number_49 : decode cX10_number 49 = .ok (.getfield 112, 3) := by decide +kernel
theorem dX10_number_52 : decode cX10_number 52 = .ok (.ifCond .ne 10, 3) := by decide +kernel
theorem dX10_number_55 : decode cX10_number 55 = .ok (.aload_n 0, 1) := by decide +kernel
theorem dX10_number_56 : decode cX10_number 56 = .ok (.getfield 95, 3) := by decide +kernel
theorem dX10_number_59 : decode cX10_number 59 = .ok (.goto 4, 3) := by decide +kernel
theorem dX10_number_62 : decode cX10_number 62 = .ok (.iload_n 1, 1) := by decide +kernel
theorem dX10_number_63 : decode cX10_number 63 = .ok (.istore_n 3, 1) := by decide +kernel
theorem dX10_number_64 : decode cX10_number 64 = .ok (.aload_n 0, 1) := by decide +kernel
theorem dX10_number_65 : decode cX10_number 65 = .ok (.invokevirtual 125, 3) := by decide +kernel
theorem dX10_number_68 : decode cX10_number 68 = .ok (.iload_n 3, 1) := by decide +kernel
theorem dX10_number_69 : decode cX10_number 69 = .ok (.ireturn, 1) := by decide +kernel
def fX10_number_63  (a0 : Nat) (s0 : Int32) (h : hp_T) : Option (Int32 × hp_T) := fx_b1 (fX10_goOn a0 h) fun (h65 : hp_T) => some (s0, h65)
set_option maxRecDepth 100000 in
set_option maxHeartbeats 4000000 in
theorem bX10_number_63 {l : Launch} {G : xr_G} {K : xr_K} {r : Int32} {h1 : hp_T} (C : xr_C G K cX10_number RX10 4 (xr_R 7 205) (some .int) (some (xr_Qi G r h1)))  (a0 : Nat) (s0 : Int32) (ta0 : hp_sh a0 = (10, 0)) (h : hp_T) (hF : fX10_number_63 a0 s0 h = some (r, h1)) : xr_j l G K 4 h [(0, .ref (G.2.2.1 a0))] 63 [.int s0] := by
  unfold fX10_number_63 at hF
  refine xr_istore_n C [(3, .int s0), (0, .ref (G.2.2.1 a0))] dX10_number_63 rfl (Nat.le_of_ble_eq_true rfl) rfl ?_
  refine xr_aload_n C 1 dX10_number_64 rfl rfl ?_
  obtain ⟨h65, e65, hF⟩ := fx_b1E hF
  refine xr_callVv C mvX10_125 [] [] (mX10_goOn l G a0 ta0 h h65 e65) ta0 (by decide) vc10 rfl ⟨rfl, rfl, (Nat.le_of_ble_eq_true rfl), (Nat.le_of_ble_eq_true rfl)⟩ rfl (Nat.le_of_ble_eq_true rfl) dX10_number_65 ?_
  refine xr_iload_n C 0 dX10_number_68 rfl rfl ?_
  cases hF
  exact xr_iret C dX10_number_69
def fX10_number_48  (a0 : Nat) (a1 : Int32) (h : hp_T) : Option (Int32 × hp_T) := if (h.1 a0 14) = 0 then (fX10_number_63 a0 (h.1 a0 12) h) else (fX10_number_63 a0 a1 h)
set_option maxRecDepth 100000 in
set_option maxHeartbeats 4000000 in
theorem bX10_number_48 {l : Launch} {G : xr_G} {K : xr_K} {r : Int32} {h1 : hp_T} (C : xr_C G K cX10_number RX10 4 (xr_R 7 205) (some .int) (some (xr_Qi G r h1)))  (a0 : Nat) (a1 : Int32) (ta0 : hp_sh a0 = (10, 0)) (h : hp_T) (hF : fX10_number_48 a0 a1 h = some (r, h1)) : xr_j l G K 4 h [(0, .ref (G.2.2.1 a0)), (1, .int a1)] 48 [] := by
  unfold fX10_number_48 at hF
  refine xr_aload_n C 0 dX10_number_48 rfl rfl ?_
  refine xr_geti C flX10_112 rfl dX10_number_49 ta0 ?_
  refine xr_if_ne C 62 dX10_number_52 (by decide) (fun c52 => ?_) (fun c52 => ?_)
  · have hF := fx_neg hF c52
    refine xr_iload_n C 1 dX10_number_62 rfl rfl ?_
    refine xr_sub [0] [(0, .ref (G.2.2.1 a0))] rfl ?_
    exact bX10_number_63 C   a0 a1 ta0 h hF
  · have hF := fx_pos hF c52
    refine xr_aload_n C 0 dX10_number_55 rfl rfl ?_
    refine xr_geti C flX10_95 rfl dX10_number_56 ta0 ?_
    refine xr_goto C 63 dX10_number_59 (by decide) ?_
    refine xr_sub [0] [(0, .ref (G.2.2.1 a0))] rfl ?_
    exact bX10_number_63 C   a0 (h.1 a0 12) ta0 h hF
def fX10_number_43  (a0 : Nat) (a1 : Int32) (h : hp_T) : Option (Int32 × hp_T) := fx_b1 (fX10_wrong a0 (2 : Int32) h) fun (h45 : hp_T) => fX10_number_48 a0 a1 h45
set_option maxRecDepth 100000 in
set_option maxHeartbeats 4000000 in
theorem bX10_number_43 {l : Launch} {G : xr_G} {K : xr_K} {r : Int32} {h1 : hp_T} (C : xr_C G K cX10_number RX10 4 (xr_R 7 205) (some .int) (some (xr_Qi G r h1)))  (a0 : Nat) (a1 : Int32) (ta0 : hp_sh a0 = (10, 0)) (h : hp_T) (hF : fX10_number_43 a0 a1 h = some (r, h1)) : xr_j l G K 4 h [(0, .ref (G.2.2.1 a0)), (1, .int a1)] 43 [] := by
  unfold fX10_number_43 at hF
  refine xr_aload_n C 0 dX10_number_43 rfl rfl ?_
  refine xr_iconst (v := 2) C dX10_number_44 (by decide) ?_
  obtain ⟨h45, e45, hF⟩ := fx_b1E hF
  refine xr_callVv C mvX10_121 [.int (2 : Int32)] [] (mX10_wrong l G a0 (2 : Int32) ta0 h h45 e45) ta0 (by decide) vc10 rfl ⟨rfl, rfl, (Nat.le_of_ble_eq_true rfl), (Nat.le_of_ble_eq_true rfl)⟩ rfl (Nat.le_of_ble_eq_true rfl) dX10_number_45 ?_
  exact bX10_number_48 C   a0 a1 ta0 h45 hF
def fX10_number_20  (a0 : Nat) (a1 : Int32) (a2 : Int32) (h : hp_T) : Option (Int32 × hp_T) := if (h.1 a0 14) = 0 then (if (h.1 a0 12) < a1 then (fX10_number_43 a0 a1 h) else (if (h.1 a0 12) ≤ a2 then (fX10_number_48 a0 a1 h) else (fX10_number_43 a0 a1 h))) else (fX10_number_48 a0 a1 h)
set_option maxRecDepth 100000 in
set_option maxHeartbeats 4000000 in
theorem bX10_number_20 {l : Launch} {G : xr_G} {K : xr_K} {r : Int32} {h1 : hp_T} (C : xr_C G K cX10_number RX10 4 (xr_R 7 205) (some .int) (some (xr_Qi G r h1)))  (a0 : Nat) (a1 : Int32) (a2 : Int32) (ta0 : hp_sh a0 = (10, 0)) (h : hp_T) (hF : fX10_number_20 a0 a1 a2 h = some (r, h1)) : xr_j l G K 4 h [(0, .ref (G.2.2.1 a0)), (1, .int a1), (2, .int a2)] 20 [] := by
  unfold fX10_number_20 at hF
  refine xr_aload_n C 0 dX10_number_20 rfl rfl ?_
  refine xr_geti C flX10_112 rfl dX10_number_21 ta0 ?_
  refine xr_if_ne C 48 dX10_number_24 (by decide) (fun c24 => ?_) (fun c24 => ?_)
  · have hF := fx_neg hF c24
    refine xr_sub [0, 1] [(0, .ref (G.2.2.1 a0)), (1, .int a1)] rfl ?_
    exact bX10_number_48 C   a0 a1 ta0 h hF
  · have hF := fx_pos hF c24
    refine xr_aload_n C 0 dX10_number_27 rfl rfl ?_
    refine xr_geti C flX10_95 rfl dX10_number_28 ta0 ?_
    refine xr_iload_n C 1 dX10_number_31 rfl rfl ?_
    refine xr_icmp_lt C 43 dX10_number_32 (by decide) (fun c32 => ?_) (fun c32 => ?_)
    · have hF := fx_pos hF c32
      refine xr_sub [0, 1] [(0, .ref (G.2.2.1 a0)), (1, .int a1)] rfl ?_
      exact bX10_number_43 C   a0 a1 ta0 h hF
    · have hF := fx_neg hF c32
      refine xr_aload_n C 0 dX10_number_35 rfl rfl ?_
      refine xr_geti C flX10_95 rfl dX10_number_36 ta0 ?_
      refine xr_iload_n C 2 dX10_number_39 rfl rfl ?_
      refine xr_icmp_le C 48 dX10_number_40 (by decide) (fun c40 => ?_) (fun c40 => ?_)
      · have hF := fx_pos hF c40
        refine xr_sub [0, 1] [(0, .ref (G.2.2.1 a0)), (1, .int a1)] rfl ?_
        exact bX10_number_48 C   a0 a1 ta0 h hF
      · have hF := fx_neg hF c40
        refine xr_sub [0, 1] [(0, .ref (G.2.2.1 a0)), (1, .int a1)] rfl ?_
        exact bX10_number_43 C   a0 a1 ta0 h hF
def fX10_number (a0 : Nat) (a1 : Int32) (a2 : Int32) (h : hp_T) : Option (Int32 × hp_T) := if (h.1 a0 14) = 0 then (if (h.1 a0 11) = (1 : Int32) then (fX10_number_20 a0 a1 a2 h) else (fx_b1 (fX10_wrong a0 (1 : Int32) h) fun (h17 : hp_T) => fX10_number_20 a0 a1 a2 h17)) else (fX10_number_20 a0 a1 a2 h)
set_option maxRecDepth 100000 in
set_option maxHeartbeats 4000000 in
theorem mX10_number (l : Launch) (G : xr_G) (a0 : Nat) (a1 : Int32) (a2 : Int32) (ta0 : hp_sh a0 = (10, 0)) (h h1 : hp_T) (r : Int32) (hF : fX10_number a0 a1 a2 h = some (r, h1)) : xr_M l G yX10_number cX10_number 4 (xr_R 7 205) (some .int) [.ref (G.2.2.1 a0), .int a1, .int a2] h (xr_Qi G r h1) := by
  refine xr_start rfl (Nat.le_of_ble_eq_true rfl) (fun K C => ?_)
  show xr_j l G K 4 h [(0, .ref (G.2.2.1 a0)), (1, .int a1), (2, .int a2)] 0 []
  unfold fX10_number at hF
  refine xr_aload_n C 0 dX10_number_0 rfl rfl ?_
  refine xr_geti C flX10_112 rfl dX10_number_1 ta0 ?_
  refine xr_if_ne C 20 dX10_number_4 (by decide) (fun c4 => ?_) (fun c4 => ?_)
  · have hF := fx_neg hF c4
    exact bX10_number_20 C   a0 a1 a2 ta0 h hF
  · have hF := fx_pos hF c4
    refine xr_aload_n C 0 dX10_number_7 rfl rfl ?_
    refine xr_geti C flX10_82 rfl dX10_number_8 ta0 ?_
    refine xr_iconst (v := 1) C dX10_number_11 (by decide) ?_
    refine xr_icmp_eq C 20 dX10_number_12 (by decide) (fun c12 => ?_) (fun c12 => ?_)
    · have hF := fx_pos hF c12
      exact bX10_number_20 C   a0 a1 a2 ta0 h hF
    · have hF := fx_neg hF c12
      refine xr_aload_n C 0 dX10_number_15 rfl rfl ?_
      refine xr_iconst (v := 1) C dX10_number_16 (by decide) ?_
      obtain ⟨h17, e17, hF⟩ := fx_b1E hF
      refine xr_callVv C mvX10_121 [.int (1 : Int32)] [] (mX10_wrong l G a0 (1 : Int32) ta0 h h17 e17) ta0 (by decide) vc10 rfl ⟨rfl, rfl, (Nat.le_of_ble_eq_true rfl), (Nat.le_of_ble_eq_true rfl)⟩ rfl (Nat.le_of_ble_eq_true rfl) dX10_number_17 ?_
      exact bX10_number_20 C   a0 a1 a2 ta0 h17 hF
theorem dX10_once_0 : decode cX10_once 0 = .ok (.aload_n 0, 1) := by decide +kernel
theorem dX10_once_1 : decode cX10_once 1 = .ok (.getfield 29, 3) := by decide +kernel
theorem dX10_once_4 : decode cX10_once 4 = .ok (.iload_n 1, 1) := by decide +kernel
theorem dX10_once_5 : decode cX10_once 5 = .ok (.baload, 1) := by decide +kernel
theorem dX10_once_6 : decode cX10_once 6 = .ok (.ifCond .eq 8, 3) := by decide +kernel
theorem dX10_once_9 : decode cX10_once 9 = .ok (.aload_n 0, 1) := by decide +kernel
theorem dX10_once_10 : decode cX10_once 10 = .ok (.iconst 3, 1) := by decide +kernel
theorem dX10_once_11 : decode cX10_once 11 = .ok (.invokevirtual 121, 3) := by decide +kernel
theorem dX10_once_14 : decode cX10_once 14 = .ok (.aload_n 0, 1) := by decide +kernel
theorem dX10_once_15 : decode cX10_once 15 = .ok (.getfield 29, 3) := by decide +kernel
theorem dX10_once_18 : decode cX10_once 18 = .ok (.iload_n 1, 1) := by decide +kernel
theorem dX10_once_19 : decode cX10_once 19 = .ok (.iconst 1, 1) := by decide +kernel
theorem dX10_once_20 : decode cX10_once 20 = .ok (.bastore, 1) := by decide +kernel
theorem dX10_once_21 : decode cX10_once 21 = .ok (.aload_n 0, 1) := by decide +kernel
theorem dX10_once_22 : decode cX10_once 22 = .ok (.invokevirtual 125, 3) := by decide +kernel
theorem dX10_once_25 : decode cX10_once 25 = .ok (.return_, 1) := by decide +kernel
def fX10_once_14  (a0 : Nat) (a1 : Int32) (h : hp_T) : Option hp_T := fx_g (fx_in a1 8) (fx_let (hp_sI h (h.2.2 a0 18) (fx_ix a1) (1 : Int32)) fun (h20 : hp_T) => fx_b1 (fX10_goOn a0 h20) fun (h22 : hp_T) => some h22)
set_option maxRecDepth 100000 in
set_option maxHeartbeats 4000000 in
theorem bX10_once_14 {l : Launch} {G : xr_G} {K : xr_K} {h1 : hp_T} (C : xr_C G K cX10_once RX10 2 (xr_R 7 205) none (some (xr_Qv G h1)))  (a0 : Nat) (a1 : Int32) (ta0 : hp_sh a0 = (10, 0)) (h : hp_T) (hF : fX10_once_14 a0 a1 h = some h1) : xr_j l G K 2 h [(0, .ref (G.2.2.1 a0)), (1, .int a1)] 14 [] := by
  unfold fX10_once_14 at hF
  refine xr_aload_n C 0 dX10_once_14 rfl rfl ?_
  refine xr_getr C flX10_29 rfl (by decide) dX10_once_15 ta0 (fun t15 => ?_)
  refine xr_iload_n C 1 dX10_once_18 rfl rfl ?_
  refine xr_iconst (v := 1) C dX10_once_19 (by decide) ?_
  obtain ⟨g20, hF⟩ := fx_gE hF
  refine xr_zast C dX10_once_20 t15 g20 (by decide) (fun h20 e20 => ?_)
  have hF := fx_letE hF h20 e20
  refine xr_aload_n C 0 dX10_once_21 rfl rfl ?_
  obtain ⟨h22, e22, hF⟩ := fx_b1E hF
  refine xr_callVv C mvX10_125 [] [] (mX10_goOn l G a0 ta0 h20 h22 e22) ta0 (by decide) vc10 rfl ⟨rfl, rfl, (Nat.le_of_ble_eq_true rfl), (Nat.le_of_ble_eq_true rfl)⟩ rfl (Nat.le_of_ble_eq_true rfl) dX10_once_22 ?_
  cases hF
  exact xr_vret C dX10_once_25
def fX10_once (a0 : Nat) (a1 : Int32) (h : hp_T) : Option hp_T := fx_g (fx_in a1 8) (if (h.1 (h.2.2 a0 18) (fx_ix a1)) = 0 then (fX10_once_14 a0 a1 h) else (fx_b1 (fX10_wrong a0 (3 : Int32) h) fun (h11 : hp_T) => fX10_once_14 a0 a1 h11))
set_option maxRecDepth 100000 in
set_option maxHeartbeats 4000000 in
theorem mX10_once (l : Launch) (G : xr_G) (a0 : Nat) (a1 : Int32) (ta0 : hp_sh a0 = (10, 0)) (h h1 : hp_T) (hF : fX10_once a0 a1 h = some h1) : xr_M l G yX10_once cX10_once 2 (xr_R 7 205) none [.ref (G.2.2.1 a0), .int a1] h (xr_Qv G h1) := by
  refine xr_start rfl (Nat.le_of_ble_eq_true rfl) (fun K C => ?_)
  show xr_j l G K 2 h [(0, .ref (G.2.2.1 a0)), (1, .int a1)] 0 []
  unfold fX10_once at hF
  refine xr_aload_n C 0 dX10_once_0 rfl rfl ?_
  refine xr_getr C flX10_29 rfl (by decide) dX10_once_1 ta0 (fun t1 => ?_)
  refine xr_iload_n C 1 dX10_once_4 rfl rfl ?_
  obtain ⟨g5, hF⟩ := fx_gE hF
  refine xr_zald C dX10_once_5 t1 g5 ?_
  refine xr_if_eq C 14 dX10_once_6 (by decide) (fun c6 => ?_) (fun c6 => ?_)
  · have hF := fx_pos hF c6
    exact bX10_once_14 C   a0 a1 ta0 h hF
  · have hF := fx_neg hF c6
    refine xr_aload_n C 0 dX10_once_9 rfl rfl ?_
    refine xr_iconst (v := 3) C dX10_once_10 (by decide) ?_
    obtain ⟨h11, e11, hF⟩ := fx_b1E hF
    refine xr_callVv C mvX10_121 [.int (3 : Int32)] [] (mX10_wrong l G a0 (3 : Int32) ta0 h h11 e11) ta0 (by decide) vc10 rfl ⟨rfl, rfl, (Nat.le_of_ble_eq_true rfl), (Nat.le_of_ble_eq_true rfl)⟩ rfl (Nat.le_of_ble_eq_true rfl) dX10_once_11 ?_
    exact bX10_once_14 C   a0 a1 ta0 h11 hF
theorem dX10_readPlayer_0 : decode cX10_readPlayer 0 = .ok (.aload_n 0, 1) := by decide +kernel
theorem dX10_readPlayer_1 : decode cX10_readPlayer 1 = .ok (.getfield 16, 3) := by decide +kernel
theorem dX10_readPlayer_4 : decode cX10_readPlayer 4 = .ok (.iconst 5, 1) := by decide +kernel
theorem dX10_readPlayer_5 : decode cX10_readPlayer 5 = .ok (.iload_n 1, 1) := by decide +kernel
theorem dX10_readPlayer_6 : decode cX10_readPlayer 6 = .ok (.iadd, 1) := by decide +kernel
theorem dX10_readPlayer_7 : decode cX10_readPlayer 7 = .ok (.iaload, 1) := by decide +kernel
theorem dX10_readPlayer_8 : decode cX10_readPlayer 8 = .ok (.istore_n 2, 1) := by decide +kernel
theorem dX10_readPlayer_9 : decode cX10_readPlayer 9 = .ok (.iload_n 2, 1) := by decide +kernel
theorem dX10_readPlayer_10 : decode cX10_readPlayer 10 = .ok (.bipush 12, 2) := by decide +kernel
theorem dX10_readPlayer_12 : decode cX10_readPlayer 12 = .ok (.if_icmp .ne 8, 3) := by decide +kernel
theorem dX10_readPlayer_15 : decode cX10_readPlayer 15 = .ok (.aload_n 0, 1) := by decide +kernel
theorem dX10_readPlayer_16 : decode cX10_readPlayer 16 = .ok (.iconst 2, 1) := by decide +kernel
theorem dX10_readPlayer_17 : decode cX10_readPlayer 17 = .ok (.invokevirtual 121, 3) := by decide +kernel
theorem dX10_readPlayer_20 : decode cX10_readPlayer 20 = .ok (.aload_n 0, 1) := by decide +kernel
theorem dX10_readPlayer_21 : decode cX10_readPlayer 21 = .ok (.invokevirtual 125, 3) := by decide +kernel
theorem dX10_readPlayer_24 : decode cX10_readPlayer 24 = .ok (.aload_n 0, 1) := by decide +kernel
theorem dX10_readPlayer_25 : decode cX10_readPlayer 25 = .ok (.getfield 112, 3) := by decide +kernel
theorem dX10_readPlayer_28 : decode cX10_readPlayer 28 = .ok (.ifCond .ne 15, 3) := by decide +kernel
theorem dX10_readPlayer_31 : decode cX10_readPlayer 31 = .ok (.aload_n 0, 1) := by decide +kernel
theorem dX10_readPlayer_32 : decode cX10_readPlayer 32 = .ok (.invokevirtual 128, 3) := by decide +kernel
theorem dX10_readPlayer_35 : decode cX10_readPlayer 35 = .ok (.ifCond .ne 8, 3) := by decide +kernel
theorem dX10_readPlayer_38 : decode cX10_readPlayer 38 = .ok (.aload_n 0, 1) := by decide +kernel
theorem dX10_readPlayer_39 : decode cX10_readPlayer 39 = .ok (.iconst 1, 1) := by decide +kernel
theorem dX10_readPlayer_40 : decode cX10_readPlayer 40 = .ok (.invokevirtual 121, 3) := by decide +kernel
theorem dX10_readPlayer_43 : decode cX10_readPlayer 43 = .ok (.aload_n 0, 1) := by decide +kernel
theorem dX10_readPlayer_44 : decode cX10_readPlayer 44 = .ok (.getfield 112, 3) := by decide +kernel
theorem dX10_readPlayer_47 : decode cX10_readPlayer 47 = .ok (.ifCond .ne 26, 3) := by decide +kernel
theorem dX10_readPlayer_50 : decode cX10_readPlayer 50 = .ok (.aload_n 0, 1) := by decide +kernel
theorem dX10_readPlayer_51 : decode cX10_readPlayer 51 = .ok (.iconst 0, 1) := by decide +kernel
theorem dX10_readPlayer_52 : decode cX10_readPlayer 52 = .ok (.invokevirtual 132, 3) := by decide +kernel
theorem dX10_readPlayer_55 : decode cX10_readPlayer 55 = .ok (.iconst (-1), 1) := by decide +kernel
theorem dX10_readPlayer_56 : decode cX10_readPlayer 56 = .ok (.if_icmp .ne 12, 3) := by decide +kernel
theorem dX10_readPlayer_59 : decode cX10_readPlayer 59 = .ok (.aload_n 0, 1) := by decide +kernel
theorem dX10_readPlayer_60 : decode cX10_readPlayer 60 = .ok (.iconst 1, 1) := by decide +kernel
theorem dX10_readPlayer_61 : decode cX10_readPlayer 61 = .ok (.invokevirtual 132, 3) := by decide +kernel
theorem dX10_readPlayer_64 : decode cX10_readPlayer 64 = .ok (.iconst (-1), 1) := by decide +kernel
theorem dX10_readPlayer_65 : decode cX10_readPlayer 65 = .ok (.if_icmp .eq 8, 3) := by decide +kernel
theorem dX10_readPlayer_68 : decode cX10_readPlayer 68 = .ok (.aload_n 0, 1) := by decide +kernel
theorem dX10_readPlayer_69 : decode cX10_readPlayer 69 = .ok (.iconst 3, 1) := by decide +kernel
theorem dX10_readPlayer_70 : decode cX10_readPlayer 70 = .ok (.invokevirtual 121, 3) := by decide +kernel
theorem dX10_readPlayer_73 : decode cX10_readPlayer 73 = .ok (.aload_n 0, 1) := by decide +kernel
theorem dX10_readPlayer_74 : decode cX10_readPlayer 74 = .ok (.getfield 89, 3) := by decide +kernel
theorem dX10_readPlayer_77 : decode cX10_readPlayer 77 = .ok (.istore_n 3, 1) := by decide +kernel
theorem dX10_readPlayer_78 : decode cX10_readPlayer 78 = .ok (.aload_n 0, 1) := by decide +kernel
theorem dX10_readPlayer_79 : decode cX10_readPlayer 79 = .ok (.invokevirtual 125, 3) := by decide +kernel
theorem dX10_readPlayer_82 : decode cX10_readPlayer 82 = .ok (.aload_n 0, 1) := by decide +kernel
theorem dX10_readPlayer_83 : decode cX10_readPlayer 83 = .ok (.iconst 0, 1) := by decide +kernel
theorem dX10_readPlayer_84 : decode cX10_readPlayer 84 = .ok (.bipush 99, 2) := by decide +kernel
theorem dX10_readPlayer_86 : decode cX10_readPlayer 86 = .ok (.invokevirtual 136, 3) := by decide +kernel
theorem dX10_readPlayer_89 : decode cX10_readPlayer 89 = .ok (.istore 4, 2) := by decide +kernel
theorem dX10_readPlayer_91 : decode cX10_readPlayer 91 = .ok (.aload_n 0, 1) := by decide +kernel
theorem dX10_readPlayer_92 : decode cX10_readPlayer 92 = .ok (.iconst 0, 1) := by decide +kernel
theorem dX10_readPlayer_93 : decode cX10_readPlayer 93 = .ok (.bipush 99, 2) := by decide +kernel
theorem dX10_readPlayer_95 : decode cX10_readPlayer 95 = .ok (.invokevirtual 136, 3) := by decide +kernel
theorem dX10_readPlayer_98 : decode cX10_readPlayer 98 = .ok (.istore 5, 2) := by decide +kernel
theorem dX10_readPlayer_100 : decode cX10_readPlayer 100 = .ok (.aload_n 0, 1) := by decide +kernel
theorem dX10_readPlayer_101 : decode cX10_readPlayer 101 = .ok (.iconst 0, 1) := by decide +kernel
theorem dX10_readPlayer_102 : decode cX10_readPlayer 102 = .ok (.bipush 99, 2) := by decide +kernel
theorem dX10_readPlayer_104 : decode cX10_readPlayer 104 = .ok (.invokevirtual 136, 3) := by decide +kernel
theorem dX10_readPlayer_107 : decode cX10_readPlayer 107 = .ok (.istore 6, 2) := by decide +kernel
theorem dX10_readPlayer_109 : decode cX10_readPlayer 109 = .ok (.aload_n 0, 1) := by decide +kernel
theorem dX10_readPlayer_110 : decode cX10_readPlayer 110 = .ok (.getfield 112, 3) := by decide +kernel
theorem dX10_readPlayer_113 : decode cX10_readPlayer 113 = .ok (.ifCond .eq 4, 3) := by decide +kernel
theorem dX10_readPlayer_116 : decode cX10_readPlayer 116 = .ok (.return_, 1) := by decide +kernel
theorem dX10_readPlayer_117 : decode cX10_readPlayer 117 = .ok (.aload_n 0, 1) := by decide +kernel
theorem dX10_readPlayer_118 : decode cX10_readPlayer 118 = .ok (.getfield 19, 3) := by decide +kernel
theorem dX10_readPlayer_121 : decode cX10_readPlayer 121 = .ok (.bipush 12, 2) := by decide +kernel
theorem dX10_readPlayer_123 : decode cX10_readPlayer 123 = .ok (.iload_n 1, 1) := by decide +kernel
theorem dX10_readPlayer_124 : decode cX10_readPlayer 124 = .ok (.imul, 1) := by decide +kernel
theorem dX10_readPlayer_125 : decode cX10_readPlayer 125 = .ok (.iload_n 2, 1) := by decide +kernel
theorem dX10_readPlayer_126 : decode cX10_readPlayer 126 = .ok (.iadd, 1) := by decide +kernel
theorem dX10_readPlayer_127 : decode cX10_readPlayer 127 = .ok (.iload_n 3, 1) := by decide +kernel
theorem dX10_readPlayer_128 : decode cX10_readPlayer 128 = .ok (.iastore, 1) := by decide +kernel
theorem dX10_readPlayer_129 : decode cX10_readPlayer 129 = .ok (.bipush 21, 2) := by decide +kernel
theorem dX10_readPlayer_131 : decode cX10_readPlayer 131 = .ok (.iconst 4, 1) := by decide +kernel
theorem dX10_readPlayer_132 : decode cX10_readPlayer 132 = .ok (.bipush 12, 2) := by decide +kernel
theorem dX10_readPlayer_134 : decode cX10_readPlayer 134 = .ok (.iload_n 1, 1) := by decide +kernel
theorem dX10_readPlayer_135 : decode cX10_readPlayer 135 = .ok (.imul, 1) := by decide +kernel
theorem dX10_readPlayer_136 : decode cX10_readPlayer 136 = .ok (.iload_n 2, 1) := by decide +kernel
theorem dX10_readPlayer_137 : decode cX10_readPlayer 137 = .ok (.iadd, 1) := by decide +kernel
theorem dX10_readPlayer_138 : decode cX10_readPlayer 138 = .ok (.imul, 1) := by decide +kernel
theorem dX10_readPlayer_139 : decode cX10_readPlayer 139 = .ok (.iadd, 1) := by decide +kernel
theorem dX10_readPlayer_140 : decode cX10_readPlayer 140 = .ok (.istore 7, 2) := by decide +kernel
theorem dX10_readPlayer_142 : decode cX10_readPlayer 142 = .ok (.aload_n 0, 1) := by decide +kernel
theorem dX10_readPlayer_143 : decode cX10_readPlayer 143 = .ok (.getfield 16, 3) := by decide +kernel
theorem dX10_readPlayer_146 : decode cX10_readPlayer 146 = .ok (.iload 7, 2) := by decide +kernel
theorem dX10_readPlayer_148 : decode cX10_readPlayer 148 = .ok (.iload 4, 2) := by decide +kernel
theorem dX10_readPlayer_150 : decode cX10_readPlayer 150 = .ok (.iastore, 1) := by decide +kernel
theorem dX10_readPlayer_151 : decode cX10_readPlayer 151 = .ok (.aload_n 0, 1) := by decide +kernel
theorem dX10_readPlayer_152 : decode cX10_readPlayer 152 = .ok (.getfield 16, 3) := by decide +kernel
theorem dX10_readPlayer_155 : decode cX10_readPlayer 155 = .ok (.iload 7, 2) := by decide +kernel
theorem dX10_readPlayer_157 : decode cX10_readPlayer 157 = .ok (.iconst 1, 1) := by decide +kernel
theorem dX10_readPlayer_158 : decode cX10_readPlayer 158 = .ok (.iadd, 1) := by decide +kernel
theorem dX10_readPlayer_159 : decode cX10_readPlayer 159 = .ok (.iload 5, 2) := by decide +kernel
theorem dX10_readPlayer_161 : decode cX10_readPlayer 161 = .ok (.iastore, 1) := by decide +kernel
theorem dX10_readPlayer_162 : decode cX10_readPlayer 162 = .ok (.aload_n 0, 1) := by decide +kernel
theorem dX10_readPlayer_163 : decode cX10_readPlayer 163 = .ok (.getfield 16, 3) := by decide +kernel
theorem dX10_readPlayer_166 : decode cX10_readPlayer 166 = .ok (.iload 7, 2) := by decide +kernel
theorem dX10_readPlayer_168 : decode cX10_readPlayer 168 = .ok (.iconst 2, 1) := by decide +kernel
theorem dX10_readPlayer_169 : decode cX10_readPlayer 169 = .ok (.iadd, 1) := by decide +kernel
theorem dX10_readPlayer_170 : decode cX10_readPlayer 170 = .ok (.iload 6, 2) := by decide +kernel
theorem dX10_readPlayer_172 : decode cX10_readPlayer 172 = .ok (.iastore, 1) := by decide +kernel
theorem dX10_readPlayer_173 : decode cX10_readPlayer 173 = .ok (.aload_n 0, 1) := by decide +kernel
theorem dX10_readPlayer_174 : decode cX10_readPlayer 174 = .ok (.getfield 16, 3) := by decide +kernel
theorem dX10_readPlayer_177 : decode cX10_readPlayer 177 = .ok (.iconst 5, 1) := by decide +kernel
theorem dX10_readPlayer_178 : decode cX10_readPlayer 178 = .ok (.iload_n 1, 1) := by decide +kernel
theorem dX10_readPlayer_179 : decode cX10_readPlayer 179 = .ok (.iadd, 1) := by decide +kernel
theorem dX10_readPlayer_180 : decode cX10_readPlayer 180 = .ok (.dup2, 1) := by decide +kernel
theorem dX10_readPlayer_181 : decode cX10_readPlayer 181 = .ok (.iaload, 1) := by decide +kernel
theorem dX10_readPlayer_182 : decode cX10_readPlayer 182 = .ok (.iconst 1, 1) := by decide +kernel
theorem dX10_readPlayer_183 : decode cX10_readPlayer 183 = .ok (.iadd, 1) := by decide +kernel
theorem dX10_readPlayer_184 : decode cX10_readPlayer 184 = .ok (.iastore, 1) := by decide +kernel
theorem dX10_readPlayer_185 : decode cX10_readPlayer 185 = .ok (.return_, 1) := by decide +kernel
def fX10_readPlayer_73  (a0 : Nat) (a1 : Int32) (a2 : Int32) (h : hp_T) : Option hp_T := fx_let (h.1 a0 13) fun (x77 : Int32) => fx_b1 (fX10_goOn a0 h) fun (h79 : hp_T) => fx_b2 (fX10_number a0 (0 : Int32) (99 : Int32) h79) fun (r86 : Int32) (h86 : hp_T) => fx_b2 (fX10_number a0 (0 : Int32) (99 : Int32) h86) fun (r95 : Int32) (h95 : hp_T) => fx_b2 (fX10_number a0 (0 : Int32) (99 : Int32) h95) fun (r104 : Int32) (h104 : hp_T) => if (h104.1 a0 14) = 0 then (fx_g (fx_in (((12 : Int32) * a1) + a2) 24) (fx_let (hp_sI h104 (h104.2.2 a0 5) (fx_ix (((12 : Int32) * a1) + a2)) x77) fun (h128 : hp_T) => fx_let ((21 : Int32) + ((4 : Int32) * (((12 : Int32) * a1) + a2))) fun (x140 : Int32) => fx_g (fx_in x140 117) (fx_let (hp_sI h128 (h128.2.2 a0 4) (fx_ix x140) r86) fun (h150 : hp_T) => fx_g (fx_in (x140 + (1 : Int32)) 117) (fx_let (hp_sI h150 (h150.2.2 a0 4) (fx_ix (x140 + (1 : Int32))) r95) fun (h161 : hp_T) => fx_g (fx_in (x140 + (2 : Int32)) 117) (fx_let (hp_sI h161 (h161.2.2 a0 4) (fx_ix (x140 + (2 : Int32))) r104) fun (h172 : hp_T) => fx_let ((5 : Int32) + a1) fun (x180 : Int32) => fx_g (fx_in x180 117) (fx_g (fx_in x180 117) (fx_let (hp_sI h172 (h172.2.2 a0 4) (fx_ix x180) ((h172.1 (h172.2.2 a0 4) (fx_ix x180)) + (1 : Int32))) fun (h184 : hp_T) => some h184))))))) else (some h104)
set_option maxRecDepth 100000 in
set_option maxHeartbeats 4000000 in
theorem bX10_readPlayer_73 {l : Launch} {G : xr_G} {K : xr_K} {h1 : hp_T} (C : xr_C G K cX10_readPlayer RX10 8 (xr_R 8 228) none (some (xr_Qv G h1)))  (a0 : Nat) (a1 : Int32) (a2 : Int32) (ta0 : hp_sh a0 = (10, 0)) (h : hp_T) (hF : fX10_readPlayer_73 a0 a1 a2 h = some h1) : xr_j l G K 8 h [(0, .ref (G.2.2.1 a0)), (1, .int a1), (2, .int a2)] 73 [] := by
  unfold fX10_readPlayer_73 at hF
  refine xr_aload_n C 0 dX10_readPlayer_73 rfl rfl ?_
  refine xr_geti C flX10_89 rfl dX10_readPlayer_74 ta0 ?_
  refine xr_topi (fun x77 e77 => ?_)
  have hF := fx_letE hF x77 e77
  refine xr_istore_n C [(3, .int x77), (0, .ref (G.2.2.1 a0)), (1, .int a1), (2, .int a2)] dX10_readPlayer_77 rfl (Nat.le_of_ble_eq_true rfl) rfl ?_
  refine xr_aload_n C 1 dX10_readPlayer_78 rfl rfl ?_
  obtain ⟨h79, e79, hF⟩ := fx_b1E hF
  refine xr_callVv C mvX10_125 [] [] (mX10_goOn l G a0 ta0 h h79 e79) ta0 (by decide) vc10 rfl ⟨rfl, rfl, (Nat.le_of_ble_eq_true rfl), (Nat.le_of_ble_eq_true rfl)⟩ rfl (Nat.le_of_ble_eq_true rfl) dX10_readPlayer_79 ?_
  refine xr_aload_n C 1 dX10_readPlayer_82 rfl rfl ?_
  refine xr_iconst (v := 0) C dX10_readPlayer_83 (by decide) ?_
  refine xr_bipush (v := 99) C dX10_readPlayer_84 (by decide) ?_
  obtain ⟨r86, h86, e86, hF⟩ := fx_b2E hF
  refine xr_callVi C mvX10_136 [.int (0 : Int32), .int (99 : Int32)] [] (mX10_number l G a0 (0 : Int32) (99 : Int32) ta0 h79 h86 r86 e86) ta0 (by decide) vc10 rfl ⟨rfl, rfl, (Nat.le_of_ble_eq_true rfl), (Nat.le_of_ble_eq_true rfl)⟩ rfl (Nat.le_of_ble_eq_true rfl) dX10_readPlayer_86 ?_
  refine xr_istore C [(4, .int r86), (3, .int x77), (0, .ref (G.2.2.1 a0)), (1, .int a1), (2, .int a2)] dX10_readPlayer_89 (Nat.le_of_ble_eq_true rfl) rfl ?_
  refine xr_aload_n C 2 dX10_readPlayer_91 rfl rfl ?_
  refine xr_iconst (v := 0) C dX10_readPlayer_92 (by decide) ?_
  refine xr_bipush (v := 99) C dX10_readPlayer_93 (by decide) ?_
  obtain ⟨r95, h95, e95, hF⟩ := fx_b2E hF
  refine xr_callVi C mvX10_136 [.int (0 : Int32), .int (99 : Int32)] [] (mX10_number l G a0 (0 : Int32) (99 : Int32) ta0 h86 h95 r95 e95) ta0 (by decide) vc10 rfl ⟨rfl, rfl, (Nat.le_of_ble_eq_true rfl), (Nat.le_of_ble_eq_true rfl)⟩ rfl (Nat.le_of_ble_eq_true rfl) dX10_readPlayer_95 ?_
  refine xr_istore C [(5, .int r95), (4, .int r86), (3, .int x77), (0, .ref (G.2.2.1 a0)), (1, .int a1), (2, .int a2)] dX10_readPlayer_98 (Nat.le_of_ble_eq_true rfl) rfl ?_
  refine xr_aload_n C 3 dX10_readPlayer_100 rfl rfl ?_
  refine xr_iconst (v := 0) C dX10_readPlayer_101 (by decide) ?_
  refine xr_bipush (v := 99) C dX10_readPlayer_102 (by decide) ?_
  obtain ⟨r104, h104, e104, hF⟩ := fx_b2E hF
  refine xr_callVi C mvX10_136 [.int (0 : Int32), .int (99 : Int32)] [] (mX10_number l G a0 (0 : Int32) (99 : Int32) ta0 h95 h104 r104 e104) ta0 (by decide) vc10 rfl ⟨rfl, rfl, (Nat.le_of_ble_eq_true rfl), (Nat.le_of_ble_eq_true rfl)⟩ rfl (Nat.le_of_ble_eq_true rfl) dX10_readPlayer_104 ?_
  refine xr_istore C [(6, .int r104), (5, .int r95), (4, .int r86), (3, .int x77), (0, .ref (G.2.2.1 a0)), (1, .int a1), (2, .int a2)] dX10_readPlayer_107 (Nat.le_of_ble_eq_true rfl) rfl ?_
  refine xr_aload_n C 4 dX10_readPlayer_109 rfl rfl ?_
  refine xr_geti C flX10_112 rfl dX10_readPlayer_110 ta0 ?_
  refine xr_if_eq C 117 dX10_readPlayer_113 (by decide) (fun c113 => ?_) (fun c113 => ?_)
  · have hF := fx_pos hF c113
    refine xr_aload_n C 4 dX10_readPlayer_117 rfl rfl ?_
    refine xr_getr C flX10_19 rfl (by decide) dX10_readPlayer_118 ta0 (fun t118 => ?_)
    refine xr_bipush (v := 12) C dX10_readPlayer_121 (by decide) ?_
    refine xr_iload_n C 5 dX10_readPlayer_123 rfl rfl ?_
    refine xr_imul C dX10_readPlayer_124 ?_
    refine xr_iload_n C 6 dX10_readPlayer_125 rfl rfl ?_
    refine xr_iadd C dX10_readPlayer_126 ?_
    refine xr_iload_n C 3 dX10_readPlayer_127 rfl rfl ?_
    obtain ⟨g128, hF⟩ := fx_gE hF
    refine xr_iast C dX10_readPlayer_128 t118 g128 (fun h128 e128 => ?_)
    have hF := fx_letE hF h128 e128
    refine xr_bipush (v := 21) C dX10_readPlayer_129 (by decide) ?_
    refine xr_iconst (v := 4) C dX10_readPlayer_131 (by decide) ?_
    refine xr_bipush (v := 12) C dX10_readPlayer_132 (by decide) ?_
    refine xr_iload_n C 5 dX10_readPlayer_134 rfl rfl ?_
    refine xr_imul C dX10_readPlayer_135 ?_
    refine xr_iload_n C 6 dX10_readPlayer_136 rfl rfl ?_
    refine xr_iadd C dX10_readPlayer_137 ?_
    refine xr_imul C dX10_readPlayer_138 ?_
    refine xr_iadd C dX10_readPlayer_139 ?_
    refine xr_topi (fun x140 e140 => ?_)
    have hF := fx_letE hF x140 e140
    refine xr_istore C [(7, .int x140), (6, .int r104), (5, .int r95), (4, .int r86), (3, .int x77), (0, .ref (G.2.2.1 a0)), (1, .int a1), (2, .int a2)] dX10_readPlayer_140 (Nat.le_of_ble_eq_true rfl) rfl ?_
    refine xr_aload_n C 5 dX10_readPlayer_142 rfl rfl ?_
    refine xr_getr C flX10_16 rfl (by decide) dX10_readPlayer_143 ta0 (fun t143 => ?_)
    refine xr_iload C 0 dX10_readPlayer_146 rfl ?_
    refine xr_iload C 3 dX10_readPlayer_148 rfl ?_
    obtain ⟨g150, hF⟩ := fx_gE hF
    refine xr_iast C dX10_readPlayer_150 t143 g150 (fun h150 e150 => ?_)
    have hF := fx_letE hF h150 e150
    refine xr_aload_n C 5 dX10_readPlayer_151 rfl rfl ?_
    refine xr_getr C flX10_16 rfl (by decide) dX10_readPlayer_152 ta0 (fun t152 => ?_)
    refine xr_iload C 0 dX10_readPlayer_155 rfl ?_
    refine xr_iconst (v := 1) C dX10_readPlayer_157 (by decide) ?_
    refine xr_iadd C dX10_readPlayer_158 ?_
    refine xr_iload C 2 dX10_readPlayer_159 rfl ?_
    obtain ⟨g161, hF⟩ := fx_gE hF
    refine xr_iast C dX10_readPlayer_161 t152 g161 (fun h161 e161 => ?_)
    have hF := fx_letE hF h161 e161
    refine xr_aload_n C 5 dX10_readPlayer_162 rfl rfl ?_
    refine xr_getr C flX10_16 rfl (by decide) dX10_readPlayer_163 ta0 (fun t163 => ?_)
    refine xr_iload C 0 dX10_readPlayer_166 rfl ?_
    refine xr_iconst (v := 2) C dX10_readPlayer_168 (by decide) ?_
    refine xr_iadd C dX10_readPlayer_169 ?_
    refine xr_iload C 1 dX10_readPlayer_170 rfl ?_
    obtain ⟨g172, hF⟩ := fx_gE hF
    refine xr_iast C dX10_readPlayer_172 t163 g172 (fun h172 e172 => ?_)
    have hF := fx_letE hF h172 e172
    refine xr_aload_n C 5 dX10_readPlayer_173 rfl rfl ?_
    refine xr_getr C flX10_16 rfl (by decide) dX10_readPlayer_174 ta0 (fun t174 => ?_)
    refine xr_iconst (v := 5) C dX10_readPlayer_177 (by decide) ?_
    refine xr_iload_n C 6 dX10_readPlayer_178 rfl rfl ?_
    refine xr_iadd C dX10_readPlayer_179 ?_
    refine xr_topi (fun x180 e180 => ?_)
    have hF := fx_letE hF x180 e180
    refine xr_dup2 C dX10_readPlayer_180 rfl rfl ?_
    obtain ⟨g181, hF⟩ := fx_gE hF
    refine xr_iald C dX10_readPlayer_181 t174 g181 ?_
    refine xr_iconst (v := 1) C dX10_readPlayer_182 (by decide) ?_
    refine xr_iadd C dX10_readPlayer_183 ?_
    obtain ⟨g184, hF⟩ := fx_gE hF
    refine xr_iast C dX10_readPlayer_184 t174 g184 (fun h184 e184 => ?_)
    have hF := fx_letE hF h184 e184
    cases hF
    exact xr_vret C dX10_readPlayer_185
  · have hF := fx_neg hF c113
    cases hF
    exact xr_vret C dX10_readPlayer_116
def fX10_readPlayer_68  (a0 : Nat) (a1 : Int32) (a2 : Int32) (h : hp_T) : Option hp_T := fx_b1 (fX10_wrong a0 (3 : Int32) h) fun (h70 : hp_T) => fX10_readPlayer_73 a0 a1 a2 h70
set_option maxRecDepth 100000 in
set_option maxHeartbeats 4000000 in
theorem bX10_readPlayer_68 {l : Launch} {G : xr_G} {K : xr_K} {h1 : hp_T} (C : xr_C G K cX10_readPlayer RX10 8 (xr_R 8 228) none (some (xr_Qv G h1)))  (a0 : Nat) (a1 : Int32) (a2 : Int32) (ta0 : hp_sh a0 = (10, 0)) (h : hp_T) (hF : fX10_readPlayer_68 a0 a1 a2 h = some h1) : xr_j l G K 8 h [(0, .ref (G.2.2.1 a0)), (1, .int a1), (2, .int a2)] 68 [] := by
  unfold fX10_readPlayer_68 at hF
  refine xr_aload_n C 0 dX10_readPlayer_68 rfl rfl ?_
  refine xr_iconst (v := 3) C dX10_readPlayer_69 (by decide) ?_
  obtain ⟨h70, e70, hF⟩ := fx_b1E hF
  refine xr_callVv C mvX10_121 [.int (3 : Int32)] [] (mX10_wrong l G a0 (3 : Int32) ta0 h h70 e70) ta0 (by decide) vc10 rfl ⟨rfl, rfl, (Nat.le_of_ble_eq_true rfl), (Nat.le_of_ble_eq_true rfl)⟩ rfl (Nat.le_of_ble_eq_true rfl) dX10_readPlayer_70 ?_
  exact bX10_readPlayer_73 C   a0 a1 a2 ta0 h70 hF
def fX10_readPlayer_43  (a0 : Nat) (a1 : Int32) (a2 : Int32) (h : hp_T) : Option hp_T := if (h.1 a0 14) = 0 then (fx_b2 (fX10_namedOf a0 (0 : Int32) h) fun (r52 : Int32) (h52 : hp_T) => if r52 = (-1 : Int32) then (fx_b2 (fX10_namedOf a0 (1 : Int32) h52) fun (r61 : Int32) (h61 : hp_T) => if r61 = (-1 : Int32) then (fX10_readPlayer_73 a0 a1 a2 h61) else (fX10_readPlayer_68 a0 a1 a2 h61)) else (fX10_readPlayer_68 a0 a1 a2 h52)) else (fX10_readPlayer_73 a0 a1 a2 h)
set_option maxRecDepth 100000 in
set_option maxHeartbeats 4000000 in
theorem bX10_readPlayer_43 {l : Launch} {G : xr_G} {K : xr_K} {h1 : hp_T} (C : xr_C G K cX10_readPlayer RX10 8 (xr_R 8 228) none (some (xr_Qv G h1)))  (a0 : Nat) (a1 : Int32) (a2 : Int32) (ta0 : hp_sh a0 = (10, 0)) (h : hp_T) (hF : fX10_readPlayer_43 a0 a1 a2 h = some h1) : xr_j l G K 8 h [(0, .ref (G.2.2.1 a0)), (1, .int a1), (2, .int a2)] 43 [] := by
  unfold fX10_readPlayer_43 at hF
  refine xr_aload_n C 0 dX10_readPlayer_43 rfl rfl ?_
  refine xr_geti C flX10_112 rfl dX10_readPlayer_44 ta0 ?_
  refine xr_if_ne C 73 dX10_readPlayer_47 (by decide) (fun c47 => ?_) (fun c47 => ?_)
  · have hF := fx_neg hF c47
    exact bX10_readPlayer_73 C   a0 a1 a2 ta0 h hF
  · have hF := fx_pos hF c47
    refine xr_aload_n C 0 dX10_readPlayer_50 rfl rfl ?_
    refine xr_iconst (v := 0) C dX10_readPlayer_51 (by decide) ?_
    obtain ⟨r52, h52, e52, hF⟩ := fx_b2E hF
    refine xr_callVi C mvX10_132 [.int (0 : Int32)] [] (mX10_namedOf l G a0 (0 : Int32) ta0 h h52 r52 e52) ta0 (by decide) vc10 rfl ⟨rfl, rfl, (Nat.le_of_ble_eq_true rfl), (Nat.le_of_ble_eq_true rfl)⟩ rfl (Nat.le_of_ble_eq_true rfl) dX10_readPlayer_52 ?_
    refine xr_iconst (v := -1) C dX10_readPlayer_55 (by decide) ?_
    refine xr_icmp_ne C 68 dX10_readPlayer_56 (by decide) (fun c56 => ?_) (fun c56 => ?_)
    · have hF := fx_neg hF c56
      exact bX10_readPlayer_68 C   a0 a1 a2 ta0 h52 hF
    · have hF := fx_pos hF c56
      refine xr_aload_n C 0 dX10_readPlayer_59 rfl rfl ?_
      refine xr_iconst (v := 1) C dX10_readPlayer_60 (by decide) ?_
      obtain ⟨r61, h61, e61, hF⟩ := fx_b2E hF
      refine xr_callVi C mvX10_132 [.int (1 : Int32)] [] (mX10_namedOf l G a0 (1 : Int32) ta0 h52 h61 r61 e61) ta0 (by decide) vc10 rfl ⟨rfl, rfl, (Nat.le_of_ble_eq_true rfl), (Nat.le_of_ble_eq_true rfl)⟩ rfl (Nat.le_of_ble_eq_true rfl) dX10_readPlayer_61 ?_
      refine xr_iconst (v := -1) C dX10_readPlayer_64 (by decide) ?_
      refine xr_icmp_eq C 73 dX10_readPlayer_65 (by decide) (fun c65 => ?_) (fun c65 => ?_)
      · have hF := fx_pos hF c65
        exact bX10_readPlayer_73 C   a0 a1 a2 ta0 h61 hF
      · have hF := fx_neg hF c65
        exact bX10_readPlayer_68 C   a0 a1 a2 ta0 h61 hF
def fX10_readPlayer_20  (a0 : Nat) (a1 : Int32) (a2 : Int32) (h : hp_T) : Option hp_T := fx_b1 (fX10_goOn a0 h) fun (h21 : hp_T) => if (h21.1 a0 14) = 0 then (fx_b2 (fX10_isOther a0 h21) fun (r32 : Int32) (h32 : hp_T) => if r32 = 0 then (fx_b1 (fX10_wrong a0 (1 : Int32) h32) fun (h40 : hp_T) => fX10_readPlayer_43 a0 a1 a2 h40) else (fX10_readPlayer_43 a0 a1 a2 h32)) else (fX10_readPlayer_43 a0 a1 a2 h21)
set_option maxRecDepth 100000 in
set_option maxHeartbeats 4000000 in
theorem bX10_readPlayer_20 {l : Launch} {G : xr_G} {K : xr_K} {h1 : hp_T} (C : xr_C G K cX10_readPlayer RX10 8 (xr_R 8 228) none (some (xr_Qv G h1)))  (a0 : Nat) (a1 : Int32) (a2 : Int32) (ta0 : hp_sh a0 = (10, 0)) (h : hp_T) (hF : fX10_readPlayer_20 a0 a1 a2 h = some h1) : xr_j l G K 8 h [(0, .ref (G.2.2.1 a0)), (1, .int a1), (2, .int a2)] 20 [] := by
  unfold fX10_readPlayer_20 at hF
  refine xr_aload_n C 0 dX10_readPlayer_20 rfl rfl ?_
  obtain ⟨h21, e21, hF⟩ := fx_b1E hF
  refine xr_callVv C mvX10_125 [] [] (mX10_goOn l G a0 ta0 h h21 e21) ta0 (by decide) vc10 rfl ⟨rfl, rfl, (Nat.le_of_ble_eq_true rfl), (Nat.le_of_ble_eq_true rfl)⟩ rfl (Nat.le_of_ble_eq_true rfl) dX10_readPlayer_21 ?_
  refine xr_aload_n C 0 dX10_readPlayer_24 rfl rfl ?_
  refine xr_geti C flX10_112 rfl dX10_readPlayer_25 ta0 ?_
  refine xr_if_ne C 43 dX10_readPlayer_28 (by decide) (fun c28 => ?_) (fun c28 => ?_)
  · have hF := fx_neg hF c28
    exact bX10_readPlayer_43 C   a0 a1 a2 ta0 h21 hF
  · have hF := fx_pos hF c28
    refine xr_aload_n C 0 dX10_readPlayer_31 rfl rfl ?_
    obtain ⟨r32, h32, e32, hF⟩ := fx_b2E hF
    refine xr_callVi C mvX10_128 [] [] (mX10_isOther l G a0 ta0 h21 h32 r32 e32) ta0 (by decide) vc10 rfl ⟨rfl, rfl, (Nat.le_of_ble_eq_true rfl), (Nat.le_of_ble_eq_true rfl)⟩ rfl (Nat.le_of_ble_eq_true rfl) dX10_readPlayer_32 ?_
    refine xr_if_ne C 43 dX10_readPlayer_35 (by decide) (fun c35 => ?_) (fun c35 => ?_)
    · have hF := fx_neg hF c35
      exact bX10_readPlayer_43 C   a0 a1 a2 ta0 h32 hF
    · have hF := fx_pos hF c35
      refine xr_aload_n C 0 dX10_readPlayer_38 rfl rfl ?_
      refine xr_iconst (v := 1) C dX10_readPlayer_39 (by decide) ?_
      obtain ⟨h40, e40, hF⟩ := fx_b1E hF
      refine xr_callVv C mvX10_121 [.int (1 : Int32)] [] (mX10_wrong l G a0 (1 : Int32) ta0 h32 h40 e40) ta0 (by decide) vc10 rfl ⟨rfl, rfl, (Nat.le_of_ble_eq_true rfl), (Nat.le_of_ble_eq_true rfl)⟩ rfl (Nat.le_of_ble_eq_true rfl) dX10_readPlayer_40 ?_
      exact bX10_readPlayer_43 C   a0 a1 a2 ta0 h40 hF
def fX10_readPlayer (a0 : Nat) (a1 : Int32) (h : hp_T) : Option hp_T := fx_g (fx_in ((5 : Int32) + a1) 117) (fx_let (h.1 (h.2.2 a0 4) (fx_ix ((5 : Int32) + a1))) fun (x8 : Int32) => if x8 = (12 : Int32) then (fx_b1 (fX10_wrong a0 (2 : Int32) h) fun (h17 : hp_T) => fX10_readPlayer_20 a0 a1 x8 h17) else (fX10_readPlayer_20 a0 a1 x8 h))
set_option maxRecDepth 100000 in
set_option maxHeartbeats 4000000 in
theorem mX10_readPlayer (l : Launch) (G : xr_G) (a0 : Nat) (a1 : Int32) (ta0 : hp_sh a0 = (10, 0)) (h h1 : hp_T) (hF : fX10_readPlayer a0 a1 h = some h1) : xr_M l G yX10_readPlayer cX10_readPlayer 8 (xr_R 8 228) none [.ref (G.2.2.1 a0), .int a1] h (xr_Qv G h1) := by
  refine xr_start rfl (Nat.le_of_ble_eq_true rfl) (fun K C => ?_)
  show xr_j l G K 8 h [(0, .ref (G.2.2.1 a0)), (1, .int a1)] 0 []
  unfold fX10_readPlayer at hF
  refine xr_aload_n C 0 dX10_readPlayer_0 rfl rfl ?_
  refine xr_getr C flX10_16 rfl (by decide) dX10_readPlayer_1 ta0 (fun t1 => ?_)
  refine xr_iconst (v := 5) C dX10_readPlayer_4 (by decide) ?_
  refine xr_iload_n C 1 dX10_readPlayer_5 rfl rfl ?_
  refine xr_iadd C dX10_readPlayer_6 ?_
  obtain ⟨g7, hF⟩ := fx_gE hF
  refine xr_iald C dX10_readPlayer_7 t1 g7 ?_
  refine xr_topi (fun x8 e8 => ?_)
  have hF := fx_letE hF x8 e8
  refine xr_istore_n C [(2, .int x8), (0, .ref (G.2.2.1 a0)), (1, .int a1)] dX10_readPlayer_8 rfl (Nat.le_of_ble_eq_true rfl) rfl ?_
  refine xr_iload_n C 0 dX10_readPlayer_9 rfl rfl ?_
  refine xr_bipush (v := 12) C dX10_readPlayer_10 (by decide) ?_
  refine xr_icmp_ne C 20 dX10_readPlayer_12 (by decide) (fun c12 => ?_) (fun c12 => ?_)
  · have hF := fx_neg hF c12
    refine xr_sub [1, 2, 0] [(0, .ref (G.2.2.1 a0)), (1, .int a1), (2, .int x8)] rfl ?_
    exact bX10_readPlayer_20 C   a0 a1 x8 ta0 h hF
  · have hF := fx_pos hF c12
    refine xr_aload_n C 1 dX10_readPlayer_15 rfl rfl ?_
    refine xr_iconst (v := 2) C dX10_readPlayer_16 (by decide) ?_
    obtain ⟨h17, e17, hF⟩ := fx_b1E hF
    refine xr_callVv C mvX10_121 [.int (2 : Int32)] [] (mX10_wrong l G a0 (2 : Int32) ta0 h h17 e17) ta0 (by decide) vc10 rfl ⟨rfl, rfl, (Nat.le_of_ble_eq_true rfl), (Nat.le_of_ble_eq_true rfl)⟩ rfl (Nat.le_of_ble_eq_true rfl) dX10_readPlayer_17 ?_
    refine xr_sub [1, 2, 0] [(0, .ref (G.2.2.1 a0)), (1, .int a1), (2, .int x8)] rfl ?_
    exact bX10_readPlayer_20 C   a0 a1 x8 ta0 h17 hF
theorem dX10_readFree_0 : decode cX10_readFree 0 = .ok (.aload_n 0, 1) := by decide +kernel
theorem dX10_readFree_1 : decode cX10_readFree 1 = .ok (.invokevirtual 125, 3) := by decide +kernel
theorem dX10_readFree_4 : decode cX10_readFree 4 = .ok (.aload_n 0, 1) := by decide +kernel
theorem dX10_readFree_5 : decode cX10_readFree 5 = .ok (.getfield 112, 3) := by decide +kernel
theorem dX10_readFree_8 : decode cX10_readFree 8 = .ok (.ifCond .ne 33, 3) := by decide +kernel
theorem dX10_readFree_11 : decode cX10_readFree 11 = .ok (.aload_n 0, 1) := by decide +kernel
theorem dX10_readFree_12 : decode cX10_readFree 12 = .ok (.invokevirtual 128, 3) := by decide +kernel
theorem dX10_readFree_15 : decode cX10_readFree 15 = .ok (.ifCond .eq 21, 3) := by decide +kernel
theorem dX10_readFree_18 : decode cX10_readFree 18 = .ok (.aload_n 0, 1) := by decide +kernel
theorem dX10_readFree_19 : decode cX10_readFree 19 = .ok (.iconst 0, 1) := by decide +kernel
theorem dX10_readFree_20 : decode cX10_readFree 20 = .ok (.invokevirtual 132, 3) := by decide +kernel
theorem dX10_readFree_23 : decode cX10_readFree 23 = .ok (.iconst (-1), 1) := by decide +kernel
theorem dX10_readFree_24 : decode cX10_readFree 24 = .ok (.if_icmp .ne 17, 3) := by decide +kernel
theorem dX10_readFree_27 : decode cX10_readFree 27 = .ok (.aload_n 0, 1) := by decide +kernel
theorem dX10_readFree_28 : decode cX10_readFree 28 = .ok (.iconst 1, 1) := by decide +kernel
theorem dX10_readFree_29 : decode cX10_readFree 29 = .ok (.invokevirtual 132, 3) := by decide +kernel
theorem dX10_readFree_32 : decode cX10_readFree 32 = .ok (.iconst (-1), 1) := by decide +kernel
theorem dX10_readFree_33 : decode cX10_readFree 33 = .ok (.if_icmp .ne 8, 3) := by decide +kernel
theorem dX10_readFree_36 : decode cX10_readFree 36 = .ok (.aload_n 0, 1) := by decide +kernel
theorem dX10_readFree_37 : decode cX10_readFree 37 = .ok (.iconst 1, 1) := by decide +kernel
theorem dX10_readFree_38 : decode cX10_readFree 38 = .ok (.invokevirtual 121, 3) := by decide +kernel
theorem dX10_readFree_41 : decode cX10_readFree 41 = .ok (.aload_n 0, 1) := by decide +kernel
theorem dX10_readFree_42 : decode cX10_readFree 42 = .ok (.getfield 112, 3) := by decide +kernel
theorem dX10_readFree_45 : decode cX10_readFree 45 = .ok (.ifCond .eq 4, 3) := by decide +kernel
theorem dX10_readFree_48 : decode cX10_readFree 48 = .ok (.return_, 1) := by decide +kernel
theorem dX10_readFree_49 : decode cX10_readFree 49 = .ok (.aload_n 0, 1) := by decide +kernel
theorem dX10_readFree_50 : decode cX10_readFree 50 = .ok (.iconst 0, 1) := by decide +kernel
theorem dX10_readFree_51 : decode cX10_readFree 51 = .ok (.invokevirtual 132, 3) := by decide +kernel
theorem dX10_readFree_54 : decode cX10_readFree 54 = .ok (.iconst (-1), 1) := by decide +kernel
theorem dX10_readFree_55 : decode cX10_readFree 55 = .ok (.if_icmp .eq 7, 3) := by decide +kernel
theorem dX10_readFree_58 : decode cX10_readFree 58 = .ok (.iconst 0, 1) := by decide +kernel
theorem dX10_readFree_59 : decode cX10_readFree 59 = .ok (.goto 4, 3) := by decide +kernel
theorem dX10_readFree_62 : decode cX10_readFree 62 = .ok (.iconst 1, 1) := by decide +kernel
theorem dX10_readFree_63 : decode cX10_readFree 63 = .ok (.istore_n 1, 1) := by decide +kernel
theorem dX10_readFree_64 : decode cX10_readFree 64 = .ok (.aload_n 0, 1) := by decide +kernel
theorem dX10_readFree_65 : decode cX10_readFree 65 = .ok (.iload_n 1, 1) := by decide +kernel
theorem dX10_readFree_66 : decode cX10_readFree 66 = .ok (.invokevirtual 132, 3) := by decide +kernel
theorem dX10_readFree_69 : decode cX10_readFree 69 = .ok (.istore_n 2, 1) := by decide +kernel
theorem dX10_readFree_70 : decode cX10_readFree 70 = .ok (.iconst 0, 1) := by decide +kernel
theorem dX10_readFree_71 : decode cX10_readFree 71 = .ok (.istore_n 3, 1) := by decide +kernel
theorem dX10_readFree_72 : decode cX10_readFree 72 = .ok (.iconst 0, 1) := by decide +kernel
theorem dX10_readFree_73 : decode cX10_readFree 73 = .ok (.istore 4, 2) := by decide +kernel
theorem dX10_readFree_75 : decode cX10_readFree 75 = .ok (.iload 4, 2) := by decide +kernel
theorem dX10_readFree_77 : decode cX10_readFree 77 = .ok (.bipush 6, 2) := by decide +kernel
theorem dX10_readFree_79 : decode cX10_readFree 79 = .ok (.if_icmp .ge 47, 3) := by decide +kernel
theorem dX10_readFree_82 : decode cX10_readFree 82 = .ok (.iload_n 3, 1) := by decide +kernel
theorem dX10_readFree_83 : decode cX10_readFree 83 = .ok (.ifCond .ne 31, 3) := by decide +kernel
theorem dX10_readFree_86 : decode cX10_readFree 86 = .ok (.aload_n 0, 1) := by decide +kernel
theorem dX10_readFree_87 : decode cX10_readFree 87 = .ok (.getfield 33, 3) := by decide +kernel
theorem dX10_readFree_90 : decode cX10_readFree 90 = .ok (.iload_n 1, 1) := by decide +kernel
theorem dX10_readFree_91 : decode cX10_readFree 91 = .ok (.baload, 1) := by decide +kernel
theorem dX10_readFree_92 : decode cX10_readFree 92 = .ok (.ifCond .eq 26, 3) := by decide +kernel
theorem dX10_readFree_95 : decode cX10_readFree 95 = .ok (.aload_n 0, 1) := by decide +kernel
theorem dX10_readFree_96 : decode cX10_readFree 96 = .ok (.getfield 16, 3) := by decide +kernel
theorem dX10_readFree_99 : decode cX10_readFree 99 = .ok (.bipush 9, 2) := by decide +kernel
theorem dX10_readFree_101 : decode cX10_readFree 101 = .ok (.bipush 6, 2) := by decide +kernel
theorem dX10_readFree_103 : decode cX10_readFree 103 = .ok (.iload_n 1, 1) := by decide +kernel
theorem dX10_readFree_104 : decode cX10_readFree 104 = .ok (.imul, 1) := by decide +kernel
theorem dX10_readFree_105 : decode cX10_readFree 105 = .ok (.iadd, 1) := by decide +kernel
theorem dX10_readFree_106 : decode cX10_readFree 106 = .ok (.iload 4, 2) := by decide +kernel
theorem dX10_readFree_108 : decode cX10_readFree 108 = .ok (.iadd, 1) := by decide +kernel
theorem dX10_readFree_109 : decode cX10_readFree 109 = .ok (.iaload, 1) := by decide +kernel
theorem dX10_readFree_110 : decode cX10_readFree 110 = .ok (.iload_n 2, 1) := by decide +kernel
theorem dX10_readFree_111 : decode cX10_readFree 111 = .ok (.if_icmp .ne 7, 3) := by decide +kernel
theorem dX10_readFree_114 : decode cX10_readFree 114 = .ok (.iconst 1, 1) := by decide +kernel
theorem dX10_readFree_115 : decode cX10_readFree 115 = .ok (.goto 4, 3) := by decide +kernel
theorem dX10_readFree_118 : decode cX10_readFree 118 = .ok (.iconst 0, 1) := by decide +kernel
theorem dX10_readFree_119 : decode cX10_readFree 119 = .ok (.istore_n 3, 1) := by decide +kernel
theorem dX10_readFree_120 : decode cX10_readFree 120 = .ok (.iinc 4 1, 3) := by decide +kernel
theorem dX10_readFree_123 : decode cX10_readFree 123 = .ok (.goto (-48), 3) := by decide +kernel
theorem dX10_readFree_126 : decode cX10_readFree 126 = .ok (.iload_n 3, 1) := by decide +kernel
theorem dX10_readFree_127 : decode cX10_readFree 127 = .ok (.ifCond .ne 16, 3) := by decide +kernel
theorem dX10_readFree_130 : decode cX10_readFree 130 = .ok (.aload_n 0, 1) := by decide +kernel
theorem dX10_readFree_131 : decode cX10_readFree 131 = .ok (.getfield 16, 3) := by decide +kernel
theorem dX10_readFree_134 : decode cX10_readFree 134 = .ok (.bipush 7, 2) := by decide +kernel
theorem dX10_readFree_136 : decode cX10_readFree 136 = .ok (.iload_n 1, 1) := by decide +kernel
theorem dX10_readFree_137 : decode cX10_readFree 137 = .ok (.iadd, 1) := by decide +kernel
theorem dX10_readFree_138 : decode cX10_readFree 138 = .ok (.iaload, 1) := by decide +kernel
theorem dX10_readFree_139 : decode cX10_readFree 139 = .ok (.iconst (-1), 1) := by decide +kernel
theorem dX10_readFree_140 : decode cX10_readFree 140 = .ok (.if_icmp .eq 8, 3) := by decide +kernel
theorem dX10_readFree_143 : decode cX10_readFree 143 = .ok (.aload_n 0, 1) := by decide +kernel
theorem dX10_readFree_144 : decode cX10_readFree 144 = .ok (.iconst 3, 1) := by decide +kernel
theorem dX10_readFree_145 : decode cX10_readFree 145 = .ok (.invokevirtual 121, 3) := by decide +kernel
theorem dX10_readFree_148 : decode cX10_readFree 148 = .ok (.aload_n 0, 1) := by decide +kernel
theorem dX10_readFree_149 : decode cX10_readFree 149 = .ok (.getfield 112, 3) := by decide +kernel
theorem dX10_readFree_152 : decode cX10_readFree 152 = .ok (.ifCond .ne 13, 3) := by decide +kernel
theorem dX10_readFree_155 : decode cX10_readFree 155 = .ok (.aload_n 0, 1) := by decide +kernel
theorem dX10_readFree_156 : decode cX10_readFree 156 = .ok (.getfield 16, 3) := by decide +kernel
theorem dX10_readFree_159 : decode cX10_readFree 159 = .ok (.bipush 7, 2) := by decide +kernel
theorem dX10_readFree_161 : decode cX10_readFree 161 = .ok (.iload_n 1, 1) := by decide +kernel
theorem dX10_readFree_162 : decode cX10_readFree 162 = .ok (.iadd, 1) := by decide +kernel
theorem dX10_readFree_163 : decode cX10_readFree 163 = .ok (.iload_n 2, 1) := by decide +kernel
theorem dX10_readFree_164 : decode cX10_readFree 164 = .ok (.iastore, 1) := by decide +kernel
theorem dX10_readFree_165 : decode cX10_readFree 165 = .ok (.aload_n 0, 1) := by decide +kernel
theorem dX10_readFree_166 : decode cX10_readFree 166 = .ok (.invokevirtual 125, 3) := by decide +kernel
theorem dX10_readFree_169 : decode cX10_readFree 169 = .ok (.return_, 1) := by decide +kernel
def fX10_readFree_148  (a0 : Nat) (a1 : Int32) (a2 : Int32) (h : hp_T) : Option hp_T := if (h.1 a0 14) = 0 then (fx_g (fx_in ((7 : Int32) + a1) 117) (fx_let (hp_sI h (h.2.2 a0 4) (fx_ix ((7 : Int32) + a1)) a2) fun (h164 : hp_T) => fx_b1 (fX10_goOn a0 h164) fun (h166 : hp_T) => some h166)) else (fx_b1 (fX10_goOn a0 h) fun (h166 : hp_T) => some h166)
set_option maxRecDepth 100000 in
set_option maxHeartbeats 4000000 in
theorem bX10_readFree_148 {l : Launch} {G : xr_G} {K : xr_K} {h1 : hp_T} (C : xr_C G K cX10_readFree RX10 5 (xr_R 7 205) none (some (xr_Qv G h1)))  (a0 : Nat) (a1 : Int32) (a2 : Int32) (ta0 : hp_sh a0 = (10, 0)) (h : hp_T) (hF : fX10_readFree_148 a0 a1 a2 h = some h1) : xr_j l G K 5 h [(0, .ref (G.2.2.1 a0)), (1, .int a1), (2, .int a2)] 148 [] := by
  unfold fX10_readFree_148 at hF
  refine xr_aload_n C 0 dX10_readFree_148 rfl rfl ?_
  refine xr_geti C flX10_112 rfl dX10_readFree_149 ta0 ?_
  refine xr_if_ne C 165 dX10_readFree_152 (by decide) (fun c152 => ?_) (fun c152 => ?_)
  · have hF := fx_neg hF c152
    refine xr_aload_n C 0 dX10_readFree_165 rfl rfl ?_
    obtain ⟨h166, e166, hF⟩ := fx_b1E hF
    refine xr_callVv C mvX10_125 [] [] (mX10_goOn l G a0 ta0 h h166 e166) ta0 (by decide) vc10 rfl ⟨rfl, rfl, (Nat.le_of_ble_eq_true rfl), (Nat.le_of_ble_eq_true rfl)⟩ rfl (Nat.le_of_ble_eq_true rfl) dX10_readFree_166 ?_
    cases hF
    exact xr_vret C dX10_readFree_169
  · have hF := fx_pos hF c152
    refine xr_aload_n C 0 dX10_readFree_155 rfl rfl ?_
    refine xr_getr C flX10_16 rfl (by decide) dX10_readFree_156 ta0 (fun t156 => ?_)
    refine xr_bipush (v := 7) C dX10_readFree_159 (by decide) ?_
    refine xr_iload_n C 1 dX10_readFree_161 rfl rfl ?_
    refine xr_iadd C dX10_readFree_162 ?_
    refine xr_iload_n C 2 dX10_readFree_163 rfl rfl ?_
    obtain ⟨g164, hF⟩ := fx_gE hF
    refine xr_iast C dX10_readFree_164 t156 g164 (fun h164 e164 => ?_)
    have hF := fx_letE hF h164 e164
    refine xr_aload_n C 0 dX10_readFree_165 rfl rfl ?_
    obtain ⟨h166, e166, hF⟩ := fx_b1E hF
    refine xr_callVv C mvX10_125 [] [] (mX10_goOn l G a0 ta0 h164 h166 e166) ta0 (by decide) vc10 rfl ⟨rfl, rfl, (Nat.le_of_ble_eq_true rfl), (Nat.le_of_ble_eq_true rfl)⟩ rfl (Nat.le_of_ble_eq_true rfl) dX10_readFree_166 ?_
    cases hF
    exact xr_vret C dX10_readFree_169
def fX10_readFree_143  (a0 : Nat) (a1 : Int32) (a2 : Int32) (h : hp_T) : Option hp_T := fx_b1 (fX10_wrong a0 (3 : Int32) h) fun (h145 : hp_T) => fX10_readFree_148 a0 a1 a2 h145
set_option maxRecDepth 100000 in
set_option maxHeartbeats 4000000 in
theorem bX10_readFree_143 {l : Launch} {G : xr_G} {K : xr_K} {h1 : hp_T} (C : xr_C G K cX10_readFree RX10 5 (xr_R 7 205) none (some (xr_Qv G h1)))  (a0 : Nat) (a1 : Int32) (a2 : Int32) (ta0 : hp_sh a0 = (10, 0)) (h : hp_T) (hF : fX10_readFree_143 a0 a1 a2 h = some h1) : xr_j l G K 5 h [(0, .ref (G.2.2.1 a0)), (1, .int a1), (2, .int a2)] 143 [] := by
  unfold fX10_readFree_143 at hF
  refine xr_aload_n C 0 dX10_readFree_143 rfl rfl ?_
  refine xr_iconst (v := 3) C dX10_readFree_144 (by decide) ?_
  obtain ⟨h145, e145, hF⟩ := fx_b1E hF
  refine xr_callVv C mvX10_121 [.int (3 : Int32)] [] (mX10_wrong l G a0 (3 : Int32) ta0 h h145 e145) ta0 (by decide) vc10 rfl ⟨rfl, rfl, (Nat.le_of_ble_eq_true rfl), (Nat.le_of_ble_eq_true rfl)⟩ rfl (Nat.le_of_ble_eq_true rfl) dX10_readFree_145 ?_
  exact bX10_readFree_148 C   a0 a1 a2 ta0 h145 hF
def fX10_readFree_119 (k75 : Nat → Int32 → Int32 → Int32 → Int32 → hp_T → Option hp_T) (a0 : Nat) (a1 : Int32) (a2 : Int32) (a4 : Int32) (s0 : Int32) (h : hp_T) : Option hp_T := fx_let (a4 + (1 : Int32)) fun (x120 : Int32) => k75 a0 a1 a2 s0 x120 h
set_option maxRecDepth 100000 in
set_option maxHeartbeats 4000000 in
theorem bX10_readFree_119 {l : Launch} {G : xr_G} {K : xr_K} {h1 : hp_T} (C : xr_C G K cX10_readFree RX10 5 (xr_R 7 205) none (some (xr_Qv G h1))) (k75 : Nat → Int32 → Int32 → Int32 → Int32 → hp_T → Option hp_T) (j75 : ∀ (a0 : Nat) (a1 : Int32) (a2 : Int32) (a3 : Int32) (a4 : Int32) (ta0 : hp_sh a0 = (10, 0)) (h : hp_T), k75 a0 a1 a2 a3 a4 h = some h1 → xr_j l G K 5 h [(0, .ref (G.2.2.1 a0)), (1, .int a1), (2, .int a2), (3, .int a3), (4, .int a4)] 75 []) (a0 : Nat) (a1 : Int32) (a2 : Int32) (a4 : Int32) (s0 : Int32) (ta0 : hp_sh a0 = (10, 0)) (h : hp_T) (hF : fX10_readFree_119 k75 a0 a1 a2 a4 s0 h = some h1) : xr_j l G K 5 h [(0, .ref (G.2.2.1 a0)), (1, .int a1), (2, .int a2), (4, .int a4)] 119 [.int s0] := by
  unfold fX10_readFree_119 at hF
  refine xr_istore_n C [(3, .int s0), (0, .ref (G.2.2.1 a0)), (1, .int a1), (2, .int a2), (4, .int a4)] dX10_readFree_119 rfl (Nat.le_of_ble_eq_true rfl) rfl ?_
  obtain ⟨x120, e120⟩ : ∃ y : Int32, y = (a4 + (1 : Int32)) := ⟨_, rfl⟩
  have hF := fx_letE hF x120 e120
  refine xr_iinc C x120 4 [(4, .int x120), (3, .int s0), (0, .ref (G.2.2.1 a0)), (1, .int a1), (2, .int a2)] dX10_readFree_120 rfl (by rw [e120]; rfl) (Nat.le_of_ble_eq_true rfl) rfl ?_
  refine xr_goto C 75 dX10_readFree_123 (by decide) ?_
  refine xr_sub [2, 3, 4, 1, 0] [(0, .ref (G.2.2.1 a0)), (1, .int a1), (2, .int a2), (3, .int s0), (4, .int x120)] rfl ?_
  exact j75 a0 a1 a2 s0 x120 ta0 h hF
def fX10_readFree_118 (k75 : Nat → Int32 → Int32 → Int32 → Int32 → hp_T → Option hp_T) (a0 : Nat) (a1 : Int32) (a2 : Int32) (a4 : Int32) (h : hp_T) : Option hp_T := fX10_readFree_119 k75 a0 a1 a2 a4 (0 : Int32) h
set_option maxRecDepth 100000 in
set_option maxHeartbeats 4000000 in
theorem bX10_readFree_118 {l : Launch} {G : xr_G} {K : xr_K} {h1 : hp_T} (C : xr_C G K cX10_readFree RX10 5 (xr_R 7 205) none (some (xr_Qv G h1))) (k75 : Nat → Int32 → Int32 → Int32 → Int32 → hp_T → Option hp_T) (j75 : ∀ (a0 : Nat) (a1 : Int32) (a2 : Int32) (a3 : Int32) (a4 : Int32) (ta0 : hp_sh a0 = (10, 0)) (h : hp_T), k75 a0 a1 a2 a3 a4 h = some h1 → xr_j l G K 5 h [(0, .ref (G.2.2.1 a0)), (1, .int a1), (2, .int a2), (3, .int a3), (4, .int a4)] 75 []) (a0 : Nat) (a1 : Int32) (a2 : Int32) (a4 : Int32) (ta0 : hp_sh a0 = (10, 0)) (h : hp_T) (hF : fX10_readFree_118 k75 a0 a1 a2 a4 h = some h1) : xr_j l G K 5 h [(0, .ref (G.2.2.1 a0)), (1, .int a1), (2, .int a2), (4, .int a4)] 118 [] := by
  unfold fX10_readFree_118 at hF
  refine xr_iconst (v := 0) C dX10_readFree_118 (by decide) ?_
  exact bX10_readFree_119 C k75 j75  a0 a1 a2 a4 (0 : Int32) ta0 h hF
def fX10_readFree_114 (k75 : Nat → Int32 → Int32 → Int32 → Int32 → hp_T → Option hp_T) (a0 : Nat) (a1 : Int32) (a2 : Int32) (a4 : Int32) (h : hp_T) : Option hp_T := fX10_readFree_119 k75 a0 a1 a2 a4 (1 : Int32) h
set_option maxRecDepth 100000 in
set_option maxHeartbeats 4000000 in
theorem bX10_readFree_114 {l : Launch} {G : xr_G} {K : xr_K} {h1 : hp_T} (C : xr_C G K cX10_readFree RX10 5 (xr_R 7 205) none (some (xr_Qv G h1))) (k75 : Nat → Int32 → Int32 → Int32 → Int32 → hp_T → Option hp_T) (j75 : ∀ (a0 : Nat) (a1 : Int32) (a2 : Int32) (a3 : Int32) (a4 : Int32) (ta0 : hp_sh a0 = (10, 0)) (h : hp_T), k75 a0 a1 a2 a3 a4 h = some h1 → xr_j l G K 5 h [(0, .ref (G.2.2.1 a0)), (1, .int a1), (2, .int a2), (3, .int a3), (4, .int a4)] 75 []) (a0 : Nat) (a1 : Int32) (a2 : Int32) (a4 : Int32) (ta0 : hp_sh a0 = (10, 0)) (h : hp_T) (hF : fX10_readFree_114 k75 a0 a1 a2 a4 h = some h1) : xr_j l G K 5 h [(0, .ref (G.2.2.1 a0)), (1, .int a1), (2, .int a2), (4, .int a4)] 114 [] := by
  unfold fX10_readFree_114 at hF
  refine xr_iconst (v := 1) C dX10_readFree_114 (by decide) ?_
  refine xr_goto C 119 dX10_readFree_115 (by decide) ?_
  exact bX10_readFree_119 C k75 j75  a0 a1 a2 a4 (1 : Int32) ta0 h hF
def fX10_readFree_75  : Nat → Nat → Int32 → Int32 → Int32 → Int32 → hp_T → Option hp_T
  | 0, _, _, _, _, _, _ => none
  | n + 1, a0, a1, a2, a3, a4, h => if (6 : Int32) ≤ a4 then (if a3 = 0 then (fx_g (fx_in ((7 : Int32) + a1) 117) (if (h.1 (h.2.2 a0 4) (fx_ix ((7 : Int32) + a1))) = (-1 : Int32) then (fX10_readFree_148 a0 a1 a2 h) else (fX10_readFree_143 a0 a1 a2 h))) else (fX10_readFree_143 a0 a1 a2 h)) else (if a3 = 0 then (fx_g (fx_in a1 2) (if (h.1 (h.2.2 a0 19) (fx_ix a1)) = 0 then (fX10_readFree_118 (fX10_readFree_75 n) a0 a1 a2 a4 h) else (fx_g (fx_in (((9 : Int32) + ((6 : Int32) * a1)) + a4) 117) (if (h.1 (h.2.2 a0 4) (fx_ix (((9 : Int32) + ((6 : Int32) * a1)) + a4))) = a2 then (fX10_readFree_114 (fX10_readFree_75 n) a0 a1 a2 a4 h) else (fX10_readFree_118 (fX10_readFree_75 n) a0 a1 a2 a4 h))))) else (fX10_readFree_114 (fX10_readFree_75 n) a0 a1 a2 a4 h))
set_option maxRecDepth 100000 in
set_option maxHeartbeats 4000000 in
theorem bX10_readFree_75 {l : Launch} {G : xr_G} {K : xr_K} {h1 : hp_T} (C : xr_C G K cX10_readFree RX10 5 (xr_R 7 205) none (some (xr_Qv G h1)))  : ∀ (n : Nat) (a0 : Nat) (a1 : Int32) (a2 : Int32) (a3 : Int32) (a4 : Int32) (ta0 : hp_sh a0 = (10, 0)) (h : hp_T), fX10_readFree_75 n a0 a1 a2 a3 a4 h = some h1 → xr_j l G K 5 h [(0, .ref (G.2.2.1 a0)), (1, .int a1), (2, .int a2), (3, .int a3), (4, .int a4)] 75 [] := by
  intro n
  induction n with
  | zero =>
    intro a0 a1 a2 a3 a4 ta0 h hF
    cases hF
  | succ n ih =>
    intro a0 a1 a2 a3 a4 ta0 h hF
    rw [fX10_readFree_75] at hF
    refine xr_iload C 4 dX10_readFree_75 rfl ?_
    refine xr_bipush (v := 6) C dX10_readFree_77 (by decide) ?_
    refine xr_icmp_ge C 126 dX10_readFree_79 (by decide) (fun c79 => ?_) (fun c79 => ?_)
    · have hF := fx_pos hF c79
      refine xr_iload_n C 3 dX10_readFree_126 rfl rfl ?_
      refine xr_if_ne C 143 dX10_readFree_127 (by decide) (fun c127 => ?_) (fun c127 => ?_)
      · have hF := fx_neg hF c127
        refine xr_sub [0, 1, 2] [(0, .ref (G.2.2.1 a0)), (1, .int a1), (2, .int a2)] rfl ?_
        exact bX10_readFree_143 C   a0 a1 a2 ta0 h hF
      · have hF := fx_pos hF c127
        refine xr_aload_n C 0 dX10_readFree_130 rfl rfl ?_
        refine xr_getr C flX10_16 rfl (by decide) dX10_readFree_131 ta0 (fun t131 => ?_)
        refine xr_bipush (v := 7) C dX10_readFree_134 (by decide) ?_
        refine xr_iload_n C 1 dX10_readFree_136 rfl rfl ?_
        refine xr_iadd C dX10_readFree_137 ?_
        obtain ⟨g138, hF⟩ := fx_gE hF
        refine xr_iald C dX10_readFree_138 t131 g138 ?_
        refine xr_iconst (v := -1) C dX10_readFree_139 (by decide) ?_
        refine xr_icmp_eq C 148 dX10_readFree_140 (by decide) (fun c140 => ?_) (fun c140 => ?_)
        · have hF := fx_pos hF c140
          refine xr_sub [0, 1, 2] [(0, .ref (G.2.2.1 a0)), (1, .int a1), (2, .int a2)] rfl ?_
          exact bX10_readFree_148 C   a0 a1 a2 ta0 h hF
        · have hF := fx_neg hF c140
          refine xr_sub [0, 1, 2] [(0, .ref (G.2.2.1 a0)), (1, .int a1), (2, .int a2)] rfl ?_
          exact bX10_readFree_143 C   a0 a1 a2 ta0 h hF
    · have hF := fx_neg hF c79
      refine xr_iload_n C 3 dX10_readFree_82 rfl rfl ?_
      refine xr_if_ne C 114 dX10_readFree_83 (by decide) (fun c83 => ?_) (fun c83 => ?_)
      · have hF := fx_neg hF c83
        refine xr_sub [0, 1, 2, 4] [(0, .ref (G.2.2.1 a0)), (1, .int a1), (2, .int a2), (4, .int a4)] rfl ?_
        exact bX10_readFree_114 C (fX10_readFree_75 n) (fun a0 a1 a2 a3 a4 ta0 h hF => ih a0 a1 a2 a3 a4 ta0 h hF)  a0 a1 a2 a4 ta0 h hF
      · have hF := fx_pos hF c83
        refine xr_aload_n C 0 dX10_readFree_86 rfl rfl ?_
        refine xr_getr C flX10_33 rfl (by decide) dX10_readFree_87 ta0 (fun t87 => ?_)
        refine xr_iload_n C 1 dX10_readFree_90 rfl rfl ?_
        obtain ⟨g91, hF⟩ := fx_gE hF
        refine xr_zald C dX10_readFree_91 t87 g91 ?_
        refine xr_if_eq C 118 dX10_readFree_92 (by decide) (fun c92 => ?_) (fun c92 => ?_)
        · have hF := fx_pos hF c92
          refine xr_sub [0, 1, 2, 4] [(0, .ref (G.2.2.1 a0)), (1, .int a1), (2, .int a2), (4, .int a4)] rfl ?_
          exact bX10_readFree_118 C (fX10_readFree_75 n) (fun a0 a1 a2 a3 a4 ta0 h hF => ih a0 a1 a2 a3 a4 ta0 h hF)  a0 a1 a2 a4 ta0 h hF
        · have hF := fx_neg hF c92
          refine xr_aload_n C 0 dX10_readFree_95 rfl rfl ?_
          refine xr_getr C flX10_16 rfl (by decide) dX10_readFree_96 ta0 (fun t96 => ?_)
          refine xr_bipush (v := 9) C dX10_readFree_99 (by decide) ?_
          refine xr_bipush (v := 6) C dX10_readFree_101 (by decide) ?_
          refine xr_iload_n C 1 dX10_readFree_103 rfl rfl ?_
          refine xr_imul C dX10_readFree_104 ?_
          refine xr_iadd C dX10_readFree_105 ?_
          refine xr_iload C 4 dX10_readFree_106 rfl ?_
          refine xr_iadd C dX10_readFree_108 ?_
          obtain ⟨g109, hF⟩ := fx_gE hF
          refine xr_iald C dX10_readFree_109 t96 g109 ?_
          refine xr_iload_n C 2 dX10_readFree_110 rfl rfl ?_
          refine xr_icmp_ne C 118 dX10_readFree_111 (by decide) (fun c111 => ?_) (fun c111 => ?_)
          · have hF := fx_neg hF c111
            refine xr_sub [0, 1, 2, 4] [(0, .ref (G.2.2.1 a0)), (1, .int a1), (2, .int a2), (4, .int a4)] rfl ?_
            exact bX10_readFree_118 C (fX10_readFree_75 n) (fun a0 a1 a2 a3 a4 ta0 h hF => ih a0 a1 a2 a3 a4 ta0 h hF)  a0 a1 a2 a4 ta0 h hF
          · have hF := fx_pos hF c111
            refine xr_sub [0, 1, 2, 4] [(0, .ref (G.2.2.1 a0)), (1, .int a1), (2, .int a2), (4, .int a4)] rfl ?_
            exact bX10_readFree_114 C (fX10_readFree_75 n) (fun a0 a1 a2 a3 a4 ta0 h hF => ih a0 a1 a2 a3 a4 ta0 h hF)  a0 a1 a2 a4 ta0 h hF
def fX10_readFree_63  (a0 : Nat) (s0 : Int32) (h : hp_T) : Option hp_T := fx_b2 (fX10_namedOf a0 s0 h) fun (r66 : Int32) (h66 : hp_T) => fX10_readFree_75 fx_N a0 s0 r66 (0 : Int32) (0 : Int32) h66
set_option maxRecDepth 100000 in
set_option maxHeartbeats 4000000 in
theorem bX10_readFree_63 {l : Launch} {G : xr_G} {K : xr_K} {h1 : hp_T} (C : xr_C G K cX10_readFree RX10 5 (xr_R 7 205) none (some (xr_Qv G h1)))  (a0 : Nat) (s0 : Int32) (ta0 : hp_sh a0 = (10, 0)) (h : hp_T) (hF : fX10_readFree_63 a0 s0 h = some h1) : xr_j l G K 5 h [(0, .ref (G.2.2.1 a0))] 63 [.int s0] := by
  unfold fX10_readFree_63 at hF
  refine xr_istore_n C [(1, .int s0), (0, .ref (G.2.2.1 a0))] dX10_readFree_63 rfl (Nat.le_of_ble_eq_true rfl) rfl ?_
  refine xr_aload_n C 1 dX10_readFree_64 rfl rfl ?_
  refine xr_iload_n C 0 dX10_readFree_65 rfl rfl ?_
  obtain ⟨r66, h66, e66, hF⟩ := fx_b2E hF
  refine xr_callVi C mvX10_132 [.int s0] [] (mX10_namedOf l G a0 s0 ta0 h h66 r66 e66) ta0 (by decide) vc10 rfl ⟨rfl, rfl, (Nat.le_of_ble_eq_true rfl), (Nat.le_of_ble_eq_true rfl)⟩ rfl (Nat.le_of_ble_eq_true rfl) dX10_readFree_66 ?_
  refine xr_istore_n C [(2, .int r66), (1, .int s0), (0, .ref (G.2.2.1 a0))] dX10_readFree_69 rfl (Nat.le_of_ble_eq_true rfl) rfl ?_
  refine xr_iconst (v := 0) C dX10_readFree_70 (by decide) ?_
  refine xr_istore_n C [(3, .int (0 : Int32)), (2, .int r66), (1, .int s0), (0, .ref (G.2.2.1 a0))] dX10_readFree_71 rfl (Nat.le_of_ble_eq_true rfl) rfl ?_
  refine xr_iconst (v := 0) C dX10_readFree_72 (by decide) ?_
  refine xr_istore C [(4, .int (0 : Int32)), (3, .int (0 : Int32)), (2, .int r66), (1, .int s0), (0, .ref (G.2.2.1 a0))] dX10_readFree_73 (Nat.le_of_ble_eq_true rfl) rfl ?_
  refine xr_sub [4, 3, 2, 1, 0] [(0, .ref (G.2.2.1 a0)), (1, .int s0), (2, .int r66), (3, .int (0 : Int32)), (4, .int (0 : Int32))] rfl ?_
  exact bX10_readFree_75 C  fx_N a0 s0 r66 (0 : Int32) (0 : Int32) ta0 h66 hF
def fX10_readFree_41  (a0 : Nat) (h : hp_T) : Option hp_T := if (h.1 a0 14) = 0 then (fx_b2 (fX10_namedOf a0 (0 : Int32) h) fun (r51 : Int32) (h51 : hp_T) => if r51 = (-1 : Int32) then (fX10_readFree_63 a0 (1 : Int32) h51) else (fX10_readFree_63 a0 (0 : Int32) h51)) else (some h)
set_option maxRecDepth 100000 in
set_option maxHeartbeats 4000000 in
theorem bX10_readFree_41 {l : Launch} {G : xr_G} {K : xr_K} {h1 : hp_T} (C : xr_C G K cX10_readFree RX10 5 (xr_R 7 205) none (some (xr_Qv G h1)))  (a0 : Nat) (ta0 : hp_sh a0 = (10, 0)) (h : hp_T) (hF : fX10_readFree_41 a0 h = some h1) : xr_j l G K 5 h [(0, .ref (G.2.2.1 a0))] 41 [] := by
  unfold fX10_readFree_41 at hF
  refine xr_aload_n C 0 dX10_readFree_41 rfl rfl ?_
  refine xr_geti C flX10_112 rfl dX10_readFree_42 ta0 ?_
  refine xr_if_eq C 49 dX10_readFree_45 (by decide) (fun c45 => ?_) (fun c45 => ?_)
  · have hF := fx_pos hF c45
    refine xr_aload_n C 0 dX10_readFree_49 rfl rfl ?_
    refine xr_iconst (v := 0) C dX10_readFree_50 (by decide) ?_
    obtain ⟨r51, h51, e51, hF⟩ := fx_b2E hF
    refine xr_callVi C mvX10_132 [.int (0 : Int32)] [] (mX10_namedOf l G a0 (0 : Int32) ta0 h h51 r51 e51) ta0 (by decide) vc10 rfl ⟨rfl, rfl, (Nat.le_of_ble_eq_true rfl), (Nat.le_of_ble_eq_true rfl)⟩ rfl (Nat.le_of_ble_eq_true rfl) dX10_readFree_51 ?_
    refine xr_iconst (v := -1) C dX10_readFree_54 (by decide) ?_
    refine xr_icmp_eq C 62 dX10_readFree_55 (by decide) (fun c55 => ?_) (fun c55 => ?_)
    · have hF := fx_pos hF c55
      refine xr_iconst (v := 1) C dX10_readFree_62 (by decide) ?_
      exact bX10_readFree_63 C   a0 (1 : Int32) ta0 h51 hF
    · have hF := fx_neg hF c55
      refine xr_iconst (v := 0) C dX10_readFree_58 (by decide) ?_
      refine xr_goto C 63 dX10_readFree_59 (by decide) ?_
      exact bX10_readFree_63 C   a0 (0 : Int32) ta0 h51 hF
  · have hF := fx_neg hF c45
    cases hF
    exact xr_vret C dX10_readFree_48
def fX10_readFree_36  (a0 : Nat) (h : hp_T) : Option hp_T := fx_b1 (fX10_wrong a0 (1 : Int32) h) fun (h38 : hp_T) => fX10_readFree_41 a0 h38
set_option maxRecDepth 100000 in
set_option maxHeartbeats 4000000 in
theorem bX10_readFree_36 {l : Launch} {G : xr_G} {K : xr_K} {h1 : hp_T} (C : xr_C G K cX10_readFree RX10 5 (xr_R 7 205) none (some (xr_Qv G h1)))  (a0 : Nat) (ta0 : hp_sh a0 = (10, 0)) (h : hp_T) (hF : fX10_readFree_36 a0 h = some h1) : xr_j l G K 5 h [(0, .ref (G.2.2.1 a0))] 36 [] := by
  unfold fX10_readFree_36 at hF
  refine xr_aload_n C 0 dX10_readFree_36 rfl rfl ?_
  refine xr_iconst (v := 1) C dX10_readFree_37 (by decide) ?_
  obtain ⟨h38, e38, hF⟩ := fx_b1E hF
  refine xr_callVv C mvX10_121 [.int (1 : Int32)] [] (mX10_wrong l G a0 (1 : Int32) ta0 h h38 e38) ta0 (by decide) vc10 rfl ⟨rfl, rfl, (Nat.le_of_ble_eq_true rfl), (Nat.le_of_ble_eq_true rfl)⟩ rfl (Nat.le_of_ble_eq_true rfl) dX10_readFree_38 ?_
  exact bX10_readFree_41 C   a0 ta0 h38 hF
def fX10_readFree (a0 : Nat) (h : hp_T) : Option hp_T := fx_b1 (fX10_goOn a0 h) fun (h1 : hp_T) => if (h1.1 a0 14) = 0 then (fx_b2 (fX10_isOther a0 h1) fun (r12 : Int32) (h12 : hp_T) => if r12 = 0 then (fX10_readFree_36 a0 h12) else (fx_b2 (fX10_namedOf a0 (0 : Int32) h12) fun (r20 : Int32) (h20 : hp_T) => if r20 = (-1 : Int32) then (fx_b2 (fX10_namedOf a0 (1 : Int32) h20) fun (r29 : Int32) (h29 : hp_T) => if r29 = (-1 : Int32) then (fX10_readFree_36 a0 h29) else (fX10_readFree_41 a0 h29)) else (fX10_readFree_41 a0 h20))) else (fX10_readFree_41 a0 h1)
set_option maxRecDepth 100000 in
set_option maxHeartbeats 4000000 in
theorem mX10_readFree (l : Launch) (G : xr_G) (a0 : Nat) (ta0 : hp_sh a0 = (10, 0)) (h h1 : hp_T) (hF : fX10_readFree a0 h = some h1) : xr_M l G yX10_readFree cX10_readFree 5 (xr_R 7 205) none [.ref (G.2.2.1 a0)] h (xr_Qv G h1) := by
  refine xr_start rfl (Nat.le_of_ble_eq_true rfl) (fun K C => ?_)
  show xr_j l G K 5 h [(0, .ref (G.2.2.1 a0))] 0 []
  unfold fX10_readFree at hF
  refine xr_aload_n C 0 dX10_readFree_0 rfl rfl ?_
  obtain ⟨h1, e1, hF⟩ := fx_b1E hF
  refine xr_callVv C mvX10_125 [] [] (mX10_goOn l G a0 ta0 h h1 e1) ta0 (by decide) vc10 rfl ⟨rfl, rfl, (Nat.le_of_ble_eq_true rfl), (Nat.le_of_ble_eq_true rfl)⟩ rfl (Nat.le_of_ble_eq_true rfl) dX10_readFree_1 ?_
  refine xr_aload_n C 0 dX10_readFree_4 rfl rfl ?_
  refine xr_geti C flX10_112 rfl dX10_readFree_5 ta0 ?_
  refine xr_if_ne C 41 dX10_readFree_8 (by decide) (fun c8 => ?_) (fun c8 => ?_)
  · have hF := fx_neg hF c8
    exact bX10_readFree_41 C   a0 ta0 h1 hF
  · have hF := fx_pos hF c8
    refine xr_aload_n C 0 dX10_readFree_11 rfl rfl ?_
    obtain ⟨r12, h12, e12, hF⟩ := fx_b2E hF
    refine xr_callVi C mvX10_128 [] [] (mX10_isOther l G a0 ta0 h1 h12 r12 e12) ta0 (by decide) vc10 rfl ⟨rfl, rfl, (Nat.le_of_ble_eq_true rfl), (Nat.le_of_ble_eq_true rfl)⟩ rfl (Nat.le_of_ble_eq_true rfl) dX10_readFree_12 ?_
    refine xr_if_eq C 36 dX10_readFree_15 (by decide) (fun c15 => ?_) (fun c15 => ?_)
    · have hF := fx_pos hF c15
      exact bX10_readFree_36 C   a0 ta0 h12 hF
    · have hF := fx_neg hF c15
      refine xr_aload_n C 0 dX10_readFree_18 rfl rfl ?_
      refine xr_iconst (v := 0) C dX10_readFree_19 (by decide) ?_
      obtain ⟨r20, h20, e20, hF⟩ := fx_b2E hF
      refine xr_callVi C mvX10_132 [.int (0 : Int32)] [] (mX10_namedOf l G a0 (0 : Int32) ta0 h12 h20 r20 e20) ta0 (by decide) vc10 rfl ⟨rfl, rfl, (Nat.le_of_ble_eq_true rfl), (Nat.le_of_ble_eq_true rfl)⟩ rfl (Nat.le_of_ble_eq_true rfl) dX10_readFree_20 ?_
      refine xr_iconst (v := -1) C dX10_readFree_23 (by decide) ?_
      refine xr_icmp_ne C 41 dX10_readFree_24 (by decide) (fun c24 => ?_) (fun c24 => ?_)
      · have hF := fx_neg hF c24
        exact bX10_readFree_41 C   a0 ta0 h20 hF
      · have hF := fx_pos hF c24
        refine xr_aload_n C 0 dX10_readFree_27 rfl rfl ?_
        refine xr_iconst (v := 1) C dX10_readFree_28 (by decide) ?_
        obtain ⟨r29, h29, e29, hF⟩ := fx_b2E hF
        refine xr_callVi C mvX10_132 [.int (1 : Int32)] [] (mX10_namedOf l G a0 (1 : Int32) ta0 h20 h29 r29 e29) ta0 (by decide) vc10 rfl ⟨rfl, rfl, (Nat.le_of_ble_eq_true rfl), (Nat.le_of_ble_eq_true rfl)⟩ rfl (Nat.le_of_ble_eq_true rfl) dX10_readFree_29 ?_
        refine xr_iconst (v := -1) C dX10_readFree_32 (by decide) ?_
        refine xr_icmp_ne C 41 dX10_readFree_33 (by decide) (fun c33 => ?_) (fun c33 => ?_)
        · have hF := fx_neg hF c33
          exact bX10_readFree_41 C   a0 ta0 h29 hF
        · have hF := fx_pos hF c33
          exact bX10_readFree_36 C   a0 ta0 h29 hF
theorem dX10_readStart_0 : decode cX10_readStart 0 = .ok (.aload_n 0, 1) := by decide +kernel
theorem dX10_readStart_1 : decode cX10_readStart 1 = .ok (.invokevirtual 125, 3) := by decide +kernel
theorem dX10_readStart_4 : decode cX10_readStart 4 = .ok (.aload_n 0, 1) := by decide +kernel
theorem dX10_readStart_5 : decode cX10_readStart 5 = .ok (.invokevirtual 140, 3) := by decide +kernel
theorem dX10_readStart_8 : decode cX10_readStart 8 = .ok (.istore_n 1, 1) := by decide +kernel
theorem dX10_readStart_9 : decode cX10_readStart 9 = .ok (.aload_n 0, 1) := by decide +kernel
theorem dX10_readStart_10 : decode cX10_readStart 10 = .ok (.getfield 112, 3) := by decide +kernel
theorem dX10_readStart_13 : decode cX10_readStart 13 = .ok (.ifCond .ne 17, 3) := by decide +kernel
theorem dX10_readStart_16 : decode cX10_readStart 16 = .ok (.aload_n 0, 1) := by decide +kernel
theorem dX10_readStart_17 : decode cX10_readStart 17 = .ok (.getfield 33, 3) := by decide +kernel
theorem dX10_readStart_20 : decode cX10_readStart 20 = .ok (.iload_n 1, 1) := by decide +kernel
theorem dX10_readStart_21 : decode cX10_readStart 21 = .ok (.baload, 1) := by decide +kernel
theorem dX10_readStart_22 : decode cX10_readStart 22 = .ok (.ifCond .eq 8, 3) := by decide +kernel
theorem dX10_readStart_25 : decode cX10_readStart 25 = .ok (.aload_n 0, 1) := by decide +kernel
theorem dX10_readStart_26 : decode cX10_readStart 26 = .ok (.iconst 3, 1) := by decide +kernel
theorem dX10_readStart_27 : decode cX10_readStart 27 = .ok (.invokevirtual 121, 3) := by decide +kernel
theorem dX10_readStart_30 : decode cX10_readStart 30 = .ok (.aload_n 0, 1) := by decide +kernel
theorem dX10_readStart_31 : decode cX10_readStart 31 = .ok (.invokevirtual 125, 3) := by decide +kernel
theorem dX10_readStart_34 : decode cX10_readStart 34 = .ok (.iconst 0, 1) := by decide +kernel
theorem dX10_readStart_35 : decode cX10_readStart 35 = .ok (.istore_n 2, 1) := by decide +kernel
theorem dX10_readStart_36 : decode cX10_readStart 36 = .ok (.iload_n 2, 1) := by decide +kernel
theorem dX10_readStart_37 : decode cX10_readStart 37 = .ok (.bipush 6, 2) := by decide +kernel
theorem dX10_readStart_39 : decode cX10_readStart 39 = .ok (.if_icmp .ge 146, 3) := by decide +kernel
theorem dX10_readStart_42 : decode cX10_readStart 42 = .ok (.aload_n 0, 1) := by decide +kernel
theorem dX10_readStart_43 : decode cX10_readStart 43 = .ok (.getfield 112, 3) := by decide +kernel
theorem dX10_readStart_46 : decode cX10_readStart 46 = .ok (.ifCond .ne 24, 3) := by decide +kernel
theorem dX10_readStart_49 : decode cX10_readStart 49 = .ok (.aload_n 0, 1) := by decide +kernel
theorem dX10_readStart_50 : decode cX10_readStart 50 = .ok (.invokevirtual 128, 3) := by decide +kernel
theorem dX10_readStart_53 : decode cX10_readStart 53 = .ok (.ifCond .eq 12, 3) := by decide +kernel
theorem dX10_readStart_56 : decode cX10_readStart 56 = .ok (.aload_n 0, 1) := by decide +kernel
theorem dX10_readStart_57 : decode cX10_readStart 57 = .ok (.iload_n 1, 1) := by decide +kernel
theorem dX10_readStart_58 : decode cX10_readStart 58 = .ok (.invokevirtual 132, 3) := by decide +kernel
theorem dX10_readStart_61 : decode cX10_readStart 61 = .ok (.iconst (-1), 1) := by decide +kernel
theorem dX10_readStart_62 : decode cX10_readStart 62 = .ok (.if_icmp .ne 8, 3) := by decide +kernel
theorem dX10_readStart_65 : decode cX10_readStart 65 = .ok (.aload_n 0, 1) := by decide +kernel
theorem dX10_readStart_66 : decode cX10_readStart 66 = .ok (.iconst 1, 1) := by decide +kernel
theorem dX10_readStart_67 : decode cX10_readStart 67 = .ok (.invokevirtual 121, 3) := by decide +kernel
theorem dX10_readStart_70 : decode cX10_readStart 70 = .ok (.aload_n 0, 1) := by decide +kernel
theorem dX10_readStart_71 : decode cX10_readStart 71 = .ok (.getfield 112, 3) := by decide +kernel
theorem dX10_readStart_74 : decode cX10_readStart 74 = .ok (.ifCond .eq 4, 3) := by decide +kernel
theorem dX10_readStart_77 : decode cX10_readStart 77 = .ok (.return_, 1) := by decide +kernel
theorem dX10_readStart_78 : decode cX10_readStart 78 = .ok (.aload_n 0, 1) := by decide +kernel
theorem dX10_readStart_79 : decode cX10_readStart 79 = .ok (.iload_n 1, 1) := by decide +kernel
theorem dX10_readStart_80 : decode cX10_readStart 80 = .ok (.invokevirtual 132, 3) := by decide +kernel
theorem dX10_readStart_83 : decode cX10_readStart 83 = .ok (.istore_n 3, 1) := by decide +kernel
theorem dX10_readStart_84 : decode cX10_readStart 84 = .ok (.iload_n 3, 1) := by decide +kernel
theorem dX10_readStart_85 : decode cX10_readStart 85 = .ok (.aload_n 0, 1) := by decide +kernel
theorem dX10_readStart_86 : decode cX10_readStart 86 = .ok (.getfield 16, 3) := by decide +kernel
theorem dX10_readStart_89 : decode cX10_readStart 89 = .ok (.bipush 7, 2) := by decide +kernel
theorem dX10_readStart_91 : decode cX10_readStart 91 = .ok (.iload_n 1, 1) := by decide +kernel
theorem dX10_readStart_92 : decode cX10_readStart 92 = .ok (.iadd, 1) := by decide +kernel
theorem dX10_readStart_93 : decode cX10_readStart 93 = .ok (.iaload, 1) := by decide +kernel
theorem dX10_readStart_94 : decode cX10_readStart 94 = .ok (.if_icmp .ne 7, 3) := by decide +kernel
theorem dX10_readStart_97 : decode cX10_readStart 97 = .ok (.iconst 1, 1) := by decide +kernel
theorem dX10_readStart_98 : decode cX10_readStart 98 = .ok (.goto 4, 3) := by decide +kernel
theorem dX10_readStart_101 : decode cX10_readStart 101 = .ok (.iconst 0, 1) := by decide +kernel
theorem dX10_readStart_102 : decode cX10_readStart 102 = .ok (.istore 4, 2) := by decide +kernel
theorem dX10_readStart_104 : decode cX10_readStart 104 = .ok (.iconst 0, 1) := by decide +kernel
theorem dX10_readStart_105 : decode cX10_readStart 105 = .ok (.istore 5, 2) := by decide +kernel
theorem dX10_readStart_107 : decode cX10_readStart 107 = .ok (.iload 5, 2) := by decide +kernel
theorem dX10_readStart_109 : decode cX10_readStart 109 = .ok (.iload_n 2, 1) := by decide +kernel
theorem dX10_readStart_110 : decode cX10_readStart 110 = .ok (.if_icmp .ge 40, 3) := by decide +kernel
theorem dX10_readStart_113 : decode cX10_readStart 113 = .ok (.iload 4, 2) := by decide +kernel
theorem dX10_readStart_115 : decode cX10_readStart 115 = .ok (.ifCond .ne 22, 3) := by decide +kernel
theorem dX10_readStart_118 : decode cX10_readStart 118 = .ok (.aload_n 0, 1) := by decide +kernel
theorem dX10_readStart_119 : decode cX10_readStart 119 = .ok (.getfield 16, 3) := by decide +kernel
theorem dX10_readStart_122 : decode cX10_readStart 122 = .ok (.bipush 9, 2) := by decide +kernel
theorem dX10_readStart_124 : decode cX10_readStart 124 = .ok (.bipush 6, 2) := by decide +kernel
theorem dX10_readStart_126 : decode cX10_readStart 126 = .ok (.iload_n 1, 1) := by decide +kernel
theorem dX10_readStart_127 : decode cX10_readStart 127 = .ok (.imul, 1) := by decide +kernel
theorem dX10_readStart_128 : decode cX10_readStart 128 = .ok (.iadd, 1) := by decide +kernel
theorem dX10_readStart_129 : decode cX10_readStart 129 = .ok (.iload 5, 2) := by decide +kernel
theorem dX10_readStart_131 : decode cX10_readStart 131 = .ok (.iadd, 1) := by decide +kernel
theorem dX10_readStart_132 : decode cX10_readStart 132 = .ok (.iaload, 1) := by decide +kernel
theorem dX10_readStart_133 : decode cX10_readStart 133 = .ok (.iload_n 3, 1) := by decide +kernel
theorem dX10_readStart_134 : decode cX10_readStart 134 = .ok (.if_icmp .ne 7, 3) := by decide +kernel
theorem dX10_readStart_137 : decode cX10_readStart 137 = .ok (.iconst 1, 1) := by decide +kernel
theorem dX10_readStart_138 : decode cX10_readStart 138 = .ok (.goto 4, 3) := by decide +kernel
theorem dX10_readStart_141 : decode cX10_readStart 141 = .ok (.iconst 0, 1) := by decide +kernel
theorem dX10_readStart_142 : decode cX10_readStart 142 = .ok (.istore 4, 2) := by decide +kernel
theorem dX10_readStart_144 : decode cX10_readStart 144 = .ok (.iinc 5 1, 3) := by decide +kernel
theorem dX10_readStart_147 : decode cX10_readStart 147 = .ok (.goto (-40), 3) := by decide +kernel
theorem dX10_readStart_150 : decode cX10_readStart 150 = .ok (.iload 4, 2) := by decide +kernel
theorem dX10_readStart_152 : decode cX10_readStart 152 = .ok (.ifCond .eq 8, 3) := by decide +kernel
theorem dX10_readStart_155 : decode cX10_readStart 155 = .ok (.aload_n 0, 1) := by decide +kernel
theorem dX10_readStart_156 : decode cX10_readStart 156 = .ok (.iconst 3, 1) := by decide +kernel
theorem dX10_readStart_157 : decode cX10_readStart 157 = .ok (.invokevirtual 121, 3) := by decide +kernel
theorem dX10_readStart_160 : decode cX10_readStart 160 = .ok (.aload_n 0, 1) := by decide +kernel
theorem dX10_readStart_161 : decode cX10_readStart 161 = .ok (.getfield 16, 3) := by decide +kernel
theorem dX10_readStart_164 : decode cX10_readStart 164 = .ok (.bipush 9, 2) := by decide +kernel
theorem dX10_readStart_166 : decode cX10_readStart 166 = .ok (.bipush 6, 2) := by decide +kernel
theorem dX10_readStart_168 : decode cX10_readStart 168 = .ok (.iload_n 1, 1) := by decide +kernel
theorem dX10_readStart_169 : decode cX10_readStart 169 = .ok (.imul, 1) := by decide +kernel
theorem dX10_readStart_170 : decode cX10_readStart 170 = .ok (.iadd, 1) := by decide +kernel
theorem dX10_readStart_171 : decode cX10_readStart 171 = .ok (.iload_n 2, 1) := by decide +kernel
theorem dX10_readStart_172 : decode cX10_readStart 172 = .ok (.iadd, 1) := by decide +kernel
theorem dX10_readStart_173 : decode cX10_readStart 173 = .ok (.iload_n 3, 1) := by decide +kernel
theorem dX10_readStart_174 : decode cX10_readStart 174 = .ok (.iastore, 1) := by decide +kernel
theorem dX10_readStart_175 : decode cX10_readStart 175 = .ok (.aload_n 0, 1) := by decide +kernel
theorem dX10_readStart_176 : decode cX10_readStart 176 = .ok (.invokevirtual 125, 3) := by decide +kernel
theorem dX10_readStart_179 : decode cX10_readStart 179 = .ok (.iinc 2 1, 3) := by decide +kernel
theorem dX10_readStart_182 : decode cX10_readStart 182 = .ok (.goto (-146), 3) := by decide +kernel
theorem dX10_readStart_185 : decode cX10_readStart 185 = .ok (.aload_n 0, 1) := by decide +kernel
theorem dX10_readStart_186 : decode cX10_readStart 186 = .ok (.getfield 33, 3) := by decide +kernel
theorem dX10_readStart_189 : decode cX10_readStart 189 = .ok (.iload_n 1, 1) := by decide +kernel
theorem dX10_readStart_190 : decode cX10_readStart 190 = .ok (.iconst 1, 1) := by decide +kernel
theorem dX10_readStart_191 : decode cX10_readStart 191 = .ok (.bastore, 1) := by decide +kernel
theorem dX10_readStart_192 : decode cX10_readStart 192 = .ok (.return_, 1) := by decide +kernel
def fX10_readStart_160 (k36 : Nat → Int32 → Int32 → hp_T → Option hp_T) (a0 : Nat) (a1 : Int32) (a2 : Int32) (a3 : Int32) (h : hp_T) : Option hp_T := fx_g (fx_in (((9 : Int32) + ((6 : Int32) * a1)) + a2) 117) (fx_let (hp_sI h (h.2.2 a0 4) (fx_ix (((9 : Int32) + ((6 : Int32) * a1)) + a2)) a3) fun (h174 : hp_T) => fx_b1 (fX10_goOn a0 h174) fun (h176 : hp_T) => fx_let (a2 + (1 : Int32)) fun (x179 : Int32) => k36 a0 a1 x179 h176)
set_option maxRecDepth 100000 in
set_option maxHeartbeats 4000000 in
theorem bX10_readStart_160 {l : Launch} {G : xr_G} {K : xr_K} {h1 : hp_T} (C : xr_C G K cX10_readStart RX10 6 (xr_R 7 205) none (some (xr_Qv G h1))) (k36 : Nat → Int32 → Int32 → hp_T → Option hp_T) (j36 : ∀ (a0 : Nat) (a1 : Int32) (a2 : Int32) (ta0 : hp_sh a0 = (10, 0)) (h : hp_T), k36 a0 a1 a2 h = some h1 → xr_j l G K 6 h [(0, .ref (G.2.2.1 a0)), (1, .int a1), (2, .int a2)] 36 []) (a0 : Nat) (a1 : Int32) (a2 : Int32) (a3 : Int32) (ta0 : hp_sh a0 = (10, 0)) (h : hp_T) (hF : fX10_readStart_160 k36 a0 a1 a2 a3 h = some h1) : xr_j l G K 6 h [(0, .ref (G.2.2.1 a0)), (1, .int a1), (2, .int a2), (3, .int a3)] 160 [] := by
  unfold fX10_readStart_160 at hF
  refine xr_aload_n C 0 dX10_readStart_160 rfl rfl ?_
  refine xr_getr C flX10_16 rfl (by decide) dX10_readStart_161 ta0 (fun t161 => ?_)
  refine xr_bipush (v := 9) C dX10_readStart_164 (by decide) ?_
  refine xr_bipush (v := 6) C dX10_readStart_166 (by decide) ?_
  refine xr_iload_n C 1 dX10_readStart_168 rfl rfl ?_
  refine xr_imul C dX10_readStart_169 ?_
  refine xr_iadd C dX10_readStart_170 ?_
  refine xr_iload_n C 2 dX10_readStart_171 rfl rfl ?_
  refine xr_iadd C dX10_readStart_172 ?_
  refine xr_iload_n C 3 dX10_readStart_173 rfl rfl ?_
  obtain ⟨g174, hF⟩ := fx_gE hF
  refine xr_iast C dX10_readStart_174 t161 g174 (fun h174 e174 => ?_)
  have hF := fx_letE hF h174 e174
  refine xr_aload_n C 0 dX10_readStart_175 rfl rfl ?_
  obtain ⟨h176, e176, hF⟩ := fx_b1E hF
  refine xr_callVv C mvX10_125 [] [] (mX10_goOn l G a0 ta0 h174 h176 e176) ta0 (by decide) vc10 rfl ⟨rfl, rfl, (Nat.le_of_ble_eq_true rfl), (Nat.le_of_ble_eq_true rfl)⟩ rfl (Nat.le_of_ble_eq_true rfl) dX10_readStart_176 ?_
  obtain ⟨x179, e179⟩ : ∃ y : Int32, y = (a2 + (1 : Int32)) := ⟨_, rfl⟩
  have hF := fx_letE hF x179 e179
  refine xr_iinc C x179 2 [(2, .int x179), (0, .ref (G.2.2.1 a0)), (1, .int a1), (3, .int a3)] dX10_readStart_179 rfl (by rw [e179]; rfl) (Nat.le_of_ble_eq_true rfl) rfl ?_
  refine xr_goto C 36 dX10_readStart_182 (by decide) ?_
  refine xr_sub [1, 2, 0] [(0, .ref (G.2.2.1 a0)), (1, .int a1), (2, .int x179)] rfl ?_
  exact j36 a0 a1 x179 ta0 h176 hF
def fX10_readStart_142 (k36 : Nat → Int32 → Int32 → hp_T → Option hp_T) (k107 : Nat → Int32 → Int32 → Int32 → Int32 → Int32 → hp_T → Option hp_T) (a0 : Nat) (a1 : Int32) (a2 : Int32) (a3 : Int32) (a5 : Int32) (s0 : Int32) (h : hp_T) : Option hp_T := fx_let (a5 + (1 : Int32)) fun (x144 : Int32) => k107 a0 a1 a2 a3 s0 x144 h
set_option maxRecDepth 100000 in
set_option maxHeartbeats 4000000 in
theorem bX10_readStart_142 {l : Launch} {G : xr_G} {K : xr_K} {h1 : hp_T} (C : xr_C G K cX10_readStart RX10 6 (xr_R 7 205) none (some (xr_Qv G h1))) (k36 : Nat → Int32 → Int32 → hp_T → Option hp_T) (j36 : ∀ (a0 : Nat) (a1 : Int32) (a2 : Int32) (ta0 : hp_sh a0 = (10, 0)) (h : hp_T), k36 a0 a1 a2 h = some h1 → xr_j l G K 6 h [(0, .ref (G.2.2.1 a0)), (1, .int a1), (2, .int a2)] 36 []) (k107 : Nat → Int32 → Int32 → Int32 → Int32 → Int32 → hp_T → Option hp_T) (j107 : ∀ (a0 : Nat) (a1 : Int32) (a2 : Int32) (a3 : Int32) (a4 : Int32) (a5 : Int32) (ta0 : hp_sh a0 = (10, 0)) (h : hp_T), k107 a0 a1 a2 a3 a4 a5 h = some h1 → xr_j l G K 6 h [(0, .ref (G.2.2.1 a0)), (1, .int a1), (2, .int a2), (3, .int a3), (4, .int a4), (5, .int a5)] 107 []) (a0 : Nat) (a1 : Int32) (a2 : Int32) (a3 : Int32) (a5 : Int32) (s0 : Int32) (ta0 : hp_sh a0 = (10, 0)) (h : hp_T) (hF : fX10_readStart_142 k36 k107 a0 a1 a2 a3 a5 s0 h = some h1) : xr_j l G K 6 h [(0, .ref (G.2.2.1 a0)), (1, .int a1), (2, .int a2), (3, .int a3), (5, .int a5)] 142 [.int s0] := by
  unfold fX10_readStart_142 at hF
  refine xr_istore C [(4, .int s0), (0, .ref (G.2.2.1 a0)), (1, .int a1), (2, .int a2), (3, .int a3), (5, .int a5)] dX10_readStart_142 (Nat.le_of_ble_eq_true rfl) rfl ?_
  obtain ⟨x144, e144⟩ : ∃ y : Int32, y = (a5 + (1 : Int32)) := ⟨_, rfl⟩
  have hF := fx_letE hF x144 e144
  refine xr_iinc C x144 5 [(5, .int x144), (4, .int s0), (0, .ref (G.2.2.1 a0)), (1, .int a1), (2, .int a2), (3, .int a3)] dX10_readStart_144 rfl (by rw [e144]; rfl) (Nat.le_of_ble_eq_true rfl) rfl ?_
  refine xr_goto C 107 dX10_readStart_147 (by decide) ?_
  refine xr_sub [2, 3, 4, 5, 1, 0] [(0, .ref (G.2.2.1 a0)), (1, .int a1), (2, .int a2), (3, .int a3), (4, .int s0), (5, .int x144)] rfl ?_
  exact j107 a0 a1 a2 a3 s0 x144 ta0 h hF
def fX10_readStart_137 (k36 : Nat → Int32 → Int32 → hp_T → Option hp_T) (k107 : Nat → Int32 → Int32 → Int32 → Int32 → Int32 → hp_T → Option hp_T) (a0 : Nat) (a1 : Int32) (a2 : Int32) (a3 : Int32) (a5 : Int32) (h : hp_T) : Option hp_T := fX10_readStart_142 k36 k107 a0 a1 a2 a3 a5 (1 : Int32) h
set_option maxRecDepth 100000 in
set_option maxHeartbeats 4000000 in
theorem bX10_readStart_137 {l : Launch} {G : xr_G} {K : xr_K} {h1 : hp_T} (C : xr_C G K cX10_readStart RX10 6 (xr_R 7 205) none (some (xr_Qv G h1))) (k36 : Nat → Int32 → Int32 → hp_T → Option hp_T) (j36 : ∀ (a0 : Nat) (a1 : Int32) (a2 : Int32) (ta0 : hp_sh a0 = (10, 0)) (h : hp_T), k36 a0 a1 a2 h = some h1 → xr_j l G K 6 h [(0, .ref (G.2.2.1 a0)), (1, .int a1), (2, .int a2)] 36 []) (k107 : Nat → Int32 → Int32 → Int32 → Int32 → Int32 → hp_T → Option hp_T) (j107 : ∀ (a0 : Nat) (a1 : Int32) (a2 : Int32) (a3 : Int32) (a4 : Int32) (a5 : Int32) (ta0 : hp_sh a0 = (10, 0)) (h : hp_T), k107 a0 a1 a2 a3 a4 a5 h = some h1 → xr_j l G K 6 h [(0, .ref (G.2.2.1 a0)), (1, .int a1), (2, .int a2), (3, .int a3), (4, .int a4), (5, .int a5)] 107 []) (a0 : Nat) (a1 : Int32) (a2 : Int32) (a3 : Int32) (a5 : Int32) (ta0 : hp_sh a0 = (10, 0)) (h : hp_T) (hF : fX10_readStart_137 k36 k107 a0 a1 a2 a3 a5 h = some h1) : xr_j l G K 6 h [(0, .ref (G.2.2.1 a0)), (1, .int a1), (2, .int a2), (3, .int a3), (5, .int a5)] 137 [] := by
  unfold fX10_readStart_137 at hF
  refine xr_iconst (v := 1) C dX10_readStart_137 (by decide) ?_
  refine xr_goto C 142 dX10_readStart_138 (by decide) ?_
  exact bX10_readStart_142 C k36 j36 k107 j107  a0 a1 a2 a3 a5 (1 : Int32) ta0 h hF
def fX10_readStart_107 (k36 : Nat → Int32 → Int32 → hp_T → Option hp_T) : Nat → Nat → Int32 → Int32 → Int32 → Int32 → Int32 → hp_T → Option hp_T
  | 0, _, _, _, _, _, _, _ => none
  | n + 1, a0, a1, a2, a3, a4, a5, h => if a2 ≤ a5 then (if a4 = 0 then (fX10_readStart_160 k36 a0 a1 a2 a3 h) else (fx_b1 (fX10_wrong a0 (3 : Int32) h) fun (h157 : hp_T) => fX10_readStart_160 k36 a0 a1 a2 a3 h157)) else (if a4 = 0 then (fx_g (fx_in (((9 : Int32) + ((6 : Int32) * a1)) + a5) 117) (if (h.1 (h.2.2 a0 4) (fx_ix (((9 : Int32) + ((6 : Int32) * a1)) + a5))) = a3 then (fX10_readStart_137 k36 (fX10_readStart_107 k36 n) a0 a1 a2 a3 a5 h) else (fX10_readStart_142 k36 (fX10_readStart_107 k36 n) a0 a1 a2 a3 a5 (0 : Int32) h))) else (fX10_readStart_137 k36 (fX10_readStart_107 k36 n) a0 a1 a2 a3 a5 h))
set_option maxRecDepth 100000 in
set_option maxHeartbeats 4000000 in
theorem bX10_readStart_107 {l : Launch} {G : xr_G} {K : xr_K} {h1 : hp_T} (C : xr_C G K cX10_readStart RX10 6 (xr_R 7 205) none (some (xr_Qv G h1))) (k36 : Nat → Int32 → Int32 → hp_T → Option hp_T) (j36 : ∀ (a0 : Nat) (a1 : Int32) (a2 : Int32) (ta0 : hp_sh a0 = (10, 0)) (h : hp_T), k36 a0 a1 a2 h = some h1 → xr_j l G K 6 h [(0, .ref (G.2.2.1 a0)), (1, .int a1), (2, .int a2)] 36 []) : ∀ (n : Nat) (a0 : Nat) (a1 : Int32) (a2 : Int32) (a3 : Int32) (a4 : Int32) (a5 : Int32) (ta0 : hp_sh a0 = (10, 0)) (h : hp_T), fX10_readStart_107 k36 n a0 a1 a2 a3 a4 a5 h = some h1 → xr_j l G K 6 h [(0, .ref (G.2.2.1 a0)), (1, .int a1), (2, .int a2), (3, .int a3), (4, .int a4), (5, .int a5)] 107 [] := by
  intro n
  induction n with
  | zero =>
    intro a0 a1 a2 a3 a4 a5 ta0 h hF
    cases hF
  | succ n ih =>
    intro a0 a1 a2 a3 a4 a5 ta0 h hF
    rw [fX10_readStart_107] at hF
    refine xr_iload C 5 dX10_readStart_107 rfl ?_
    refine xr_iload_n C 2 dX10_readStart_109 rfl rfl ?_
    refine xr_icmp_ge C 150 dX10_readStart_110 (by decide) (fun c110 => ?_) (fun c110 => ?_)
    · have hF := fx_pos hF c110
      refine xr_iload C 4 dX10_readStart_150 rfl ?_
      refine xr_if_eq C 160 dX10_readStart_152 (by decide) (fun c152 => ?_) (fun c152 => ?_)
      · have hF := fx_pos hF c152
        refine xr_sub [0, 1, 2, 3] [(0, .ref (G.2.2.1 a0)), (1, .int a1), (2, .int a2), (3, .int a3)] rfl ?_
        exact bX10_readStart_160 C k36 j36  a0 a1 a2 a3 ta0 h hF
      · have hF := fx_neg hF c152
        refine xr_aload_n C 0 dX10_readStart_155 rfl rfl ?_
        refine xr_iconst (v := 3) C dX10_readStart_156 (by decide) ?_
        obtain ⟨h157, e157, hF⟩ := fx_b1E hF
        refine xr_callVv C mvX10_121 [.int (3 : Int32)] [] (mX10_wrong l G a0 (3 : Int32) ta0 h h157 e157) ta0 (by decide) vc10 rfl ⟨rfl, rfl, (Nat.le_of_ble_eq_true rfl), (Nat.le_of_ble_eq_true rfl)⟩ rfl (Nat.le_of_ble_eq_true rfl) dX10_readStart_157 ?_
        refine xr_sub [0, 1, 2, 3] [(0, .ref (G.2.2.1 a0)), (1, .int a1), (2, .int a2), (3, .int a3)] rfl ?_
        exact bX10_readStart_160 C k36 j36  a0 a1 a2 a3 ta0 h157 hF
    · have hF := fx_neg hF c110
      refine xr_iload C 4 dX10_readStart_113 rfl ?_
      refine xr_if_ne C 137 dX10_readStart_115 (by decide) (fun c115 => ?_) (fun c115 => ?_)
      · have hF := fx_neg hF c115
        refine xr_sub [0, 1, 2, 3, 5] [(0, .ref (G.2.2.1 a0)), (1, .int a1), (2, .int a2), (3, .int a3), (5, .int a5)] rfl ?_
        exact bX10_readStart_137 C k36 j36 (fX10_readStart_107 k36 n) (fun a0 a1 a2 a3 a4 a5 ta0 h hF => ih a0 a1 a2 a3 a4 a5 ta0 h hF)  a0 a1 a2 a3 a5 ta0 h hF
      · have hF := fx_pos hF c115
        refine xr_aload_n C 0 dX10_readStart_118 rfl rfl ?_
        refine xr_getr C flX10_16 rfl (by decide) dX10_readStart_119 ta0 (fun t119 => ?_)
        refine xr_bipush (v := 9) C dX10_readStart_122 (by decide) ?_
        refine xr_bipush (v := 6) C dX10_readStart_124 (by decide) ?_
        refine xr_iload_n C 1 dX10_readStart_126 rfl rfl ?_
        refine xr_imul C dX10_readStart_127 ?_
        refine xr_iadd C dX10_readStart_128 ?_
        refine xr_iload C 5 dX10_readStart_129 rfl ?_
        refine xr_iadd C dX10_readStart_131 ?_
        obtain ⟨g132, hF⟩ := fx_gE hF
        refine xr_iald C dX10_readStart_132 t119 g132 ?_
        refine xr_iload_n C 3 dX10_readStart_133 rfl rfl ?_
        refine xr_icmp_ne C 141 dX10_readStart_134 (by decide) (fun c134 => ?_) (fun c134 => ?_)
        · have hF := fx_neg hF c134
          refine xr_iconst (v := 0) C dX10_readStart_141 (by decide) ?_
          refine xr_sub [0, 1, 2, 3, 5] [(0, .ref (G.2.2.1 a0)), (1, .int a1), (2, .int a2), (3, .int a3), (5, .int a5)] rfl ?_
          exact bX10_readStart_142 C k36 j36 (fX10_readStart_107 k36 n) (fun a0 a1 a2 a3 a4 a5 ta0 h hF => ih a0 a1 a2 a3 a4 a5 ta0 h hF)  a0 a1 a2 a3 a5 (0 : Int32) ta0 h hF
        · have hF := fx_pos hF c134
          refine xr_sub [0, 1, 2, 3, 5] [(0, .ref (G.2.2.1 a0)), (1, .int a1), (2, .int a2), (3, .int a3), (5, .int a5)] rfl ?_
          exact bX10_readStart_137 C k36 j36 (fX10_readStart_107 k36 n) (fun a0 a1 a2 a3 a4 a5 ta0 h hF => ih a0 a1 a2 a3 a4 a5 ta0 h hF)  a0 a1 a2 a3 a5 ta0 h hF
def fX10_readStart_102 (k36 : Nat → Int32 → Int32 → hp_T → Option hp_T) (a0 : Nat) (a1 : Int32) (a2 : Int32) (a3 : Int32) (s0 : Int32) (h : hp_T) : Option hp_T := fX10_readStart_107 k36 fx_N a0 a1 a2 a3 s0 (0 : Int32) h
set_option maxRecDepth 100000 in
set_option maxHeartbeats 4000000 in
theorem bX10_readStart_102 {l : Launch} {G : xr_G} {K : xr_K} {h1 : hp_T} (C : xr_C G K cX10_readStart RX10 6 (xr_R 7 205) none (some (xr_Qv G h1))) (k36 : Nat → Int32 → Int32 → hp_T → Option hp_T) (j36 : ∀ (a0 : Nat) (a1 : Int32) (a2 : Int32) (ta0 : hp_sh a0 = (10, 0)) (h : hp_T), k36 a0 a1 a2 h = some h1 → xr_j l G K 6 h [(0, .ref (G.2.2.1 a0)), (1, .int a1), (2, .int a2)] 36 []) (a0 : Nat) (a1 : Int32) (a2 : Int32) (a3 : Int32) (s0 : Int32) (ta0 : hp_sh a0 = (10, 0)) (h : hp_T) (hF : fX10_readStart_102 k36 a0 a1 a2 a3 s0 h = some h1) : xr_j l G K 6 h [(0, .ref (G.2.2.1 a0)), (1, .int a1), (2, .int a2), (3, .int a3)] 102 [.int s0] := by
  unfold fX10_readStart_102 at hF
  refine xr_istore C [(4, .int s0), (0, .ref (G.2.2.1 a0)), (1, .int a1), (2, .int a2), (3, .int a3)] dX10_readStart_102 (Nat.le_of_ble_eq_true rfl) rfl ?_
  refine xr_iconst (v := 0) C dX10_readStart_104 (by decide) ?_
  refine xr_istore C [(5, .int (0 : Int32)), (4, .int s0), (0, .ref (G.2.2.1 a0)), (1, .int a1), (2, .int a2), (3, .int a3)] dX10_readStart_105 (Nat.le_of_ble_eq_true rfl) rfl ?_
  refine xr_sub [2, 3, 4, 5, 1, 0] [(0, .ref (G.2.2.1 a0)), (1, .int a1), (2, .int a2), (3, .int a3), (4, .int s0), (5, .int (0 : Int32))] rfl ?_
  exact bX10_readStart_107 C k36 j36 fx_N a0 a1 a2 a3 s0 (0 : Int32) ta0 h hF
def fX10_readStart_70 (k36 : Nat → Int32 → Int32 → hp_T → Option hp_T) (a0 : Nat) (a1 : Int32) (a2 : Int32) (h : hp_T) : Option hp_T := if (h.1 a0 14) = 0 then (fx_b2 (fX10_namedOf a0 a1 h) fun (r80 : Int32) (h80 : hp_T) => fx_g (fx_in ((7 : Int32) + a1) 117) (if r80 = (h80.1 (h80.2.2 a0 4) (fx_ix ((7 : Int32) + a1))) then (fX10_readStart_102 k36 a0 a1 a2 r80 (1 : Int32) h80) else (fX10_readStart_102 k36 a0 a1 a2 r80 (0 : Int32) h80))) else (some h)
set_option maxRecDepth 100000 in
set_option maxHeartbeats 4000000 in
theorem bX10_readStart_70 {l : Launch} {G : xr_G} {K : xr_K} {h1 : hp_T} (C : xr_C G K cX10_readStart RX10 6 (xr_R 7 205) none (some (xr_Qv G h1))) (k36 : Nat → Int32 → Int32 → hp_T → Option hp_T) (j36 : ∀ (a0 : Nat) (a1 : Int32) (a2 : Int32) (ta0 : hp_sh a0 = (10, 0)) (h : hp_T), k36 a0 a1 a2 h = some h1 → xr_j l G K 6 h [(0, .ref (G.2.2.1 a0)), (1, .int a1), (2, .int a2)] 36 []) (a0 : Nat) (a1 : Int32) (a2 : Int32) (ta0 : hp_sh a0 = (10, 0)) (h : hp_T) (hF : fX10_readStart_70 k36 a0 a1 a2 h = some h1) : xr_j l G K 6 h [(0, .ref (G.2.2.1 a0)), (1, .int a1), (2, .int a2)] 70 [] := by
  unfold fX10_readStart_70 at hF
  refine xr_aload_n C 0 dX10_readStart_70 rfl rfl ?_
  refine xr_geti C flX10_112 rfl dX10_readStart_71 ta0 ?_
  refine xr_if_eq C 78 dX10_readStart_74 (by decide) (fun c74 => ?_) (fun c74 => ?_)
  · have hF := fx_pos hF c74
    refine xr_aload_n C 0 dX10_readStart_78 rfl rfl ?_
    refine xr_iload_n C 1 dX10_readStart_79 rfl rfl ?_
    obtain ⟨r80, h80, e80, hF⟩ := fx_b2E hF
    refine xr_callVi C mvX10_132 [.int a1] [] (mX10_namedOf l G a0 a1 ta0 h h80 r80 e80) ta0 (by decide) vc10 rfl ⟨rfl, rfl, (Nat.le_of_ble_eq_true rfl), (Nat.le_of_ble_eq_true rfl)⟩ rfl (Nat.le_of_ble_eq_true rfl) dX10_readStart_80 ?_
    refine xr_istore_n C [(3, .int r80), (0, .ref (G.2.2.1 a0)), (1, .int a1), (2, .int a2)] dX10_readStart_83 rfl (Nat.le_of_ble_eq_true rfl) rfl ?_
    refine xr_iload_n C 0 dX10_readStart_84 rfl rfl ?_
    refine xr_aload_n C 1 dX10_readStart_85 rfl rfl ?_
    refine xr_getr C flX10_16 rfl (by decide) dX10_readStart_86 ta0 (fun t86 => ?_)
    refine xr_bipush (v := 7) C dX10_readStart_89 (by decide) ?_
    refine xr_iload_n C 2 dX10_readStart_91 rfl rfl ?_
    refine xr_iadd C dX10_readStart_92 ?_
    obtain ⟨g93, hF⟩ := fx_gE hF
    refine xr_iald C dX10_readStart_93 t86 g93 ?_
    refine xr_icmp_ne C 101 dX10_readStart_94 (by decide) (fun c94 => ?_) (fun c94 => ?_)
    · have hF := fx_neg hF c94
      refine xr_iconst (v := 0) C dX10_readStart_101 (by decide) ?_
      refine xr_sub [1, 2, 3, 0] [(0, .ref (G.2.2.1 a0)), (1, .int a1), (2, .int a2), (3, .int r80)] rfl ?_
      exact bX10_readStart_102 C k36 j36  a0 a1 a2 r80 (0 : Int32) ta0 h80 hF
    · have hF := fx_pos hF c94
      refine xr_iconst (v := 1) C dX10_readStart_97 (by decide) ?_
      refine xr_goto C 102 dX10_readStart_98 (by decide) ?_
      refine xr_sub [1, 2, 3, 0] [(0, .ref (G.2.2.1 a0)), (1, .int a1), (2, .int a2), (3, .int r80)] rfl ?_
      exact bX10_readStart_102 C k36 j36  a0 a1 a2 r80 (1 : Int32) ta0 h80 hF
  · have hF := fx_neg hF c74
    cases hF
    exact xr_vret C dX10_readStart_77
def fX10_readStart_65 (k36 : Nat → Int32 → Int32 → hp_T → Option hp_T) (a0 : Nat) (a1 : Int32) (a2 : Int32) (h : hp_T) : Option hp_T := fx_b1 (fX10_wrong a0 (1 : Int32) h) fun (h67 : hp_T) => fX10_readStart_70 k36 a0 a1 a2 h67
set_option maxRecDepth 100000 in
set_option maxHeartbeats 4000000 in
theorem bX10_readStart_65 {l : Launch} {G : xr_G} {K : xr_K} {h1 : hp_T} (C : xr_C G K cX10_readStart RX10 6 (xr_R 7 205) none (some (xr_Qv G h1))) (k36 : Nat → Int32 → Int32 → hp_T → Option hp_T) (j36 : ∀ (a0 : Nat) (a1 : Int32) (a2 : Int32) (ta0 : hp_sh a0 = (10, 0)) (h : hp_T), k36 a0 a1 a2 h = some h1 → xr_j l G K 6 h [(0, .ref (G.2.2.1 a0)), (1, .int a1), (2, .int a2)] 36 []) (a0 : Nat) (a1 : Int32) (a2 : Int32) (ta0 : hp_sh a0 = (10, 0)) (h : hp_T) (hF : fX10_readStart_65 k36 a0 a1 a2 h = some h1) : xr_j l G K 6 h [(0, .ref (G.2.2.1 a0)), (1, .int a1), (2, .int a2)] 65 [] := by
  unfold fX10_readStart_65 at hF
  refine xr_aload_n C 0 dX10_readStart_65 rfl rfl ?_
  refine xr_iconst (v := 1) C dX10_readStart_66 (by decide) ?_
  obtain ⟨h67, e67, hF⟩ := fx_b1E hF
  refine xr_callVv C mvX10_121 [.int (1 : Int32)] [] (mX10_wrong l G a0 (1 : Int32) ta0 h h67 e67) ta0 (by decide) vc10 rfl ⟨rfl, rfl, (Nat.le_of_ble_eq_true rfl), (Nat.le_of_ble_eq_true rfl)⟩ rfl (Nat.le_of_ble_eq_true rfl) dX10_readStart_67 ?_
  exact bX10_readStart_70 C k36 j36  a0 a1 a2 ta0 h67 hF
def fX10_readStart_36  : Nat → Nat → Int32 → Int32 → hp_T → Option hp_T
  | 0, _, _, _, _ => none
  | n + 1, a0, a1, a2, h => if (6 : Int32) ≤ a2 then (fx_g (fx_in a1 2) (fx_let (hp_sI h (h.2.2 a0 19) (fx_ix a1) (1 : Int32)) fun (h191 : hp_T) => some h191)) else (if (h.1 a0 14) = 0 then (fx_b2 (fX10_isOther a0 h) fun (r50 : Int32) (h50 : hp_T) => if r50 = 0 then (fX10_readStart_65 (fX10_readStart_36 n) a0 a1 a2 h50) else (fx_b2 (fX10_namedOf a0 a1 h50) fun (r58 : Int32) (h58 : hp_T) => if r58 = (-1 : Int32) then (fX10_readStart_65 (fX10_readStart_36 n) a0 a1 a2 h58) else (fX10_readStart_70 (fX10_readStart_36 n) a0 a1 a2 h58))) else (fX10_readStart_70 (fX10_readStart_36 n) a0 a1 a2 h))
set_option maxRecDepth 100000 in
set_option maxHeartbeats 4000000 in
theorem bX10_readStart_36 {l : Launch} {G : xr_G} {K : xr_K} {h1 : hp_T} (C : xr_C G K cX10_readStart RX10 6 (xr_R 7 205) none (some (xr_Qv G h1)))  : ∀ (n : Nat) (a0 : Nat) (a1 : Int32) (a2 : Int32) (ta0 : hp_sh a0 = (10, 0)) (h : hp_T), fX10_readStart_36 n a0 a1 a2 h = some h1 → xr_j l G K 6 h [(0, .ref (G.2.2.1 a0)), (1, .int a1), (2, .int a2)] 36 [] := by
  intro n
  induction n with
  | zero =>
    intro a0 a1 a2 ta0 h hF
    cases hF
  | succ n ih =>
    intro a0 a1 a2 ta0 h hF
    rw [fX10_readStart_36] at hF
    refine xr_iload_n C 2 dX10_readStart_36 rfl rfl ?_
    refine xr_bipush (v := 6) C dX10_readStart_37 (by decide) ?_
    refine xr_icmp_ge C 185 dX10_readStart_39 (by decide) (fun c39 => ?_) (fun c39 => ?_)
    · have hF := fx_pos hF c39
      refine xr_aload_n C 0 dX10_readStart_185 rfl rfl ?_
      refine xr_getr C flX10_33 rfl (by decide) dX10_readStart_186 ta0 (fun t186 => ?_)
      refine xr_iload_n C 1 dX10_readStart_189 rfl rfl ?_
      refine xr_iconst (v := 1) C dX10_readStart_190 (by decide) ?_
      obtain ⟨g191, hF⟩ := fx_gE hF
      refine xr_zast C dX10_readStart_191 t186 g191 (by decide) (fun h191 e191 => ?_)
      have hF := fx_letE hF h191 e191
      cases hF
      exact xr_vret C dX10_readStart_192
    · have hF := fx_neg hF c39
      refine xr_aload_n C 0 dX10_readStart_42 rfl rfl ?_
      refine xr_geti C flX10_112 rfl dX10_readStart_43 ta0 ?_
      refine xr_if_ne C 70 dX10_readStart_46 (by decide) (fun c46 => ?_) (fun c46 => ?_)
      · have hF := fx_neg hF c46
        exact bX10_readStart_70 C (fX10_readStart_36 n) (fun a0 a1 a2 ta0 h hF => ih a0 a1 a2 ta0 h hF)  a0 a1 a2 ta0 h hF
      · have hF := fx_pos hF c46
        refine xr_aload_n C 0 dX10_readStart_49 rfl rfl ?_
        obtain ⟨r50, h50, e50, hF⟩ := fx_b2E hF
        refine xr_callVi C mvX10_128 [] [] (mX10_isOther l G a0 ta0 h h50 r50 e50) ta0 (by decide) vc10 rfl ⟨rfl, rfl, (Nat.le_of_ble_eq_true rfl), (Nat.le_of_ble_eq_true rfl)⟩ rfl (Nat.le_of_ble_eq_true rfl) dX10_readStart_50 ?_
        refine xr_if_eq C 65 dX10_readStart_53 (by decide) (fun c53 => ?_) (fun c53 => ?_)
        · have hF := fx_pos hF c53
          exact bX10_readStart_65 C (fX10_readStart_36 n) (fun a0 a1 a2 ta0 h hF => ih a0 a1 a2 ta0 h hF)  a0 a1 a2 ta0 h50 hF
        · have hF := fx_neg hF c53
          refine xr_aload_n C 0 dX10_readStart_56 rfl rfl ?_
          refine xr_iload_n C 1 dX10_readStart_57 rfl rfl ?_
          obtain ⟨r58, h58, e58, hF⟩ := fx_b2E hF
          refine xr_callVi C mvX10_132 [.int a1] [] (mX10_namedOf l G a0 a1 ta0 h50 h58 r58 e58) ta0 (by decide) vc10 rfl ⟨rfl, rfl, (Nat.le_of_ble_eq_true rfl), (Nat.le_of_ble_eq_true rfl)⟩ rfl (Nat.le_of_ble_eq_true rfl) dX10_readStart_58 ?_
          refine xr_iconst (v := -1) C dX10_readStart_61 (by decide) ?_
          refine xr_icmp_ne C 70 dX10_readStart_62 (by decide) (fun c62 => ?_) (fun c62 => ?_)
          · have hF := fx_neg hF c62
            exact bX10_readStart_70 C (fX10_readStart_36 n) (fun a0 a1 a2 ta0 h hF => ih a0 a1 a2 ta0 h hF)  a0 a1 a2 ta0 h58 hF
          · have hF := fx_pos hF c62
            exact bX10_readStart_65 C (fX10_readStart_36 n) (fun a0 a1 a2 ta0 h hF => ih a0 a1 a2 ta0 h hF)  a0 a1 a2 ta0 h58 hF
def fX10_readStart_30  (a0 : Nat) (a1 : Int32) (h : hp_T) : Option hp_T := fx_b1 (fX10_goOn a0 h) fun (h31 : hp_T) => fX10_readStart_36 fx_N a0 a1 (0 : Int32) h31
set_option maxRecDepth 100000 in
set_option maxHeartbeats 4000000 in
theorem bX10_readStart_30 {l : Launch} {G : xr_G} {K : xr_K} {h1 : hp_T} (C : xr_C G K cX10_readStart RX10 6 (xr_R 7 205) none (some (xr_Qv G h1)))  (a0 : Nat) (a1 : Int32) (ta0 : hp_sh a0 = (10, 0)) (h : hp_T) (hF : fX10_readStart_30 a0 a1 h = some h1) : xr_j l G K 6 h [(0, .ref (G.2.2.1 a0)), (1, .int a1)] 30 [] := by
  unfold fX10_readStart_30 at hF
  refine xr_aload_n C 0 dX10_readStart_30 rfl rfl ?_
  obtain ⟨h31, e31, hF⟩ := fx_b1E hF
  refine xr_callVv C mvX10_125 [] [] (mX10_goOn l G a0 ta0 h h31 e31) ta0 (by decide) vc10 rfl ⟨rfl, rfl, (Nat.le_of_ble_eq_true rfl), (Nat.le_of_ble_eq_true rfl)⟩ rfl (Nat.le_of_ble_eq_true rfl) dX10_readStart_31 ?_
  refine xr_iconst (v := 0) C dX10_readStart_34 (by decide) ?_
  refine xr_istore_n C [(2, .int (0 : Int32)), (0, .ref (G.2.2.1 a0)), (1, .int a1)] dX10_readStart_35 rfl (Nat.le_of_ble_eq_true rfl) rfl ?_
  refine xr_sub [1, 2, 0] [(0, .ref (G.2.2.1 a0)), (1, .int a1), (2, .int (0 : Int32))] rfl ?_
  exact bX10_readStart_36 C  fx_N a0 a1 (0 : Int32) ta0 h31 hF
def fX10_readStart (a0 : Nat) (h : hp_T) : Option hp_T := fx_b1 (fX10_goOn a0 h) fun (h1 : hp_T) => fx_b2 (fX10_sideHere a0 h1) fun (r5 : Int32) (h5 : hp_T) => if (h5.1 a0 14) = 0 then (fx_g (fx_in r5 2) (if (h5.1 (h5.2.2 a0 19) (fx_ix r5)) = 0 then (fX10_readStart_30 a0 r5 h5) else (fx_b1 (fX10_wrong a0 (3 : Int32) h5) fun (h27 : hp_T) => fX10_readStart_30 a0 r5 h27))) else (fX10_readStart_30 a0 r5 h5)
set_option maxRecDepth 100000 in
set_option maxHeartbeats 4000000 in
theorem mX10_readStart (l : Launch) (G : xr_G) (a0 : Nat) (ta0 : hp_sh a0 = (10, 0)) (h h1 : hp_T) (hF : fX10_readStart a0 h = some h1) : xr_M l G yX10_readStart cX10_readStart 6 (xr_R 7 205) none [.ref (G.2.2.1 a0)] h (xr_Qv G h1) := by
  refine xr_start rfl (Nat.le_of_ble_eq_true rfl) (fun K C => ?_)
  show xr_j l G K 6 h [(0, .ref (G.2.2.1 a0))] 0 []
  unfold fX10_readStart at hF
  refine xr_aload_n C 0 dX10_readStart_0 rfl rfl ?_
  obtain ⟨h1, e1, hF⟩ := fx_b1E hF
  refine xr_callVv C mvX10_125 [] [] (mX10_goOn l G a0 ta0 h h1 e1) ta0 (by decide) vc10 rfl ⟨rfl, rfl, (Nat.le_of_ble_eq_true rfl), (Nat.le_of_ble_eq_true rfl)⟩ rfl (Nat.le_of_ble_eq_true rfl) dX10_readStart_1 ?_
  refine xr_aload_n C 0 dX10_readStart_4 rfl rfl ?_
  obtain ⟨r5, h5, e5, hF⟩ := fx_b2E hF
  refine xr_callVi C mvX10_140 [] [] (mX10_sideHere l G a0 ta0 h1 h5 r5 e5) ta0 (by decide) vc10 rfl ⟨rfl, rfl, (Nat.le_of_ble_eq_true rfl), (Nat.le_of_ble_eq_true rfl)⟩ rfl (Nat.le_of_ble_eq_true rfl) dX10_readStart_5 ?_
  refine xr_istore_n C [(1, .int r5), (0, .ref (G.2.2.1 a0))] dX10_readStart_8 rfl (Nat.le_of_ble_eq_true rfl) rfl ?_
  refine xr_aload_n C 1 dX10_readStart_9 rfl rfl ?_
  refine xr_geti C flX10_112 rfl dX10_readStart_10 ta0 ?_
  refine xr_if_ne C 30 dX10_readStart_13 (by decide) (fun c13 => ?_) (fun c13 => ?_)
  · have hF := fx_neg hF c13
    refine xr_sub [1, 0] [(0, .ref (G.2.2.1 a0)), (1, .int r5)] rfl ?_
    exact bX10_readStart_30 C   a0 r5 ta0 h5 hF
  · have hF := fx_pos hF c13
    refine xr_aload_n C 1 dX10_readStart_16 rfl rfl ?_
    refine xr_getr C flX10_33 rfl (by decide) dX10_readStart_17 ta0 (fun t17 => ?_)
    refine xr_iload_n C 0 dX10_readStart_20 rfl rfl ?_
    obtain ⟨g21, hF⟩ := fx_gE hF
    refine xr_zald C dX10_readStart_21 t17 g21 ?_
    refine xr_if_eq C 30 dX10_readStart_22 (by decide) (fun c22 => ?_) (fun c22 => ?_)
    · have hF := fx_pos hF c22
      refine xr_sub [1, 0] [(0, .ref (G.2.2.1 a0)), (1, .int r5)] rfl ?_
      exact bX10_readStart_30 C   a0 r5 ta0 h5 hF
    · have hF := fx_neg hF c22
      refine xr_aload_n C 1 dX10_readStart_25 rfl rfl ?_
      refine xr_iconst (v := 3) C dX10_readStart_26 (by decide) ?_
      obtain ⟨h27, e27, hF⟩ := fx_b1E hF
      refine xr_callVv C mvX10_121 [.int (3 : Int32)] [] (mX10_wrong l G a0 (3 : Int32) ta0 h5 h27 e27) ta0 (by decide) vc10 rfl ⟨rfl, rfl, (Nat.le_of_ble_eq_true rfl), (Nat.le_of_ble_eq_true rfl)⟩ rfl (Nat.le_of_ble_eq_true rfl) dX10_readStart_27 ?_
      refine xr_sub [1, 0] [(0, .ref (G.2.2.1 a0)), (1, .int r5)] rfl ?_
      exact bX10_readStart_30 C   a0 r5 ta0 h27 hF
theorem dX10_readLine_0 : decode cX10_readLine 0 = .ok (.aload_n 0, 1) := by decide +kernel
theorem dX10_readLine_1 : decode cX10_readLine 1 = .ok (.getfield 82, 3) := by decide +kernel
theorem dX10_readLine_4 : decode cX10_readLine 4 = .ok (.ifCond .ne 10, 3) := by decide +kernel
theorem dX10_readLine_7 : decode cX10_readLine 7 = .ok (.aload_n 0, 1) := by decide +kernel
theorem dX10_readLine_8 : decode cX10_readLine 8 = .ok (.getfield 95, 3) := by decide +kernel
theorem dX10_readLine_11 : decode cX10_readLine 11 = .ok (.goto 4, 3) := by decide +kernel
theorem dX10_readLine_14 : decode cX10_readLine 14 = .ok (.iconst (-1), 1) := by decide +kernel
theorem dX10_readLine_15 : decode cX10_readLine 15 = .ok (.istore_n 1, 1) := by decide +kernel
theorem dX10_readLine_16 : decode cX10_readLine 16 = .ok (.iload_n 1, 1) := by decide +kernel
theorem dX10_readLine_17 : decode cX10_readLine 17 = .ok (.ifCond .eq 8, 3) := by decide +kernel
theorem dX10_readLine_20 : decode cX10_readLine 20 = .ok (.iload_n 1, 1) := by decide +kernel
theorem dX10_readLine_21 : decode cX10_readLine 21 = .ok (.iconst 1, 1) := by decide +kernel
theorem dX10_readLine_22 : decode cX10_readLine 22 = .ok (.if_icmp .ne 11, 3) := by decide +kernel
theorem dX10_readLine_25 : decode cX10_readLine 25 = .ok (.aload_n 0, 1) := by decide +kernel
theorem dX10_readLine_26 : decode cX10_readLine 26 = .ok (.iload_n 1, 1) := by decide +kernel
theorem dX10_readLine_27 : decode cX10_readLine 27 = .ok (.invokevirtual 143, 3) := by decide +kernel
theorem dX10_readLine_30 : decode cX10_readLine 30 = .ok (.goto 132, 3) := by decide +kernel
theorem dX10_readLine_33 : decode cX10_readLine 33 = .ok (.iload_n 1, 1) := by decide +kernel
theorem dX10_readLine_34 : decode cX10_readLine 34 = .ok (.iconst 2, 1) := by decide +kernel
theorem dX10_readLine_35 : decode cX10_readLine 35 = .ok (.if_icmp .eq 13, 3) := by decide +kernel
theorem dX10_readLine_38 : decode cX10_readLine 38 = .ok (.iload_n 1, 1) := by decide +kernel
theorem dX10_readLine_39 : decode cX10_readLine 39 = .ok (.iconst 3, 1) := by decide +kernel
theorem dX10_readLine_40 : decode cX10_readLine 40 = .ok (.if_icmp .eq 8, 3) := by decide +kernel
theorem dX10_readLine_43 : decode cX10_readLine 43 = .ok (.iload_n 1, 1) := by decide +kernel
theorem dX10_readLine_44 : decode cX10_readLine 44 = .ok (.iconst 4, 1) := by decide +kernel
theorem dX10_readLine_45 : decode cX10_readLine 45 = .ok (.if_icmp .ne 59, 3) := by decide +kernel
theorem dX10_readLine_48 : decode cX10_readLine 48 = .ok (.aload_n 0, 1) := by decide +kernel
theorem dX10_readLine_49 : decode cX10_readLine 49 = .ok (.iload_n 1, 1) := by decide +kernel
theorem dX10_readLine_50 : decode cX10_readLine 50 = .ok (.invokevirtual 146, 3) := by decide +kernel
theorem dX10_readLine_53 : decode cX10_readLine 53 = .ok (.iload_n 1, 1) := by decide +kernel
theorem dX10_readLine_54 : decode cX10_readLine 54 = .ok (.iconst 2, 1) := by decide +kernel
theorem dX10_readLine_55 : decode cX10_readLine 55 = .ok (.if_icmp .ne 13, 3) := by decide +kernel
theorem dX10_readLine_58 : decode cX10_readLine 58 = .ok (.aload_n 0, 1) := by decide +kernel
theorem dX10_readLine_59 : decode cX10_readLine 59 = .ok (.iconst 3, 1) := by decide +kernel
theorem dX10_readLine_60 : decode cX10_readLine 60 = .ok (.bipush 25, 2) := by decide +kernel
theorem dX10_readLine_62 : decode cX10_readLine 62 = .ok (.invokevirtual 136, 3) := by decide +kernel
theorem dX10_readLine_65 : decode cX10_readLine 65 = .ok (.goto 26, 3) := by decide +kernel
theorem dX10_readLine_68 : decode cX10_readLine 68 = .ok (.iload_n 1, 1) := by decide +kernel
theorem dX10_readLine_69 : decode cX10_readLine 69 = .ok (.iconst 3, 1) := by decide +kernel
theorem dX10_readLine_70 : decode cX10_readLine 70 = .ok (.if_icmp .ne 13, 3) := by decide +kernel
theorem dX10_readLine_73 : decode cX10_readLine 73 = .ok (.aload_n 0, 1) := by decide +kernel
theorem dX10_readLine_74 : decode cX10_readLine 74 = .ok (.iconst 0, 1) := by decide +kernel
theorem dX10_readLine_75 : decode cX10_readLine 75 = .ok (.bipush 12, 2) := by decide +kernel
theorem dX10_readLine_77 : decode cX10_readLine 77 = .ok (.invokevirtual 136, 3) := by decide +kernel
theorem dX10_readLine_80 : decode cX10_readLine 80 = .ok (.goto 11, 3) := by decide +kernel
theorem dX10_readLine_83 : decode cX10_readLine 83 = .ok (.aload_n 0, 1) := by decide +kernel
theorem dX10_readLine_84 : decode cX10_readLine 84 = .ok (.iconst 0, 1) := by decide +kernel
theorem dX10_readLine_85 : decode cX10_readLine 85 = .ok (.sipush 300, 3) := by decide +kernel
theorem dX10_readLine_88 : decode cX10_readLine 88 = .ok (.invokevirtual 136, 3) := by decide +kernel
theorem dX10_readLine_91 : decode cX10_readLine 91 = .ok (.istore_n 2, 1) := by decide +kernel
theorem dX10_readLine_92 : decode cX10_readLine 92 = .ok (.aload_n 0, 1) := by decide +kernel
theorem dX10_readLine_93 : decode cX10_readLine 93 = .ok (.getfield 16, 3) := by decide +kernel
theorem dX10_readLine_96 : decode cX10_readLine 96 = .ok (.iload_n 1, 1) := by decide +kernel
theorem dX10_readLine_97 : decode cX10_readLine 97 = .ok (.iconst 2, 1) := by decide +kernel
theorem dX10_readLine_98 : decode cX10_readLine 98 = .ok (.isub, 1) := by decide +kernel
theorem dX10_readLine_99 : decode cX10_readLine 99 = .ok (.iload_n 2, 1) := by decide +kernel
theorem dX10_readLine_100 : decode cX10_readLine 100 = .ok (.iastore, 1) := by decide +kernel
theorem dX10_readLine_101 : decode cX10_readLine 101 = .ok (.goto 61, 3) := by decide +kernel
theorem dX10_readLine_104 : decode cX10_readLine 104 = .ok (.iload_n 1, 1) := by decide +kernel
theorem dX10_readLine_105 : decode cX10_readLine 105 = .ok (.iconst 5, 1) := by decide +kernel
theorem dX10_readLine_106 : decode cX10_readLine 106 = .ok (.if_icmp .ne 10, 3) := by decide +kernel
theorem dX10_readLine_109 : decode cX10_readLine 109 = .ok (.aload_n 0, 1) := by decide +kernel
theorem dX10_readLine_110 : decode cX10_readLine 110 = .ok (.invokevirtual 149, 3) := by decide +kernel
theorem dX10_readLine_113 : decode cX10_readLine 113 = .ok (.goto 49, 3) := by decide +kernel
theorem dX10_readLine_116 : decode cX10_readLine 116 = .ok (.iload_n 1, 1) := by decide +kernel
theorem dX10_readLine_117 : decode cX10_readLine 117 = .ok (.bipush 6, 2) := by decide +kernel
theorem dX10_readLine_119 : decode cX10_readLine 119 = .ok (.if_icmp .ne 10, 3) := by decide +kernel
theorem dX10_readLine_122 : decode cX10_readLine 122 = .ok (.aload_n 0, 1) := by decide +kernel
theorem dX10_readLine_123 : decode cX10_readLine 123 = .ok (.invokevirtual 152, 3) := by decide +kernel
theorem dX10_readLine_126 : decode cX10_readLine 126 = .ok (.goto 36, 3) := by decide +kernel
theorem dX10_readLine_129 : decode cX10_readLine 129 = .ok (.iload_n 1, 1) := by decide +kernel
theorem dX10_readLine_130 : decode cX10_readLine 130 = .ok (.bipush 7, 2) := by decide +kernel
theorem dX10_readLine_132 : decode cX10_readLine 132 = .ok (.if_icmp .ne 25, 3) := by decide +kernel
theorem dX10_readLine_135 : decode cX10_readLine 135 = .ok (.aload_n 0, 1) := by decide +kernel
theorem dX10_readLine_136 : decode cX10_readLine 136 = .ok (.iload_n 1, 1) := by decide +kernel
theorem dX10_readLine_137 : decode cX10_readLine 137 = .ok (.invokevirtual 146, 3) := by decide +kernel
theorem dX10_readLine_140 : decode cX10_readLine 140 = .ok (.aload_n 0, 1) := by decide +kernel
theorem dX10_readLine_141 : decode cX10_readLine 141 = .ok (.getfield 16, 3) := by decide +kernel
theorem dX10_readLine_144 : decode cX10_readLine 144 = .ok (.iconst 3, 1) := by decide +kernel
theorem dX10_readLine_145 : decode cX10_readLine 145 = .ok (.aload_n 0, 1) := by decide +kernel
theorem dX10_readLine_146 : decode cX10_readLine 146 = .ok (.invokevirtual 140, 3) := by decide +kernel
theorem dX10_readLine_149 : decode cX10_readLine 149 = .ok (.iastore, 1) := by decide +kernel
theorem dX10_readLine_150 : decode cX10_readLine 150 = .ok (.aload_n 0, 1) := by decide +kernel
theorem dX10_readLine_151 : decode cX10_readLine 151 = .ok (.invokevirtual 125, 3) := by decide +kernel
theorem dX10_readLine_154 : decode cX10_readLine 154 = .ok (.goto 8, 3) := by decide +kernel
theorem dX10_readLine_157 : decode cX10_readLine 157 = .ok (.aload_n 0, 1) := by decide +kernel
theorem dX10_readLine_158 : decode cX10_readLine 158 = .ok (.iconst 1, 1) := by decide +kernel
theorem dX10_readLine_159 : decode cX10_readLine 159 = .ok (.invokevirtual 121, 3) := by decide +kernel
theorem dX10_readLine_162 : decode cX10_readLine 162 = .ok (.aload_n 0, 1) := by decide +kernel
theorem dX10_readLine_163 : decode cX10_readLine 163 = .ok (.getfield 112, 3) := by decide +kernel
theorem dX10_readLine_166 : decode cX10_readLine 166 = .ok (.ifCond .ne 16, 3) := by decide +kernel
theorem dX10_readLine_169 : decode cX10_readLine 169 = .ok (.aload_n 0, 1) := by decide +kernel
theorem dX10_readLine_170 : decode cX10_readLine 170 = .ok (.getfield 82, 3) := by decide +kernel
theorem dX10_readLine_173 : decode cX10_readLine 173 = .ok (.iconst 2, 1) := by decide +kernel
theorem dX10_readLine_174 : decode cX10_readLine 174 = .ok (.if_icmp .eq 8, 3) := by decide +kernel
theorem dX10_readLine_177 : decode cX10_readLine 177 = .ok (.aload_n 0, 1) := by decide +kernel
theorem dX10_readLine_178 : decode cX10_readLine 178 = .ok (.iconst 1, 1) := by decide +kernel
theorem dX10_readLine_179 : decode cX10_readLine 179 = .ok (.invokevirtual 121, 3) := by decide +kernel
theorem dX10_readLine_182 : decode cX10_readLine 182 = .ok (.aload_n 0, 1) := by decide +kernel
theorem dX10_readLine_183 : decode cX10_readLine 183 = .ok (.invokevirtual 125, 3) := by decide +kernel
theorem dX10_readLine_186 : decode cX10_readLine 186 = .ok (.aload_n 0, 1) := by decide +kernel
theorem dX10_readLine_187 : decode cX10_readLine 187 = .ok (.getfield 16, 3) := by decide +kernel
theorem dX10_readLine_190 : decode cX10_readLine 190 = .ok (.iconst 4, 1) := by decide +kernel
theorem dX10_readLine_191 : decode cX10_readLine 191 = .ok (.dup2, 1) := by decide +kernel
theorem dX10_readLine_192 : decode cX10_readLine 192 = .ok (.iaload, 1) := by decide +kernel
theorem dX10_readLine_193 : decode cX10_readLine 193 = .ok (.iconst 1, 1) := by decide +kernel
theorem dX10_readLine_194 : decode cX10_readLine 194 = .ok (.iadd, 1) := by decide +kernel
theorem dX10_readLine_195 : decode cX10_readLine 195 = .ok (.iastore, 1) := by decide +kernel
theorem dX10_readLine_196 : decode cX10_readLine 196 = .ok (.return_, 1) := by decide +kernel
def fX10_readLine_182  (a0 : Nat) (h : hp_T) : Option hp_T := fx_b1 (fX10_goOn a0 h) fun (h183 : hp_T) => fx_let (hp_sI h183 (h183.2.2 a0 4) (fx_ix (4 : Int32)) ((h183.1 (h183.2.2 a0 4) (fx_ix (4 : Int32))) + (1 : Int32))) fun (h195 : hp_T) => some h195
set_option maxRecDepth 100000 in
set_option maxHeartbeats 4000000 in
theorem bX10_readLine_182 {l : Launch} {G : xr_G} {K : xr_K} {h1 : hp_T} (C : xr_C G K cX10_readLine RX10 3 (xr_R 9 255) none (some (xr_Qv G h1)))  (a0 : Nat) (ta0 : hp_sh a0 = (10, 0)) (h : hp_T) (hF : fX10_readLine_182 a0 h = some h1) : xr_j l G K 3 h [(0, .ref (G.2.2.1 a0))] 182 [] := by
  unfold fX10_readLine_182 at hF
  refine xr_aload_n C 0 dX10_readLine_182 rfl rfl ?_
  obtain ⟨h183, e183, hF⟩ := fx_b1E hF
  refine xr_callVv C mvX10_125 [] [] (mX10_goOn l G a0 ta0 h h183 e183) ta0 (by decide) vc10 rfl ⟨rfl, rfl, (Nat.le_of_ble_eq_true rfl), (Nat.le_of_ble_eq_true rfl)⟩ rfl (Nat.le_of_ble_eq_true rfl) dX10_readLine_183 ?_
  refine xr_aload_n C 0 dX10_readLine_186 rfl rfl ?_
  refine xr_getr C flX10_16 rfl (by decide) dX10_readLine_187 ta0 (fun t187 => ?_)
  refine xr_iconst (v := 4) C dX10_readLine_190 (by decide) ?_
  refine xr_dup2 C dX10_readLine_191 rfl rfl ?_
  refine xr_iald C dX10_readLine_192 t187 (by decide) ?_
  refine xr_iconst (v := 1) C dX10_readLine_193 (by decide) ?_
  refine xr_iadd C dX10_readLine_194 ?_
  refine xr_iast C dX10_readLine_195 t187 (by decide) (fun h195 e195 => ?_)
  have hF := fx_letE hF h195 e195
  cases hF
  exact xr_vret C dX10_readLine_196
def fX10_readLine_162  (a0 : Nat) (h : hp_T) : Option hp_T := if (h.1 a0 14) = 0 then (if (h.1 a0 11) = (2 : Int32) then (fX10_readLine_182 a0 h) else (fx_b1 (fX10_wrong a0 (1 : Int32) h) fun (h179 : hp_T) => fX10_readLine_182 a0 h179)) else (fX10_readLine_182 a0 h)
set_option maxRecDepth 100000 in
set_option maxHeartbeats 4000000 in
theorem bX10_readLine_162 {l : Launch} {G : xr_G} {K : xr_K} {h1 : hp_T} (C : xr_C G K cX10_readLine RX10 3 (xr_R 9 255) none (some (xr_Qv G h1)))  (a0 : Nat) (ta0 : hp_sh a0 = (10, 0)) (h : hp_T) (hF : fX10_readLine_162 a0 h = some h1) : xr_j l G K 3 h [(0, .ref (G.2.2.1 a0))] 162 [] := by
  unfold fX10_readLine_162 at hF
  refine xr_aload_n C 0 dX10_readLine_162 rfl rfl ?_
  refine xr_geti C flX10_112 rfl dX10_readLine_163 ta0 ?_
  refine xr_if_ne C 182 dX10_readLine_166 (by decide) (fun c166 => ?_) (fun c166 => ?_)
  · have hF := fx_neg hF c166
    exact bX10_readLine_182 C   a0 ta0 h hF
  · have hF := fx_pos hF c166
    refine xr_aload_n C 0 dX10_readLine_169 rfl rfl ?_
    refine xr_geti C flX10_82 rfl dX10_readLine_170 ta0 ?_
    refine xr_iconst (v := 2) C dX10_readLine_173 (by decide) ?_
    refine xr_icmp_eq C 182 dX10_readLine_174 (by decide) (fun c174 => ?_) (fun c174 => ?_)
    · have hF := fx_pos hF c174
      exact bX10_readLine_182 C   a0 ta0 h hF
    · have hF := fx_neg hF c174
      refine xr_aload_n C 0 dX10_readLine_177 rfl rfl ?_
      refine xr_iconst (v := 1) C dX10_readLine_178 (by decide) ?_
      obtain ⟨h179, e179, hF⟩ := fx_b1E hF
      refine xr_callVv C mvX10_121 [.int (1 : Int32)] [] (mX10_wrong l G a0 (1 : Int32) ta0 h h179 e179) ta0 (by decide) vc10 rfl ⟨rfl, rfl, (Nat.le_of_ble_eq_true rfl), (Nat.le_of_ble_eq_true rfl)⟩ rfl (Nat.le_of_ble_eq_true rfl) dX10_readLine_179 ?_
      exact bX10_readLine_182 C   a0 ta0 h179 hF
def fX10_readLine_91  (a0 : Nat) (a1 : Int32) (s0 : Int32) (h : hp_T) : Option hp_T := fx_g (fx_in (a1 - (2 : Int32)) 117) (fx_let (hp_sI h (h.2.2 a0 4) (fx_ix (a1 - (2 : Int32))) s0) fun (h100 : hp_T) => fX10_readLine_162 a0 h100)
set_option maxRecDepth 100000 in
set_option maxHeartbeats 4000000 in
theorem bX10_readLine_91 {l : Launch} {G : xr_G} {K : xr_K} {h1 : hp_T} (C : xr_C G K cX10_readLine RX10 3 (xr_R 9 255) none (some (xr_Qv G h1)))  (a0 : Nat) (a1 : Int32) (s0 : Int32) (ta0 : hp_sh a0 = (10, 0)) (h : hp_T) (hF : fX10_readLine_91 a0 a1 s0 h = some h1) : xr_j l G K 3 h [(0, .ref (G.2.2.1 a0)), (1, .int a1)] 91 [.int s0] := by
  unfold fX10_readLine_91 at hF
  refine xr_istore_n C [(2, .int s0), (0, .ref (G.2.2.1 a0)), (1, .int a1)] dX10_readLine_91 rfl (Nat.le_of_ble_eq_true rfl) rfl ?_
  refine xr_aload_n C 1 dX10_readLine_92 rfl rfl ?_
  refine xr_getr C flX10_16 rfl (by decide) dX10_readLine_93 ta0 (fun t93 => ?_)
  refine xr_iload_n C 2 dX10_readLine_96 rfl rfl ?_
  refine xr_iconst (v := 2) C dX10_readLine_97 (by decide) ?_
  refine xr_isub C dX10_readLine_98 ?_
  refine xr_iload_n C 0 dX10_readLine_99 rfl rfl ?_
  obtain ⟨g100, hF⟩ := fx_gE hF
  refine xr_iast C dX10_readLine_100 t93 g100 (fun h100 e100 => ?_)
  have hF := fx_letE hF h100 e100
  refine xr_goto C 162 dX10_readLine_101 (by decide) ?_
  refine xr_sub [1] [(0, .ref (G.2.2.1 a0))] rfl ?_
  exact bX10_readLine_162 C   a0 ta0 h100 hF
def fX10_readLine_48  (a0 : Nat) (a1 : Int32) (h : hp_T) : Option hp_T := fx_b1 (fX10_once a0 a1 h) fun (h50 : hp_T) => if a1 = (2 : Int32) then (fx_b2 (fX10_number a0 (3 : Int32) (25 : Int32) h50) fun (r62 : Int32) (h62 : hp_T) => fX10_readLine_91 a0 a1 r62 h62) else (if a1 = (3 : Int32) then (fx_b2 (fX10_number a0 (0 : Int32) (12 : Int32) h50) fun (r77 : Int32) (h77 : hp_T) => fX10_readLine_91 a0 a1 r77 h77) else (fx_b2 (fX10_number a0 (0 : Int32) (300 : Int32) h50) fun (r88 : Int32) (h88 : hp_T) => fX10_readLine_91 a0 a1 r88 h88))
set_option maxRecDepth 100000 in
set_option maxHeartbeats 4000000 in
theorem bX10_readLine_48 {l : Launch} {G : xr_G} {K : xr_K} {h1 : hp_T} (C : xr_C G K cX10_readLine RX10 3 (xr_R 9 255) none (some (xr_Qv G h1)))  (a0 : Nat) (a1 : Int32) (ta0 : hp_sh a0 = (10, 0)) (h : hp_T) (hF : fX10_readLine_48 a0 a1 h = some h1) : xr_j l G K 3 h [(0, .ref (G.2.2.1 a0)), (1, .int a1)] 48 [] := by
  unfold fX10_readLine_48 at hF
  refine xr_aload_n C 0 dX10_readLine_48 rfl rfl ?_
  refine xr_iload_n C 1 dX10_readLine_49 rfl rfl ?_
  obtain ⟨h50, e50, hF⟩ := fx_b1E hF
  refine xr_callVv C mvX10_146 [.int a1] [] (mX10_once l G a0 a1 ta0 h h50 e50) ta0 (by decide) vc10 rfl ⟨rfl, rfl, (Nat.le_of_ble_eq_true rfl), (Nat.le_of_ble_eq_true rfl)⟩ rfl (Nat.le_of_ble_eq_true rfl) dX10_readLine_50 ?_
  refine xr_iload_n C 1 dX10_readLine_53 rfl rfl ?_
  refine xr_iconst (v := 2) C dX10_readLine_54 (by decide) ?_
  refine xr_icmp_ne C 68 dX10_readLine_55 (by decide) (fun c55 => ?_) (fun c55 => ?_)
  · have hF := fx_neg hF c55
    refine xr_iload_n C 1 dX10_readLine_68 rfl rfl ?_
    refine xr_iconst (v := 3) C dX10_readLine_69 (by decide) ?_
    refine xr_icmp_ne C 83 dX10_readLine_70 (by decide) (fun c70 => ?_) (fun c70 => ?_)
    · have hF := fx_neg hF c70
      refine xr_aload_n C 0 dX10_readLine_83 rfl rfl ?_
      refine xr_iconst (v := 0) C dX10_readLine_84 (by decide) ?_
      refine xr_sipush (v := 300) C dX10_readLine_85 (by decide) ?_
      obtain ⟨r88, h88, e88, hF⟩ := fx_b2E hF
      refine xr_callVi C mvX10_136 [.int (0 : Int32), .int (300 : Int32)] [] (mX10_number l G a0 (0 : Int32) (300 : Int32) ta0 h50 h88 r88 e88) ta0 (by decide) vc10 rfl ⟨rfl, rfl, (Nat.le_of_ble_eq_true rfl), (Nat.le_of_ble_eq_true rfl)⟩ rfl (Nat.le_of_ble_eq_true rfl) dX10_readLine_88 ?_
      exact bX10_readLine_91 C   a0 a1 r88 ta0 h88 hF
    · have hF := fx_pos hF c70
      refine xr_aload_n C 0 dX10_readLine_73 rfl rfl ?_
      refine xr_iconst (v := 0) C dX10_readLine_74 (by decide) ?_
      refine xr_bipush (v := 12) C dX10_readLine_75 (by decide) ?_
      obtain ⟨r77, h77, e77, hF⟩ := fx_b2E hF
      refine xr_callVi C mvX10_136 [.int (0 : Int32), .int (12 : Int32)] [] (mX10_number l G a0 (0 : Int32) (12 : Int32) ta0 h50 h77 r77 e77) ta0 (by decide) vc10 rfl ⟨rfl, rfl, (Nat.le_of_ble_eq_true rfl), (Nat.le_of_ble_eq_true rfl)⟩ rfl (Nat.le_of_ble_eq_true rfl) dX10_readLine_77 ?_
      refine xr_goto C 91 dX10_readLine_80 (by decide) ?_
      exact bX10_readLine_91 C   a0 a1 r77 ta0 h77 hF
  · have hF := fx_pos hF c55
    refine xr_aload_n C 0 dX10_readLine_58 rfl rfl ?_
    refine xr_iconst (v := 3) C dX10_readLine_59 (by decide) ?_
    refine xr_bipush (v := 25) C dX10_readLine_60 (by decide) ?_
    obtain ⟨r62, h62, e62, hF⟩ := fx_b2E hF
    refine xr_callVi C mvX10_136 [.int (3 : Int32), .int (25 : Int32)] [] (mX10_number l G a0 (3 : Int32) (25 : Int32) ta0 h50 h62 r62 e62) ta0 (by decide) vc10 rfl ⟨rfl, rfl, (Nat.le_of_ble_eq_true rfl), (Nat.le_of_ble_eq_true rfl)⟩ rfl (Nat.le_of_ble_eq_true rfl) dX10_readLine_62 ?_
    refine xr_goto C 91 dX10_readLine_65 (by decide) ?_
    exact bX10_readLine_91 C   a0 a1 r62 ta0 h62 hF
def fX10_readLine_25  (a0 : Nat) (a1 : Int32) (h : hp_T) : Option hp_T := fx_b1 (fX10_readPlayer a0 a1 h) fun (h27 : hp_T) => fX10_readLine_162 a0 h27
set_option maxRecDepth 100000 in
set_option maxHeartbeats 4000000 in
theorem bX10_readLine_25 {l : Launch} {G : xr_G} {K : xr_K} {h1 : hp_T} (C : xr_C G K cX10_readLine RX10 3 (xr_R 9 255) none (some (xr_Qv G h1)))  (a0 : Nat) (a1 : Int32) (ta0 : hp_sh a0 = (10, 0)) (h : hp_T) (hF : fX10_readLine_25 a0 a1 h = some h1) : xr_j l G K 3 h [(0, .ref (G.2.2.1 a0)), (1, .int a1)] 25 [] := by
  unfold fX10_readLine_25 at hF
  refine xr_aload_n C 0 dX10_readLine_25 rfl rfl ?_
  refine xr_iload_n C 1 dX10_readLine_26 rfl rfl ?_
  obtain ⟨h27, e27, hF⟩ := fx_b1E hF
  refine xr_callVv C mvX10_143 [.int a1] [] (mX10_readPlayer l G a0 a1 ta0 h h27 e27) ta0 (by decide) vc10 rfl ⟨rfl, rfl, (Nat.le_of_ble_eq_true rfl), (Nat.le_of_ble_eq_true rfl)⟩ rfl (Nat.le_of_ble_eq_true rfl) dX10_readLine_27 ?_
  refine xr_goto C 162 dX10_readLine_30 (by decide) ?_
  refine xr_sub [0] [(0, .ref (G.2.2.1 a0))] rfl ?_
  exact bX10_readLine_162 C   a0 ta0 h27 hF
def fX10_readLine_15  (a0 : Nat) (s0 : Int32) (h : hp_T) : Option hp_T := if s0 = 0 then (fX10_readLine_25 a0 s0 h) else (if s0 = (1 : Int32) then (fX10_readLine_25 a0 s0 h) else (if s0 = (2 : Int32) then (fX10_readLine_48 a0 s0 h) else (if s0 = (3 : Int32) then (fX10_readLine_48 a0 s0 h) else (if s0 = (4 : Int32) then (fX10_readLine_48 a0 s0 h) else (if s0 = (5 : Int32) then (fx_b1 (fX10_readFree a0 h) fun (h110 : hp_T) => fX10_readLine_162 a0 h110) else (if s0 = (6 : Int32) then (fx_b1 (fX10_readStart a0 h) fun (h123 : hp_T) => fX10_readLine_162 a0 h123) else (if s0 = (7 : Int32) then (fx_b1 (fX10_once a0 s0 h) fun (h137 : hp_T) => fx_b2 (fX10_sideHere a0 h137) fun (r146 : Int32) (h146 : hp_T) => fx_let (hp_sI h146 (h137.2.2 a0 4) (fx_ix (3 : Int32)) r146) fun (h149 : hp_T) => fx_b1 (fX10_goOn a0 h149) fun (h151 : hp_T) => fX10_readLine_162 a0 h151) else (fx_b1 (fX10_wrong a0 (1 : Int32) h) fun (h159 : hp_T) => fX10_readLine_162 a0 h159))))))))
set_option maxRecDepth 100000 in
set_option maxHeartbeats 4000000 in
theorem bX10_readLine_15 {l : Launch} {G : xr_G} {K : xr_K} {h1 : hp_T} (C : xr_C G K cX10_readLine RX10 3 (xr_R 9 255) none (some (xr_Qv G h1)))  (a0 : Nat) (s0 : Int32) (ta0 : hp_sh a0 = (10, 0)) (h : hp_T) (hF : fX10_readLine_15 a0 s0 h = some h1) : xr_j l G K 3 h [(0, .ref (G.2.2.1 a0))] 15 [.int s0] := by
  unfold fX10_readLine_15 at hF
  refine xr_istore_n C [(1, .int s0), (0, .ref (G.2.2.1 a0))] dX10_readLine_15 rfl (Nat.le_of_ble_eq_true rfl) rfl ?_
  refine xr_iload_n C 0 dX10_readLine_16 rfl rfl ?_
  refine xr_if_eq C 25 dX10_readLine_17 (by decide) (fun c17 => ?_) (fun c17 => ?_)
  · have hF := fx_pos hF c17
    refine xr_sub [1, 0] [(0, .ref (G.2.2.1 a0)), (1, .int s0)] rfl ?_
    exact bX10_readLine_25 C   a0 s0 ta0 h hF
  · have hF := fx_neg hF c17
    refine xr_iload_n C 0 dX10_readLine_20 rfl rfl ?_
    refine xr_iconst (v := 1) C dX10_readLine_21 (by decide) ?_
    refine xr_icmp_ne C 33 dX10_readLine_22 (by decide) (fun c22 => ?_) (fun c22 => ?_)
    · have hF := fx_neg hF c22
      refine xr_iload_n C 0 dX10_readLine_33 rfl rfl ?_
      refine xr_iconst (v := 2) C dX10_readLine_34 (by decide) ?_
      refine xr_icmp_eq C 48 dX10_readLine_35 (by decide) (fun c35 => ?_) (fun c35 => ?_)
      · have hF := fx_pos hF c35
        refine xr_sub [1, 0] [(0, .ref (G.2.2.1 a0)), (1, .int s0)] rfl ?_
        exact bX10_readLine_48 C   a0 s0 ta0 h hF
      · have hF := fx_neg hF c35
        refine xr_iload_n C 0 dX10_readLine_38 rfl rfl ?_
        refine xr_iconst (v := 3) C dX10_readLine_39 (by decide) ?_
        refine xr_icmp_eq C 48 dX10_readLine_40 (by decide) (fun c40 => ?_) (fun c40 => ?_)
        · have hF := fx_pos hF c40
          refine xr_sub [1, 0] [(0, .ref (G.2.2.1 a0)), (1, .int s0)] rfl ?_
          exact bX10_readLine_48 C   a0 s0 ta0 h hF
        · have hF := fx_neg hF c40
          refine xr_iload_n C 0 dX10_readLine_43 rfl rfl ?_
          refine xr_iconst (v := 4) C dX10_readLine_44 (by decide) ?_
          refine xr_icmp_ne C 104 dX10_readLine_45 (by decide) (fun c45 => ?_) (fun c45 => ?_)
          · have hF := fx_neg hF c45
            refine xr_iload_n C 0 dX10_readLine_104 rfl rfl ?_
            refine xr_iconst (v := 5) C dX10_readLine_105 (by decide) ?_
            refine xr_icmp_ne C 116 dX10_readLine_106 (by decide) (fun c106 => ?_) (fun c106 => ?_)
            · have hF := fx_neg hF c106
              refine xr_iload_n C 0 dX10_readLine_116 rfl rfl ?_
              refine xr_bipush (v := 6) C dX10_readLine_117 (by decide) ?_
              refine xr_icmp_ne C 129 dX10_readLine_119 (by decide) (fun c119 => ?_) (fun c119 => ?_)
              · have hF := fx_neg hF c119
                refine xr_iload_n C 0 dX10_readLine_129 rfl rfl ?_
                refine xr_bipush (v := 7) C dX10_readLine_130 (by decide) ?_
                refine xr_icmp_ne C 157 dX10_readLine_132 (by decide) (fun c132 => ?_) (fun c132 => ?_)
                · have hF := fx_neg hF c132
                  refine xr_aload_n C 1 dX10_readLine_157 rfl rfl ?_
                  refine xr_iconst (v := 1) C dX10_readLine_158 (by decide) ?_
                  obtain ⟨h159, e159, hF⟩ := fx_b1E hF
                  refine xr_callVv C mvX10_121 [.int (1 : Int32)] [] (mX10_wrong l G a0 (1 : Int32) ta0 h h159 e159) ta0 (by decide) vc10 rfl ⟨rfl, rfl, (Nat.le_of_ble_eq_true rfl), (Nat.le_of_ble_eq_true rfl)⟩ rfl (Nat.le_of_ble_eq_true rfl) dX10_readLine_159 ?_
                  refine xr_sub [1] [(0, .ref (G.2.2.1 a0))] rfl ?_
                  exact bX10_readLine_162 C   a0 ta0 h159 hF
                · have hF := fx_pos hF c132
                  refine xr_aload_n C 1 dX10_readLine_135 rfl rfl ?_
                  refine xr_iload_n C 0 dX10_readLine_136 rfl rfl ?_
                  obtain ⟨h137, e137, hF⟩ := fx_b1E hF
                  refine xr_callVv C mvX10_146 [.int s0] [] (mX10_once l G a0 s0 ta0 h h137 e137) ta0 (by decide) vc10 rfl ⟨rfl, rfl, (Nat.le_of_ble_eq_true rfl), (Nat.le_of_ble_eq_true rfl)⟩ rfl (Nat.le_of_ble_eq_true rfl) dX10_readLine_137 ?_
                  refine xr_aload_n C 1 dX10_readLine_140 rfl rfl ?_
                  refine xr_getr C flX10_16 rfl (by decide) dX10_readLine_141 ta0 (fun t141 => ?_)
                  refine xr_iconst (v := 3) C dX10_readLine_144 (by decide) ?_
                  refine xr_aload_n C 1 dX10_readLine_145 rfl rfl ?_
                  obtain ⟨r146, h146, e146, hF⟩ := fx_b2E hF
                  refine xr_callVi C mvX10_140 [] [.int (3 : Int32), .ref (G.2.2.1 (h137.2.2 a0 4))] (mX10_sideHere l G a0 ta0 h137 h146 r146 e146) ta0 (by decide) vc10 rfl ⟨rfl, rfl, (Nat.le_of_ble_eq_true rfl), (Nat.le_of_ble_eq_true rfl)⟩ rfl (Nat.le_of_ble_eq_true rfl) dX10_readLine_146 ?_
                  refine xr_iast C dX10_readLine_149 t141 (by decide) (fun h149 e149 => ?_)
                  have hF := fx_letE hF h149 e149
                  refine xr_aload_n C 1 dX10_readLine_150 rfl rfl ?_
                  obtain ⟨h151, e151, hF⟩ := fx_b1E hF
                  refine xr_callVv C mvX10_125 [] [] (mX10_goOn l G a0 ta0 h149 h151 e151) ta0 (by decide) vc10 rfl ⟨rfl, rfl, (Nat.le_of_ble_eq_true rfl), (Nat.le_of_ble_eq_true rfl)⟩ rfl (Nat.le_of_ble_eq_true rfl) dX10_readLine_151 ?_
                  refine xr_goto C 162 dX10_readLine_154 (by decide) ?_
                  refine xr_sub [1] [(0, .ref (G.2.2.1 a0))] rfl ?_
                  exact bX10_readLine_162 C   a0 ta0 h151 hF
              · have hF := fx_pos hF c119
                refine xr_aload_n C 1 dX10_readLine_122 rfl rfl ?_
                obtain ⟨h123, e123, hF⟩ := fx_b1E hF
                refine xr_callVv C mvX10_152 [] [] (mX10_readStart l G a0 ta0 h h123 e123) ta0 (by decide) vc10 rfl ⟨rfl, rfl, (Nat.le_of_ble_eq_true rfl), (Nat.le_of_ble_eq_true rfl)⟩ rfl (Nat.le_of_ble_eq_true rfl) dX10_readLine_123 ?_
                refine xr_goto C 162 dX10_readLine_126 (by decide) ?_
                refine xr_sub [1] [(0, .ref (G.2.2.1 a0))] rfl ?_
                exact bX10_readLine_162 C   a0 ta0 h123 hF
            · have hF := fx_pos hF c106
              refine xr_aload_n C 1 dX10_readLine_109 rfl rfl ?_
              obtain ⟨h110, e110, hF⟩ := fx_b1E hF
              refine xr_callVv C mvX10_149 [] [] (mX10_readFree l G a0 ta0 h h110 e110) ta0 (by decide) vc10 rfl ⟨rfl, rfl, (Nat.le_of_ble_eq_true rfl), (Nat.le_of_ble_eq_true rfl)⟩ rfl (Nat.le_of_ble_eq_true rfl) dX10_readLine_110 ?_
              refine xr_goto C 162 dX10_readLine_113 (by decide) ?_
              refine xr_sub [1] [(0, .ref (G.2.2.1 a0))] rfl ?_
              exact bX10_readLine_162 C   a0 ta0 h110 hF
          · have hF := fx_pos hF c45
            refine xr_sub [1, 0] [(0, .ref (G.2.2.1 a0)), (1, .int s0)] rfl ?_
            exact bX10_readLine_48 C   a0 s0 ta0 h hF
    · have hF := fx_pos hF c22
      refine xr_sub [1, 0] [(0, .ref (G.2.2.1 a0)), (1, .int s0)] rfl ?_
      exact bX10_readLine_25 C   a0 s0 ta0 h hF
def fX10_readLine (a0 : Nat) (h : hp_T) : Option hp_T := if (h.1 a0 11) = 0 then (fX10_readLine_15 a0 (h.1 a0 12) h) else (fX10_readLine_15 a0 (-1 : Int32) h)
set_option maxRecDepth 100000 in
set_option maxHeartbeats 4000000 in
theorem mX10_readLine (l : Launch) (G : xr_G) (a0 : Nat) (ta0 : hp_sh a0 = (10, 0)) (h h1 : hp_T) (hF : fX10_readLine a0 h = some h1) : xr_M l G yX10_readLine cX10_readLine 3 (xr_R 9 255) none [.ref (G.2.2.1 a0)] h (xr_Qv G h1) := by
  refine xr_start rfl (Nat.le_of_ble_eq_true rfl) (fun K C => ?_)
  show xr_j l G K 3 h [(0, .ref (G.2.2.1 a0))] 0 []
  unfold fX10_readLine at hF
  refine xr_aload_n C 0 dX10_readLine_0 rfl rfl ?_
  refine xr_geti C flX10_82 rfl dX10_readLine_1 ta0 ?_
  refine xr_if_ne C 14 dX10_readLine_4 (by decide) (fun c4 => ?_) (fun c4 => ?_)
  · have hF := fx_neg hF c4
    refine xr_iconst (v := -1) C dX10_readLine_14 (by decide) ?_
    exact bX10_readLine_15 C   a0 (-1 : Int32) ta0 h hF
  · have hF := fx_pos hF c4
    refine xr_aload_n C 0 dX10_readLine_7 rfl rfl ?_
    refine xr_geti C flX10_95 rfl dX10_readLine_8 ta0 ?_
    refine xr_goto C 15 dX10_readLine_11 (by decide) ?_
    exact bX10_readLine_15 C   a0 (h.1 a0 12) ta0 h hF
theorem dX10_text_0 : decode cX10_text 0 = .ok (.aload_n 0, 1) := by decide +kernel
theorem dX10_text_1 : decode cX10_text 1 = .ok (.iconst 0, 1) := by decide +kernel
theorem dX10_text_2 : decode cX10_text 2 = .ok (.putfield 63, 3) := by decide +kernel
theorem dX10_text_5 : decode cX10_text 5 = .ok (.iload_n 1, 1) := by decide +kernel
theorem dX10_text_6 : decode cX10_text 6 = .ok (.ifCond .lt 11, 3) := by decide +kernel
theorem dX10_text_9 : decode cX10_text 9 = .ok (.iload_n 1, 1) := by decide +kernel
theorem dX10_text_10 : decode cX10_text 10 = .ok (.aload_n 0, 1) := by decide +kernel
theorem dX10_text_11 : decode cX10_text 11 = .ok (.getfield 66, 3) := by decide +kernel
theorem dX10_text_14 : decode cX10_text 14 = .ok (.if_icmp .le 6, 3) := by decide +kernel
theorem dX10_text_17 : decode cX10_text 17 = .ok (.bipush (-2), 2) := by decide +kernel
theorem dX10_text_19 : decode cX10_text 19 = .ok (.ireturn, 1) := by decide +kernel
theorem dX10_text_20 : decode cX10_text 20 = .ok (.aload_n 0, 1) := by decide +kernel
theorem dX10_text_21 : decode cX10_text 21 = .ok (.invokevirtual 155, 3) := by decide +kernel
theorem dX10_text_24 : decode cX10_text 24 = .ok (.aload_n 0, 1) := by decide +kernel
theorem dX10_text_25 : decode cX10_text 25 = .ok (.iload_n 1, 1) := by decide +kernel
theorem dX10_text_26 : decode cX10_text 26 = .ok (.putfield 72, 3) := by decide +kernel
theorem dX10_text_29 : decode cX10_text 29 = .ok (.aload_n 0, 1) := by decide +kernel
theorem dX10_text_30 : decode cX10_text 30 = .ok (.iconst 0, 1) := by decide +kernel
theorem dX10_text_31 : decode cX10_text 31 = .ok (.putfield 69, 3) := by decide +kernel
theorem dX10_text_34 : decode cX10_text 34 = .ok (.aload_n 0, 1) := by decide +kernel
theorem dX10_text_35 : decode cX10_text 35 = .ok (.iconst 0, 1) := by decide +kernel
theorem dX10_text_36 : decode cX10_text 36 = .ok (.putfield 112, 3) := by decide +kernel
theorem dX10_text_39 : decode cX10_text 39 = .ok (.aload_n 0, 1) := by decide +kernel
theorem dX10_text_40 : decode cX10_text 40 = .ok (.invokevirtual 118, 3) := by decide +kernel
theorem dX10_text_43 : decode cX10_text 43 = .ok (.aload_n 0, 1) := by decide +kernel
theorem dX10_text_44 : decode cX10_text 44 = .ok (.getfield 112, 3) := by decide +kernel
theorem dX10_text_47 : decode cX10_text 47 = .ok (.ifCond .ne 18, 3) := by decide +kernel
theorem dX10_text_50 : decode cX10_text 50 = .ok (.aload_n 0, 1) := by decide +kernel
theorem dX10_text_51 : decode cX10_text 51 = .ok (.getfield 82, 3) := by decide +kernel
theorem dX10_text_54 : decode cX10_text 54 = .ok (.iconst 3, 1) := by decide +kernel
theorem dX10_text_55 : decode cX10_text 55 = .ok (.if_icmp .eq 10, 3) := by decide +kernel
theorem dX10_text_58 : decode cX10_text 58 = .ok (.aload_n 0, 1) := by decide +kernel
theorem dX10_text_59 : decode cX10_text 59 = .ok (.invokevirtual 158, 3) := by decide +kernel
theorem dX10_text_62 : decode cX10_text 62 = .ok (.goto (-19), 3) := by decide +kernel
theorem dX10_text_65 : decode cX10_text 65 = .ok (.aload_n 0, 1) := by decide +kernel
theorem dX10_text_66 : decode cX10_text 66 = .ok (.getfield 112, 3) := by decide +kernel
theorem dX10_text_69 : decode cX10_text 69 = .ok (.ifCond .ne 31, 3) := by decide +kernel
theorem dX10_text_72 : decode cX10_text 72 = .ok (.aload_n 0, 1) := by decide +kernel
theorem dX10_text_73 : decode cX10_text 73 = .ok (.getfield 33, 3) := by decide +kernel
theorem dX10_text_76 : decode cX10_text 76 = .ok (.iconst 0, 1) := by decide +kernel
theorem dX10_text_77 : decode cX10_text 77 = .ok (.baload, 1) := by decide +kernel
theorem dX10_text_78 : decode cX10_text 78 = .ok (.ifCond .eq 12, 3) := by decide +kernel
theorem dX10_text_81 : decode cX10_text 81 = .ok (.aload_n 0, 1) := by decide +kernel
theorem dX10_text_82 : decode cX10_text 82 = .ok (.getfield 33, 3) := by decide +kernel
theorem dX10_text_85 : decode cX10_text 85 = .ok (.iconst 1, 1) := by decide +kernel
theorem dX10_text_86 : decode cX10_text 86 = .ok (.baload, 1) := by decide +kernel
theorem dX10_text_87 : decode cX10_text 87 = .ok (.ifCond .ne 13, 3) := by decide +kernel
theorem dX10_text_90 : decode cX10_text 90 = .ok (.aload_n 0, 1) := by decide +kernel
theorem dX10_text_91 : decode cX10_text 91 = .ok (.iload_n 1, 1) := by decide +kernel
theorem dX10_text_92 : decode cX10_text 92 = .ok (.putfield 79, 3) := by decide +kernel
theorem dX10_text_95 : decode cX10_text 95 = .ok (.aload_n 0, 1) := by decide +kernel
theorem dX10_text_96 : decode cX10_text 96 = .ok (.iconst 4, 1) := by decide +kernel
theorem dX10_text_97 : decode cX10_text 97 = .ok (.invokevirtual 121, 3) := by decide +kernel
theorem dX10_text_100 : decode cX10_text 100 = .ok (.aload_n 0, 1) := by decide +kernel
theorem dX10_text_101 : decode cX10_text 101 = .ok (.iconst 0, 1) := by decide +kernel
theorem dX10_text_102 : decode cX10_text 102 = .ok (.putfield 66, 3) := by decide +kernel
theorem dX10_text_105 : decode cX10_text 105 = .ok (.aload_n 0, 1) := by decide +kernel
theorem dX10_text_106 : decode cX10_text 106 = .ok (.aload_n 0, 1) := by decide +kernel
theorem dX10_text_107 : decode cX10_text 107 = .ok (.getfield 112, 3) := by decide +kernel
theorem dX10_text_110 : decode cX10_text 110 = .ok (.putfield 161, 3) := by decide +kernel
theorem dX10_text_113 : decode cX10_text 113 = .ok (.aload_n 0, 1) := by decide +kernel
theorem dX10_text_114 : decode cX10_text 114 = .ok (.aload_n 0, 1) := by decide +kernel
theorem dX10_text_115 : decode cX10_text 115 = .ok (.getfield 112, 3) := by decide +kernel
theorem dX10_text_118 : decode cX10_text 118 = .ok (.ifCond .ne 7, 3) := by decide +kernel
theorem dX10_text_121 : decode cX10_text 121 = .ok (.iconst (-1), 1) := by decide +kernel
theorem dX10_text_122 : decode cX10_text 122 = .ok (.goto 7, 3) := by decide +kernel
theorem dX10_text_125 : decode cX10_text 125 = .ok (.aload_n 0, 1) := by decide +kernel
theorem dX10_text_126 : decode cX10_text 126 = .ok (.getfield 115, 3) := by decide +kernel
theorem dX10_text_129 : decode cX10_text 129 = .ok (.putfield 25, 3) := by decide +kernel
theorem dX10_text_132 : decode cX10_text 132 = .ok (.aload_n 0, 1) := by decide +kernel
theorem dX10_text_133 : decode cX10_text 133 = .ok (.getfield 112, 3) := by decide +kernel
theorem dX10_text_136 : decode cX10_text 136 = .ok (.ifCond .eq 5, 3) := by decide +kernel
theorem dX10_text_139 : decode cX10_text 139 = .ok (.iconst (-1), 1) := by decide +kernel
theorem dX10_text_140 : decode cX10_text 140 = .ok (.ireturn, 1) := by decide +kernel
theorem dX10_text_141 : decode cX10_text 141 = .ok (.iconst 0, 1) := by decide +kernel
theorem dX10_text_142 : decode cX10_text 142 = .ok (.istore_n 2, 1) := by decide +kernel
theorem dX10_text_143 : decode cX10_text 143 = .ok (.iload_n 2, 1) := by decide +kernel
theorem dX10_text_144 : decode cX10_text 144 = .ok (.bipush 117, 2) := by decide +kernel
theorem dX10_text_146 : decode cX10_text 146 = .ok (.if_icmp .ge 21, 3) := by decide +kernel
theorem dX10_text_149 : decode cX10_text 149 = .ok (.aload_n 0, 1) := by decide +kernel
theorem dX10_text_150 : decode cX10_text 150 = .ok (.getfield 13, 3) := by decide +kernel
theorem dX10_text_153 : decode cX10_text 153 = .ok (.iload_n 2, 1) := by decide +kernel
theorem dX10_text_154 : decode cX10_text 154 = .ok (.aload_n 0, 1) := by decide +kernel
theorem dX10_text_155 : decode cX10_text 155 = .ok (.getfield 16, 3) := by decide +kernel
theorem dX10_text_158 : decode cX10_text 158 = .ok (.iload_n 2, 1) := by decide +kernel
theorem dX10_text_159 : decode cX10_text 159 = .ok (.iaload, 1) := by decide +kernel
theorem dX10_text_160 : decode cX10_text 160 = .ok (.iastore, 1) := by decide +kernel
theorem dX10_text_161 : decode cX10_text 161 = .ok (.iinc 2 1, 3) := by decide +kernel
theorem dX10_text_164 : decode cX10_text 164 = .ok (.goto (-21), 3) := by decide +kernel
theorem dX10_text_167 : decode cX10_text 167 = .ok (.iconst 0, 1) := by decide +kernel
theorem dX10_text_168 : decode cX10_text 168 = .ok (.istore_n 2, 1) := by decide +kernel
theorem dX10_text_169 : decode cX10_text 169 = .ok (.iload_n 2, 1) := by decide +kernel
theorem dX10_text_170 : decode cX10_text 170 = .ok (.bipush 24, 2) := by decide +kernel
theorem dX10_text_172 : decode cX10_text 172 = .ok (.if_icmp .ge 21, 3) := by decide +kernel
theorem dX10_text_175 : decode cX10_text 175 = .ok (.aload_n 0, 1) := by decide +kernel
theorem dX10_text_176 : decode cX10_text 176 = .ok (.getfield 22, 3) := by decide +kernel
theorem dX10_text_179 : decode cX10_text 179 = .ok (.iload_n 2, 1) := by decide +kernel
theorem dX10_text_180 : decode cX10_text 180 = .ok (.aload_n 0, 1) := by decide +kernel
theorem dX10_text_181 : decode cX10_text 181 = .ok (.getfield 19, 3) := by decide +kernel
theorem dX10_text_184 : decode cX10_text 184 = .ok (.iload_n 2, 1) := by decide +kernel
theorem dX10_text_185 : decode cX10_text 185 = .ok (.iaload, 1) := by decide +kernel
theorem dX10_text_186 : decode cX10_text 186 = .ok (.iastore, 1) := by decide +kernel
theorem dX10_text_187 : decode cX10_text 187 = .ok (.iinc 2 1, 3) := by decide +kernel
theorem dX10_text_190 : decode cX10_text 190 = .ok (.goto (-21), 3) := by decide +kernel
theorem dX10_text_193 : decode cX10_text 193 = .ok (.aload_n 0, 1) := by decide +kernel
theorem dX10_text_194 : decode cX10_text 194 = .ok (.iconst 1, 1) := by decide +kernel
theorem dX10_text_195 : decode cX10_text 195 = .ok (.putfield 59, 3) := by decide +kernel
theorem dX10_text_198 : decode cX10_text 198 = .ok (.aload_n 0, 1) := by decide +kernel
theorem dX10_text_199 : decode cX10_text 199 = .ok (.invokevirtual 164, 3) := by decide +kernel
theorem dX10_text_202 : decode cX10_text 202 = .ok (.aload_n 0, 1) := by decide +kernel
theorem dX10_text_203 : decode cX10_text 203 = .ok (.getfield 13, 3) := by decide +kernel
theorem dX10_text_206 : decode cX10_text 206 = .ok (.iconst 4, 1) := by decide +kernel
theorem dX10_text_207 : decode cX10_text 207 = .ok (.iaload, 1) := by decide +kernel
theorem dX10_text_208 : decode cX10_text 208 = .ok (.ireturn, 1) := by decide +kernel
def fX10_text_169  : Nat → Nat → Int32 → hp_T → Option (Int32 × hp_T)
  | 0, _, _, _ => none
  | n + 1, a0, a2, h => if (24 : Int32) ≤ a2 then (fx_let (hp_sI h a0 7 (1 : Int32)) fun (h195 : hp_T) => fx_b1 (fX10_serveFirst a0 h195) fun (h199 : hp_T) => some ((h199.1 (h199.2.2 a0 3) (fx_ix (4 : Int32))), h199)) else (fx_g (fx_in a2 24) (fx_g (fx_in a2 24) (fx_let (hp_sI h (h.2.2 a0 6) (fx_ix a2) (h.1 (h.2.2 a0 5) (fx_ix a2))) fun (h186 : hp_T) => fx_let (a2 + (1 : Int32)) fun (x187 : Int32) => fX10_text_169 n a0 x187 h186)))
set_option maxRecDepth 100000 in
set_option maxHeartbeats 4000000 in
theorem bX10_text_169 {l : Launch} {G : xr_G} {K : xr_K} {r : Int32} {h1 : hp_T} (C : xr_C G K cX10_text RX10 3 (xr_R 10 277) (some .int) (some (xr_Qi G r h1)))  : ∀ (n : Nat) (a0 : Nat) (a2 : Int32) (ta0 : hp_sh a0 = (10, 0)) (h : hp_T), fX10_text_169 n a0 a2 h = some (r, h1) → xr_j l G K 3 h [(0, .ref (G.2.2.1 a0)), (2, .int a2)] 169 [] := by
  intro n
  induction n with
  | zero =>
    intro a0 a2 ta0 h hF
    cases hF
  | succ n ih =>
    intro a0 a2 ta0 h hF
    rw [fX10_text_169] at hF
    refine xr_iload_n C 1 dX10_text_169 rfl rfl ?_
    refine xr_bipush (v := 24) C dX10_text_170 (by decide) ?_
    refine xr_icmp_ge C 193 dX10_text_172 (by decide) (fun c172 => ?_) (fun c172 => ?_)
    · have hF := fx_pos hF c172
      refine xr_aload_n C 0 dX10_text_193 rfl rfl ?_
      refine xr_iconst (v := 1) C dX10_text_194 (by decide) ?_
      refine xr_puti C fpX10_59 rfl rfl rfl dX10_text_195 ta0 (fun h195 e195 => ?_)
      have hF := fx_letE hF h195 e195
      refine xr_aload_n C 0 dX10_text_198 rfl rfl ?_
      obtain ⟨h199, e199, hF⟩ := fx_b1E hF
      refine xr_callVv C mvX10_164 [] [] (mX10_serveFirst l G a0 ta0 h195 h199 e199) ta0 (by decide) vc10 rfl ⟨rfl, rfl, (Nat.le_of_ble_eq_true rfl), (Nat.le_of_ble_eq_true rfl)⟩ rfl (Nat.le_of_ble_eq_true rfl) dX10_text_199 ?_
      refine xr_aload_n C 0 dX10_text_202 rfl rfl ?_
      refine xr_getr C flX10_13 rfl (by decide) dX10_text_203 ta0 (fun t203 => ?_)
      refine xr_iconst (v := 4) C dX10_text_206 (by decide) ?_
      refine xr_iald C dX10_text_207 t203 (by decide) ?_
      cases hF
      exact xr_iret C dX10_text_208
    · have hF := fx_neg hF c172
      refine xr_aload_n C 0 dX10_text_175 rfl rfl ?_
      refine xr_getr C flX10_22 rfl (by decide) dX10_text_176 ta0 (fun t176 => ?_)
      refine xr_iload_n C 1 dX10_text_179 rfl rfl ?_
      refine xr_aload_n C 0 dX10_text_180 rfl rfl ?_
      refine xr_getr C flX10_19 rfl (by decide) dX10_text_181 ta0 (fun t181 => ?_)
      refine xr_iload_n C 1 dX10_text_184 rfl rfl ?_
      obtain ⟨g185, hF⟩ := fx_gE hF
      refine xr_iald C dX10_text_185 t181 g185 ?_
      obtain ⟨g186, hF⟩ := fx_gE hF
      refine xr_iast C dX10_text_186 t176 g186 (fun h186 e186 => ?_)
      have hF := fx_letE hF h186 e186
      obtain ⟨x187, e187⟩ : ∃ y : Int32, y = (a2 + (1 : Int32)) := ⟨_, rfl⟩
      have hF := fx_letE hF x187 e187
      refine xr_iinc C x187 1 [(2, .int x187), (0, .ref (G.2.2.1 a0))] dX10_text_187 rfl (by rw [e187]; rfl) (Nat.le_of_ble_eq_true rfl) rfl ?_
      refine xr_goto C 169 dX10_text_190 (by decide) ?_
      refine xr_sub [1, 0] [(0, .ref (G.2.2.1 a0)), (2, .int x187)] rfl ?_
      exact ih a0 x187 ta0 h186 hF
def fX10_text_143  : Nat → Nat → Int32 → hp_T → Option (Int32 × hp_T)
  | 0, _, _, _ => none
  | n + 1, a0, a2, h => if (117 : Int32) ≤ a2 then (fX10_text_169 fx_N a0 (0 : Int32) h) else (fx_g (fx_in a2 117) (fx_g (fx_in a2 117) (fx_let (hp_sI h (h.2.2 a0 3) (fx_ix a2) (h.1 (h.2.2 a0 4) (fx_ix a2))) fun (h160 : hp_T) => fx_let (a2 + (1 : Int32)) fun (x161 : Int32) => fX10_text_143 n a0 x161 h160)))
set_option maxRecDepth 100000 in
set_option maxHeartbeats 4000000 in
theorem bX10_text_143 {l : Launch} {G : xr_G} {K : xr_K} {r : Int32} {h1 : hp_T} (C : xr_C G K cX10_text RX10 3 (xr_R 10 277) (some .int) (some (xr_Qi G r h1)))  : ∀ (n : Nat) (a0 : Nat) (a2 : Int32) (ta0 : hp_sh a0 = (10, 0)) (h : hp_T), fX10_text_143 n a0 a2 h = some (r, h1) → xr_j l G K 3 h [(0, .ref (G.2.2.1 a0)), (2, .int a2)] 143 [] := by
  intro n
  induction n with
  | zero =>
    intro a0 a2 ta0 h hF
    cases hF
  | succ n ih =>
    intro a0 a2 ta0 h hF
    rw [fX10_text_143] at hF
    refine xr_iload_n C 1 dX10_text_143 rfl rfl ?_
    refine xr_bipush (v := 117) C dX10_text_144 (by decide) ?_
    refine xr_icmp_ge C 167 dX10_text_146 (by decide) (fun c146 => ?_) (fun c146 => ?_)
    · have hF := fx_pos hF c146
      refine xr_iconst (v := 0) C dX10_text_167 (by decide) ?_
      refine xr_istore_n C [(2, .int (0 : Int32)), (0, .ref (G.2.2.1 a0))] dX10_text_168 rfl (Nat.le_of_ble_eq_true rfl) rfl ?_
      refine xr_sub [1, 0] [(0, .ref (G.2.2.1 a0)), (2, .int (0 : Int32))] rfl ?_
      exact bX10_text_169 C  fx_N a0 (0 : Int32) ta0 h hF
    · have hF := fx_neg hF c146
      refine xr_aload_n C 0 dX10_text_149 rfl rfl ?_
      refine xr_getr C flX10_13 rfl (by decide) dX10_text_150 ta0 (fun t150 => ?_)
      refine xr_iload_n C 1 dX10_text_153 rfl rfl ?_
      refine xr_aload_n C 0 dX10_text_154 rfl rfl ?_
      refine xr_getr C flX10_16 rfl (by decide) dX10_text_155 ta0 (fun t155 => ?_)
      refine xr_iload_n C 1 dX10_text_158 rfl rfl ?_
      obtain ⟨g159, hF⟩ := fx_gE hF
      refine xr_iald C dX10_text_159 t155 g159 ?_
      obtain ⟨g160, hF⟩ := fx_gE hF
      refine xr_iast C dX10_text_160 t150 g160 (fun h160 e160 => ?_)
      have hF := fx_letE hF h160 e160
      obtain ⟨x161, e161⟩ : ∃ y : Int32, y = (a2 + (1 : Int32)) := ⟨_, rfl⟩
      have hF := fx_letE hF x161 e161
      refine xr_iinc C x161 1 [(2, .int x161), (0, .ref (G.2.2.1 a0))] dX10_text_161 rfl (by rw [e161]; rfl) (Nat.le_of_ble_eq_true rfl) rfl ?_
      refine xr_goto C 143 dX10_text_164 (by decide) ?_
      refine xr_sub [1, 0] [(0, .ref (G.2.2.1 a0)), (2, .int x161)] rfl ?_
      exact ih a0 x161 ta0 h160 hF
def fX10_text_129  (a0 : Nat) (s0 : Nat) (s1 : Int32) (h : hp_T) : Option (Int32 × hp_T) := fx_let (hp_sI h s0 17 s1) fun (h129 : hp_T) => if (h129.1 a0 14) = 0 then (fX10_text_143 fx_N a0 (0 : Int32) h129) else (some ((-1 : Int32), h129))
set_option maxRecDepth 100000 in
set_option maxHeartbeats 4000000 in
theorem bX10_text_129 {l : Launch} {G : xr_G} {K : xr_K} {r : Int32} {h1 : hp_T} (C : xr_C G K cX10_text RX10 3 (xr_R 10 277) (some .int) (some (xr_Qi G r h1)))  (a0 : Nat) (s0 : Nat) (s1 : Int32) (ta0 : hp_sh a0 = (10, 0)) (ts0 : hp_sh s0 = (10, 0)) (h : hp_T) (hF : fX10_text_129 a0 s0 s1 h = some (r, h1)) : xr_j l G K 3 h [(0, .ref (G.2.2.1 a0))] 129 [.int s1, .ref (G.2.2.1 s0)] := by
  unfold fX10_text_129 at hF
  refine xr_puti C fpX10_25 rfl rfl rfl dX10_text_129 ts0 (fun h129 e129 => ?_)
  have hF := fx_letE hF h129 e129
  refine xr_aload_n C 0 dX10_text_132 rfl rfl ?_
  refine xr_geti C flX10_112 rfl dX10_text_133 ta0 ?_
  refine xr_if_eq C 141 dX10_text_136 (by decide) (fun c136 => ?_) (fun c136 => ?_)
  · have hF := fx_pos hF c136
    refine xr_iconst (v := 0) C dX10_text_141 (by decide) ?_
    refine xr_istore_n C [(2, .int (0 : Int32)), (0, .ref (G.2.2.1 a0))] dX10_text_142 rfl (Nat.le_of_ble_eq_true rfl) rfl ?_
    refine xr_sub [1, 0] [(0, .ref (G.2.2.1 a0)), (2, .int (0 : Int32))] rfl ?_
    exact bX10_text_143 C  fx_N a0 (0 : Int32) ta0 h129 hF
  · have hF := fx_neg hF c136
    refine xr_iconst (v := -1) C dX10_text_139 (by decide) ?_
    cases hF
    exact xr_iret C dX10_text_140
def fX10_text_100  (a0 : Nat) (h : hp_T) : Option (Int32 × hp_T) := fx_let (hp_sI h a0 2 (0 : Int32)) fun (h102 : hp_T) => fx_let (hp_sI h102 a0 16 (h102.1 a0 14)) fun (h110 : hp_T) => if (h110.1 a0 14) = 0 then (fX10_text_129 a0 a0 (-1 : Int32) h110) else (fX10_text_129 a0 a0 (h110.1 a0 15) h110)
set_option maxRecDepth 100000 in
set_option maxHeartbeats 4000000 in
theorem bX10_text_100 {l : Launch} {G : xr_G} {K : xr_K} {r : Int32} {h1 : hp_T} (C : xr_C G K cX10_text RX10 3 (xr_R 10 277) (some .int) (some (xr_Qi G r h1)))  (a0 : Nat) (ta0 : hp_sh a0 = (10, 0)) (h : hp_T) (hF : fX10_text_100 a0 h = some (r, h1)) : xr_j l G K 3 h [(0, .ref (G.2.2.1 a0))] 100 [] := by
  unfold fX10_text_100 at hF
  refine xr_aload_n C 0 dX10_text_100 rfl rfl ?_
  refine xr_iconst (v := 0) C dX10_text_101 (by decide) ?_
  refine xr_puti C fpX10_66 rfl rfl rfl dX10_text_102 ta0 (fun h102 e102 => ?_)
  have hF := fx_letE hF h102 e102
  refine xr_aload_n C 0 dX10_text_105 rfl rfl ?_
  refine xr_aload_n C 0 dX10_text_106 rfl rfl ?_
  refine xr_geti C flX10_112 rfl dX10_text_107 ta0 ?_
  refine xr_puti C fpX10_161 rfl rfl rfl dX10_text_110 ta0 (fun h110 e110 => ?_)
  have hF := fx_letE hF h110 e110
  refine xr_aload_n C 0 dX10_text_113 rfl rfl ?_
  refine xr_aload_n C 0 dX10_text_114 rfl rfl ?_
  refine xr_geti C flX10_112 rfl dX10_text_115 ta0 ?_
  refine xr_if_ne C 125 dX10_text_118 (by decide) (fun c118 => ?_) (fun c118 => ?_)
  · have hF := fx_neg hF c118
    refine xr_aload_n C 0 dX10_text_125 rfl rfl ?_
    refine xr_geti C flX10_115 rfl dX10_text_126 ta0 ?_
    exact bX10_text_129 C   a0 a0 (h110.1 a0 15) ta0 ta0 h110 hF
  · have hF := fx_pos hF c118
    refine xr_iconst (v := -1) C dX10_text_121 (by decide) ?_
    refine xr_goto C 129 dX10_text_122 (by decide) ?_
    exact bX10_text_129 C   a0 a0 (-1 : Int32) ta0 ta0 h110 hF
def fX10_text_90  (a0 : Nat) (a1 : Int32) (h : hp_T) : Option (Int32 × hp_T) := fx_let (hp_sI h a0 10 a1) fun (h92 : hp_T) => fx_b1 (fX10_wrong a0 (4 : Int32) h92) fun (h97 : hp_T) => fX10_text_100 a0 h97
set_option maxRecDepth 100000 in
set_option maxHeartbeats 4000000 in
theorem bX10_text_90 {l : Launch} {G : xr_G} {K : xr_K} {r : Int32} {h1 : hp_T} (C : xr_C G K cX10_text RX10 3 (xr_R 10 277) (some .int) (some (xr_Qi G r h1)))  (a0 : Nat) (a1 : Int32) (ta0 : hp_sh a0 = (10, 0)) (h : hp_T) (hF : fX10_text_90 a0 a1 h = some (r, h1)) : xr_j l G K 3 h [(0, .ref (G.2.2.1 a0)), (1, .int a1)] 90 [] := by
  unfold fX10_text_90 at hF
  refine xr_aload_n C 0 dX10_text_90 rfl rfl ?_
  refine xr_iload_n C 1 dX10_text_91 rfl rfl ?_
  refine xr_puti C fpX10_79 rfl rfl rfl dX10_text_92 ta0 (fun h92 e92 => ?_)
  have hF := fx_letE hF h92 e92
  refine xr_aload_n C 0 dX10_text_95 rfl rfl ?_
  refine xr_iconst (v := 4) C dX10_text_96 (by decide) ?_
  obtain ⟨h97, e97, hF⟩ := fx_b1E hF
  refine xr_callVv C mvX10_121 [.int (4 : Int32)] [] (mX10_wrong l G a0 (4 : Int32) ta0 h92 h97 e97) ta0 (by decide) vc10 rfl ⟨rfl, rfl, (Nat.le_of_ble_eq_true rfl), (Nat.le_of_ble_eq_true rfl)⟩ rfl (Nat.le_of_ble_eq_true rfl) dX10_text_97 ?_
  refine xr_sub [0] [(0, .ref (G.2.2.1 a0))] rfl ?_
  exact bX10_text_100 C   a0 ta0 h97 hF
def fX10_text_65  (a0 : Nat) (a1 : Int32) (h : hp_T) : Option (Int32 × hp_T) := if (h.1 a0 14) = 0 then (if (h.1 (h.2.2 a0 19) (fx_ix (0 : Int32))) = 0 then (fX10_text_90 a0 a1 h) else (if (h.1 (h.2.2 a0 19) (fx_ix (1 : Int32))) = 0 then (fX10_text_90 a0 a1 h) else (fX10_text_100 a0 h))) else (fX10_text_100 a0 h)
set_option maxRecDepth 100000 in
set_option maxHeartbeats 4000000 in
theorem bX10_text_65 {l : Launch} {G : xr_G} {K : xr_K} {r : Int32} {h1 : hp_T} (C : xr_C G K cX10_text RX10 3 (xr_R 10 277) (some .int) (some (xr_Qi G r h1)))  (a0 : Nat) (a1 : Int32) (ta0 : hp_sh a0 = (10, 0)) (h : hp_T) (hF : fX10_text_65 a0 a1 h = some (r, h1)) : xr_j l G K 3 h [(0, .ref (G.2.2.1 a0)), (1, .int a1)] 65 [] := by
  unfold fX10_text_65 at hF
  refine xr_aload_n C 0 dX10_text_65 rfl rfl ?_
  refine xr_geti C flX10_112 rfl dX10_text_66 ta0 ?_
  refine xr_if_ne C 100 dX10_text_69 (by decide) (fun c69 => ?_) (fun c69 => ?_)
  · have hF := fx_neg hF c69
    refine xr_sub [0] [(0, .ref (G.2.2.1 a0))] rfl ?_
    exact bX10_text_100 C   a0 ta0 h hF
  · have hF := fx_pos hF c69
    refine xr_aload_n C 0 dX10_text_72 rfl rfl ?_
    refine xr_getr C flX10_33 rfl (by decide) dX10_text_73 ta0 (fun t73 => ?_)
    refine xr_iconst (v := 0) C dX10_text_76 (by decide) ?_
    refine xr_zald C dX10_text_77 t73 (by decide) ?_
    refine xr_if_eq C 90 dX10_text_78 (by decide) (fun c78 => ?_) (fun c78 => ?_)
    · have hF := fx_pos hF c78
      exact bX10_text_90 C   a0 a1 ta0 h hF
    · have hF := fx_neg hF c78
      refine xr_aload_n C 0 dX10_text_81 rfl rfl ?_
      refine xr_getr C flX10_33 rfl (by decide) dX10_text_82 ta0 (fun t82 => ?_)
      refine xr_iconst (v := 1) C dX10_text_85 (by decide) ?_
      refine xr_zald C dX10_text_86 t82 (by decide) ?_
      refine xr_if_ne C 100 dX10_text_87 (by decide) (fun c87 => ?_) (fun c87 => ?_)
      · have hF := fx_neg hF c87
        refine xr_sub [0] [(0, .ref (G.2.2.1 a0))] rfl ?_
        exact bX10_text_100 C   a0 ta0 h hF
      · have hF := fx_pos hF c87
        exact bX10_text_90 C   a0 a1 ta0 h hF
def fX10_text_43  : Nat → Nat → Int32 → hp_T → Option (Int32 × hp_T)
  | 0, _, _, _ => none
  | n + 1, a0, a1, h => if (h.1 a0 14) = 0 then (if (h.1 a0 11) = (3 : Int32) then (fX10_text_65 a0 a1 h) else (fx_b1 (fX10_readLine a0 h) fun (h59 : hp_T) => fX10_text_43 n a0 a1 h59)) else (fX10_text_65 a0 a1 h)
set_option maxRecDepth 100000 in
set_option maxHeartbeats 4000000 in
theorem bX10_text_43 {l : Launch} {G : xr_G} {K : xr_K} {r : Int32} {h1 : hp_T} (C : xr_C G K cX10_text RX10 3 (xr_R 10 277) (some .int) (some (xr_Qi G r h1)))  : ∀ (n : Nat) (a0 : Nat) (a1 : Int32) (ta0 : hp_sh a0 = (10, 0)) (h : hp_T), fX10_text_43 n a0 a1 h = some (r, h1) → xr_j l G K 3 h [(0, .ref (G.2.2.1 a0)), (1, .int a1)] 43 [] := by
  intro n
  induction n with
  | zero =>
    intro a0 a1 ta0 h hF
    cases hF
  | succ n ih =>
    intro a0 a1 ta0 h hF
    rw [fX10_text_43] at hF
    refine xr_aload_n C 0 dX10_text_43 rfl rfl ?_
    refine xr_geti C flX10_112 rfl dX10_text_44 ta0 ?_
    refine xr_if_ne C 65 dX10_text_47 (by decide) (fun c47 => ?_) (fun c47 => ?_)
    · have hF := fx_neg hF c47
      exact bX10_text_65 C   a0 a1 ta0 h hF
    · have hF := fx_pos hF c47
      refine xr_aload_n C 0 dX10_text_50 rfl rfl ?_
      refine xr_geti C flX10_82 rfl dX10_text_51 ta0 ?_
      refine xr_iconst (v := 3) C dX10_text_54 (by decide) ?_
      refine xr_icmp_eq C 65 dX10_text_55 (by decide) (fun c55 => ?_) (fun c55 => ?_)
      · have hF := fx_pos hF c55
        exact bX10_text_65 C   a0 a1 ta0 h hF
      · have hF := fx_neg hF c55
        refine xr_aload_n C 0 dX10_text_58 rfl rfl ?_
        obtain ⟨h59, e59, hF⟩ := fx_b1E hF
        refine xr_callVv C mvX10_158 [] [] (mX10_readLine l G a0 ta0 h h59 e59) ta0 (by decide) vc10 rfl ⟨rfl, rfl, (Nat.le_of_ble_eq_true rfl), (Nat.le_of_ble_eq_true rfl)⟩ rfl (Nat.le_of_ble_eq_true rfl) dX10_text_59 ?_
        refine xr_goto C 43 dX10_text_62 (by decide) ?_
        exact ih a0 a1 ta0 h59 hF
def fX10_text (a0 : Nat) (a1 : Int32) (h : hp_T) : Option (Int32 × hp_T) := fx_let (hp_sI h a0 0 (0 : Int32)) fun (h2 : hp_T) => if a1 < 0 then (some ((-2 : Int32), h2)) else (if a1 ≤ (h2.1 a0 2) then (fx_b1 (fX10_begins a0 h2) fun (h21 : hp_T) => fx_let (hp_sI h21 a0 8 a1) fun (h26 : hp_T) => fx_let (hp_sI h26 a0 9 (0 : Int32)) fun (h31 : hp_T) => fx_let (hp_sI h31 a0 14 (0 : Int32)) fun (h36 : hp_T) => fx_b1 (fX10_token a0 h36) fun (h40 : hp_T) => fX10_text_43 fx_N a0 a1 h40) else (some ((-2 : Int32), h2)))
set_option maxRecDepth 100000 in
set_option maxHeartbeats 4000000 in
theorem mX10_text (l : Launch) (G : xr_G) (a0 : Nat) (a1 : Int32) (ta0 : hp_sh a0 = (10, 0)) (h h1 : hp_T) (r : Int32) (hF : fX10_text a0 a1 h = some (r, h1)) : xr_M l G yX10_text cX10_text 3 (xr_R 10 277) (some .int) [.ref (G.2.2.1 a0), .int a1] h (xr_Qi G r h1) := by
  refine xr_start rfl (Nat.le_of_ble_eq_true rfl) (fun K C => ?_)
  show xr_j l G K 3 h [(0, .ref (G.2.2.1 a0)), (1, .int a1)] 0 []
  unfold fX10_text at hF
  refine xr_aload_n C 0 dX10_text_0 rfl rfl ?_
  refine xr_iconst (v := 0) C dX10_text_1 (by decide) ?_
  refine xr_puti C fpX10_63 rfl rfl rfl dX10_text_2 ta0 (fun h2 e2 => ?_)
  have hF := fx_letE hF h2 e2
  refine xr_iload_n C 1 dX10_text_5 rfl rfl ?_
  refine xr_if_lt C 17 dX10_text_6 (by decide) (fun c6 => ?_) (fun c6 => ?_)
  · have hF := fx_pos hF c6
    refine xr_bipush (v := -2) C dX10_text_17 (by decide) ?_
    cases hF
    exact xr_iret C dX10_text_19
  · have hF := fx_neg hF c6
    refine xr_iload_n C 1 dX10_text_9 rfl rfl ?_
    refine xr_aload_n C 0 dX10_text_10 rfl rfl ?_
    refine xr_geti C flX10_66 rfl dX10_text_11 ta0 ?_
    refine xr_icmp_le C 20 dX10_text_14 (by decide) (fun c14 => ?_) (fun c14 => ?_)
    · have hF := fx_pos hF c14
      refine xr_aload_n C 0 dX10_text_20 rfl rfl ?_
      obtain ⟨h21, e21, hF⟩ := fx_b1E hF
      refine xr_callVv C mvX10_155 [] [] (mX10_begins l G a0 ta0 h2 h21 e21) ta0 (by decide) vc10 rfl ⟨rfl, rfl, (Nat.le_of_ble_eq_true rfl), (Nat.le_of_ble_eq_true rfl)⟩ rfl (Nat.le_of_ble_eq_true rfl) dX10_text_21 ?_
      refine xr_aload_n C 0 dX10_text_24 rfl rfl ?_
      refine xr_iload_n C 1 dX10_text_25 rfl rfl ?_
      refine xr_puti C fpX10_72 rfl rfl rfl dX10_text_26 ta0 (fun h26 e26 => ?_)
      have hF := fx_letE hF h26 e26
      refine xr_aload_n C 0 dX10_text_29 rfl rfl ?_
      refine xr_iconst (v := 0) C dX10_text_30 (by decide) ?_
      refine xr_puti C fpX10_69 rfl rfl rfl dX10_text_31 ta0 (fun h31 e31 => ?_)
      have hF := fx_letE hF h31 e31
      refine xr_aload_n C 0 dX10_text_34 rfl rfl ?_
      refine xr_iconst (v := 0) C dX10_text_35 (by decide) ?_
      refine xr_puti C fpX10_112 rfl rfl rfl dX10_text_36 ta0 (fun h36 e36 => ?_)
      have hF := fx_letE hF h36 e36
      refine xr_aload_n C 0 dX10_text_39 rfl rfl ?_
      obtain ⟨h40, e40, hF⟩ := fx_b1E hF
      refine xr_callVv C mvX10_118 [] [] (mX10_token l G a0 ta0 h36 h40 e40) ta0 (by decide) vc10 rfl ⟨rfl, rfl, (Nat.le_of_ble_eq_true rfl), (Nat.le_of_ble_eq_true rfl)⟩ rfl (Nat.le_of_ble_eq_true rfl) dX10_text_40 ?_
      exact bX10_text_43 C  fx_N a0 a1 ta0 h40 hF
    · have hF := fx_neg hF c14
      refine xr_bipush (v := -2) C dX10_text_17 (by decide) ?_
      cases hF
      exact xr_iret C dX10_text_19
theorem dX10_isWrong_0 : decode cX10_isWrong 0 = .ok (.ldc 245, 2) := by decide +kernel
theorem dX10_isWrong_2 : decode cX10_isWrong 2 = .ok (.iconst 3, 1) := by decide +kernel
theorem dX10_isWrong_3 : decode cX10_isWrong 3 = .ok (.iload_n 2, 1) := by decide +kernel
theorem dX10_isWrong_4 : decode cX10_isWrong 4 = .ok (.imul, 1) := by decide +kernel
theorem dX10_isWrong_5 : decode cX10_isWrong 5 = .ok (.invokevirtual 108, 3) := by decide +kernel
theorem dX10_isWrong_8 : decode cX10_isWrong 8 = .ok (.bipush 48, 2) := by decide +kernel
theorem dX10_isWrong_10 : decode cX10_isWrong 10 = .ok (.isub, 1) := by decide +kernel
theorem dX10_isWrong_11 : decode cX10_isWrong 11 = .ok (.istore_n 3, 1) := by decide +kernel
theorem dX10_isWrong_12 : decode cX10_isWrong 12 = .ok (.ldc 245, 2) := by decide +kernel
theorem dX10_isWrong_14 : decode cX10_isWrong 14 = .ok (.iconst 3, 1) := by decide +kernel
theorem dX10_isWrong_15 : decode cX10_isWrong 15 = .ok (.iload_n 2, 1) := by decide +kernel
theorem dX10_isWrong_16 : decode cX10_isWrong 16 = .ok (.imul, 1) := by decide +kernel
theorem dX10_isWrong_17 : decode cX10_isWrong 17 = .ok (.iconst 1, 1) := by decide +kernel
theorem dX10_isWrong_18 : decode cX10_isWrong 18 = .ok (.iadd, 1) := by decide +kernel
theorem dX10_isWrong_19 : decode cX10_isWrong 19 = .ok (.invokevirtual 108, 3) := by decide +kernel
theorem dX10_isWrong_22 : decode cX10_isWrong 22 = .ok (.bipush 48, 2) := by decide +kernel
theorem dX10_isWrong_24 : decode cX10_isWrong 24 = .ok (.isub, 1) := by decide +kernel
theorem dX10_isWrong_25 : decode cX10_isWrong 25 = .ok (.istore 4, 2) := by decide +kernel
theorem dX10_isWrong_27 : decode cX10_isWrong 27 = .ok (.ldc 245, 2) := by decide +kernel
theorem dX10_isWrong_29 : decode cX10_isWrong 29 = .ok (.iconst 3, 1) := by decide +kernel
theorem dX10_isWrong_30 : decode cX10_isWrong 30 = .ok (.iload_n 2, 1) := by decide +kernel
theorem dX10_isWrong_31 : decode cX10_isWrong 31 = .ok (.imul, 1) := by decide +kernel
theorem dX10_isWrong_32 : decode cX10_isWrong 32 = .ok (.iconst 2, 1) := by decide +kernel
theorem dX10_isWrong_33 : decode cX10_isWrong 33 = .ok (.iadd, 1) := by decide +kernel
theorem dX10_isWrong_34 : decode cX10_isWrong 34 = .ok (.invokevirtual 108, 3) := by decide +kernel
theorem dX10_isWrong_37 : decode cX10_isWrong 37 = .ok (.bipush 48, 2) := by decide +kernel
theorem dX10_isWrong_39 : decode cX10_isWrong 39 = .ok (.isub, 1) := by decide +kernel
theorem dX10_isWrong_40 : decode cX10_isWrong 40 = .ok (.istore 5, 2) := by decide +kernel
theorem dX10_isWrong_42 : decode cX10_isWrong 42 = .ok (.aload_n 0, 1) := by decide +kernel
theorem dX10_isWrong_43 : decode cX10_isWrong 43 = .ok (.getfield 36, 3) := by decide +kernel
theorem dX10_isWrong_46 : decode cX10_isWrong 46 = .ok (.iconst 2, 1) := by decide +kernel
theorem dX10_isWrong_47 : decode cX10_isWrong 47 = .ok (.iaload, 1) := by decide +kernel
theorem dX10_isWrong_48 : decode cX10_isWrong 48 = .ok (.iload_n 1, 1) := by decide +kernel
theorem dX10_isWrong_49 : decode cX10_isWrong 49 = .ok (.if_icmp .ne 18, 3) := by decide +kernel
theorem dX10_isWrong_52 : decode cX10_isWrong 52 = .ok (.iload_n 3, 1) := by decide +kernel
theorem dX10_isWrong_53 : decode cX10_isWrong 53 = .ok (.iconst 1, 1) := by decide +kernel
theorem dX10_isWrong_54 : decode cX10_isWrong 54 = .ok (.if_icmp .eq 9, 3) := by decide +kernel
theorem dX10_isWrong_57 : decode cX10_isWrong 57 = .ok (.iload 4, 2) := by decide +kernel
theorem dX10_isWrong_59 : decode cX10_isWrong 59 = .ok (.iconst 1, 1) := by decide +kernel
theorem dX10_isWrong_60 : decode cX10_isWrong 60 = .ok (.if_icmp .ne 7, 3) := by decide +kernel
theorem dX10_isWrong_63 : decode cX10_isWrong 63 = .ok (.iconst 1, 1) := by decide +kernel
theorem dX10_isWrong_64 : decode cX10_isWrong 64 = .ok (.goto 4, 3) := by decide +kernel
theorem dX10_isWrong_67 : decode cX10_isWrong 67 = .ok (.iconst 0, 1) := by decide +kernel
theorem dX10_isWrong_68 : decode cX10_isWrong 68 = .ok (.istore 6, 2) := by decide +kernel
theorem dX10_isWrong_70 : decode cX10_isWrong 70 = .ok (.iload 6, 2) := by decide +kernel
theorem dX10_isWrong_72 : decode cX10_isWrong 72 = .ok (.ifCond .ne 27, 3) := by decide +kernel
theorem dX10_isWrong_75 : decode cX10_isWrong 75 = .ok (.aload_n 0, 1) := by decide +kernel
theorem dX10_isWrong_76 : decode cX10_isWrong 76 = .ok (.iload_n 1, 1) := by decide +kernel
theorem dX10_isWrong_77 : decode cX10_isWrong 77 = .ok (.iload_n 3, 1) := by decide +kernel
theorem dX10_isWrong_78 : decode cX10_isWrong 78 = .ok (.iload 5, 2) := by decide +kernel
theorem dX10_isWrong_80 : decode cX10_isWrong 80 = .ok (.invokevirtual 242, 3) := by decide +kernel
theorem dX10_isWrong_83 : decode cX10_isWrong 83 = .ok (.aload_n 0, 1) := by decide +kernel
theorem dX10_isWrong_84 : decode cX10_isWrong 84 = .ok (.iload_n 1, 1) := by decide +kernel
theorem dX10_isWrong_85 : decode cX10_isWrong 85 = .ok (.iload 4, 2) := by decide +kernel
theorem dX10_isWrong_87 : decode cX10_isWrong 87 = .ok (.iload 5, 2) := by decide +kernel
theorem dX10_isWrong_89 : decode cX10_isWrong 89 = .ok (.invokevirtual 242, 3) := by decide +kernel
theorem dX10_isWrong_92 : decode cX10_isWrong 92 = .ok (.if_icmp .lt 7, 3) := by decide +kernel
theorem dX10_isWrong_95 : decode cX10_isWrong 95 = .ok (.iconst 1, 1) := by decide +kernel
theorem dX10_isWrong_96 : decode cX10_isWrong 96 = .ok (.goto 4, 3) := by decide +kernel
theorem dX10_isWrong_99 : decode cX10_isWrong 99 = .ok (.iconst 0, 1) := by decide +kernel
theorem dX10_isWrong_100 : decode cX10_isWrong 100 = .ok (.ireturn, 1) := by decide +kernel
def fX10_isWrong_68  (a0 : Nat) (a1 : Int32) (a3 : Int32) (a4 : Int32) (a5 : Int32) (s0 : Int32) (h : hp_T) : Option (Int32 × hp_T) := if s0 = 0 then (fx_b2 (fX10_stands a0 a1 a3 a5 h) fun (r80 : Int32) (h80 : hp_T) => fx_b2 (fX10_stands a0 a1 a4 a5 h80) fun (r89 : Int32) (h89 : hp_T) => if r80 < r89 then (some ((0 : Int32), h89)) else (some ((1 : Int32), h89))) else (some ((0 : Int32), h))
set_option maxRecDepth 100000 in
set_option maxHeartbeats 4000000 in
theorem bX10_isWrong_68 {l : Launch} {G : xr_G} {K : xr_K} {r : Int32} {h1 : hp_T} (C : xr_C G K cX10_isWrong RX10 7 (xr_R 4 141) (some .boolean) (some (xr_Qi G r h1)))  (a0 : Nat) (a1 : Int32) (a3 : Int32) (a4 : Int32) (a5 : Int32) (s0 : Int32) (ta0 : hp_sh a0 = (10, 0)) (h : hp_T) (hF : fX10_isWrong_68 a0 a1 a3 a4 a5 s0 h = some (r, h1)) : xr_j l G K 7 h [(0, .ref (G.2.2.1 a0)), (1, .int a1), (3, .int a3), (4, .int a4), (5, .int a5)] 68 [.int s0] := by
  unfold fX10_isWrong_68 at hF
  refine xr_istore C [(6, .int s0), (0, .ref (G.2.2.1 a0)), (1, .int a1), (3, .int a3), (4, .int a4), (5, .int a5)] dX10_isWrong_68 (Nat.le_of_ble_eq_true rfl) rfl ?_
  refine xr_iload C 0 dX10_isWrong_70 rfl ?_
  refine xr_if_ne C 99 dX10_isWrong_72 (by decide) (fun c72 => ?_) (fun c72 => ?_)
  · have hF := fx_neg hF c72
    refine xr_iconst (v := 0) C dX10_isWrong_99 (by decide) ?_
    cases hF
    exact xr_zret C rfl dX10_isWrong_100
  · have hF := fx_pos hF c72
    refine xr_aload_n C 1 dX10_isWrong_75 rfl rfl ?_
    refine xr_iload_n C 2 dX10_isWrong_76 rfl rfl ?_
    refine xr_iload_n C 3 dX10_isWrong_77 rfl rfl ?_
    refine xr_iload C 5 dX10_isWrong_78 rfl ?_
    obtain ⟨r80, h80, e80, hF⟩ := fx_b2E hF
    refine xr_callVi C mvX10_242 [.int a1, .int a3, .int a5] [] (mX10_stands l G a0 a1 a3 a5 ta0 h h80 r80 e80) ta0 (by decide) vc10 rfl ⟨rfl, rfl, (Nat.le_of_ble_eq_true rfl), (Nat.le_of_ble_eq_true rfl)⟩ rfl (Nat.le_of_ble_eq_true rfl) dX10_isWrong_80 ?_
    refine xr_aload_n C 1 dX10_isWrong_83 rfl rfl ?_
    refine xr_iload_n C 2 dX10_isWrong_84 rfl rfl ?_
    refine xr_iload C 4 dX10_isWrong_85 rfl ?_
    refine xr_iload C 5 dX10_isWrong_87 rfl ?_
    obtain ⟨r89, h89, e89, hF⟩ := fx_b2E hF
    refine xr_callVi C mvX10_242 [.int a1, .int a4, .int a5] [.int r80] (mX10_stands l G a0 a1 a4 a5 ta0 h80 h89 r89 e89) ta0 (by decide) vc10 rfl ⟨rfl, rfl, (Nat.le_of_ble_eq_true rfl), (Nat.le_of_ble_eq_true rfl)⟩ rfl (Nat.le_of_ble_eq_true rfl) dX10_isWrong_89 ?_
    refine xr_icmp_lt C 99 dX10_isWrong_92 (by decide) (fun c92 => ?_) (fun c92 => ?_)
    · have hF := fx_pos hF c92
      refine xr_iconst (v := 0) C dX10_isWrong_99 (by decide) ?_
      cases hF
      exact xr_zret C rfl dX10_isWrong_100
    · have hF := fx_neg hF c92
      refine xr_iconst (v := 1) C dX10_isWrong_95 (by decide) ?_
      refine xr_goto C 100 dX10_isWrong_96 (by decide) ?_
      cases hF
      exact xr_zret C rfl dX10_isWrong_100
def fX10_isWrong_67  (a0 : Nat) (a1 : Int32) (a3 : Int32) (a4 : Int32) (a5 : Int32) (h : hp_T) : Option (Int32 × hp_T) := fX10_isWrong_68 a0 a1 a3 a4 a5 (0 : Int32) h
set_option maxRecDepth 100000 in
set_option maxHeartbeats 4000000 in
theorem bX10_isWrong_67 {l : Launch} {G : xr_G} {K : xr_K} {r : Int32} {h1 : hp_T} (C : xr_C G K cX10_isWrong RX10 7 (xr_R 4 141) (some .boolean) (some (xr_Qi G r h1)))  (a0 : Nat) (a1 : Int32) (a3 : Int32) (a4 : Int32) (a5 : Int32) (ta0 : hp_sh a0 = (10, 0)) (h : hp_T) (hF : fX10_isWrong_67 a0 a1 a3 a4 a5 h = some (r, h1)) : xr_j l G K 7 h [(0, .ref (G.2.2.1 a0)), (1, .int a1), (3, .int a3), (4, .int a4), (5, .int a5)] 67 [] := by
  unfold fX10_isWrong_67 at hF
  refine xr_iconst (v := 0) C dX10_isWrong_67 (by decide) ?_
  exact bX10_isWrong_68 C   a0 a1 a3 a4 a5 (0 : Int32) ta0 h hF
def fX10_isWrong_63  (a0 : Nat) (a1 : Int32) (a3 : Int32) (a4 : Int32) (a5 : Int32) (h : hp_T) : Option (Int32 × hp_T) := fX10_isWrong_68 a0 a1 a3 a4 a5 (1 : Int32) h
set_option maxRecDepth 100000 in
set_option maxHeartbeats 4000000 in
theorem bX10_isWrong_63 {l : Launch} {G : xr_G} {K : xr_K} {r : Int32} {h1 : hp_T} (C : xr_C G K cX10_isWrong RX10 7 (xr_R 4 141) (some .boolean) (some (xr_Qi G r h1)))  (a0 : Nat) (a1 : Int32) (a3 : Int32) (a4 : Int32) (a5 : Int32) (ta0 : hp_sh a0 = (10, 0)) (h : hp_T) (hF : fX10_isWrong_63 a0 a1 a3 a4 a5 h = some (r, h1)) : xr_j l G K 7 h [(0, .ref (G.2.2.1 a0)), (1, .int a1), (3, .int a3), (4, .int a4), (5, .int a5)] 63 [] := by
  unfold fX10_isWrong_63 at hF
  refine xr_iconst (v := 1) C dX10_isWrong_63 (by decide) ?_
  refine xr_goto C 68 dX10_isWrong_64 (by decide) ?_
  exact bX10_isWrong_68 C   a0 a1 a3 a4 a5 (1 : Int32) ta0 h hF
def fX10_isWrong (a0 : Nat) (a1 : Int32) (a2 : Int32) (h : hp_T) : Option (Int32 × hp_T) := fx_g (fx_in ((3 : Int32) * a2) 21) (fx_let ((hp_st 1 (fx_ix ((3 : Int32) * a2))) - (48 : Int32)) fun (x11 : Int32) => fx_g (fx_in (((3 : Int32) * a2) + (1 : Int32)) 21) (fx_let ((hp_st 1 (fx_ix (((3 : Int32) * a2) + (1 : Int32)))) - (48 : Int32)) fun (x25 : Int32) => fx_g (fx_in (((3 : Int32) * a2) + (2 : Int32)) 21) (fx_let ((hp_st 1 (fx_ix (((3 : Int32) * a2) + (2 : Int32)))) - (48 : Int32)) fun (x40 : Int32) => if (h.1 (h.2.2 a0 20) (fx_ix (2 : Int32))) = a1 then (if x11 = (1 : Int32) then (fX10_isWrong_63 a0 a1 x11 x25 x40 h) else (if x25 = (1 : Int32) then (fX10_isWrong_63 a0 a1 x11 x25 x40 h) else (fX10_isWrong_67 a0 a1 x11 x25 x40 h))) else (fX10_isWrong_67 a0 a1 x11 x25 x40 h))))
set_option maxRecDepth 100000 in
set_option maxHeartbeats 4000000 in
theorem mX10_isWrong (l : Launch) (G : xr_G) (a0 : Nat) (a1 : Int32) (a2 : Int32) (ta0 : hp_sh a0 = (10, 0)) (h h1 : hp_T) (r : Int32) (hF : fX10_isWrong a0 a1 a2 h = some (r, h1)) : xr_M l G yX10_isWrong cX10_isWrong 7 (xr_R 4 141) (some .boolean) [.ref (G.2.2.1 a0), .int a1, .int a2] h (xr_Qi G r h1) := by
  refine xr_start rfl (Nat.le_of_ble_eq_true rfl) (fun K C => ?_)
  show xr_j l G K 7 h [(0, .ref (G.2.2.1 a0)), (1, .int a1), (2, .int a2)] 0 []
  unfold fX10_isWrong at hF
  refine xr_ldcS1 C rfl dX10_isWrong_0 ?_
  refine xr_iconst (v := 3) C dX10_isWrong_2 (by decide) ?_
  refine xr_iload_n C 2 dX10_isWrong_3 rfl rfl ?_
  refine xr_imul C dX10_isWrong_4 ?_
  obtain ⟨g5, hF⟩ := fx_gE hF
  refine xr_charAt C 1 (by decide) mvX10_108 (Nat.le_of_ble_eq_true rfl) (Nat.le_of_ble_eq_true rfl) (Nat.le_of_ble_eq_true rfl) g5 dX10_isWrong_5 ?_
  refine xr_bipush (v := 48) C dX10_isWrong_8 (by decide) ?_
  refine xr_isub C dX10_isWrong_10 ?_
  refine xr_topi (fun x11 e11 => ?_)
  have hF := fx_letE hF x11 e11
  refine xr_istore_n C [(3, .int x11), (0, .ref (G.2.2.1 a0)), (1, .int a1), (2, .int a2)] dX10_isWrong_11 rfl (Nat.le_of_ble_eq_true rfl) rfl ?_
  refine xr_ldcS1 C rfl dX10_isWrong_12 ?_
  refine xr_iconst (v := 3) C dX10_isWrong_14 (by decide) ?_
  refine xr_iload_n C 3 dX10_isWrong_15 rfl rfl ?_
  refine xr_imul C dX10_isWrong_16 ?_
  refine xr_iconst (v := 1) C dX10_isWrong_17 (by decide) ?_
  refine xr_iadd C dX10_isWrong_18 ?_
  obtain ⟨g19, hF⟩ := fx_gE hF
  refine xr_charAt C 1 (by decide) mvX10_108 (Nat.le_of_ble_eq_true rfl) (Nat.le_of_ble_eq_true rfl) (Nat.le_of_ble_eq_true rfl) g19 dX10_isWrong_19 ?_
  refine xr_bipush (v := 48) C dX10_isWrong_22 (by decide) ?_
  refine xr_isub C dX10_isWrong_24 ?_
  refine xr_topi (fun x25 e25 => ?_)
  have hF := fx_letE hF x25 e25
  refine xr_istore C [(4, .int x25), (3, .int x11), (0, .ref (G.2.2.1 a0)), (1, .int a1), (2, .int a2)] dX10_isWrong_25 (Nat.le_of_ble_eq_true rfl) rfl ?_
  refine xr_ldcS1 C rfl dX10_isWrong_27 ?_
  refine xr_iconst (v := 3) C dX10_isWrong_29 (by decide) ?_
  refine xr_iload_n C 4 dX10_isWrong_30 rfl rfl ?_
  refine xr_imul C dX10_isWrong_31 ?_
  refine xr_iconst (v := 2) C dX10_isWrong_32 (by decide) ?_
  refine xr_iadd C dX10_isWrong_33 ?_
  obtain ⟨g34, hF⟩ := fx_gE hF
  refine xr_charAt C 1 (by decide) mvX10_108 (Nat.le_of_ble_eq_true rfl) (Nat.le_of_ble_eq_true rfl) (Nat.le_of_ble_eq_true rfl) g34 dX10_isWrong_34 ?_
  refine xr_bipush (v := 48) C dX10_isWrong_37 (by decide) ?_
  refine xr_isub C dX10_isWrong_39 ?_
  refine xr_topi (fun x40 e40 => ?_)
  have hF := fx_letE hF x40 e40
  refine xr_istore C [(5, .int x40), (4, .int x25), (3, .int x11), (0, .ref (G.2.2.1 a0)), (1, .int a1), (2, .int a2)] dX10_isWrong_40 (Nat.le_of_ble_eq_true rfl) rfl ?_
  refine xr_aload_n C 3 dX10_isWrong_42 rfl rfl ?_
  refine xr_getr C flX10_36 rfl (by decide) dX10_isWrong_43 ta0 (fun t43 => ?_)
  refine xr_iconst (v := 2) C dX10_isWrong_46 (by decide) ?_
  refine xr_iald C dX10_isWrong_47 t43 (by decide) ?_
  refine xr_iload_n C 4 dX10_isWrong_48 rfl rfl ?_
  refine xr_icmp_ne C 67 dX10_isWrong_49 (by decide) (fun c49 => ?_) (fun c49 => ?_)
  · have hF := fx_neg hF c49
    refine xr_sub [3, 4, 2, 1, 0] [(0, .ref (G.2.2.1 a0)), (1, .int a1), (3, .int x11), (4, .int x25), (5, .int x40)] rfl ?_
    exact bX10_isWrong_67 C   a0 a1 x11 x25 x40 ta0 h hF
  · have hF := fx_pos hF c49
    refine xr_iload_n C 2 dX10_isWrong_52 rfl rfl ?_
    refine xr_iconst (v := 1) C dX10_isWrong_53 (by decide) ?_
    refine xr_icmp_eq C 63 dX10_isWrong_54 (by decide) (fun c54 => ?_) (fun c54 => ?_)
    · have hF := fx_pos hF c54
      refine xr_sub [3, 4, 2, 1, 0] [(0, .ref (G.2.2.1 a0)), (1, .int a1), (3, .int x11), (4, .int x25), (5, .int x40)] rfl ?_
      exact bX10_isWrong_63 C   a0 a1 x11 x25 x40 ta0 h hF
    · have hF := fx_neg hF c54
      refine xr_iload C 1 dX10_isWrong_57 rfl ?_
      refine xr_iconst (v := 1) C dX10_isWrong_59 (by decide) ?_
      refine xr_icmp_ne C 67 dX10_isWrong_60 (by decide) (fun c60 => ?_) (fun c60 => ?_)
      · have hF := fx_neg hF c60
        refine xr_sub [3, 4, 2, 1, 0] [(0, .ref (G.2.2.1 a0)), (1, .int a1), (3, .int x11), (4, .int x25), (5, .int x40)] rfl ?_
        exact bX10_isWrong_67 C   a0 a1 x11 x25 x40 ta0 h hF
      · have hF := fx_pos hF c60
        refine xr_sub [3, 4, 2, 1, 0] [(0, .ref (G.2.2.1 a0)), (1, .int a1), (3, .int x11), (4, .int x25), (5, .int x40)] rfl ?_
        exact bX10_isWrong_63 C   a0 a1 x11 x25 x40 ta0 h hF
theorem dX10_wrong__0 : decode cX10_wrong_ 0 = .ok (.aload_n 0, 1) := by decide +kernel
theorem dX10_wrong__1 : decode cX10_wrong_ 1 = .ok (.iconst 0, 1) := by decide +kernel
theorem dX10_wrong__2 : decode cX10_wrong_ 2 = .ok (.putfield 63, 3) := by decide +kernel
theorem dX10_wrong__5 : decode cX10_wrong_ 5 = .ok (.aload_n 0, 1) := by decide +kernel
theorem dX10_wrong__6 : decode cX10_wrong_ 6 = .ok (.iload_n 1, 1) := by decide +kernel
theorem dX10_wrong__7 : decode cX10_wrong_ 7 = .ok (.invokevirtual 180, 3) := by decide +kernel
theorem dX10_wrong__10 : decode cX10_wrong_ 10 = .ok (.ifCond .eq 7, 3) := by decide +kernel
theorem dX10_wrong__13 : decode cX10_wrong_ 13 = .ok (.iload_n 2, 1) := by decide +kernel
theorem dX10_wrong__14 : decode cX10_wrong_ 14 = .ok (.ifCond .ge 5, 3) := by decide +kernel
theorem dX10_wrong__17 : decode cX10_wrong_ 17 = .ok (.iconst (-1), 1) := by decide +kernel
theorem dX10_wrong__18 : decode cX10_wrong_ 18 = .ok (.ireturn, 1) := by decide +kernel
theorem dX10_wrong__19 : decode cX10_wrong_ 19 = .ok (.iload_n 2, 1) := by decide +kernel
theorem dX10_wrong__20 : decode cX10_wrong_ 20 = .ok (.istore_n 3, 1) := by decide +kernel
theorem dX10_wrong__21 : decode cX10_wrong_ 21 = .ok (.iconst 0, 1) := by decide +kernel
theorem dX10_wrong__22 : decode cX10_wrong_ 22 = .ok (.istore 4, 2) := by decide +kernel
theorem dX10_wrong__24 : decode cX10_wrong_ 24 = .ok (.iload 4, 2) := by decide +kernel
theorem dX10_wrong__26 : decode cX10_wrong_ 26 = .ok (.bipush 7, 2) := by decide +kernel
theorem dX10_wrong__28 : decode cX10_wrong_ 28 = .ok (.if_icmp .ge 32, 3) := by decide +kernel
theorem dX10_wrong__31 : decode cX10_wrong_ 31 = .ok (.aload_n 0, 1) := by decide +kernel
theorem dX10_wrong__32 : decode cX10_wrong_ 32 = .ok (.iload_n 1, 1) := by decide +kernel
theorem dX10_wrong__33 : decode cX10_wrong_ 33 = .ok (.iload 4, 2) := by decide +kernel
theorem dX10_wrong__35 : decode cX10_wrong_ 35 = .ok (.invokevirtual 247, 3) := by decide +kernel
theorem dX10_wrong__38 : decode cX10_wrong_ 38 = .ok (.ifCond .ne 6, 3) := by decide +kernel
theorem dX10_wrong__41 : decode cX10_wrong_ 41 = .ok (.goto 13, 3) := by decide +kernel
theorem dX10_wrong__44 : decode cX10_wrong_ 44 = .ok (.iload_n 3, 1) := by decide +kernel
theorem dX10_wrong__45 : decode cX10_wrong_ 45 = .ok (.ifCond .ne 6, 3) := by decide +kernel
theorem dX10_wrong__48 : decode cX10_wrong_ 48 = .ok (.iload 4, 2) := by decide +kernel
theorem dX10_wrong__50 : decode cX10_wrong_ 50 = .ok (.ireturn, 1) := by decide +kernel
theorem dX10_wrong__51 : decode cX10_wrong_ 51 = .ok (.iinc 3 (-1), 3) := by decide +kernel
theorem dX10_wrong__54 : decode cX10_wrong_ 54 = .ok (.iinc 4 1, 3) := by decide +kernel
theorem dX10_wrong__57 : decode cX10_wrong_ 57 = .ok (.goto (-33), 3) := by decide +kernel
theorem dX10_wrong__60 : decode cX10_wrong_ 60 = .ok (.bipush (-2), 2) := by decide +kernel
theorem dX10_wrong__62 : decode cX10_wrong_ 62 = .ok (.ireturn, 1) := by decide +kernel
def fX10_wrong__54 (k24 : Nat → Int32 → Int32 → Int32 → hp_T → Option (Int32 × hp_T)) (a0 : Nat) (a1 : Int32) (a3 : Int32) (a4 : Int32) (h : hp_T) : Option (Int32 × hp_T) := fx_let (a4 + (1 : Int32)) fun (x54 : Int32) => k24 a0 a1 a3 x54 h
set_option maxRecDepth 100000 in
set_option maxHeartbeats 4000000 in
theorem bX10_wrong__54 {l : Launch} {G : xr_G} {K : xr_K} {r : Int32} {h1 : hp_T} (C : xr_C G K cX10_wrong_ RX10 5 (xr_R 5 167) (some .int) (some (xr_Qi G r h1))) (k24 : Nat → Int32 → Int32 → Int32 → hp_T → Option (Int32 × hp_T)) (j24 : ∀ (a0 : Nat) (a1 : Int32) (a3 : Int32) (a4 : Int32) (ta0 : hp_sh a0 = (10, 0)) (h : hp_T), k24 a0 a1 a3 a4 h = some (r, h1) → xr_j l G K 5 h [(0, .ref (G.2.2.1 a0)), (1, .int a1), (3, .int a3), (4, .int a4)] 24 []) (a0 : Nat) (a1 : Int32) (a3 : Int32) (a4 : Int32) (ta0 : hp_sh a0 = (10, 0)) (h : hp_T) (hF : fX10_wrong__54 k24 a0 a1 a3 a4 h = some (r, h1)) : xr_j l G K 5 h [(0, .ref (G.2.2.1 a0)), (1, .int a1), (3, .int a3), (4, .int a4)] 54 [] := by
  unfold fX10_wrong__54 at hF
  obtain ⟨x54, e54⟩ : ∃ y : Int32, y = (a4 + (1 : Int32)) := ⟨_, rfl⟩
  have hF := fx_letE hF x54 e54
  refine xr_iinc C x54 3 [(4, .int x54), (0, .ref (G.2.2.1 a0)), (1, .int a1), (3, .int a3)] dX10_wrong__54 rfl (by rw [e54]; rfl) (Nat.le_of_ble_eq_true rfl) rfl ?_
  refine xr_goto C 24 dX10_wrong__57 (by decide) ?_
  refine xr_sub [1, 2, 3, 0] [(0, .ref (G.2.2.1 a0)), (1, .int a1), (3, .int a3), (4, .int x54)] rfl ?_
  exact j24 a0 a1 a3 x54 ta0 h hF
def fX10_wrong__24  : Nat → Nat → Int32 → Int32 → Int32 → hp_T → Option (Int32 × hp_T)
  | 0, _, _, _, _, _ => none
  | n + 1, a0, a1, a3, a4, h => if (7 : Int32) ≤ a4 then (some ((-2 : Int32), h)) else (fx_b2 (fX10_isWrong a0 a1 a4 h) fun (r35 : Int32) (h35 : hp_T) => if r35 = 0 then (fX10_wrong__54 (fX10_wrong__24 n) a0 a1 a3 a4 h35) else (if a3 = 0 then (some (a4, h35)) else (fx_let (a3 + (-1 : Int32)) fun (x51 : Int32) => fX10_wrong__54 (fX10_wrong__24 n) a0 a1 x51 a4 h35)))
set_option maxRecDepth 100000 in
set_option maxHeartbeats 4000000 in
theorem bX10_wrong__24 {l : Launch} {G : xr_G} {K : xr_K} {r : Int32} {h1 : hp_T} (C : xr_C G K cX10_wrong_ RX10 5 (xr_R 5 167) (some .int) (some (xr_Qi G r h1)))  : ∀ (n : Nat) (a0 : Nat) (a1 : Int32) (a3 : Int32) (a4 : Int32) (ta0 : hp_sh a0 = (10, 0)) (h : hp_T), fX10_wrong__24 n a0 a1 a3 a4 h = some (r, h1) → xr_j l G K 5 h [(0, .ref (G.2.2.1 a0)), (1, .int a1), (3, .int a3), (4, .int a4)] 24 [] := by
  intro n
  induction n with
  | zero =>
    intro a0 a1 a3 a4 ta0 h hF
    cases hF
  | succ n ih =>
    intro a0 a1 a3 a4 ta0 h hF
    rw [fX10_wrong__24] at hF
    refine xr_iload C 3 dX10_wrong__24 rfl ?_
    refine xr_bipush (v := 7) C dX10_wrong__26 (by decide) ?_
    refine xr_icmp_ge C 60 dX10_wrong__28 (by decide) (fun c28 => ?_) (fun c28 => ?_)
    · have hF := fx_pos hF c28
      refine xr_bipush (v := -2) C dX10_wrong__60 (by decide) ?_
      cases hF
      exact xr_iret C dX10_wrong__62
    · have hF := fx_neg hF c28
      refine xr_aload_n C 0 dX10_wrong__31 rfl rfl ?_
      refine xr_iload_n C 1 dX10_wrong__32 rfl rfl ?_
      refine xr_iload C 3 dX10_wrong__33 rfl ?_
      obtain ⟨r35, h35, e35, hF⟩ := fx_b2E hF
      refine xr_callVi C mvX10_247 [.int a1, .int a4] [] (mX10_isWrong l G a0 a1 a4 ta0 h h35 r35 e35) ta0 (by decide) vc10 rfl ⟨rfl, rfl, (Nat.le_of_ble_eq_true rfl), (Nat.le_of_ble_eq_true rfl)⟩ rfl (Nat.le_of_ble_eq_true rfl) dX10_wrong__35 ?_
      refine xr_if_ne C 44 dX10_wrong__38 (by decide) (fun c38 => ?_) (fun c38 => ?_)
      · have hF := fx_neg hF c38
        refine xr_iload_n C 2 dX10_wrong__44 rfl rfl ?_
        refine xr_if_ne C 51 dX10_wrong__45 (by decide) (fun c45 => ?_) (fun c45 => ?_)
        · have hF := fx_neg hF c45
          obtain ⟨x51, e51⟩ : ∃ y : Int32, y = (a3 + (-1 : Int32)) := ⟨_, rfl⟩
          have hF := fx_letE hF x51 e51
          refine xr_iinc C x51 2 [(3, .int x51), (0, .ref (G.2.2.1 a0)), (1, .int a1), (4, .int a4)] dX10_wrong__51 rfl (by rw [e51]; rfl) (Nat.le_of_ble_eq_true rfl) rfl ?_
          refine xr_sub [1, 2, 0, 3] [(0, .ref (G.2.2.1 a0)), (1, .int a1), (3, .int x51), (4, .int a4)] rfl ?_
          exact bX10_wrong__54 C (fX10_wrong__24 n) (fun a0 a1 a3 a4 ta0 h hF => ih a0 a1 a3 a4 ta0 h hF)  a0 a1 x51 a4 ta0 h35 hF
        · have hF := fx_pos hF c45
          refine xr_iload C 3 dX10_wrong__48 rfl ?_
          cases hF
          exact xr_iret C dX10_wrong__50
      · have hF := fx_pos hF c38
        refine xr_goto C 54 dX10_wrong__41 (by decide) ?_
        exact bX10_wrong__54 C (fX10_wrong__24 n) (fun a0 a1 a3 a4 ta0 h hF => ih a0 a1 a3 a4 ta0 h hF)  a0 a1 a3 a4 ta0 h35 hF
def fX10_wrong_ (a0 : Nat) (a1 : Int32) (a2 : Int32) (h : hp_T) : Option (Int32 × hp_T) := fx_let (hp_sI h a0 0 (0 : Int32)) fun (h2 : hp_T) => fx_b2 (fX10_isSide a0 a1 h2) fun (r7 : Int32) (h7 : hp_T) => if r7 = 0 then (some ((-1 : Int32), h7)) else (if 0 ≤ a2 then (fX10_wrong__24 fx_N a0 a1 a2 (0 : Int32) h7) else (some ((-1 : Int32), h7)))
set_option maxRecDepth 100000 in
set_option maxHeartbeats 4000000 in
theorem mX10_wrong_ (l : Launch) (G : xr_G) (a0 : Nat) (a1 : Int32) (a2 : Int32) (ta0 : hp_sh a0 = (10, 0)) (h h1 : hp_T) (r : Int32) (hF : fX10_wrong_ a0 a1 a2 h = some (r, h1)) : xr_M l G yX10_wrong_ cX10_wrong_ 5 (xr_R 5 167) (some .int) [.ref (G.2.2.1 a0), .int a1, .int a2] h (xr_Qi G r h1) := by
  refine xr_start rfl (Nat.le_of_ble_eq_true rfl) (fun K C => ?_)
  show xr_j l G K 5 h [(0, .ref (G.2.2.1 a0)), (1, .int a1), (2, .int a2)] 0 []
  unfold fX10_wrong_ at hF
  refine xr_aload_n C 0 dX10_wrong__0 rfl rfl ?_
  refine xr_iconst (v := 0) C dX10_wrong__1 (by decide) ?_
  refine xr_puti C fpX10_63 rfl rfl rfl dX10_wrong__2 ta0 (fun h2 e2 => ?_)
  have hF := fx_letE hF h2 e2
  refine xr_aload_n C 0 dX10_wrong__5 rfl rfl ?_
  refine xr_iload_n C 1 dX10_wrong__6 rfl rfl ?_
  obtain ⟨r7, h7, e7, hF⟩ := fx_b2E hF
  refine xr_callVi C mvX10_180 [.int a1] [] (mX10_isSide l G a0 a1 ta0 h2 h7 r7 e7) ta0 (by decide) vc10 rfl ⟨rfl, rfl, (Nat.le_of_ble_eq_true rfl), (Nat.le_of_ble_eq_true rfl)⟩ rfl (Nat.le_of_ble_eq_true rfl) dX10_wrong__7 ?_
  refine xr_if_eq C 17 dX10_wrong__10 (by decide) (fun c10 => ?_) (fun c10 => ?_)
  · have hF := fx_pos hF c10
    refine xr_iconst (v := -1) C dX10_wrong__17 (by decide) ?_
    cases hF
    exact xr_iret C dX10_wrong__18
  · have hF := fx_neg hF c10
    refine xr_iload_n C 2 dX10_wrong__13 rfl rfl ?_
    refine xr_if_ge C 19 dX10_wrong__14 (by decide) (fun c14 => ?_) (fun c14 => ?_)
    · have hF := fx_pos hF c14
      refine xr_iload_n C 2 dX10_wrong__19 rfl rfl ?_
      refine xr_istore_n C [(3, .int a2), (0, .ref (G.2.2.1 a0)), (1, .int a1), (2, .int a2)] dX10_wrong__20 rfl (Nat.le_of_ble_eq_true rfl) rfl ?_
      refine xr_iconst (v := 0) C dX10_wrong__21 (by decide) ?_
      refine xr_istore C [(4, .int (0 : Int32)), (3, .int a2), (0, .ref (G.2.2.1 a0)), (1, .int a1), (2, .int a2)] dX10_wrong__22 (Nat.le_of_ble_eq_true rfl) rfl ?_
      refine xr_sub [2, 3, 1, 0] [(0, .ref (G.2.2.1 a0)), (1, .int a1), (3, .int a2), (4, .int (0 : Int32))] rfl ?_
      exact bX10_wrong__24 C  fx_N a0 a1 a2 (0 : Int32) ta0 h7 hF
    · have hF := fx_neg hF c14
      refine xr_iconst (v := -1) C dX10_wrong__17 (by decide) ?_
      cases hF
      exact xr_iret C dX10_wrong__18
