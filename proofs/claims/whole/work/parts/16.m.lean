theorem dX10_undo_0 : decode cX10_undo 0 = .ok (.aload_n 0, 1) := by decide +kernel
theorem dX10_undo_1 : decode cX10_undo 1 = .ok (.iconst 0, 1) := by decide +kernel
theorem dX10_undo_2 : decode cX10_undo 2 = .ok (.putfield 63, 3) := by decide +kernel
theorem dX10_undo_5 : decode cX10_undo 5 = .ok (.aload_n 0, 1) := by decide +kernel
theorem dX10_undo_6 : decode cX10_undo 6 = .ok (.getfield 174, 3) := by decide +kernel
theorem dX10_undo_9 : decode cX10_undo 9 = .ok (.ifCond .ne 5, 3) := by decide +kernel
theorem dX10_undo_12 : decode cX10_undo 12 = .ok (.iconst (-1), 1) := by decide +kernel
theorem dX10_undo_13 : decode cX10_undo 13 = .ok (.ireturn, 1) := by decide +kernel
theorem dX10_undo_14 : decode cX10_undo 14 = .ok (.aload_n 0, 1) := by decide +kernel
theorem dX10_undo_15 : decode cX10_undo 15 = .ok (.dup, 1) := by decide +kernel
theorem dX10_undo_16 : decode cX10_undo 16 = .ok (.getfield 174, 3) := by decide +kernel
theorem dX10_undo_19 : decode cX10_undo 19 = .ok (.iconst 1, 1) := by decide +kernel
theorem dX10_undo_20 : decode cX10_undo 20 = .ok (.isub, 1) := by decide +kernel
theorem dX10_undo_21 : decode cX10_undo 21 = .ok (.putfield 174, 3) := by decide +kernel
theorem dX10_undo_24 : decode cX10_undo 24 = .ok (.iconst 0, 1) := by decide +kernel
theorem dX10_undo_25 : decode cX10_undo 25 = .ok (.istore_n 1, 1) := by decide +kernel
theorem dX10_undo_26 : decode cX10_undo 26 = .ok (.iload_n 1, 1) := by decide +kernel
theorem dX10_undo_27 : decode cX10_undo 27 = .ok (.bipush 120, 2) := by decide +kernel
theorem dX10_undo_29 : decode cX10_undo 29 = .ok (.if_icmp .ge 29, 3) := by decide +kernel
theorem dX10_undo_32 : decode cX10_undo 32 = .ok (.aload_n 0, 1) := by decide +kernel
theorem dX10_undo_33 : decode cX10_undo 33 = .ok (.getfield 36, 3) := by decide +kernel
theorem dX10_undo_36 : decode cX10_undo 36 = .ok (.iload_n 1, 1) := by decide +kernel
theorem dX10_undo_37 : decode cX10_undo 37 = .ok (.aload_n 0, 1) := by decide +kernel
theorem dX10_undo_38 : decode cX10_undo 38 = .ok (.getfield 39, 3) := by decide +kernel
theorem dX10_undo_41 : decode cX10_undo 41 = .ok (.bipush 120, 2) := by decide +kernel
theorem dX10_undo_43 : decode cX10_undo 43 = .ok (.aload_n 0, 1) := by decide +kernel
theorem dX10_undo_44 : decode cX10_undo 44 = .ok (.getfield 174, 3) := by decide +kernel
theorem dX10_undo_47 : decode cX10_undo 47 = .ok (.imul, 1) := by decide +kernel
theorem dX10_undo_48 : decode cX10_undo 48 = .ok (.iload_n 1, 1) := by decide +kernel
theorem dX10_undo_49 : decode cX10_undo 49 = .ok (.iadd, 1) := by decide +kernel
theorem dX10_undo_50 : decode cX10_undo 50 = .ok (.iaload, 1) := by decide +kernel
theorem dX10_undo_51 : decode cX10_undo 51 = .ok (.iastore, 1) := by decide +kernel
theorem dX10_undo_52 : decode cX10_undo 52 = .ok (.iinc 1 1, 3) := by decide +kernel
theorem dX10_undo_55 : decode cX10_undo 55 = .ok (.goto (-29), 3) := by decide +kernel
theorem dX10_undo_58 : decode cX10_undo 58 = .ok (.aload_n 0, 1) := by decide +kernel
theorem dX10_undo_59 : decode cX10_undo 59 = .ok (.getfield 174, 3) := by decide +kernel
theorem dX10_undo_62 : decode cX10_undo 62 = .ok (.ireturn, 1) := by decide +kernel
def fX10_undo_26  : Nat → Nat → Int32 → hp_T → Option (Int32 × hp_T)
  | 0, _, _, _ => none
  | n + 1, a0, a1, h => if (120 : Int32) ≤ a1 then (some ((h.1 a0 22), h)) else (fx_g (fx_in (((120 : Int32) * (h.1 a0 22)) + a1) 2400) (fx_g (fx_in a1 120) (fx_let (hp_sI h (h.2.2 a0 20) (fx_ix a1) (h.1 (h.2.2 a0 21) (fx_ix (((120 : Int32) * (h.1 a0 22)) + a1)))) fun (h51 : hp_T) => fx_let (a1 + (1 : Int32)) fun (x52 : Int32) => fX10_undo_26 n a0 x52 h51)))
set_option maxRecDepth 100000 in
set_option maxHeartbeats 4000000 in
theorem bX10_undo_26 {l : Launch} {G : xr_G} {K : xr_K} {r : Int32} {h1 : hp_T} (C : xr_C G K cX10_undo RX10 2 (xr_R 0 0) (some .int) (some (xr_Qi G r h1)))  : ∀ (n : Nat) (a0 : Nat) (a1 : Int32) (ta0 : hp_sh a0 = (10, 0)) (h : hp_T), fX10_undo_26 n a0 a1 h = some (r, h1) → xr_j l G K 2 h [(0, .ref (G.2.2.1 a0)), (1, .int a1)] 26 [] := by
  intro n
  induction n with
  | zero =>
    intro a0 a1 ta0 h hF
    cases hF
  | succ n ih =>
    intro a0 a1 ta0 h hF
    rw [fX10_undo_26] at hF
    refine xr_iload_n C 1 dX10_undo_26 rfl rfl ?_
    refine xr_bipush (v := 120) C dX10_undo_27 (by decide) ?_
    refine xr_icmp_ge C 58 dX10_undo_29 (by decide) (fun c29 => ?_) (fun c29 => ?_)
    · have hF := fx_pos hF c29
      refine xr_aload_n C 0 dX10_undo_58 rfl rfl ?_
      refine xr_geti C flX10_174 rfl dX10_undo_59 ta0 ?_
      cases hF
      exact xr_iret C dX10_undo_62
    · have hF := fx_neg hF c29
      refine xr_aload_n C 0 dX10_undo_32 rfl rfl ?_
      refine xr_getr C flX10_36 rfl (by decide) dX10_undo_33 ta0 (fun t33 => ?_)
      refine xr_iload_n C 1 dX10_undo_36 rfl rfl ?_
      refine xr_aload_n C 0 dX10_undo_37 rfl rfl ?_
      refine xr_getr C flX10_39 rfl (by decide) dX10_undo_38 ta0 (fun t38 => ?_)
      refine xr_bipush (v := 120) C dX10_undo_41 (by decide) ?_
      refine xr_aload_n C 0 dX10_undo_43 rfl rfl ?_
      refine xr_geti C flX10_174 rfl dX10_undo_44 ta0 ?_
      refine xr_imul C dX10_undo_47 ?_
      refine xr_iload_n C 1 dX10_undo_48 rfl rfl ?_
      refine xr_iadd C dX10_undo_49 ?_
      obtain ⟨g50, hF⟩ := fx_gE hF
      refine xr_iald C dX10_undo_50 t38 g50 ?_
      obtain ⟨g51, hF⟩ := fx_gE hF
      refine xr_iast C dX10_undo_51 t33 g51 (fun h51 e51 => ?_)
      have hF := fx_letE hF h51 e51
      obtain ⟨x52, e52⟩ : ∃ y : Int32, y = (a1 + (1 : Int32)) := ⟨_, rfl⟩
      have hF := fx_letE hF x52 e52
      refine xr_iinc C x52 1 [(1, .int x52), (0, .ref (G.2.2.1 a0))] dX10_undo_52 rfl (by rw [e52]; rfl) (Nat.le_of_ble_eq_true rfl) rfl ?_
      refine xr_goto C 26 dX10_undo_55 (by decide) ?_
      refine xr_sub [1, 0] [(0, .ref (G.2.2.1 a0)), (1, .int x52)] rfl ?_
      exact ih a0 x52 ta0 h51 hF
def fX10_undo (a0 : Nat) (h : hp_T) : Option (Int32 × hp_T) := fx_let (hp_sI h a0 0 (0 : Int32)) fun (h2 : hp_T) => if (h2.1 a0 22) = 0 then (some ((-1 : Int32), h2)) else (fx_let (hp_sI h2 a0 22 ((h2.1 a0 22) - (1 : Int32))) fun (h21 : hp_T) => fX10_undo_26 fx_N a0 (0 : Int32) h21)
set_option maxRecDepth 100000 in
set_option maxHeartbeats 4000000 in
theorem mX10_undo (l : Launch) (G : xr_G) (a0 : Nat) (ta0 : hp_sh a0 = (10, 0)) (h h1 : hp_T) (r : Int32) (hF : fX10_undo a0 h = some (r, h1)) : xr_M l G yX10_undo cX10_undo 2 (xr_R 0 0) (some .int) [.ref (G.2.2.1 a0)] h (xr_Qi G r h1) := by
  refine xr_start rfl (Nat.le_of_ble_eq_true rfl) (fun K C => ?_)
  show xr_j l G K 2 h [(0, .ref (G.2.2.1 a0))] 0 []
  unfold fX10_undo at hF
  refine xr_aload_n C 0 dX10_undo_0 rfl rfl ?_
  refine xr_iconst (v := 0) C dX10_undo_1 (by decide) ?_
  refine xr_puti C fpX10_63 rfl rfl rfl dX10_undo_2 ta0 (fun h2 e2 => ?_)
  have hF := fx_letE hF h2 e2
  refine xr_aload_n C 0 dX10_undo_5 rfl rfl ?_
  refine xr_geti C flX10_174 rfl dX10_undo_6 ta0 ?_
  refine xr_if_ne C 14 dX10_undo_9 (by decide) (fun c9 => ?_) (fun c9 => ?_)
  · have hF := fx_neg hF c9
    refine xr_aload_n C 0 dX10_undo_14 rfl rfl ?_
    refine xr_dup C dX10_undo_15 rfl ?_
    refine xr_geti C flX10_174 rfl dX10_undo_16 ta0 ?_
    refine xr_iconst (v := 1) C dX10_undo_19 (by decide) ?_
    refine xr_isub C dX10_undo_20 ?_
    refine xr_puti C fpX10_174 rfl rfl rfl dX10_undo_21 ta0 (fun h21 e21 => ?_)
    have hF := fx_letE hF h21 e21
    refine xr_iconst (v := 0) C dX10_undo_24 (by decide) ?_
    refine xr_istore_n C [(1, .int (0 : Int32)), (0, .ref (G.2.2.1 a0))] dX10_undo_25 rfl (Nat.le_of_ble_eq_true rfl) rfl ?_
    refine xr_sub [1, 0] [(0, .ref (G.2.2.1 a0)), (1, .int (0 : Int32))] rfl ?_
    exact bX10_undo_26 C  fx_N a0 (0 : Int32) ta0 h21 hF
  · have hF := fx_pos hF c9
    refine xr_iconst (v := -1) C dX10_undo_12 (by decide) ?_
    cases hF
    exact xr_iret C dX10_undo_13
theorem dX10_turns_0 : decode cX10_turns 0 = .ok (.aload_n 0, 1) := by decide +kernel
theorem dX10_turns_1 : decode cX10_turns 1 = .ok (.iload_n 1, 1) := by decide +kernel
theorem dX10_turns_2 : decode cX10_turns 2 = .ok (.iconst 1, 1) := by decide +kernel
theorem dX10_turns_3 : decode cX10_turns 3 = .ok (.invokevirtual 183, 3) := by decide +kernel
theorem dX10_turns_6 : decode cX10_turns 6 = .ok (.istore_n 2, 1) := by decide +kernel
theorem dX10_turns_7 : decode cX10_turns 7 = .ok (.iconst 1, 1) := by decide +kernel
theorem dX10_turns_8 : decode cX10_turns 8 = .ok (.istore_n 3, 1) := by decide +kernel
theorem dX10_turns_9 : decode cX10_turns 9 = .ok (.iload_n 3, 1) := by decide +kernel
theorem dX10_turns_10 : decode cX10_turns 10 = .ok (.bipush 6, 2) := by decide +kernel
theorem dX10_turns_12 : decode cX10_turns 12 = .ok (.if_icmp .ge 23, 3) := by decide +kernel
theorem dX10_turns_15 : decode cX10_turns 15 = .ok (.aload_n 0, 1) := by decide +kernel
theorem dX10_turns_16 : decode cX10_turns 16 = .ok (.iload_n 1, 1) := by decide +kernel
theorem dX10_turns_17 : decode cX10_turns 17 = .ok (.iload_n 3, 1) := by decide +kernel
theorem dX10_turns_18 : decode cX10_turns 18 = .ok (.aload_n 0, 1) := by decide +kernel
theorem dX10_turns_19 : decode cX10_turns 19 = .ok (.iload_n 1, 1) := by decide +kernel
theorem dX10_turns_20 : decode cX10_turns 20 = .ok (.iload_n 3, 1) := by decide +kernel
theorem dX10_turns_21 : decode cX10_turns 21 = .ok (.iconst 1, 1) := by decide +kernel
theorem dX10_turns_22 : decode cX10_turns 22 = .ok (.iadd, 1) := by decide +kernel
theorem dX10_turns_23 : decode cX10_turns 23 = .ok (.invokevirtual 183, 3) := by decide +kernel
theorem dX10_turns_26 : decode cX10_turns 26 = .ok (.invokevirtual 211, 3) := by decide +kernel
theorem dX10_turns_29 : decode cX10_turns 29 = .ok (.iinc 3 1, 3) := by decide +kernel
theorem dX10_turns_32 : decode cX10_turns 32 = .ok (.goto (-23), 3) := by decide +kernel
theorem dX10_turns_35 : decode cX10_turns 35 = .ok (.aload_n 0, 1) := by decide +kernel
theorem dX10_turns_36 : decode cX10_turns 36 = .ok (.iload_n 1, 1) := by decide +kernel
theorem dX10_turns_37 : decode cX10_turns 37 = .ok (.bipush 6, 2) := by decide +kernel
theorem dX10_turns_39 : decode cX10_turns 39 = .ok (.iload_n 2, 1) := by decide +kernel
theorem dX10_turns_40 : decode cX10_turns 40 = .ok (.invokevirtual 211, 3) := by decide +kernel
theorem dX10_turns_43 : decode cX10_turns 43 = .ok (.aload_n 0, 1) := by decide +kernel
theorem dX10_turns_44 : decode cX10_turns 44 = .ok (.getfield 36, 3) := by decide +kernel
theorem dX10_turns_47 : decode cX10_turns 47 = .ok (.iconst 3, 1) := by decide +kernel
theorem dX10_turns_48 : decode cX10_turns 48 = .ok (.iload_n 1, 1) := by decide +kernel
theorem dX10_turns_49 : decode cX10_turns 49 = .ok (.iadd, 1) := by decide +kernel
theorem dX10_turns_50 : decode cX10_turns 50 = .ok (.aload_n 0, 1) := by decide +kernel
theorem dX10_turns_51 : decode cX10_turns 51 = .ok (.getfield 36, 3) := by decide +kernel
theorem dX10_turns_54 : decode cX10_turns 54 = .ok (.iconst 3, 1) := by decide +kernel
theorem dX10_turns_55 : decode cX10_turns 55 = .ok (.iload_n 1, 1) := by decide +kernel
theorem dX10_turns_56 : decode cX10_turns 56 = .ok (.iadd, 1) := by decide +kernel
theorem dX10_turns_57 : decode cX10_turns 57 = .ok (.iaload, 1) := by decide +kernel
theorem dX10_turns_58 : decode cX10_turns 58 = .ok (.iconst 1, 1) := by decide +kernel
theorem dX10_turns_59 : decode cX10_turns 59 = .ok (.iadd, 1) := by decide +kernel
theorem dX10_turns_60 : decode cX10_turns 60 = .ok (.bipush 6, 2) := by decide +kernel
theorem dX10_turns_62 : decode cX10_turns 62 = .ok (.irem, 1) := by decide +kernel
theorem dX10_turns_63 : decode cX10_turns 63 = .ok (.iastore, 1) := by decide +kernel
theorem dX10_turns_64 : decode cX10_turns 64 = .ok (.aload_n 0, 1) := by decide +kernel
theorem dX10_turns_65 : decode cX10_turns 65 = .ok (.getfield 13, 3) := by decide +kernel
theorem dX10_turns_68 : decode cX10_turns 68 = .ok (.bipush 7, 2) := by decide +kernel
theorem dX10_turns_70 : decode cX10_turns 70 = .ok (.iload_n 1, 1) := by decide +kernel
theorem dX10_turns_71 : decode cX10_turns 71 = .ok (.iadd, 1) := by decide +kernel
theorem dX10_turns_72 : decode cX10_turns 72 = .ok (.iaload, 1) := by decide +kernel
theorem dX10_turns_73 : decode cX10_turns 73 = .ok (.iconst (-1), 1) := by decide +kernel
theorem dX10_turns_74 : decode cX10_turns 74 = .ok (.if_icmp .eq 21, 3) := by decide +kernel
theorem dX10_turns_77 : decode cX10_turns 77 = .ok (.aload_n 0, 1) := by decide +kernel
theorem dX10_turns_78 : decode cX10_turns 78 = .ok (.iload_n 1, 1) := by decide +kernel
theorem dX10_turns_79 : decode cX10_turns 79 = .ok (.iconst 4, 1) := by decide +kernel
theorem dX10_turns_80 : decode cX10_turns 80 = .ok (.invokevirtual 183, 3) := by decide +kernel
theorem dX10_turns_83 : decode cX10_turns 83 = .ok (.aload_n 0, 1) := by decide +kernel
theorem dX10_turns_84 : decode cX10_turns 84 = .ok (.getfield 13, 3) := by decide +kernel
theorem dX10_turns_87 : decode cX10_turns 87 = .ok (.bipush 7, 2) := by decide +kernel
theorem dX10_turns_89 : decode cX10_turns 89 = .ok (.iload_n 1, 1) := by decide +kernel
theorem dX10_turns_90 : decode cX10_turns 90 = .ok (.iadd, 1) := by decide +kernel
theorem dX10_turns_91 : decode cX10_turns 91 = .ok (.iaload, 1) := by decide +kernel
theorem dX10_turns_92 : decode cX10_turns 92 = .ok (.if_icmp .eq 4, 3) := by decide +kernel
theorem dX10_turns_95 : decode cX10_turns 95 = .ok (.return_, 1) := by decide +kernel
theorem dX10_turns_96 : decode cX10_turns 96 = .ok (.aload_n 0, 1) := by decide +kernel
theorem dX10_turns_97 : decode cX10_turns 97 = .ok (.iload_n 1, 1) := by decide +kernel
theorem dX10_turns_98 : decode cX10_turns 98 = .ok (.iconst 4, 1) := by decide +kernel
theorem dX10_turns_99 : decode cX10_turns 99 = .ok (.aload_n 0, 1) := by decide +kernel
theorem dX10_turns_100 : decode cX10_turns 100 = .ok (.getfield 36, 3) := by decide +kernel
theorem dX10_turns_103 : decode cX10_turns 103 = .ok (.bipush 7, 2) := by decide +kernel
theorem dX10_turns_105 : decode cX10_turns 105 = .ok (.iload_n 1, 1) := by decide +kernel
theorem dX10_turns_106 : decode cX10_turns 106 = .ok (.iadd, 1) := by decide +kernel
theorem dX10_turns_107 : decode cX10_turns 107 = .ok (.iaload, 1) := by decide +kernel
theorem dX10_turns_108 : decode cX10_turns 108 = .ok (.invokevirtual 211, 3) := by decide +kernel
theorem dX10_turns_111 : decode cX10_turns 111 = .ok (.aload_n 0, 1) := by decide +kernel
theorem dX10_turns_112 : decode cX10_turns 112 = .ok (.getfield 36, 3) := by decide +kernel
theorem dX10_turns_115 : decode cX10_turns 115 = .ok (.bipush 7, 2) := by decide +kernel
theorem dX10_turns_117 : decode cX10_turns 117 = .ok (.iload_n 1, 1) := by decide +kernel
theorem dX10_turns_118 : decode cX10_turns 118 = .ok (.iadd, 1) := by decide +kernel
theorem dX10_turns_119 : decode cX10_turns 119 = .ok (.iconst (-1), 1) := by decide +kernel
theorem dX10_turns_120 : decode cX10_turns 120 = .ok (.iastore, 1) := by decide +kernel
theorem dX10_turns_121 : decode cX10_turns 121 = .ok (.aload_n 0, 1) := by decide +kernel
theorem dX10_turns_122 : decode cX10_turns 122 = .ok (.getfield 36, 3) := by decide +kernel
theorem dX10_turns_125 : decode cX10_turns 125 = .ok (.bipush 9, 2) := by decide +kernel
theorem dX10_turns_127 : decode cX10_turns 127 = .ok (.iload_n 1, 1) := by decide +kernel
theorem dX10_turns_128 : decode cX10_turns 128 = .ok (.iadd, 1) := by decide +kernel
theorem dX10_turns_129 : decode cX10_turns 129 = .ok (.iconst 1, 1) := by decide +kernel
theorem dX10_turns_130 : decode cX10_turns 130 = .ok (.iastore, 1) := by decide +kernel
theorem dX10_turns_131 : decode cX10_turns 131 = .ok (.return_, 1) := by decide +kernel
def fX10_turns_9  : Nat → Nat → Int32 → Int32 → Int32 → hp_T → Option hp_T
  | 0, _, _, _, _, _ => none
  | n + 1, a0, a1, a2, a3, h => if (6 : Int32) ≤ a3 then (fx_b1 (fX10_puts a0 a1 (6 : Int32) a2 h) fun (h40 : hp_T) => fx_g (fx_in ((3 : Int32) + a1) 120) (fx_g (fx_in ((3 : Int32) + a1) 120) (fx_let (hp_sI h40 (h40.2.2 a0 20) (fx_ix ((3 : Int32) + a1)) (fx_rem ((h40.1 (h40.2.2 a0 20) (fx_ix ((3 : Int32) + a1))) + (1 : Int32)) (6 : Int32))) fun (h63 : hp_T) => fx_g (fx_in ((7 : Int32) + a1) 117) (if (h63.1 (h63.2.2 a0 3) (fx_ix ((7 : Int32) + a1))) = (-1 : Int32) then (some h63) else (fx_b2 (fX10_court a0 a1 (4 : Int32) h63) fun (r80 : Int32) (h80 : hp_T) => fx_g (fx_in ((7 : Int32) + a1) 117) (if r80 = (h80.1 (h80.2.2 a0 3) (fx_ix ((7 : Int32) + a1))) then (fx_g (fx_in ((7 : Int32) + a1) 120) (fx_b1 (fX10_puts a0 a1 (4 : Int32) (h80.1 (h80.2.2 a0 20) (fx_ix ((7 : Int32) + a1))) h80) fun (h108 : hp_T) => fx_g (fx_in ((7 : Int32) + a1) 120) (fx_let (hp_sI h108 (h108.2.2 a0 20) (fx_ix ((7 : Int32) + a1)) (-1 : Int32)) fun (h120 : hp_T) => fx_g (fx_in ((9 : Int32) + a1) 120) (fx_let (hp_sI h120 (h120.2.2 a0 20) (fx_ix ((9 : Int32) + a1)) (1 : Int32)) fun (h130 : hp_T) => some h130)))) else (some h80))))))) else (fx_b2 (fX10_court a0 a1 (a3 + (1 : Int32)) h) fun (r23 : Int32) (h23 : hp_T) => fx_b1 (fX10_puts a0 a1 a3 r23 h23) fun (h26 : hp_T) => fx_let (a3 + (1 : Int32)) fun (x29 : Int32) => fX10_turns_9 n a0 a1 a2 x29 h26)
set_option maxRecDepth 100000 in
set_option maxHeartbeats 4000000 in
theorem bX10_turns_9 {l : Launch} {G : xr_G} {K : xr_K} {h1 : hp_T} (C : xr_C G K cX10_turns RX10 4 (xr_R 2 45) none (some (xr_Qv G h1)))  : ∀ (n : Nat) (a0 : Nat) (a1 : Int32) (a2 : Int32) (a3 : Int32) (ta0 : hp_sh a0 = (10, 0)) (h : hp_T), fX10_turns_9 n a0 a1 a2 a3 h = some h1 → xr_j l G K 4 h [(0, .ref (G.2.2.1 a0)), (1, .int a1), (2, .int a2), (3, .int a3)] 9 [] := by
  intro n
  induction n with
  | zero =>
    intro a0 a1 a2 a3 ta0 h hF
    cases hF
  | succ n ih =>
    intro a0 a1 a2 a3 ta0 h hF
    rw [fX10_turns_9] at hF
    refine xr_iload_n C 3 dX10_turns_9 rfl rfl ?_
    refine xr_bipush (v := 6) C dX10_turns_10 (by decide) ?_
    refine xr_icmp_ge C 35 dX10_turns_12 (by decide) (fun c12 => ?_) (fun c12 => ?_)
    · have hF := fx_pos hF c12
      refine xr_aload_n C 0 dX10_turns_35 rfl rfl ?_
      refine xr_iload_n C 1 dX10_turns_36 rfl rfl ?_
      refine xr_bipush (v := 6) C dX10_turns_37 (by decide) ?_
      refine xr_iload_n C 2 dX10_turns_39 rfl rfl ?_
      obtain ⟨h40, e40, hF⟩ := fx_b1E hF
      refine xr_callVv C mvX10_211 [.int a1, .int (6 : Int32), .int a2] [] (mX10_puts l G a0 a1 (6 : Int32) a2 ta0 h h40 e40) ta0 (by decide) vc10 rfl ⟨rfl, rfl, (Nat.le_of_ble_eq_true rfl), (Nat.le_of_ble_eq_true rfl)⟩ rfl (Nat.le_of_ble_eq_true rfl) dX10_turns_40 ?_
      refine xr_aload_n C 0 dX10_turns_43 rfl rfl ?_
      refine xr_getr C flX10_36 rfl (by decide) dX10_turns_44 ta0 (fun t44 => ?_)
      refine xr_iconst (v := 3) C dX10_turns_47 (by decide) ?_
      refine xr_iload_n C 1 dX10_turns_48 rfl rfl ?_
      refine xr_iadd C dX10_turns_49 ?_
      refine xr_aload_n C 0 dX10_turns_50 rfl rfl ?_
      refine xr_getr C flX10_36 rfl (by decide) dX10_turns_51 ta0 (fun t51 => ?_)
      refine xr_iconst (v := 3) C dX10_turns_54 (by decide) ?_
      refine xr_iload_n C 1 dX10_turns_55 rfl rfl ?_
      refine xr_iadd C dX10_turns_56 ?_
      obtain ⟨g57, hF⟩ := fx_gE hF
      refine xr_iald C dX10_turns_57 t51 g57 ?_
      refine xr_iconst (v := 1) C dX10_turns_58 (by decide) ?_
      refine xr_iadd C dX10_turns_59 ?_
      refine xr_bipush (v := 6) C dX10_turns_60 (by decide) ?_
      refine xr_irem C dX10_turns_62 (by decide) ?_
      obtain ⟨g63, hF⟩ := fx_gE hF
      refine xr_iast C dX10_turns_63 t44 g63 (fun h63 e63 => ?_)
      have hF := fx_letE hF h63 e63
      refine xr_aload_n C 0 dX10_turns_64 rfl rfl ?_
      refine xr_getr C flX10_13 rfl (by decide) dX10_turns_65 ta0 (fun t65 => ?_)
      refine xr_bipush (v := 7) C dX10_turns_68 (by decide) ?_
      refine xr_iload_n C 1 dX10_turns_70 rfl rfl ?_
      refine xr_iadd C dX10_turns_71 ?_
      obtain ⟨g72, hF⟩ := fx_gE hF
      refine xr_iald C dX10_turns_72 t65 g72 ?_
      refine xr_iconst (v := -1) C dX10_turns_73 (by decide) ?_
      refine xr_icmp_eq C 95 dX10_turns_74 (by decide) (fun c74 => ?_) (fun c74 => ?_)
      · have hF := fx_pos hF c74
        cases hF
        exact xr_vret C dX10_turns_95
      · have hF := fx_neg hF c74
        refine xr_aload_n C 0 dX10_turns_77 rfl rfl ?_
        refine xr_iload_n C 1 dX10_turns_78 rfl rfl ?_
        refine xr_iconst (v := 4) C dX10_turns_79 (by decide) ?_
        obtain ⟨r80, h80, e80, hF⟩ := fx_b2E hF
        refine xr_callVi C mvX10_183 [.int a1, .int (4 : Int32)] [] (mX10_court l G a0 a1 (4 : Int32) ta0 h63 h80 r80 e80) ta0 (by decide) vc10 rfl ⟨rfl, rfl, (Nat.le_of_ble_eq_true rfl), (Nat.le_of_ble_eq_true rfl)⟩ rfl (Nat.le_of_ble_eq_true rfl) dX10_turns_80 ?_
        refine xr_aload_n C 0 dX10_turns_83 rfl rfl ?_
        refine xr_getr C flX10_13 rfl (by decide) dX10_turns_84 ta0 (fun t84 => ?_)
        refine xr_bipush (v := 7) C dX10_turns_87 (by decide) ?_
        refine xr_iload_n C 1 dX10_turns_89 rfl rfl ?_
        refine xr_iadd C dX10_turns_90 ?_
        obtain ⟨g91, hF⟩ := fx_gE hF
        refine xr_iald C dX10_turns_91 t84 g91 ?_
        refine xr_icmp_eq C 96 dX10_turns_92 (by decide) (fun c92 => ?_) (fun c92 => ?_)
        · have hF := fx_pos hF c92
          refine xr_aload_n C 0 dX10_turns_96 rfl rfl ?_
          refine xr_iload_n C 1 dX10_turns_97 rfl rfl ?_
          refine xr_iconst (v := 4) C dX10_turns_98 (by decide) ?_
          refine xr_aload_n C 0 dX10_turns_99 rfl rfl ?_
          refine xr_getr C flX10_36 rfl (by decide) dX10_turns_100 ta0 (fun t100 => ?_)
          refine xr_bipush (v := 7) C dX10_turns_103 (by decide) ?_
          refine xr_iload_n C 1 dX10_turns_105 rfl rfl ?_
          refine xr_iadd C dX10_turns_106 ?_
          obtain ⟨g107, hF⟩ := fx_gE hF
          refine xr_iald C dX10_turns_107 t100 g107 ?_
          obtain ⟨h108, e108, hF⟩ := fx_b1E hF
          refine xr_callVv C mvX10_211 [.int a1, .int (4 : Int32), .int (h80.1 (h80.2.2 a0 20) (fx_ix ((7 : Int32) + a1)))] [] (mX10_puts l G a0 a1 (4 : Int32) (h80.1 (h80.2.2 a0 20) (fx_ix ((7 : Int32) + a1))) ta0 h80 h108 e108) ta0 (by decide) vc10 rfl ⟨rfl, rfl, (Nat.le_of_ble_eq_true rfl), (Nat.le_of_ble_eq_true rfl)⟩ rfl (Nat.le_of_ble_eq_true rfl) dX10_turns_108 ?_
          refine xr_aload_n C 0 dX10_turns_111 rfl rfl ?_
          refine xr_getr C flX10_36 rfl (by decide) dX10_turns_112 ta0 (fun t112 => ?_)
          refine xr_bipush (v := 7) C dX10_turns_115 (by decide) ?_
          refine xr_iload_n C 1 dX10_turns_117 rfl rfl ?_
          refine xr_iadd C dX10_turns_118 ?_
          refine xr_iconst (v := -1) C dX10_turns_119 (by decide) ?_
          obtain ⟨g120, hF⟩ := fx_gE hF
          refine xr_iast C dX10_turns_120 t112 g120 (fun h120 e120 => ?_)
          have hF := fx_letE hF h120 e120
          refine xr_aload_n C 0 dX10_turns_121 rfl rfl ?_
          refine xr_getr C flX10_36 rfl (by decide) dX10_turns_122 ta0 (fun t122 => ?_)
          refine xr_bipush (v := 9) C dX10_turns_125 (by decide) ?_
          refine xr_iload_n C 1 dX10_turns_127 rfl rfl ?_
          refine xr_iadd C dX10_turns_128 ?_
          refine xr_iconst (v := 1) C dX10_turns_129 (by decide) ?_
          obtain ⟨g130, hF⟩ := fx_gE hF
          refine xr_iast C dX10_turns_130 t122 g130 (fun h130 e130 => ?_)
          have hF := fx_letE hF h130 e130
          cases hF
          exact xr_vret C dX10_turns_131
        · have hF := fx_neg hF c92
          cases hF
          exact xr_vret C dX10_turns_95
    · have hF := fx_neg hF c12
      refine xr_aload_n C 0 dX10_turns_15 rfl rfl ?_
      refine xr_iload_n C 1 dX10_turns_16 rfl rfl ?_
      refine xr_iload_n C 3 dX10_turns_17 rfl rfl ?_
      refine xr_aload_n C 0 dX10_turns_18 rfl rfl ?_
      refine xr_iload_n C 1 dX10_turns_19 rfl rfl ?_
      refine xr_iload_n C 3 dX10_turns_20 rfl rfl ?_
      refine xr_iconst (v := 1) C dX10_turns_21 (by decide) ?_
      refine xr_iadd C dX10_turns_22 ?_
      obtain ⟨r23, h23, e23, hF⟩ := fx_b2E hF
      refine xr_callVi C mvX10_183 [.int a1, .int (a3 + (1 : Int32))] [.int a3, .int a1, .ref (G.2.2.1 a0)] (mX10_court l G a0 a1 (a3 + (1 : Int32)) ta0 h h23 r23 e23) ta0 (by decide) vc10 rfl ⟨rfl, rfl, (Nat.le_of_ble_eq_true rfl), (Nat.le_of_ble_eq_true rfl)⟩ rfl (Nat.le_of_ble_eq_true rfl) dX10_turns_23 ?_
      obtain ⟨h26, e26, hF⟩ := fx_b1E hF
      refine xr_callVv C mvX10_211 [.int a1, .int a3, .int r23] [] (mX10_puts l G a0 a1 a3 r23 ta0 h23 h26 e26) ta0 (by decide) vc10 rfl ⟨rfl, rfl, (Nat.le_of_ble_eq_true rfl), (Nat.le_of_ble_eq_true rfl)⟩ rfl (Nat.le_of_ble_eq_true rfl) dX10_turns_26 ?_
      obtain ⟨x29, e29⟩ : ∃ y : Int32, y = (a3 + (1 : Int32)) := ⟨_, rfl⟩
      have hF := fx_letE hF x29 e29
      refine xr_iinc C x29 3 [(3, .int x29), (0, .ref (G.2.2.1 a0)), (1, .int a1), (2, .int a2)] dX10_turns_29 rfl (by rw [e29]; rfl) (Nat.le_of_ble_eq_true rfl) rfl ?_
      refine xr_goto C 9 dX10_turns_32 (by decide) ?_
      refine xr_sub [1, 2, 3, 0] [(0, .ref (G.2.2.1 a0)), (1, .int a1), (2, .int a2), (3, .int x29)] rfl ?_
      exact ih a0 a1 a2 x29 ta0 h26 hF
def fX10_turns (a0 : Nat) (a1 : Int32) (h : hp_T) : Option hp_T := fx_b2 (fX10_court a0 a1 (1 : Int32) h) fun (r3 : Int32) (h3 : hp_T) => fX10_turns_9 fx_N a0 a1 r3 (1 : Int32) h3
set_option maxRecDepth 100000 in
set_option maxHeartbeats 4000000 in
theorem mX10_turns (l : Launch) (G : xr_G) (a0 : Nat) (a1 : Int32) (ta0 : hp_sh a0 = (10, 0)) (h h1 : hp_T) (hF : fX10_turns a0 a1 h = some h1) : xr_M l G yX10_turns cX10_turns 4 (xr_R 2 45) none [.ref (G.2.2.1 a0), .int a1] h (xr_Qv G h1) := by
  refine xr_start rfl (Nat.le_of_ble_eq_true rfl) (fun K C => ?_)
  show xr_j l G K 4 h [(0, .ref (G.2.2.1 a0)), (1, .int a1)] 0 []
  unfold fX10_turns at hF
  refine xr_aload_n C 0 dX10_turns_0 rfl rfl ?_
  refine xr_iload_n C 1 dX10_turns_1 rfl rfl ?_
  refine xr_iconst (v := 1) C dX10_turns_2 (by decide) ?_
  obtain ⟨r3, h3, e3, hF⟩ := fx_b2E hF
  refine xr_callVi C mvX10_183 [.int a1, .int (1 : Int32)] [] (mX10_court l G a0 a1 (1 : Int32) ta0 h h3 r3 e3) ta0 (by decide) vc10 rfl ⟨rfl, rfl, (Nat.le_of_ble_eq_true rfl), (Nat.le_of_ble_eq_true rfl)⟩ rfl (Nat.le_of_ble_eq_true rfl) dX10_turns_3 ?_
  refine xr_istore_n C [(2, .int r3), (0, .ref (G.2.2.1 a0)), (1, .int a1)] dX10_turns_6 rfl (Nat.le_of_ble_eq_true rfl) rfl ?_
  refine xr_iconst (v := 1) C dX10_turns_7 (by decide) ?_
  refine xr_istore_n C [(3, .int (1 : Int32)), (2, .int r3), (0, .ref (G.2.2.1 a0)), (1, .int a1)] dX10_turns_8 rfl (Nat.le_of_ble_eq_true rfl) rfl ?_
  refine xr_sub [2, 3, 1, 0] [(0, .ref (G.2.2.1 a0)), (1, .int a1), (2, .int r3), (3, .int (1 : Int32))] rfl ?_
  exact bX10_turns_9 C  fx_N a0 a1 r3 (1 : Int32) ta0 h3 hF
theorem dX10_point_0 : decode cX10_point 0 = .ok (.aload_n 0, 1) := by decide +kernel
theorem dX10_point_1 : decode cX10_point 1 = .ok (.iconst 0, 1) := by decide +kernel
theorem dX10_point_2 : decode cX10_point 2 = .ok (.putfield 63, 3) := by decide +kernel
theorem dX10_point_5 : decode cX10_point 5 = .ok (.aload_n 0, 1) := by decide +kernel
theorem dX10_point_6 : decode cX10_point 6 = .ok (.iload_n 1, 1) := by decide +kernel
theorem dX10_point_7 : decode cX10_point 7 = .ok (.invokevirtual 180, 3) := by decide +kernel
theorem dX10_point_10 : decode cX10_point 10 = .ok (.ifCond .ne 5, 3) := by decide +kernel
theorem dX10_point_13 : decode cX10_point 13 = .ok (.iconst (-1), 1) := by decide +kernel
theorem dX10_point_14 : decode cX10_point 14 = .ok (.ireturn, 1) := by decide +kernel
theorem dX10_point_15 : decode cX10_point 15 = .ok (.aload_n 0, 1) := by decide +kernel
theorem dX10_point_16 : decode cX10_point 16 = .ok (.invokevirtual 215, 3) := by decide +kernel
theorem dX10_point_19 : decode cX10_point 19 = .ok (.ifCond .eq 6, 3) := by decide +kernel
theorem dX10_point_22 : decode cX10_point 22 = .ok (.bipush (-2), 2) := by decide +kernel
theorem dX10_point_24 : decode cX10_point 24 = .ok (.ireturn, 1) := by decide +kernel
theorem dX10_point_25 : decode cX10_point 25 = .ok (.aload_n 0, 1) := by decide +kernel
theorem dX10_point_26 : decode cX10_point 26 = .ok (.invokevirtual 218, 3) := by decide +kernel
theorem dX10_point_29 : decode cX10_point 29 = .ok (.aload_n 0, 1) := by decide +kernel
theorem dX10_point_30 : decode cX10_point 30 = .ok (.getfield 36, 3) := by decide +kernel
theorem dX10_point_33 : decode cX10_point 33 = .ok (.iconst 2, 1) := by decide +kernel
theorem dX10_point_34 : decode cX10_point 34 = .ok (.iaload, 1) := by decide +kernel
theorem dX10_point_35 : decode cX10_point 35 = .ok (.istore_n 2, 1) := by decide +kernel
theorem dX10_point_36 : decode cX10_point 36 = .ok (.aload_n 0, 1) := by decide +kernel
theorem dX10_point_37 : decode cX10_point 37 = .ok (.iload_n 2, 1) := by decide +kernel
theorem dX10_point_38 : decode cX10_point 38 = .ok (.iconst 1, 1) := by decide +kernel
theorem dX10_point_39 : decode cX10_point 39 = .ok (.invokevirtual 183, 3) := by decide +kernel
theorem dX10_point_42 : decode cX10_point 42 = .ok (.istore_n 3, 1) := by decide +kernel
theorem dX10_point_43 : decode cX10_point 43 = .ok (.iconst 3, 1) := by decide +kernel
theorem dX10_point_44 : decode cX10_point 44 = .ok (.aload_n 0, 1) := by decide +kernel
theorem dX10_point_45 : decode cX10_point 45 = .ok (.getfield 36, 3) := by decide +kernel
theorem dX10_point_48 : decode cX10_point 48 = .ok (.bipush 119, 2) := by decide +kernel
theorem dX10_point_50 : decode cX10_point 50 = .ok (.iaload, 1) := by decide +kernel
theorem dX10_point_51 : decode cX10_point 51 = .ok (.imul, 1) := by decide +kernel
theorem dX10_point_52 : decode cX10_point 52 = .ok (.istore 4, 2) := by decide +kernel
theorem dX10_point_54 : decode cX10_point 54 = .ok (.aload_n 0, 1) := by decide +kernel
theorem dX10_point_55 : decode cX10_point 55 = .ok (.getfield 42, 3) := by decide +kernel
theorem dX10_point_58 : decode cX10_point 58 = .ok (.iload 4, 2) := by decide +kernel
theorem dX10_point_60 : decode cX10_point 60 = .ok (.iload_n 1, 1) := by decide +kernel
theorem dX10_point_61 : decode cX10_point 61 = .ok (.iastore, 1) := by decide +kernel
theorem dX10_point_62 : decode cX10_point 62 = .ok (.aload_n 0, 1) := by decide +kernel
theorem dX10_point_63 : decode cX10_point 63 = .ok (.getfield 42, 3) := by decide +kernel
theorem dX10_point_66 : decode cX10_point 66 = .ok (.iload 4, 2) := by decide +kernel
theorem dX10_point_68 : decode cX10_point 68 = .ok (.iconst 1, 1) := by decide +kernel
theorem dX10_point_69 : decode cX10_point 69 = .ok (.iadd, 1) := by decide +kernel
theorem dX10_point_70 : decode cX10_point 70 = .ok (.iload_n 2, 1) := by decide +kernel
theorem dX10_point_71 : decode cX10_point 71 = .ok (.iastore, 1) := by decide +kernel
theorem dX10_point_72 : decode cX10_point 72 = .ok (.aload_n 0, 1) := by decide +kernel
theorem dX10_point_73 : decode cX10_point 73 = .ok (.getfield 42, 3) := by decide +kernel
theorem dX10_point_76 : decode cX10_point 76 = .ok (.iload 4, 2) := by decide +kernel
theorem dX10_point_78 : decode cX10_point 78 = .ok (.iconst 2, 1) := by decide +kernel
theorem dX10_point_79 : decode cX10_point 79 = .ok (.iadd, 1) := by decide +kernel
theorem dX10_point_80 : decode cX10_point 80 = .ok (.iload_n 3, 1) := by decide +kernel
theorem dX10_point_81 : decode cX10_point 81 = .ok (.iastore, 1) := by decide +kernel
theorem dX10_point_82 : decode cX10_point 82 = .ok (.aload_n 0, 1) := by decide +kernel
theorem dX10_point_83 : decode cX10_point 83 = .ok (.getfield 36, 3) := by decide +kernel
theorem dX10_point_86 : decode cX10_point 86 = .ok (.bipush 119, 2) := by decide +kernel
theorem dX10_point_88 : decode cX10_point 88 = .ok (.dup2, 1) := by decide +kernel
theorem dX10_point_89 : decode cX10_point 89 = .ok (.iaload, 1) := by decide +kernel
theorem dX10_point_90 : decode cX10_point 90 = .ok (.iconst 1, 1) := by decide +kernel
theorem dX10_point_91 : decode cX10_point 91 = .ok (.iadd, 1) := by decide +kernel
theorem dX10_point_92 : decode cX10_point 92 = .ok (.iastore, 1) := by decide +kernel
theorem dX10_point_93 : decode cX10_point 93 = .ok (.aload_n 0, 1) := by decide +kernel
theorem dX10_point_94 : decode cX10_point 94 = .ok (.getfield 36, 3) := by decide +kernel
theorem dX10_point_97 : decode cX10_point 97 = .ok (.iconst 0, 1) := by decide +kernel
theorem dX10_point_98 : decode cX10_point 98 = .ok (.iload_n 1, 1) := by decide +kernel
theorem dX10_point_99 : decode cX10_point 99 = .ok (.iadd, 1) := by decide +kernel
theorem dX10_point_100 : decode cX10_point 100 = .ok (.dup2, 1) := by decide +kernel
theorem dX10_point_101 : decode cX10_point 101 = .ok (.iaload, 1) := by decide +kernel
theorem dX10_point_102 : decode cX10_point 102 = .ok (.iconst 1, 1) := by decide +kernel
theorem dX10_point_103 : decode cX10_point 103 = .ok (.iadd, 1) := by decide +kernel
theorem dX10_point_104 : decode cX10_point 104 = .ok (.iastore, 1) := by decide +kernel
theorem dX10_point_105 : decode cX10_point 105 = .ok (.aload_n 0, 1) := by decide +kernel
theorem dX10_point_106 : decode cX10_point 106 = .ok (.getfield 36, 3) := by decide +kernel
theorem dX10_point_109 : decode cX10_point 109 = .ok (.bipush 9, 2) := by decide +kernel
theorem dX10_point_111 : decode cX10_point 111 = .ok (.iconst 0, 1) := by decide +kernel
theorem dX10_point_112 : decode cX10_point 112 = .ok (.iastore, 1) := by decide +kernel
theorem dX10_point_113 : decode cX10_point 113 = .ok (.aload_n 0, 1) := by decide +kernel
theorem dX10_point_114 : decode cX10_point 114 = .ok (.getfield 36, 3) := by decide +kernel
theorem dX10_point_117 : decode cX10_point 117 = .ok (.bipush 10, 2) := by decide +kernel
theorem dX10_point_119 : decode cX10_point 119 = .ok (.iconst 0, 1) := by decide +kernel
theorem dX10_point_120 : decode cX10_point 120 = .ok (.iastore, 1) := by decide +kernel
theorem dX10_point_121 : decode cX10_point 121 = .ok (.iload_n 2, 1) := by decide +kernel
theorem dX10_point_122 : decode cX10_point 122 = .ok (.iload_n 1, 1) := by decide +kernel
theorem dX10_point_123 : decode cX10_point 123 = .ok (.if_icmp .ne 25, 3) := by decide +kernel
theorem dX10_point_126 : decode cX10_point 126 = .ok (.aload_n 0, 1) := by decide +kernel
theorem dX10_point_127 : decode cX10_point 127 = .ok (.getfield 36, 3) := by decide +kernel
theorem dX10_point_130 : decode cX10_point 130 = .ok (.bipush 95, 2) := by decide +kernel
theorem dX10_point_132 : decode cX10_point 132 = .ok (.iload_n 1, 1) := by decide +kernel
theorem dX10_point_133 : decode cX10_point 133 = .ok (.iload_n 3, 1) := by decide +kernel
theorem dX10_point_134 : decode cX10_point 134 = .ok (.bipush 12, 2) := by decide +kernel
theorem dX10_point_136 : decode cX10_point 136 = .ok (.invokestatic 167, 3) := by decide +kernel
theorem dX10_point_139 : decode cX10_point 139 = .ok (.iadd, 1) := by decide +kernel
theorem dX10_point_140 : decode cX10_point 140 = .ok (.dup2, 1) := by decide +kernel
theorem dX10_point_141 : decode cX10_point 141 = .ok (.iaload, 1) := by decide +kernel
theorem dX10_point_142 : decode cX10_point 142 = .ok (.iconst 1, 1) := by decide +kernel
theorem dX10_point_143 : decode cX10_point 143 = .ok (.iadd, 1) := by decide +kernel
theorem dX10_point_144 : decode cX10_point 144 = .ok (.iastore, 1) := by decide +kernel
theorem dX10_point_145 : decode cX10_point 145 = .ok (.goto 15, 3) := by decide +kernel
theorem dX10_point_148 : decode cX10_point 148 = .ok (.aload_n 0, 1) := by decide +kernel
theorem dX10_point_149 : decode cX10_point 149 = .ok (.getfield 36, 3) := by decide +kernel
theorem dX10_point_152 : decode cX10_point 152 = .ok (.iconst 2, 1) := by decide +kernel
theorem dX10_point_153 : decode cX10_point 153 = .ok (.iload_n 1, 1) := by decide +kernel
theorem dX10_point_154 : decode cX10_point 154 = .ok (.iastore, 1) := by decide +kernel
theorem dX10_point_155 : decode cX10_point 155 = .ok (.aload_n 0, 1) := by decide +kernel
theorem dX10_point_156 : decode cX10_point 156 = .ok (.iload_n 1, 1) := by decide +kernel
theorem dX10_point_157 : decode cX10_point 157 = .ok (.invokevirtual 221, 3) := by decide +kernel
theorem dX10_point_160 : decode cX10_point 160 = .ok (.aload_n 0, 1) := by decide +kernel
theorem dX10_point_161 : decode cX10_point 161 = .ok (.getfield 36, 3) := by decide +kernel
theorem dX10_point_164 : decode cX10_point 164 = .ok (.iconst 2, 1) := by decide +kernel
theorem dX10_point_165 : decode cX10_point 165 = .ok (.iaload, 1) := by decide +kernel
theorem dX10_point_166 : decode cX10_point 166 = .ok (.ireturn, 1) := by decide +kernel
def fX10_point_160  (a0 : Nat) (h : hp_T) : Option (Int32 × hp_T) := some ((h.1 (h.2.2 a0 20) (fx_ix (2 : Int32))), h)
set_option maxRecDepth 100000 in
set_option maxHeartbeats 4000000 in
theorem bX10_point_160 {l : Launch} {G : xr_G} {K : xr_K} {r : Int32} {h1 : hp_T} (C : xr_C G K cX10_point RX10 5 (xr_R 3 68) (some .int) (some (xr_Qi G r h1)))  (a0 : Nat) (ta0 : hp_sh a0 = (10, 0)) (h : hp_T) (hF : fX10_point_160 a0 h = some (r, h1)) : xr_j l G K 5 h [(0, .ref (G.2.2.1 a0))] 160 [] := by
  unfold fX10_point_160 at hF
  refine xr_aload_n C 0 dX10_point_160 rfl rfl ?_
  refine xr_getr C flX10_36 rfl (by decide) dX10_point_161 ta0 (fun t161 => ?_)
  refine xr_iconst (v := 2) C dX10_point_164 (by decide) ?_
  refine xr_iald C dX10_point_165 t161 (by decide) ?_
  cases hF
  exact xr_iret C dX10_point_166
def fX10_point (a0 : Nat) (a1 : Int32) (h : hp_T) : Option (Int32 × hp_T) := fx_let (hp_sI h a0 0 (0 : Int32)) fun (h2 : hp_T) => fx_b2 (fX10_isSide a0 a1 h2) fun (r7 : Int32) (h7 : hp_T) => if r7 = 0 then (some ((-1 : Int32), h7)) else (fx_b2 (fX10_isOver a0 h7) fun (r16 : Int32) (h16 : hp_T) => if r16 = 0 then (fx_b1 (fX10_keeps a0 h16) fun (h26 : hp_T) => fx_let (h26.1 (h26.2.2 a0 20) (fx_ix (2 : Int32))) fun (x35 : Int32) => fx_b2 (fX10_court a0 x35 (1 : Int32) h26) fun (r39 : Int32) (h39 : hp_T) => fx_let ((3 : Int32) * (h39.1 (h39.2.2 a0 20) (fx_ix (119 : Int32)))) fun (x52 : Int32) => fx_g (fx_in x52 150) (fx_let (hp_sI h39 (h39.2.2 a0 23) (fx_ix x52) a1) fun (h61 : hp_T) => fx_g (fx_in (x52 + (1 : Int32)) 150) (fx_let (hp_sI h61 (h61.2.2 a0 23) (fx_ix (x52 + (1 : Int32))) x35) fun (h71 : hp_T) => fx_g (fx_in (x52 + (2 : Int32)) 150) (fx_let (hp_sI h71 (h71.2.2 a0 23) (fx_ix (x52 + (2 : Int32))) r39) fun (h81 : hp_T) => fx_let (hp_sI h81 (h81.2.2 a0 20) (fx_ix (119 : Int32)) ((h81.1 (h81.2.2 a0 20) (fx_ix (119 : Int32))) + (1 : Int32))) fun (h92 : hp_T) => fx_let ((0 : Int32) + a1) fun (x100 : Int32) => fx_g (fx_in x100 120) (fx_g (fx_in x100 120) (fx_let (hp_sI h92 (h92.2.2 a0 20) (fx_ix x100) ((h92.1 (h92.2.2 a0 20) (fx_ix x100)) + (1 : Int32))) fun (h104 : hp_T) => fx_let (hp_sI h104 (h104.2.2 a0 20) (fx_ix (9 : Int32)) (0 : Int32)) fun (h112 : hp_T) => fx_let (hp_sI h112 (h112.2.2 a0 20) (fx_ix (10 : Int32)) (0 : Int32)) fun (h120 : hp_T) => if x35 = a1 then (fx_b2 (fX10_two a1 r39 (12 : Int32) h120) fun (r136 : Int32) (h136 : hp_T) => fx_let ((95 : Int32) + r136) fun (x140 : Int32) => fx_g (fx_in x140 120) (fx_g (fx_in x140 120) (fx_let (hp_sI h136 (h120.2.2 a0 20) (fx_ix x140) ((h136.1 (h120.2.2 a0 20) (fx_ix x140)) + (1 : Int32))) fun (h144 : hp_T) => fX10_point_160 a0 h144))) else (fx_let (hp_sI h120 (h120.2.2 a0 20) (fx_ix (2 : Int32)) a1) fun (h154 : hp_T) => fx_b1 (fX10_turns a0 a1 h154) fun (h157 : hp_T) => fX10_point_160 a0 h157))))))) else (some ((-2 : Int32), h16)))
set_option maxRecDepth 100000 in
set_option maxHeartbeats 4000000 in
theorem mX10_point (l : Launch) (G : xr_G) (a0 : Nat) (a1 : Int32) (ta0 : hp_sh a0 = (10, 0)) (h h1 : hp_T) (r : Int32) (hF : fX10_point a0 a1 h = some (r, h1)) : xr_M l G yX10_point cX10_point 5 (xr_R 3 68) (some .int) [.ref (G.2.2.1 a0), .int a1] h (xr_Qi G r h1) := by
  refine xr_start rfl (Nat.le_of_ble_eq_true rfl) (fun K C => ?_)
  show xr_j l G K 5 h [(0, .ref (G.2.2.1 a0)), (1, .int a1)] 0 []
  unfold fX10_point at hF
  refine xr_aload_n C 0 dX10_point_0 rfl rfl ?_
  refine xr_iconst (v := 0) C dX10_point_1 (by decide) ?_
  refine xr_puti C fpX10_63 rfl rfl rfl dX10_point_2 ta0 (fun h2 e2 => ?_)
  have hF := fx_letE hF h2 e2
  refine xr_aload_n C 0 dX10_point_5 rfl rfl ?_
  refine xr_iload_n C 1 dX10_point_6 rfl rfl ?_
  obtain ⟨r7, h7, e7, hF⟩ := fx_b2E hF
  refine xr_callVi C mvX10_180 [.int a1] [] (mX10_isSide l G a0 a1 ta0 h2 h7 r7 e7) ta0 (by decide) vc10 rfl ⟨rfl, rfl, (Nat.le_of_ble_eq_true rfl), (Nat.le_of_ble_eq_true rfl)⟩ rfl (Nat.le_of_ble_eq_true rfl) dX10_point_7 ?_
  refine xr_if_ne C 15 dX10_point_10 (by decide) (fun c10 => ?_) (fun c10 => ?_)
  · have hF := fx_neg hF c10
    refine xr_aload_n C 0 dX10_point_15 rfl rfl ?_
    obtain ⟨r16, h16, e16, hF⟩ := fx_b2E hF
    refine xr_callVi C mvX10_215 [] [] (mX10_isOver l G a0 ta0 h7 h16 r16 e16) ta0 (by decide) vc10 rfl ⟨rfl, rfl, (Nat.le_of_ble_eq_true rfl), (Nat.le_of_ble_eq_true rfl)⟩ rfl (Nat.le_of_ble_eq_true rfl) dX10_point_16 ?_
    refine xr_if_eq C 25 dX10_point_19 (by decide) (fun c19 => ?_) (fun c19 => ?_)
    · have hF := fx_pos hF c19
      refine xr_aload_n C 0 dX10_point_25 rfl rfl ?_
      obtain ⟨h26, e26, hF⟩ := fx_b1E hF
      refine xr_callVv C mvX10_218 [] [] (mX10_keeps l G a0 ta0 h16 h26 e26) ta0 (by decide) vc10 rfl ⟨rfl, rfl, (Nat.le_of_ble_eq_true rfl), (Nat.le_of_ble_eq_true rfl)⟩ rfl (Nat.le_of_ble_eq_true rfl) dX10_point_26 ?_
      refine xr_aload_n C 0 dX10_point_29 rfl rfl ?_
      refine xr_getr C flX10_36 rfl (by decide) dX10_point_30 ta0 (fun t30 => ?_)
      refine xr_iconst (v := 2) C dX10_point_33 (by decide) ?_
      refine xr_iald C dX10_point_34 t30 (by decide) ?_
      refine xr_topi (fun x35 e35 => ?_)
      have hF := fx_letE hF x35 e35
      refine xr_istore_n C [(2, .int x35), (0, .ref (G.2.2.1 a0)), (1, .int a1)] dX10_point_35 rfl (Nat.le_of_ble_eq_true rfl) rfl ?_
      refine xr_aload_n C 1 dX10_point_36 rfl rfl ?_
      refine xr_iload_n C 0 dX10_point_37 rfl rfl ?_
      refine xr_iconst (v := 1) C dX10_point_38 (by decide) ?_
      obtain ⟨r39, h39, e39, hF⟩ := fx_b2E hF
      refine xr_callVi C mvX10_183 [.int x35, .int (1 : Int32)] [] (mX10_court l G a0 x35 (1 : Int32) ta0 h26 h39 r39 e39) ta0 (by decide) vc10 rfl ⟨rfl, rfl, (Nat.le_of_ble_eq_true rfl), (Nat.le_of_ble_eq_true rfl)⟩ rfl (Nat.le_of_ble_eq_true rfl) dX10_point_39 ?_
      refine xr_istore_n C [(3, .int r39), (2, .int x35), (0, .ref (G.2.2.1 a0)), (1, .int a1)] dX10_point_42 rfl (Nat.le_of_ble_eq_true rfl) rfl ?_
      refine xr_iconst (v := 3) C dX10_point_43 (by decide) ?_
      refine xr_aload_n C 2 dX10_point_44 rfl rfl ?_
      refine xr_getr C flX10_36 rfl (by decide) dX10_point_45 ta0 (fun t45 => ?_)
      refine xr_bipush (v := 119) C dX10_point_48 (by decide) ?_
      refine xr_iald C dX10_point_50 t45 (by decide) ?_
      refine xr_imul C dX10_point_51 ?_
      refine xr_topi (fun x52 e52 => ?_)
      have hF := fx_letE hF x52 e52
      refine xr_istore C [(4, .int x52), (3, .int r39), (2, .int x35), (0, .ref (G.2.2.1 a0)), (1, .int a1)] dX10_point_52 (Nat.le_of_ble_eq_true rfl) rfl ?_
      refine xr_aload_n C 3 dX10_point_54 rfl rfl ?_
      refine xr_getr C flX10_42 rfl (by decide) dX10_point_55 ta0 (fun t55 => ?_)
      refine xr_iload C 0 dX10_point_58 rfl ?_
      refine xr_iload_n C 4 dX10_point_60 rfl rfl ?_
      obtain ⟨g61, hF⟩ := fx_gE hF
      refine xr_iast C dX10_point_61 t55 g61 (fun h61 e61 => ?_)
      have hF := fx_letE hF h61 e61
      refine xr_aload_n C 3 dX10_point_62 rfl rfl ?_
      refine xr_getr C flX10_42 rfl (by decide) dX10_point_63 ta0 (fun t63 => ?_)
      refine xr_iload C 0 dX10_point_66 rfl ?_
      refine xr_iconst (v := 1) C dX10_point_68 (by decide) ?_
      refine xr_iadd C dX10_point_69 ?_
      refine xr_iload_n C 2 dX10_point_70 rfl rfl ?_
      obtain ⟨g71, hF⟩ := fx_gE hF
      refine xr_iast C dX10_point_71 t63 g71 (fun h71 e71 => ?_)
      have hF := fx_letE hF h71 e71
      refine xr_aload_n C 3 dX10_point_72 rfl rfl ?_
      refine xr_getr C flX10_42 rfl (by decide) dX10_point_73 ta0 (fun t73 => ?_)
      refine xr_iload C 0 dX10_point_76 rfl ?_
      refine xr_iconst (v := 2) C dX10_point_78 (by decide) ?_
      refine xr_iadd C dX10_point_79 ?_
      refine xr_iload_n C 1 dX10_point_80 rfl rfl ?_
      obtain ⟨g81, hF⟩ := fx_gE hF
      refine xr_iast C dX10_point_81 t73 g81 (fun h81 e81 => ?_)
      have hF := fx_letE hF h81 e81
      refine xr_aload_n C 3 dX10_point_82 rfl rfl ?_
      refine xr_getr C flX10_36 rfl (by decide) dX10_point_83 ta0 (fun t83 => ?_)
      refine xr_bipush (v := 119) C dX10_point_86 (by decide) ?_
      refine xr_dup2 C dX10_point_88 rfl rfl ?_
      refine xr_iald C dX10_point_89 t83 (by decide) ?_
      refine xr_iconst (v := 1) C dX10_point_90 (by decide) ?_
      refine xr_iadd C dX10_point_91 ?_
      refine xr_iast C dX10_point_92 t83 (by decide) (fun h92 e92 => ?_)
      have hF := fx_letE hF h92 e92
      refine xr_aload_n C 3 dX10_point_93 rfl rfl ?_
      refine xr_getr C flX10_36 rfl (by decide) dX10_point_94 ta0 (fun t94 => ?_)
      refine xr_iconst (v := 0) C dX10_point_97 (by decide) ?_
      refine xr_iload_n C 4 dX10_point_98 rfl rfl ?_
      refine xr_iadd C dX10_point_99 ?_
      refine xr_topi (fun x100 e100 => ?_)
      have hF := fx_letE hF x100 e100
      refine xr_dup2 C dX10_point_100 rfl rfl ?_
      obtain ⟨g101, hF⟩ := fx_gE hF
      refine xr_iald C dX10_point_101 t94 g101 ?_
      refine xr_iconst (v := 1) C dX10_point_102 (by decide) ?_
      refine xr_iadd C dX10_point_103 ?_
      obtain ⟨g104, hF⟩ := fx_gE hF
      refine xr_iast C dX10_point_104 t94 g104 (fun h104 e104 => ?_)
      have hF := fx_letE hF h104 e104
      refine xr_aload_n C 3 dX10_point_105 rfl rfl ?_
      refine xr_getr C flX10_36 rfl (by decide) dX10_point_106 ta0 (fun t106 => ?_)
      refine xr_bipush (v := 9) C dX10_point_109 (by decide) ?_
      refine xr_iconst (v := 0) C dX10_point_111 (by decide) ?_
      refine xr_iast C dX10_point_112 t106 (by decide) (fun h112 e112 => ?_)
      have hF := fx_letE hF h112 e112
      refine xr_aload_n C 3 dX10_point_113 rfl rfl ?_
      refine xr_getr C flX10_36 rfl (by decide) dX10_point_114 ta0 (fun t114 => ?_)
      refine xr_bipush (v := 10) C dX10_point_117 (by decide) ?_
      refine xr_iconst (v := 0) C dX10_point_119 (by decide) ?_
      refine xr_iast C dX10_point_120 t114 (by decide) (fun h120 e120 => ?_)
      have hF := fx_letE hF h120 e120
      refine xr_iload_n C 2 dX10_point_121 rfl rfl ?_
      refine xr_iload_n C 4 dX10_point_122 rfl rfl ?_
      refine xr_icmp_ne C 148 dX10_point_123 (by decide) (fun c123 => ?_) (fun c123 => ?_)
      · have hF := fx_neg hF c123
        refine xr_aload_n C 3 dX10_point_148 rfl rfl ?_
        refine xr_getr C flX10_36 rfl (by decide) dX10_point_149 ta0 (fun t149 => ?_)
        refine xr_iconst (v := 2) C dX10_point_152 (by decide) ?_
        refine xr_iload_n C 4 dX10_point_153 rfl rfl ?_
        refine xr_iast C dX10_point_154 t149 (by decide) (fun h154 e154 => ?_)
        have hF := fx_letE hF h154 e154
        refine xr_aload_n C 3 dX10_point_155 rfl rfl ?_
        refine xr_iload_n C 4 dX10_point_156 rfl rfl ?_
        obtain ⟨h157, e157, hF⟩ := fx_b1E hF
        refine xr_callVv C mvX10_221 [.int a1] [] (mX10_turns l G a0 a1 ta0 h154 h157 e157) ta0 (by decide) vc10 rfl ⟨rfl, rfl, (Nat.le_of_ble_eq_true rfl), (Nat.le_of_ble_eq_true rfl)⟩ rfl (Nat.le_of_ble_eq_true rfl) dX10_point_157 ?_
        refine xr_sub [3] [(0, .ref (G.2.2.1 a0))] rfl ?_
        exact bX10_point_160 C   a0 ta0 h157 hF
      · have hF := fx_pos hF c123
        refine xr_aload_n C 3 dX10_point_126 rfl rfl ?_
        refine xr_getr C flX10_36 rfl (by decide) dX10_point_127 ta0 (fun t127 => ?_)
        refine xr_bipush (v := 95) C dX10_point_130 (by decide) ?_
        refine xr_iload_n C 4 dX10_point_132 rfl rfl ?_
        refine xr_iload_n C 1 dX10_point_133 rfl rfl ?_
        refine xr_bipush (v := 12) C dX10_point_134 (by decide) ?_
        obtain ⟨r136, h136, e136, hF⟩ := fx_b2E hF
        refine xr_callSi C mvX10_167 [.int a1, .int r39, .int (12 : Int32)] [.int (95 : Int32), .ref (G.2.2.1 (h120.2.2 a0 20))] (mX10_two l G a1 r39 (12 : Int32)  h120 h136 r136 e136) rfl ⟨rfl, rfl, (Nat.le_of_ble_eq_true rfl), (Nat.le_of_ble_eq_true rfl)⟩ rfl (Nat.le_of_ble_eq_true rfl) dX10_point_136 ?_
        refine xr_iadd C dX10_point_139 ?_
        refine xr_topi (fun x140 e140 => ?_)
        have hF := fx_letE hF x140 e140
        refine xr_dup2 C dX10_point_140 rfl rfl ?_
        obtain ⟨g141, hF⟩ := fx_gE hF
        refine xr_iald C dX10_point_141 t127 g141 ?_
        refine xr_iconst (v := 1) C dX10_point_142 (by decide) ?_
        refine xr_iadd C dX10_point_143 ?_
        obtain ⟨g144, hF⟩ := fx_gE hF
        refine xr_iast C dX10_point_144 t127 g144 (fun h144 e144 => ?_)
        have hF := fx_letE hF h144 e144
        refine xr_goto C 160 dX10_point_145 (by decide) ?_
        refine xr_sub [3] [(0, .ref (G.2.2.1 a0))] rfl ?_
        exact bX10_point_160 C   a0 ta0 h144 hF
    · have hF := fx_neg hF c19
      refine xr_bipush (v := -2) C dX10_point_22 (by decide) ?_
      cases hF
      exact xr_iret C dX10_point_24
  · have hF := fx_pos hF c10
    refine xr_iconst (v := -1) C dX10_point_13 (by decide) ?_
    cases hF
    exact xr_iret C dX10_point_14
theorem dX10_gone_0 : decode cX10_gone 0 = .ok (.aload_n 0, 1) := by decide +kernel
theorem dX10_gone_1 : decode cX10_gone 1 = .ok (.getfield 36, 3) := by decide +kernel
theorem dX10_gone_4 : decode cX10_gone 4 = .ok (.bipush 47, 2) := by decide +kernel
theorem dX10_gone_6 : decode cX10_gone 6 = .ok (.iload_n 1, 1) := by decide +kernel
theorem dX10_gone_7 : decode cX10_gone 7 = .ok (.iload_n 2, 1) := by decide +kernel
theorem dX10_gone_8 : decode cX10_gone 8 = .ok (.bipush 12, 2) := by decide +kernel
theorem dX10_gone_10 : decode cX10_gone 10 = .ok (.invokestatic 167, 3) := by decide +kernel
theorem dX10_gone_13 : decode cX10_gone 13 = .ok (.iadd, 1) := by decide +kernel
theorem dX10_gone_14 : decode cX10_gone 14 = .ok (.iaload, 1) := by decide +kernel
theorem dX10_gone_15 : decode cX10_gone 15 = .ok (.ireturn, 1) := by decide +kernel
def fX10_gone (a0 : Nat) (a1 : Int32) (a2 : Int32) (h : hp_T) : Option (Int32 × hp_T) := fx_b2 (fX10_two a1 a2 (12 : Int32) h) fun (r10 : Int32) (h10 : hp_T) => fx_g (fx_in ((47 : Int32) + r10) 120) (some ((h10.1 (h.2.2 a0 20) (fx_ix ((47 : Int32) + r10))), h10))
set_option maxRecDepth 100000 in
set_option maxHeartbeats 4000000 in
theorem mX10_gone (l : Launch) (G : xr_G) (a0 : Nat) (a1 : Int32) (a2 : Int32) (ta0 : hp_sh a0 = (10, 0)) (h h1 : hp_T) (r : Int32) (hF : fX10_gone a0 a1 a2 h = some (r, h1)) : xr_M l G yX10_gone cX10_gone 3 (xr_R 1 22) (some .int) [.ref (G.2.2.1 a0), .int a1, .int a2] h (xr_Qi G r h1) := by
  refine xr_start rfl (Nat.le_of_ble_eq_true rfl) (fun K C => ?_)
  show xr_j l G K 3 h [(0, .ref (G.2.2.1 a0)), (1, .int a1), (2, .int a2)] 0 []
  unfold fX10_gone at hF
  refine xr_aload_n C 0 dX10_gone_0 rfl rfl ?_
  refine xr_getr C flX10_36 rfl (by decide) dX10_gone_1 ta0 (fun t1 => ?_)
  refine xr_bipush (v := 47) C dX10_gone_4 (by decide) ?_
  refine xr_iload_n C 1 dX10_gone_6 rfl rfl ?_
  refine xr_iload_n C 2 dX10_gone_7 rfl rfl ?_
  refine xr_bipush (v := 12) C dX10_gone_8 (by decide) ?_
  obtain ⟨r10, h10, e10, hF⟩ := fx_b2E hF
  refine xr_callSi C mvX10_167 [.int a1, .int a2, .int (12 : Int32)] [.int (47 : Int32), .ref (G.2.2.1 (h.2.2 a0 20))] (mX10_two l G a1 a2 (12 : Int32)  h h10 r10 e10) rfl ⟨rfl, rfl, (Nat.le_of_ble_eq_true rfl), (Nat.le_of_ble_eq_true rfl)⟩ rfl (Nat.le_of_ble_eq_true rfl) dX10_gone_10 ?_
  refine xr_iadd C dX10_gone_13 ?_
  obtain ⟨g14, hF⟩ := fx_gE hF
  refine xr_iald C dX10_gone_14 t1 g14 ?_
  cases hF
  exact xr_iret C dX10_gone_15
theorem dX10_wrongSub_0 : decode cX10_wrongSub 0 = .ok (.aload_n 0, 1) := by decide +kernel
theorem dX10_wrongSub_1 : decode cX10_wrongSub 1 = .ok (.iload_n 1, 1) := by decide +kernel
theorem dX10_wrongSub_2 : decode cX10_wrongSub 2 = .ok (.iload_n 2, 1) := by decide +kernel
theorem dX10_wrongSub_3 : decode cX10_wrongSub 3 = .ok (.invokevirtual 193, 3) := by decide +kernel
theorem dX10_wrongSub_6 : decode cX10_wrongSub 6 = .ok (.ifCond .eq 12, 3) := by decide +kernel
theorem dX10_wrongSub_9 : decode cX10_wrongSub 9 = .ok (.aload_n 0, 1) := by decide +kernel
theorem dX10_wrongSub_10 : decode cX10_wrongSub 10 = .ok (.iload_n 1, 1) := by decide +kernel
theorem dX10_wrongSub_11 : decode cX10_wrongSub 11 = .ok (.iload_n 3, 1) := by decide +kernel
theorem dX10_wrongSub_12 : decode cX10_wrongSub 12 = .ok (.invokevirtual 193, 3) := by decide +kernel
theorem dX10_wrongSub_15 : decode cX10_wrongSub 15 = .ok (.ifCond .ne 5, 3) := by decide +kernel
theorem dX10_wrongSub_18 : decode cX10_wrongSub 18 = .ok (.iconst (-1), 1) := by decide +kernel
theorem dX10_wrongSub_19 : decode cX10_wrongSub 19 = .ok (.ireturn, 1) := by decide +kernel
theorem dX10_wrongSub_20 : decode cX10_wrongSub 20 = .ok (.aload_n 0, 1) := by decide +kernel
theorem dX10_wrongSub_21 : decode cX10_wrongSub 21 = .ok (.invokevirtual 215, 3) := by decide +kernel
theorem dX10_wrongSub_24 : decode cX10_wrongSub 24 = .ok (.ifCond .eq 6, 3) := by decide +kernel
theorem dX10_wrongSub_27 : decode cX10_wrongSub 27 = .ok (.bipush (-2), 2) := by decide +kernel
theorem dX10_wrongSub_29 : decode cX10_wrongSub 29 = .ok (.ireturn, 1) := by decide +kernel
theorem dX10_wrongSub_30 : decode cX10_wrongSub 30 = .ok (.aload_n 0, 1) := by decide +kernel
theorem dX10_wrongSub_31 : decode cX10_wrongSub 31 = .ok (.getfield 36, 3) := by decide +kernel
theorem dX10_wrongSub_34 : decode cX10_wrongSub 34 = .ok (.iconst 5, 1) := by decide +kernel
theorem dX10_wrongSub_35 : decode cX10_wrongSub 35 = .ok (.iload_n 1, 1) := by decide +kernel
theorem dX10_wrongSub_36 : decode cX10_wrongSub 36 = .ok (.iadd, 1) := by decide +kernel
theorem dX10_wrongSub_37 : decode cX10_wrongSub 37 = .ok (.iaload, 1) := by decide +kernel
theorem dX10_wrongSub_38 : decode cX10_wrongSub 38 = .ok (.ifCond .ne 6, 3) := by decide +kernel
theorem dX10_wrongSub_41 : decode cX10_wrongSub 41 = .ok (.bipush (-3), 2) := by decide +kernel
theorem dX10_wrongSub_43 : decode cX10_wrongSub 43 = .ok (.ireturn, 1) := by decide +kernel
theorem dX10_wrongSub_44 : decode cX10_wrongSub 44 = .ok (.aload_n 0, 1) := by decide +kernel
theorem dX10_wrongSub_45 : decode cX10_wrongSub 45 = .ok (.getfield 13, 3) := by decide +kernel
theorem dX10_wrongSub_48 : decode cX10_wrongSub 48 = .ok (.bipush 7, 2) := by decide +kernel
theorem dX10_wrongSub_50 : decode cX10_wrongSub 50 = .ok (.iload_n 1, 1) := by decide +kernel
theorem dX10_wrongSub_51 : decode cX10_wrongSub 51 = .ok (.iadd, 1) := by decide +kernel
theorem dX10_wrongSub_52 : decode cX10_wrongSub 52 = .ok (.iaload, 1) := by decide +kernel
theorem dX10_wrongSub_53 : decode cX10_wrongSub 53 = .ok (.istore 4, 2) := by decide +kernel
theorem dX10_wrongSub_55 : decode cX10_wrongSub 55 = .ok (.aload_n 0, 1) := by decide +kernel
theorem dX10_wrongSub_56 : decode cX10_wrongSub 56 = .ok (.iload_n 1, 1) := by decide +kernel
theorem dX10_wrongSub_57 : decode cX10_wrongSub 57 = .ok (.iload_n 2, 1) := by decide +kernel
theorem dX10_wrongSub_58 : decode cX10_wrongSub 58 = .ok (.invokevirtual 199, 3) := by decide +kernel
theorem dX10_wrongSub_61 : decode cX10_wrongSub 61 = .ok (.ifCond .eq 9, 3) := by decide +kernel
theorem dX10_wrongSub_64 : decode cX10_wrongSub 64 = .ok (.iload_n 2, 1) := by decide +kernel
theorem dX10_wrongSub_65 : decode cX10_wrongSub 65 = .ok (.iload 4, 2) := by decide +kernel
theorem dX10_wrongSub_67 : decode cX10_wrongSub 67 = .ok (.if_icmp .ne 6, 3) := by decide +kernel
theorem dX10_wrongSub_70 : decode cX10_wrongSub 70 = .ok (.bipush (-4), 2) := by decide +kernel
theorem dX10_wrongSub_72 : decode cX10_wrongSub 72 = .ok (.ireturn, 1) := by decide +kernel
theorem dX10_wrongSub_73 : decode cX10_wrongSub 73 = .ok (.aload_n 0, 1) := by decide +kernel
theorem dX10_wrongSub_74 : decode cX10_wrongSub 74 = .ok (.iload_n 1, 1) := by decide +kernel
theorem dX10_wrongSub_75 : decode cX10_wrongSub 75 = .ok (.iload_n 3, 1) := by decide +kernel
theorem dX10_wrongSub_76 : decode cX10_wrongSub 76 = .ok (.invokevirtual 199, 3) := by decide +kernel
theorem dX10_wrongSub_79 : decode cX10_wrongSub 79 = .ok (.ifCond .gt 22, 3) := by decide +kernel
theorem dX10_wrongSub_82 : decode cX10_wrongSub 82 = .ok (.iload_n 3, 1) := by decide +kernel
theorem dX10_wrongSub_83 : decode cX10_wrongSub 83 = .ok (.iload 4, 2) := by decide +kernel
theorem dX10_wrongSub_85 : decode cX10_wrongSub 85 = .ok (.if_icmp .eq 16, 3) := by decide +kernel
theorem dX10_wrongSub_88 : decode cX10_wrongSub 88 = .ok (.iload_n 3, 1) := by decide +kernel
theorem dX10_wrongSub_89 : decode cX10_wrongSub 89 = .ok (.aload_n 0, 1) := by decide +kernel
theorem dX10_wrongSub_90 : decode cX10_wrongSub 90 = .ok (.getfield 36, 3) := by decide +kernel
theorem dX10_wrongSub_93 : decode cX10_wrongSub 93 = .ok (.bipush 7, 2) := by decide +kernel
theorem dX10_wrongSub_95 : decode cX10_wrongSub 95 = .ok (.iload_n 1, 1) := by decide +kernel
theorem dX10_wrongSub_96 : decode cX10_wrongSub 96 = .ok (.iadd, 1) := by decide +kernel
theorem dX10_wrongSub_97 : decode cX10_wrongSub 97 = .ok (.iaload, 1) := by decide +kernel
theorem dX10_wrongSub_98 : decode cX10_wrongSub 98 = .ok (.if_icmp .ne 6, 3) := by decide +kernel
theorem dX10_wrongSub_101 : decode cX10_wrongSub 101 = .ok (.bipush (-5), 2) := by decide +kernel
theorem dX10_wrongSub_103 : decode cX10_wrongSub 103 = .ok (.ireturn, 1) := by decide +kernel
theorem dX10_wrongSub_104 : decode cX10_wrongSub 104 = .ok (.aload_n 0, 1) := by decide +kernel
theorem dX10_wrongSub_105 : decode cX10_wrongSub 105 = .ok (.iload_n 1, 1) := by decide +kernel
theorem dX10_wrongSub_106 : decode cX10_wrongSub 106 = .ok (.iload_n 2, 1) := by decide +kernel
theorem dX10_wrongSub_107 : decode cX10_wrongSub 107 = .ok (.invokevirtual 202, 3) := by decide +kernel
theorem dX10_wrongSub_110 : decode cX10_wrongSub 110 = .ok (.ifCond .ne 26, 3) := by decide +kernel
theorem dX10_wrongSub_113 : decode cX10_wrongSub 113 = .ok (.aload_n 0, 1) := by decide +kernel
theorem dX10_wrongSub_114 : decode cX10_wrongSub 114 = .ok (.iload_n 1, 1) := by decide +kernel
theorem dX10_wrongSub_115 : decode cX10_wrongSub 115 = .ok (.iload_n 2, 1) := by decide +kernel
theorem dX10_wrongSub_116 : decode cX10_wrongSub 116 = .ok (.invokevirtual 224, 3) := by decide +kernel
theorem dX10_wrongSub_119 : decode cX10_wrongSub 119 = .ok (.ifCond .ne 17, 3) := by decide +kernel
theorem dX10_wrongSub_122 : decode cX10_wrongSub 122 = .ok (.aload_n 0, 1) := by decide +kernel
theorem dX10_wrongSub_123 : decode cX10_wrongSub 123 = .ok (.iload_n 1, 1) := by decide +kernel
theorem dX10_wrongSub_124 : decode cX10_wrongSub 124 = .ok (.iload_n 3, 1) := by decide +kernel
theorem dX10_wrongSub_125 : decode cX10_wrongSub 125 = .ok (.invokevirtual 202, 3) := by decide +kernel
theorem dX10_wrongSub_128 : decode cX10_wrongSub 128 = .ok (.iconst 2, 1) := by decide +kernel
theorem dX10_wrongSub_129 : decode cX10_wrongSub 129 = .ok (.if_icmp .ne 7, 3) := by decide +kernel
theorem dX10_wrongSub_132 : decode cX10_wrongSub 132 = .ok (.iconst 1, 1) := by decide +kernel
theorem dX10_wrongSub_133 : decode cX10_wrongSub 133 = .ok (.goto 4, 3) := by decide +kernel
theorem dX10_wrongSub_136 : decode cX10_wrongSub 136 = .ok (.iconst 0, 1) := by decide +kernel
theorem dX10_wrongSub_137 : decode cX10_wrongSub 137 = .ok (.istore 5, 2) := by decide +kernel
theorem dX10_wrongSub_139 : decode cX10_wrongSub 139 = .ok (.aload_n 0, 1) := by decide +kernel
theorem dX10_wrongSub_140 : decode cX10_wrongSub 140 = .ok (.iload_n 1, 1) := by decide +kernel
theorem dX10_wrongSub_141 : decode cX10_wrongSub 141 = .ok (.iload_n 2, 1) := by decide +kernel
theorem dX10_wrongSub_142 : decode cX10_wrongSub 142 = .ok (.invokevirtual 202, 3) := by decide +kernel
theorem dX10_wrongSub_145 : decode cX10_wrongSub 145 = .ok (.iconst 1, 1) := by decide +kernel
theorem dX10_wrongSub_146 : decode cX10_wrongSub 146 = .ok (.if_icmp .ne 27, 3) := by decide +kernel
theorem dX10_wrongSub_149 : decode cX10_wrongSub 149 = .ok (.aload_n 0, 1) := by decide +kernel
theorem dX10_wrongSub_150 : decode cX10_wrongSub 150 = .ok (.iload_n 1, 1) := by decide +kernel
theorem dX10_wrongSub_151 : decode cX10_wrongSub 151 = .ok (.iload_n 2, 1) := by decide +kernel
theorem dX10_wrongSub_152 : decode cX10_wrongSub 152 = .ok (.invokevirtual 190, 3) := by decide +kernel
theorem dX10_wrongSub_155 : decode cX10_wrongSub 155 = .ok (.iload_n 3, 1) := by decide +kernel
theorem dX10_wrongSub_156 : decode cX10_wrongSub 156 = .ok (.if_icmp .ne 17, 3) := by decide +kernel
theorem dX10_wrongSub_159 : decode cX10_wrongSub 159 = .ok (.aload_n 0, 1) := by decide +kernel
theorem dX10_wrongSub_160 : decode cX10_wrongSub 160 = .ok (.iload_n 1, 1) := by decide +kernel
theorem dX10_wrongSub_161 : decode cX10_wrongSub 161 = .ok (.iload_n 3, 1) := by decide +kernel
theorem dX10_wrongSub_162 : decode cX10_wrongSub 162 = .ok (.invokevirtual 224, 3) := by decide +kernel
theorem dX10_wrongSub_165 : decode cX10_wrongSub 165 = .ok (.iconst 1, 1) := by decide +kernel
theorem dX10_wrongSub_166 : decode cX10_wrongSub 166 = .ok (.if_icmp .ne 7, 3) := by decide +kernel
theorem dX10_wrongSub_169 : decode cX10_wrongSub 169 = .ok (.iconst 1, 1) := by decide +kernel
theorem dX10_wrongSub_170 : decode cX10_wrongSub 170 = .ok (.goto 4, 3) := by decide +kernel
theorem dX10_wrongSub_173 : decode cX10_wrongSub 173 = .ok (.iconst 0, 1) := by decide +kernel
theorem dX10_wrongSub_174 : decode cX10_wrongSub 174 = .ok (.istore 6, 2) := by decide +kernel
theorem dX10_wrongSub_176 : decode cX10_wrongSub 176 = .ok (.iload 5, 2) := by decide +kernel
theorem dX10_wrongSub_178 : decode cX10_wrongSub 178 = .ok (.ifCond .ne 8, 3) := by decide +kernel
theorem dX10_wrongSub_181 : decode cX10_wrongSub 181 = .ok (.iload 6, 2) := by decide +kernel
theorem dX10_wrongSub_183 : decode cX10_wrongSub 183 = .ok (.ifCond .eq 7, 3) := by decide +kernel
theorem dX10_wrongSub_186 : decode cX10_wrongSub 186 = .ok (.iconst 0, 1) := by decide +kernel
theorem dX10_wrongSub_187 : decode cX10_wrongSub 187 = .ok (.goto 5, 3) := by decide +kernel
theorem dX10_wrongSub_190 : decode cX10_wrongSub 190 = .ok (.bipush (-6), 2) := by decide +kernel
theorem dX10_wrongSub_192 : decode cX10_wrongSub 192 = .ok (.ireturn, 1) := by decide +kernel
def fX10_wrongSub_174  (a5 : Int32) (s0 : Int32) (h : hp_T) : Option (Int32 × hp_T) := if a5 = 0 then (if s0 = 0 then (some ((-6 : Int32), h)) else (some ((0 : Int32), h))) else (some ((0 : Int32), h))
set_option maxRecDepth 100000 in
set_option maxHeartbeats 4000000 in
theorem bX10_wrongSub_174 {l : Launch} {G : xr_G} {K : xr_K} {r : Int32} {h1 : hp_T} (C : xr_C G K cX10_wrongSub RX10 7 (xr_R 3 67) (some .int) (some (xr_Qi G r h1)))  (a5 : Int32) (s0 : Int32) (h : hp_T) (hF : fX10_wrongSub_174 a5 s0 h = some (r, h1)) : xr_j l G K 7 h [(5, .int a5)] 174 [.int s0] := by
  unfold fX10_wrongSub_174 at hF
  refine xr_istore C [(6, .int s0), (5, .int a5)] dX10_wrongSub_174 (Nat.le_of_ble_eq_true rfl) rfl ?_
  refine xr_iload C 1 dX10_wrongSub_176 rfl ?_
  refine xr_if_ne C 186 dX10_wrongSub_178 (by decide) (fun c178 => ?_) (fun c178 => ?_)
  · have hF := fx_neg hF c178
    refine xr_iconst (v := 0) C dX10_wrongSub_186 (by decide) ?_
    refine xr_goto C 192 dX10_wrongSub_187 (by decide) ?_
    cases hF
    exact xr_iret C dX10_wrongSub_192
  · have hF := fx_pos hF c178
    refine xr_iload C 0 dX10_wrongSub_181 rfl ?_
    refine xr_if_eq C 190 dX10_wrongSub_183 (by decide) (fun c183 => ?_) (fun c183 => ?_)
    · have hF := fx_pos hF c183
      refine xr_bipush (v := -6) C dX10_wrongSub_190 (by decide) ?_
      cases hF
      exact xr_iret C dX10_wrongSub_192
    · have hF := fx_neg hF c183
      refine xr_iconst (v := 0) C dX10_wrongSub_186 (by decide) ?_
      refine xr_goto C 192 dX10_wrongSub_187 (by decide) ?_
      cases hF
      exact xr_iret C dX10_wrongSub_192
def fX10_wrongSub_173  (a5 : Int32) (h : hp_T) : Option (Int32 × hp_T) := fX10_wrongSub_174 a5 (0 : Int32) h
set_option maxRecDepth 100000 in
set_option maxHeartbeats 4000000 in
theorem bX10_wrongSub_173 {l : Launch} {G : xr_G} {K : xr_K} {r : Int32} {h1 : hp_T} (C : xr_C G K cX10_wrongSub RX10 7 (xr_R 3 67) (some .int) (some (xr_Qi G r h1)))  (a5 : Int32) (h : hp_T) (hF : fX10_wrongSub_173 a5 h = some (r, h1)) : xr_j l G K 7 h [(5, .int a5)] 173 [] := by
  unfold fX10_wrongSub_173 at hF
  refine xr_iconst (v := 0) C dX10_wrongSub_173 (by decide) ?_
  exact bX10_wrongSub_174 C   a5 (0 : Int32) h hF
def fX10_wrongSub_137  (a0 : Nat) (a1 : Int32) (a2 : Int32) (a3 : Int32) (s0 : Int32) (h : hp_T) : Option (Int32 × hp_T) := fx_b2 (fX10_roleOf a0 a1 a2 h) fun (r142 : Int32) (h142 : hp_T) => if r142 = (1 : Int32) then (fx_b2 (fX10_mate a0 a1 a2 h142) fun (r152 : Int32) (h152 : hp_T) => if r152 = a3 then (fx_b2 (fX10_gone a0 a1 a3 h152) fun (r162 : Int32) (h162 : hp_T) => if r162 = (1 : Int32) then (fX10_wrongSub_174 s0 (1 : Int32) h162) else (fX10_wrongSub_173 s0 h162)) else (fX10_wrongSub_173 s0 h152)) else (fX10_wrongSub_173 s0 h142)
set_option maxRecDepth 100000 in
set_option maxHeartbeats 4000000 in
theorem bX10_wrongSub_137 {l : Launch} {G : xr_G} {K : xr_K} {r : Int32} {h1 : hp_T} (C : xr_C G K cX10_wrongSub RX10 7 (xr_R 3 67) (some .int) (some (xr_Qi G r h1)))  (a0 : Nat) (a1 : Int32) (a2 : Int32) (a3 : Int32) (s0 : Int32) (ta0 : hp_sh a0 = (10, 0)) (h : hp_T) (hF : fX10_wrongSub_137 a0 a1 a2 a3 s0 h = some (r, h1)) : xr_j l G K 7 h [(0, .ref (G.2.2.1 a0)), (1, .int a1), (2, .int a2), (3, .int a3)] 137 [.int s0] := by
  unfold fX10_wrongSub_137 at hF
  refine xr_istore C [(5, .int s0), (0, .ref (G.2.2.1 a0)), (1, .int a1), (2, .int a2), (3, .int a3)] dX10_wrongSub_137 (Nat.le_of_ble_eq_true rfl) rfl ?_
  refine xr_aload_n C 1 dX10_wrongSub_139 rfl rfl ?_
  refine xr_iload_n C 2 dX10_wrongSub_140 rfl rfl ?_
  refine xr_iload_n C 3 dX10_wrongSub_141 rfl rfl ?_
  obtain ⟨r142, h142, e142, hF⟩ := fx_b2E hF
  refine xr_callVi C mvX10_202 [.int a1, .int a2] [] (mX10_roleOf l G a0 a1 a2 ta0 h h142 r142 e142) ta0 (by decide) vc10 rfl ⟨rfl, rfl, (Nat.le_of_ble_eq_true rfl), (Nat.le_of_ble_eq_true rfl)⟩ rfl (Nat.le_of_ble_eq_true rfl) dX10_wrongSub_142 ?_
  refine xr_iconst (v := 1) C dX10_wrongSub_145 (by decide) ?_
  refine xr_icmp_ne C 173 dX10_wrongSub_146 (by decide) (fun c146 => ?_) (fun c146 => ?_)
  · have hF := fx_neg hF c146
    refine xr_sub [0] [(5, .int s0)] rfl ?_
    exact bX10_wrongSub_173 C   s0 h142 hF
  · have hF := fx_pos hF c146
    refine xr_aload_n C 1 dX10_wrongSub_149 rfl rfl ?_
    refine xr_iload_n C 2 dX10_wrongSub_150 rfl rfl ?_
    refine xr_iload_n C 3 dX10_wrongSub_151 rfl rfl ?_
    obtain ⟨r152, h152, e152, hF⟩ := fx_b2E hF
    refine xr_callVi C mvX10_190 [.int a1, .int a2] [] (mX10_mate l G a0 a1 a2 ta0 h142 h152 r152 e152) ta0 (by decide) vc10 rfl ⟨rfl, rfl, (Nat.le_of_ble_eq_true rfl), (Nat.le_of_ble_eq_true rfl)⟩ rfl (Nat.le_of_ble_eq_true rfl) dX10_wrongSub_152 ?_
    refine xr_iload_n C 4 dX10_wrongSub_155 rfl rfl ?_
    refine xr_icmp_ne C 173 dX10_wrongSub_156 (by decide) (fun c156 => ?_) (fun c156 => ?_)
    · have hF := fx_neg hF c156
      refine xr_sub [0] [(5, .int s0)] rfl ?_
      exact bX10_wrongSub_173 C   s0 h152 hF
    · have hF := fx_pos hF c156
      refine xr_aload_n C 1 dX10_wrongSub_159 rfl rfl ?_
      refine xr_iload_n C 2 dX10_wrongSub_160 rfl rfl ?_
      refine xr_iload_n C 4 dX10_wrongSub_161 rfl rfl ?_
      obtain ⟨r162, h162, e162, hF⟩ := fx_b2E hF
      refine xr_callVi C mvX10_224 [.int a1, .int a3] [] (mX10_gone l G a0 a1 a3 ta0 h152 h162 r162 e162) ta0 (by decide) vc10 rfl ⟨rfl, rfl, (Nat.le_of_ble_eq_true rfl), (Nat.le_of_ble_eq_true rfl)⟩ rfl (Nat.le_of_ble_eq_true rfl) dX10_wrongSub_162 ?_
      refine xr_iconst (v := 1) C dX10_wrongSub_165 (by decide) ?_
      refine xr_icmp_ne C 173 dX10_wrongSub_166 (by decide) (fun c166 => ?_) (fun c166 => ?_)
      · have hF := fx_neg hF c166
        refine xr_sub [0] [(5, .int s0)] rfl ?_
        exact bX10_wrongSub_173 C   s0 h162 hF
      · have hF := fx_pos hF c166
        refine xr_iconst (v := 1) C dX10_wrongSub_169 (by decide) ?_
        refine xr_goto C 174 dX10_wrongSub_170 (by decide) ?_
        refine xr_sub [0] [(5, .int s0)] rfl ?_
        exact bX10_wrongSub_174 C   s0 (1 : Int32) h162 hF
def fX10_wrongSub_136  (a0 : Nat) (a1 : Int32) (a2 : Int32) (a3 : Int32) (h : hp_T) : Option (Int32 × hp_T) := fX10_wrongSub_137 a0 a1 a2 a3 (0 : Int32) h
set_option maxRecDepth 100000 in
set_option maxHeartbeats 4000000 in
theorem bX10_wrongSub_136 {l : Launch} {G : xr_G} {K : xr_K} {r : Int32} {h1 : hp_T} (C : xr_C G K cX10_wrongSub RX10 7 (xr_R 3 67) (some .int) (some (xr_Qi G r h1)))  (a0 : Nat) (a1 : Int32) (a2 : Int32) (a3 : Int32) (ta0 : hp_sh a0 = (10, 0)) (h : hp_T) (hF : fX10_wrongSub_136 a0 a1 a2 a3 h = some (r, h1)) : xr_j l G K 7 h [(0, .ref (G.2.2.1 a0)), (1, .int a1), (2, .int a2), (3, .int a3)] 136 [] := by
  unfold fX10_wrongSub_136 at hF
  refine xr_iconst (v := 0) C dX10_wrongSub_136 (by decide) ?_
  exact bX10_wrongSub_137 C   a0 a1 a2 a3 (0 : Int32) ta0 h hF
def fX10_wrongSub (a0 : Nat) (a1 : Int32) (a2 : Int32) (a3 : Int32) (h : hp_T) : Option (Int32 × hp_T) := fx_b2 (fX10_isPlayer a0 a1 a2 h) fun (r3 : Int32) (h3 : hp_T) => if r3 = 0 then (some ((-1 : Int32), h3)) else (fx_b2 (fX10_isPlayer a0 a1 a3 h3) fun (r12 : Int32) (h12 : hp_T) => if r12 = 0 then (some ((-1 : Int32), h12)) else (fx_b2 (fX10_isOver a0 h12) fun (r21 : Int32) (h21 : hp_T) => if r21 = 0 then (fx_g (fx_in ((5 : Int32) + a1) 120) (if (h21.1 (h21.2.2 a0 20) (fx_ix ((5 : Int32) + a1))) = 0 then (some ((-3 : Int32), h21)) else (fx_g (fx_in ((7 : Int32) + a1) 117) (fx_let (h21.1 (h21.2.2 a0 3) (fx_ix ((7 : Int32) + a1))) fun (x53 : Int32) => fx_b2 (fX10_spotOf a0 a1 a2 h21) fun (r58 : Int32) (h58 : hp_T) => if r58 = 0 then (some ((-4 : Int32), h58)) else (if a2 = x53 then (some ((-4 : Int32), h58)) else (fx_b2 (fX10_spotOf a0 a1 a3 h58) fun (r76 : Int32) (h76 : hp_T) => if 0 < r76 then (some ((-5 : Int32), h76)) else (if a3 = x53 then (some ((-5 : Int32), h76)) else (fx_g (fx_in ((7 : Int32) + a1) 120) (if a3 = (h76.1 (h76.2.2 a0 20) (fx_ix ((7 : Int32) + a1))) then (some ((-5 : Int32), h76)) else (fx_b2 (fX10_roleOf a0 a1 a2 h76) fun (r107 : Int32) (h107 : hp_T) => if r107 = 0 then (fx_b2 (fX10_gone a0 a1 a2 h107) fun (r116 : Int32) (h116 : hp_T) => if r116 = 0 then (fx_b2 (fX10_roleOf a0 a1 a3 h116) fun (r125 : Int32) (h125 : hp_T) => if r125 = (2 : Int32) then (fX10_wrongSub_137 a0 a1 a2 a3 (1 : Int32) h125) else (fX10_wrongSub_136 a0 a1 a2 a3 h125)) else (fX10_wrongSub_136 a0 a1 a2 a3 h116)) else (fX10_wrongSub_136 a0 a1 a2 a3 h107))))))))))) else (some ((-2 : Int32), h21))))
set_option maxRecDepth 100000 in
set_option maxHeartbeats 4000000 in
theorem mX10_wrongSub (l : Launch) (G : xr_G) (a0 : Nat) (a1 : Int32) (a2 : Int32) (a3 : Int32) (ta0 : hp_sh a0 = (10, 0)) (h h1 : hp_T) (r : Int32) (hF : fX10_wrongSub a0 a1 a2 a3 h = some (r, h1)) : xr_M l G yX10_wrongSub cX10_wrongSub 7 (xr_R 3 67) (some .int) [.ref (G.2.2.1 a0), .int a1, .int a2, .int a3] h (xr_Qi G r h1) := by
  refine xr_start rfl (Nat.le_of_ble_eq_true rfl) (fun K C => ?_)
  show xr_j l G K 7 h [(0, .ref (G.2.2.1 a0)), (1, .int a1), (2, .int a2), (3, .int a3)] 0 []
  unfold fX10_wrongSub at hF
  refine xr_aload_n C 0 dX10_wrongSub_0 rfl rfl ?_
  refine xr_iload_n C 1 dX10_wrongSub_1 rfl rfl ?_
  refine xr_iload_n C 2 dX10_wrongSub_2 rfl rfl ?_
  obtain ⟨r3, h3, e3, hF⟩ := fx_b2E hF
  refine xr_callVi C mvX10_193 [.int a1, .int a2] [] (mX10_isPlayer l G a0 a1 a2 ta0 h h3 r3 e3) ta0 (by decide) vc10 rfl ⟨rfl, rfl, (Nat.le_of_ble_eq_true rfl), (Nat.le_of_ble_eq_true rfl)⟩ rfl (Nat.le_of_ble_eq_true rfl) dX10_wrongSub_3 ?_
  refine xr_if_eq C 18 dX10_wrongSub_6 (by decide) (fun c6 => ?_) (fun c6 => ?_)
  · have hF := fx_pos hF c6
    refine xr_iconst (v := -1) C dX10_wrongSub_18 (by decide) ?_
    cases hF
    exact xr_iret C dX10_wrongSub_19
  · have hF := fx_neg hF c6
    refine xr_aload_n C 0 dX10_wrongSub_9 rfl rfl ?_
    refine xr_iload_n C 1 dX10_wrongSub_10 rfl rfl ?_
    refine xr_iload_n C 3 dX10_wrongSub_11 rfl rfl ?_
    obtain ⟨r12, h12, e12, hF⟩ := fx_b2E hF
    refine xr_callVi C mvX10_193 [.int a1, .int a3] [] (mX10_isPlayer l G a0 a1 a3 ta0 h3 h12 r12 e12) ta0 (by decide) vc10 rfl ⟨rfl, rfl, (Nat.le_of_ble_eq_true rfl), (Nat.le_of_ble_eq_true rfl)⟩ rfl (Nat.le_of_ble_eq_true rfl) dX10_wrongSub_12 ?_
    refine xr_if_ne C 20 dX10_wrongSub_15 (by decide) (fun c15 => ?_) (fun c15 => ?_)
    · have hF := fx_neg hF c15
      refine xr_aload_n C 0 dX10_wrongSub_20 rfl rfl ?_
      obtain ⟨r21, h21, e21, hF⟩ := fx_b2E hF
      refine xr_callVi C mvX10_215 [] [] (mX10_isOver l G a0 ta0 h12 h21 r21 e21) ta0 (by decide) vc10 rfl ⟨rfl, rfl, (Nat.le_of_ble_eq_true rfl), (Nat.le_of_ble_eq_true rfl)⟩ rfl (Nat.le_of_ble_eq_true rfl) dX10_wrongSub_21 ?_
      refine xr_if_eq C 30 dX10_wrongSub_24 (by decide) (fun c24 => ?_) (fun c24 => ?_)
      · have hF := fx_pos hF c24
        refine xr_aload_n C 0 dX10_wrongSub_30 rfl rfl ?_
        refine xr_getr C flX10_36 rfl (by decide) dX10_wrongSub_31 ta0 (fun t31 => ?_)
        refine xr_iconst (v := 5) C dX10_wrongSub_34 (by decide) ?_
        refine xr_iload_n C 1 dX10_wrongSub_35 rfl rfl ?_
        refine xr_iadd C dX10_wrongSub_36 ?_
        obtain ⟨g37, hF⟩ := fx_gE hF
        refine xr_iald C dX10_wrongSub_37 t31 g37 ?_
        refine xr_if_ne C 44 dX10_wrongSub_38 (by decide) (fun c38 => ?_) (fun c38 => ?_)
        · have hF := fx_neg hF c38
          refine xr_aload_n C 0 dX10_wrongSub_44 rfl rfl ?_
          refine xr_getr C flX10_13 rfl (by decide) dX10_wrongSub_45 ta0 (fun t45 => ?_)
          refine xr_bipush (v := 7) C dX10_wrongSub_48 (by decide) ?_
          refine xr_iload_n C 1 dX10_wrongSub_50 rfl rfl ?_
          refine xr_iadd C dX10_wrongSub_51 ?_
          obtain ⟨g52, hF⟩ := fx_gE hF
          refine xr_iald C dX10_wrongSub_52 t45 g52 ?_
          refine xr_topi (fun x53 e53 => ?_)
          have hF := fx_letE hF x53 e53
          refine xr_istore C [(4, .int x53), (0, .ref (G.2.2.1 a0)), (1, .int a1), (2, .int a2), (3, .int a3)] dX10_wrongSub_53 (Nat.le_of_ble_eq_true rfl) rfl ?_
          refine xr_aload_n C 1 dX10_wrongSub_55 rfl rfl ?_
          refine xr_iload_n C 2 dX10_wrongSub_56 rfl rfl ?_
          refine xr_iload_n C 3 dX10_wrongSub_57 rfl rfl ?_
          obtain ⟨r58, h58, e58, hF⟩ := fx_b2E hF
          refine xr_callVi C mvX10_199 [.int a1, .int a2] [] (mX10_spotOf l G a0 a1 a2 ta0 h21 h58 r58 e58) ta0 (by decide) vc10 rfl ⟨rfl, rfl, (Nat.le_of_ble_eq_true rfl), (Nat.le_of_ble_eq_true rfl)⟩ rfl (Nat.le_of_ble_eq_true rfl) dX10_wrongSub_58 ?_
          refine xr_if_eq C 70 dX10_wrongSub_61 (by decide) (fun c61 => ?_) (fun c61 => ?_)
          · have hF := fx_pos hF c61
            refine xr_bipush (v := -4) C dX10_wrongSub_70 (by decide) ?_
            cases hF
            exact xr_iret C dX10_wrongSub_72
          · have hF := fx_neg hF c61
            refine xr_iload_n C 3 dX10_wrongSub_64 rfl rfl ?_
            refine xr_iload C 0 dX10_wrongSub_65 rfl ?_
            refine xr_icmp_ne C 73 dX10_wrongSub_67 (by decide) (fun c67 => ?_) (fun c67 => ?_)
            · have hF := fx_neg hF c67
              refine xr_aload_n C 1 dX10_wrongSub_73 rfl rfl ?_
              refine xr_iload_n C 2 dX10_wrongSub_74 rfl rfl ?_
              refine xr_iload_n C 4 dX10_wrongSub_75 rfl rfl ?_
              obtain ⟨r76, h76, e76, hF⟩ := fx_b2E hF
              refine xr_callVi C mvX10_199 [.int a1, .int a3] [] (mX10_spotOf l G a0 a1 a3 ta0 h58 h76 r76 e76) ta0 (by decide) vc10 rfl ⟨rfl, rfl, (Nat.le_of_ble_eq_true rfl), (Nat.le_of_ble_eq_true rfl)⟩ rfl (Nat.le_of_ble_eq_true rfl) dX10_wrongSub_76 ?_
              refine xr_if_gt C 101 dX10_wrongSub_79 (by decide) (fun c79 => ?_) (fun c79 => ?_)
              · have hF := fx_pos hF c79
                refine xr_bipush (v := -5) C dX10_wrongSub_101 (by decide) ?_
                cases hF
                exact xr_iret C dX10_wrongSub_103
              · have hF := fx_neg hF c79
                refine xr_iload_n C 4 dX10_wrongSub_82 rfl rfl ?_
                refine xr_iload C 0 dX10_wrongSub_83 rfl ?_
                refine xr_icmp_eq C 101 dX10_wrongSub_85 (by decide) (fun c85 => ?_) (fun c85 => ?_)
                · have hF := fx_pos hF c85
                  refine xr_bipush (v := -5) C dX10_wrongSub_101 (by decide) ?_
                  cases hF
                  exact xr_iret C dX10_wrongSub_103
                · have hF := fx_neg hF c85
                  refine xr_iload_n C 4 dX10_wrongSub_88 rfl rfl ?_
                  refine xr_aload_n C 1 dX10_wrongSub_89 rfl rfl ?_
                  refine xr_getr C flX10_36 rfl (by decide) dX10_wrongSub_90 ta0 (fun t90 => ?_)
                  refine xr_bipush (v := 7) C dX10_wrongSub_93 (by decide) ?_
                  refine xr_iload_n C 2 dX10_wrongSub_95 rfl rfl ?_
                  refine xr_iadd C dX10_wrongSub_96 ?_
                  obtain ⟨g97, hF⟩ := fx_gE hF
                  refine xr_iald C dX10_wrongSub_97 t90 g97 ?_
                  refine xr_icmp_ne C 104 dX10_wrongSub_98 (by decide) (fun c98 => ?_) (fun c98 => ?_)
                  · have hF := fx_neg hF c98
                    refine xr_aload_n C 1 dX10_wrongSub_104 rfl rfl ?_
                    refine xr_iload_n C 2 dX10_wrongSub_105 rfl rfl ?_
                    refine xr_iload_n C 3 dX10_wrongSub_106 rfl rfl ?_
                    obtain ⟨r107, h107, e107, hF⟩ := fx_b2E hF
                    refine xr_callVi C mvX10_202 [.int a1, .int a2] [] (mX10_roleOf l G a0 a1 a2 ta0 h76 h107 r107 e107) ta0 (by decide) vc10 rfl ⟨rfl, rfl, (Nat.le_of_ble_eq_true rfl), (Nat.le_of_ble_eq_true rfl)⟩ rfl (Nat.le_of_ble_eq_true rfl) dX10_wrongSub_107 ?_
                    refine xr_if_ne C 136 dX10_wrongSub_110 (by decide) (fun c110 => ?_) (fun c110 => ?_)
                    · have hF := fx_neg hF c110
                      refine xr_sub [1, 2, 3, 4] [(0, .ref (G.2.2.1 a0)), (1, .int a1), (2, .int a2), (3, .int a3)] rfl ?_
                      exact bX10_wrongSub_136 C   a0 a1 a2 a3 ta0 h107 hF
                    · have hF := fx_pos hF c110
                      refine xr_aload_n C 1 dX10_wrongSub_113 rfl rfl ?_
                      refine xr_iload_n C 2 dX10_wrongSub_114 rfl rfl ?_
                      refine xr_iload_n C 3 dX10_wrongSub_115 rfl rfl ?_
                      obtain ⟨r116, h116, e116, hF⟩ := fx_b2E hF
                      refine xr_callVi C mvX10_224 [.int a1, .int a2] [] (mX10_gone l G a0 a1 a2 ta0 h107 h116 r116 e116) ta0 (by decide) vc10 rfl ⟨rfl, rfl, (Nat.le_of_ble_eq_true rfl), (Nat.le_of_ble_eq_true rfl)⟩ rfl (Nat.le_of_ble_eq_true rfl) dX10_wrongSub_116 ?_
                      refine xr_if_ne C 136 dX10_wrongSub_119 (by decide) (fun c119 => ?_) (fun c119 => ?_)
                      · have hF := fx_neg hF c119
                        refine xr_sub [1, 2, 3, 4] [(0, .ref (G.2.2.1 a0)), (1, .int a1), (2, .int a2), (3, .int a3)] rfl ?_
                        exact bX10_wrongSub_136 C   a0 a1 a2 a3 ta0 h116 hF
                      · have hF := fx_pos hF c119
                        refine xr_aload_n C 1 dX10_wrongSub_122 rfl rfl ?_
                        refine xr_iload_n C 2 dX10_wrongSub_123 rfl rfl ?_
                        refine xr_iload_n C 4 dX10_wrongSub_124 rfl rfl ?_
                        obtain ⟨r125, h125, e125, hF⟩ := fx_b2E hF
                        refine xr_callVi C mvX10_202 [.int a1, .int a3] [] (mX10_roleOf l G a0 a1 a3 ta0 h116 h125 r125 e125) ta0 (by decide) vc10 rfl ⟨rfl, rfl, (Nat.le_of_ble_eq_true rfl), (Nat.le_of_ble_eq_true rfl)⟩ rfl (Nat.le_of_ble_eq_true rfl) dX10_wrongSub_125 ?_
                        refine xr_iconst (v := 2) C dX10_wrongSub_128 (by decide) ?_
                        refine xr_icmp_ne C 136 dX10_wrongSub_129 (by decide) (fun c129 => ?_) (fun c129 => ?_)
                        · have hF := fx_neg hF c129
                          refine xr_sub [1, 2, 3, 4] [(0, .ref (G.2.2.1 a0)), (1, .int a1), (2, .int a2), (3, .int a3)] rfl ?_
                          exact bX10_wrongSub_136 C   a0 a1 a2 a3 ta0 h125 hF
                        · have hF := fx_pos hF c129
                          refine xr_iconst (v := 1) C dX10_wrongSub_132 (by decide) ?_
                          refine xr_goto C 137 dX10_wrongSub_133 (by decide) ?_
                          refine xr_sub [1, 2, 3, 4] [(0, .ref (G.2.2.1 a0)), (1, .int a1), (2, .int a2), (3, .int a3)] rfl ?_
                          exact bX10_wrongSub_137 C   a0 a1 a2 a3 (1 : Int32) ta0 h125 hF
                  · have hF := fx_pos hF c98
                    refine xr_bipush (v := -5) C dX10_wrongSub_101 (by decide) ?_
                    cases hF
                    exact xr_iret C dX10_wrongSub_103
            · have hF := fx_pos hF c67
              refine xr_bipush (v := -4) C dX10_wrongSub_70 (by decide) ?_
              cases hF
              exact xr_iret C dX10_wrongSub_72
        · have hF := fx_pos hF c38
          refine xr_bipush (v := -3) C dX10_wrongSub_41 (by decide) ?_
          cases hF
          exact xr_iret C dX10_wrongSub_43
      · have hF := fx_neg hF c24
        refine xr_bipush (v := -2) C dX10_wrongSub_27 (by decide) ?_
        cases hF
        exact xr_iret C dX10_wrongSub_29
    · have hF := fx_pos hF c15
      refine xr_iconst (v := -1) C dX10_wrongSub_18 (by decide) ?_
      cases hF
      exact xr_iret C dX10_wrongSub_19
theorem dX10_changes_0 : decode cX10_changes 0 = .ok (.aload_n 0, 1) := by decide +kernel
theorem dX10_changes_1 : decode cX10_changes 1 = .ok (.iload_n 1, 1) := by decide +kernel
theorem dX10_changes_2 : decode cX10_changes 2 = .ok (.aload_n 0, 1) := by decide +kernel
theorem dX10_changes_3 : decode cX10_changes 3 = .ok (.iload_n 1, 1) := by decide +kernel
theorem dX10_changes_4 : decode cX10_changes 4 = .ok (.iload_n 2, 1) := by decide +kernel
theorem dX10_changes_5 : decode cX10_changes 5 = .ok (.invokevirtual 199, 3) := by decide +kernel
theorem dX10_changes_8 : decode cX10_changes 8 = .ok (.iload_n 3, 1) := by decide +kernel
theorem dX10_changes_9 : decode cX10_changes 9 = .ok (.invokevirtual 211, 3) := by decide +kernel
theorem dX10_changes_12 : decode cX10_changes 12 = .ok (.aload_n 0, 1) := by decide +kernel
theorem dX10_changes_13 : decode cX10_changes 13 = .ok (.getfield 36, 3) := by decide +kernel
theorem dX10_changes_16 : decode cX10_changes 16 = .ok (.iconst 5, 1) := by decide +kernel
theorem dX10_changes_17 : decode cX10_changes 17 = .ok (.iload_n 1, 1) := by decide +kernel
theorem dX10_changes_18 : decode cX10_changes 18 = .ok (.iadd, 1) := by decide +kernel
theorem dX10_changes_19 : decode cX10_changes 19 = .ok (.dup2, 1) := by decide +kernel
theorem dX10_changes_20 : decode cX10_changes 20 = .ok (.iaload, 1) := by decide +kernel
theorem dX10_changes_21 : decode cX10_changes 21 = .ok (.iconst 1, 1) := by decide +kernel
theorem dX10_changes_22 : decode cX10_changes 22 = .ok (.isub, 1) := by decide +kernel
theorem dX10_changes_23 : decode cX10_changes 23 = .ok (.iastore, 1) := by decide +kernel
theorem dX10_changes_24 : decode cX10_changes 24 = .ok (.aload_n 0, 1) := by decide +kernel
theorem dX10_changes_25 : decode cX10_changes 25 = .ok (.iload_n 1, 1) := by decide +kernel
theorem dX10_changes_26 : decode cX10_changes 26 = .ok (.iload_n 2, 1) := by decide +kernel
theorem dX10_changes_27 : decode cX10_changes 27 = .ok (.invokevirtual 186, 3) := by decide +kernel
theorem dX10_changes_30 : decode cX10_changes 30 = .ok (.ifCond .eq 7, 3) := by decide +kernel
theorem dX10_changes_33 : decode cX10_changes 33 = .ok (.iload_n 2, 1) := by decide +kernel
theorem dX10_changes_34 : decode cX10_changes 34 = .ok (.goto 4, 3) := by decide +kernel
theorem dX10_changes_37 : decode cX10_changes 37 = .ok (.iload_n 3, 1) := by decide +kernel
theorem dX10_changes_38 : decode cX10_changes 38 = .ok (.istore 4, 2) := by decide +kernel
theorem dX10_changes_40 : decode cX10_changes 40 = .ok (.iload 4, 2) := by decide +kernel
theorem dX10_changes_42 : decode cX10_changes 42 = .ok (.iload_n 2, 1) := by decide +kernel
theorem dX10_changes_43 : decode cX10_changes 43 = .ok (.if_icmp .ne 7, 3) := by decide +kernel
theorem dX10_changes_46 : decode cX10_changes 46 = .ok (.iload_n 3, 1) := by decide +kernel
theorem dX10_changes_47 : decode cX10_changes 47 = .ok (.goto 4, 3) := by decide +kernel
theorem dX10_changes_50 : decode cX10_changes 50 = .ok (.iload_n 2, 1) := by decide +kernel
theorem dX10_changes_51 : decode cX10_changes 51 = .ok (.istore 5, 2) := by decide +kernel
theorem dX10_changes_53 : decode cX10_changes 53 = .ok (.aload_n 0, 1) := by decide +kernel
theorem dX10_changes_54 : decode cX10_changes 54 = .ok (.getfield 36, 3) := by decide +kernel
theorem dX10_changes_57 : decode cX10_changes 57 = .ok (.bipush 47, 2) := by decide +kernel
theorem dX10_changes_59 : decode cX10_changes 59 = .ok (.iload_n 1, 1) := by decide +kernel
theorem dX10_changes_60 : decode cX10_changes 60 = .ok (.iload 4, 2) := by decide +kernel
theorem dX10_changes_62 : decode cX10_changes 62 = .ok (.bipush 12, 2) := by decide +kernel
theorem dX10_changes_64 : decode cX10_changes 64 = .ok (.invokestatic 167, 3) := by decide +kernel
theorem dX10_changes_67 : decode cX10_changes 67 = .ok (.iadd, 1) := by decide +kernel
theorem dX10_changes_68 : decode cX10_changes 68 = .ok (.dup2, 1) := by decide +kernel
theorem dX10_changes_69 : decode cX10_changes 69 = .ok (.iaload, 1) := by decide +kernel
theorem dX10_changes_70 : decode cX10_changes 70 = .ok (.iconst 1, 1) := by decide +kernel
theorem dX10_changes_71 : decode cX10_changes 71 = .ok (.iadd, 1) := by decide +kernel
theorem dX10_changes_72 : decode cX10_changes 72 = .ok (.iastore, 1) := by decide +kernel
theorem dX10_changes_73 : decode cX10_changes 73 = .ok (.aload_n 0, 1) := by decide +kernel
theorem dX10_changes_74 : decode cX10_changes 74 = .ok (.getfield 36, 3) := by decide +kernel
theorem dX10_changes_77 : decode cX10_changes 77 = .ok (.bipush 23, 2) := by decide +kernel
theorem dX10_changes_79 : decode cX10_changes 79 = .ok (.iload_n 1, 1) := by decide +kernel
theorem dX10_changes_80 : decode cX10_changes 80 = .ok (.iload 4, 2) := by decide +kernel
theorem dX10_changes_82 : decode cX10_changes 82 = .ok (.bipush 12, 2) := by decide +kernel
theorem dX10_changes_84 : decode cX10_changes 84 = .ok (.invokestatic 167, 3) := by decide +kernel
theorem dX10_changes_87 : decode cX10_changes 87 = .ok (.iadd, 1) := by decide +kernel
theorem dX10_changes_88 : decode cX10_changes 88 = .ok (.iload 5, 2) := by decide +kernel
theorem dX10_changes_90 : decode cX10_changes 90 = .ok (.iastore, 1) := by decide +kernel
theorem dX10_changes_91 : decode cX10_changes 91 = .ok (.aload_n 0, 1) := by decide +kernel
theorem dX10_changes_92 : decode cX10_changes 92 = .ok (.getfield 36, 3) := by decide +kernel
theorem dX10_changes_95 : decode cX10_changes 95 = .ok (.bipush 23, 2) := by decide +kernel
theorem dX10_changes_97 : decode cX10_changes 97 = .ok (.iload_n 1, 1) := by decide +kernel
theorem dX10_changes_98 : decode cX10_changes 98 = .ok (.iload 5, 2) := by decide +kernel
theorem dX10_changes_100 : decode cX10_changes 100 = .ok (.bipush 12, 2) := by decide +kernel
theorem dX10_changes_102 : decode cX10_changes 102 = .ok (.invokestatic 167, 3) := by decide +kernel
theorem dX10_changes_105 : decode cX10_changes 105 = .ok (.iadd, 1) := by decide +kernel
theorem dX10_changes_106 : decode cX10_changes 106 = .ok (.iload 4, 2) := by decide +kernel
theorem dX10_changes_108 : decode cX10_changes 108 = .ok (.iastore, 1) := by decide +kernel
theorem dX10_changes_109 : decode cX10_changes 109 = .ok (.return_, 1) := by decide +kernel
def fX10_changes_51  (a0 : Nat) (a1 : Int32) (a4 : Int32) (s0 : Int32) (h : hp_T) : Option hp_T := fx_b2 (fX10_two a1 a4 (12 : Int32) h) fun (r64 : Int32) (h64 : hp_T) => fx_let ((47 : Int32) + r64) fun (x68 : Int32) => fx_g (fx_in x68 120) (fx_g (fx_in x68 120) (fx_let (hp_sI h64 (h.2.2 a0 20) (fx_ix x68) ((h64.1 (h.2.2 a0 20) (fx_ix x68)) + (1 : Int32))) fun (h72 : hp_T) => fx_b2 (fX10_two a1 a4 (12 : Int32) h72) fun (r84 : Int32) (h84 : hp_T) => fx_g (fx_in ((23 : Int32) + r84) 120) (fx_let (hp_sI h84 (h72.2.2 a0 20) (fx_ix ((23 : Int32) + r84)) s0) fun (h90 : hp_T) => fx_b2 (fX10_two a1 s0 (12 : Int32) h90) fun (r102 : Int32) (h102 : hp_T) => fx_g (fx_in ((23 : Int32) + r102) 120) (fx_let (hp_sI h102 (h90.2.2 a0 20) (fx_ix ((23 : Int32) + r102)) a4) fun (h108 : hp_T) => some h108))))
set_option maxRecDepth 100000 in
set_option maxHeartbeats 4000000 in
theorem bX10_changes_51 {l : Launch} {G : xr_G} {K : xr_K} {h1 : hp_T} (C : xr_C G K cX10_changes RX10 6 (xr_R 3 67) none (some (xr_Qv G h1)))  (a0 : Nat) (a1 : Int32) (a4 : Int32) (s0 : Int32) (ta0 : hp_sh a0 = (10, 0)) (h : hp_T) (hF : fX10_changes_51 a0 a1 a4 s0 h = some h1) : xr_j l G K 6 h [(0, .ref (G.2.2.1 a0)), (1, .int a1), (4, .int a4)] 51 [.int s0] := by
  unfold fX10_changes_51 at hF
  refine xr_istore C [(5, .int s0), (0, .ref (G.2.2.1 a0)), (1, .int a1), (4, .int a4)] dX10_changes_51 (Nat.le_of_ble_eq_true rfl) rfl ?_
  refine xr_aload_n C 1 dX10_changes_53 rfl rfl ?_
  refine xr_getr C flX10_36 rfl (by decide) dX10_changes_54 ta0 (fun t54 => ?_)
  refine xr_bipush (v := 47) C dX10_changes_57 (by decide) ?_
  refine xr_iload_n C 2 dX10_changes_59 rfl rfl ?_
  refine xr_iload C 3 dX10_changes_60 rfl ?_
  refine xr_bipush (v := 12) C dX10_changes_62 (by decide) ?_
  obtain ⟨r64, h64, e64, hF⟩ := fx_b2E hF
  refine xr_callSi C mvX10_167 [.int a1, .int a4, .int (12 : Int32)] [.int (47 : Int32), .ref (G.2.2.1 (h.2.2 a0 20))] (mX10_two l G a1 a4 (12 : Int32)  h h64 r64 e64) rfl ⟨rfl, rfl, (Nat.le_of_ble_eq_true rfl), (Nat.le_of_ble_eq_true rfl)⟩ rfl (Nat.le_of_ble_eq_true rfl) dX10_changes_64 ?_
  refine xr_iadd C dX10_changes_67 ?_
  refine xr_topi (fun x68 e68 => ?_)
  have hF := fx_letE hF x68 e68
  refine xr_dup2 C dX10_changes_68 rfl rfl ?_
  obtain ⟨g69, hF⟩ := fx_gE hF
  refine xr_iald C dX10_changes_69 t54 g69 ?_
  refine xr_iconst (v := 1) C dX10_changes_70 (by decide) ?_
  refine xr_iadd C dX10_changes_71 ?_
  obtain ⟨g72, hF⟩ := fx_gE hF
  refine xr_iast C dX10_changes_72 t54 g72 (fun h72 e72 => ?_)
  have hF := fx_letE hF h72 e72
  refine xr_aload_n C 1 dX10_changes_73 rfl rfl ?_
  refine xr_getr C flX10_36 rfl (by decide) dX10_changes_74 ta0 (fun t74 => ?_)
  refine xr_bipush (v := 23) C dX10_changes_77 (by decide) ?_
  refine xr_iload_n C 2 dX10_changes_79 rfl rfl ?_
  refine xr_iload C 3 dX10_changes_80 rfl ?_
  refine xr_bipush (v := 12) C dX10_changes_82 (by decide) ?_
  obtain ⟨r84, h84, e84, hF⟩ := fx_b2E hF
  refine xr_callSi C mvX10_167 [.int a1, .int a4, .int (12 : Int32)] [.int (23 : Int32), .ref (G.2.2.1 (h72.2.2 a0 20))] (mX10_two l G a1 a4 (12 : Int32)  h72 h84 r84 e84) rfl ⟨rfl, rfl, (Nat.le_of_ble_eq_true rfl), (Nat.le_of_ble_eq_true rfl)⟩ rfl (Nat.le_of_ble_eq_true rfl) dX10_changes_84 ?_
  refine xr_iadd C dX10_changes_87 ?_
  refine xr_iload C 0 dX10_changes_88 rfl ?_
  obtain ⟨g90, hF⟩ := fx_gE hF
  refine xr_iast C dX10_changes_90 t74 g90 (fun h90 e90 => ?_)
  have hF := fx_letE hF h90 e90
  refine xr_aload_n C 1 dX10_changes_91 rfl rfl ?_
  refine xr_getr C flX10_36 rfl (by decide) dX10_changes_92 ta0 (fun t92 => ?_)
  refine xr_bipush (v := 23) C dX10_changes_95 (by decide) ?_
  refine xr_iload_n C 2 dX10_changes_97 rfl rfl ?_
  refine xr_iload C 0 dX10_changes_98 rfl ?_
  refine xr_bipush (v := 12) C dX10_changes_100 (by decide) ?_
  obtain ⟨r102, h102, e102, hF⟩ := fx_b2E hF
  refine xr_callSi C mvX10_167 [.int a1, .int s0, .int (12 : Int32)] [.int (23 : Int32), .ref (G.2.2.1 (h90.2.2 a0 20))] (mX10_two l G a1 s0 (12 : Int32)  h90 h102 r102 e102) rfl ⟨rfl, rfl, (Nat.le_of_ble_eq_true rfl), (Nat.le_of_ble_eq_true rfl)⟩ rfl (Nat.le_of_ble_eq_true rfl) dX10_changes_102 ?_
  refine xr_iadd C dX10_changes_105 ?_
  refine xr_iload C 3 dX10_changes_106 rfl ?_
  obtain ⟨g108, hF⟩ := fx_gE hF
  refine xr_iast C dX10_changes_108 t92 g108 (fun h108 e108 => ?_)
  have hF := fx_letE hF h108 e108
  cases hF
  exact xr_vret C dX10_changes_109
def fX10_changes_38  (a0 : Nat) (a1 : Int32) (a2 : Int32) (a3 : Int32) (s0 : Int32) (h : hp_T) : Option hp_T := if s0 = a2 then (fX10_changes_51 a0 a1 s0 a3 h) else (fX10_changes_51 a0 a1 s0 a2 h)
set_option maxRecDepth 100000 in
set_option maxHeartbeats 4000000 in
theorem bX10_changes_38 {l : Launch} {G : xr_G} {K : xr_K} {h1 : hp_T} (C : xr_C G K cX10_changes RX10 6 (xr_R 3 67) none (some (xr_Qv G h1)))  (a0 : Nat) (a1 : Int32) (a2 : Int32) (a3 : Int32) (s0 : Int32) (ta0 : hp_sh a0 = (10, 0)) (h : hp_T) (hF : fX10_changes_38 a0 a1 a2 a3 s0 h = some h1) : xr_j l G K 6 h [(0, .ref (G.2.2.1 a0)), (1, .int a1), (2, .int a2), (3, .int a3)] 38 [.int s0] := by
  unfold fX10_changes_38 at hF
  refine xr_istore C [(4, .int s0), (0, .ref (G.2.2.1 a0)), (1, .int a1), (2, .int a2), (3, .int a3)] dX10_changes_38 (Nat.le_of_ble_eq_true rfl) rfl ?_
  refine xr_iload C 0 dX10_changes_40 rfl ?_
  refine xr_iload_n C 3 dX10_changes_42 rfl rfl ?_
  refine xr_icmp_ne C 50 dX10_changes_43 (by decide) (fun c43 => ?_) (fun c43 => ?_)
  · have hF := fx_neg hF c43
    refine xr_iload_n C 3 dX10_changes_50 rfl rfl ?_
    refine xr_sub [1, 2, 0] [(0, .ref (G.2.2.1 a0)), (1, .int a1), (4, .int s0)] rfl ?_
    exact bX10_changes_51 C   a0 a1 s0 a2 ta0 h hF
  · have hF := fx_pos hF c43
    refine xr_iload_n C 4 dX10_changes_46 rfl rfl ?_
    refine xr_goto C 51 dX10_changes_47 (by decide) ?_
    refine xr_sub [1, 2, 0] [(0, .ref (G.2.2.1 a0)), (1, .int a1), (4, .int s0)] rfl ?_
    exact bX10_changes_51 C   a0 a1 s0 a3 ta0 h hF
def fX10_changes (a0 : Nat) (a1 : Int32) (a2 : Int32) (a3 : Int32) (h : hp_T) : Option hp_T := fx_b2 (fX10_spotOf a0 a1 a2 h) fun (r5 : Int32) (h5 : hp_T) => fx_b1 (fX10_puts a0 a1 r5 a3 h5) fun (h9 : hp_T) => fx_let ((5 : Int32) + a1) fun (x19 : Int32) => fx_g (fx_in x19 120) (fx_g (fx_in x19 120) (fx_let (hp_sI h9 (h9.2.2 a0 20) (fx_ix x19) ((h9.1 (h9.2.2 a0 20) (fx_ix x19)) - (1 : Int32))) fun (h23 : hp_T) => fx_b2 (fX10_isStarter a0 a1 a2 h23) fun (r27 : Int32) (h27 : hp_T) => if r27 = 0 then (fX10_changes_38 a0 a1 a2 a3 a3 h27) else (fX10_changes_38 a0 a1 a2 a3 a2 h27)))
set_option maxRecDepth 100000 in
set_option maxHeartbeats 4000000 in
theorem mX10_changes (l : Launch) (G : xr_G) (a0 : Nat) (a1 : Int32) (a2 : Int32) (a3 : Int32) (ta0 : hp_sh a0 = (10, 0)) (h h1 : hp_T) (hF : fX10_changes a0 a1 a2 a3 h = some h1) : xr_M l G yX10_changes cX10_changes 6 (xr_R 3 67) none [.ref (G.2.2.1 a0), .int a1, .int a2, .int a3] h (xr_Qv G h1) := by
  refine xr_start rfl (Nat.le_of_ble_eq_true rfl) (fun K C => ?_)
  show xr_j l G K 6 h [(0, .ref (G.2.2.1 a0)), (1, .int a1), (2, .int a2), (3, .int a3)] 0 []
  unfold fX10_changes at hF
  refine xr_aload_n C 0 dX10_changes_0 rfl rfl ?_
  refine xr_iload_n C 1 dX10_changes_1 rfl rfl ?_
  refine xr_aload_n C 0 dX10_changes_2 rfl rfl ?_
  refine xr_iload_n C 1 dX10_changes_3 rfl rfl ?_
  refine xr_iload_n C 2 dX10_changes_4 rfl rfl ?_
  obtain ⟨r5, h5, e5, hF⟩ := fx_b2E hF
  refine xr_callVi C mvX10_199 [.int a1, .int a2] [.int a1, .ref (G.2.2.1 a0)] (mX10_spotOf l G a0 a1 a2 ta0 h h5 r5 e5) ta0 (by decide) vc10 rfl ⟨rfl, rfl, (Nat.le_of_ble_eq_true rfl), (Nat.le_of_ble_eq_true rfl)⟩ rfl (Nat.le_of_ble_eq_true rfl) dX10_changes_5 ?_
  refine xr_iload_n C 3 dX10_changes_8 rfl rfl ?_
  obtain ⟨h9, e9, hF⟩ := fx_b1E hF
  refine xr_callVv C mvX10_211 [.int a1, .int r5, .int a3] [] (mX10_puts l G a0 a1 r5 a3 ta0 h5 h9 e9) ta0 (by decide) vc10 rfl ⟨rfl, rfl, (Nat.le_of_ble_eq_true rfl), (Nat.le_of_ble_eq_true rfl)⟩ rfl (Nat.le_of_ble_eq_true rfl) dX10_changes_9 ?_
  refine xr_aload_n C 0 dX10_changes_12 rfl rfl ?_
  refine xr_getr C flX10_36 rfl (by decide) dX10_changes_13 ta0 (fun t13 => ?_)
  refine xr_iconst (v := 5) C dX10_changes_16 (by decide) ?_
  refine xr_iload_n C 1 dX10_changes_17 rfl rfl ?_
  refine xr_iadd C dX10_changes_18 ?_
  refine xr_topi (fun x19 e19 => ?_)
  have hF := fx_letE hF x19 e19
  refine xr_dup2 C dX10_changes_19 rfl rfl ?_
  obtain ⟨g20, hF⟩ := fx_gE hF
  refine xr_iald C dX10_changes_20 t13 g20 ?_
  refine xr_iconst (v := 1) C dX10_changes_21 (by decide) ?_
  refine xr_isub C dX10_changes_22 ?_
  obtain ⟨g23, hF⟩ := fx_gE hF
  refine xr_iast C dX10_changes_23 t13 g23 (fun h23 e23 => ?_)
  have hF := fx_letE hF h23 e23
  refine xr_aload_n C 0 dX10_changes_24 rfl rfl ?_
  refine xr_iload_n C 1 dX10_changes_25 rfl rfl ?_
  refine xr_iload_n C 2 dX10_changes_26 rfl rfl ?_
  obtain ⟨r27, h27, e27, hF⟩ := fx_b2E hF
  refine xr_callVi C mvX10_186 [.int a1, .int a2] [] (mX10_isStarter l G a0 a1 a2 ta0 h23 h27 r27 e27) ta0 (by decide) vc10 rfl ⟨rfl, rfl, (Nat.le_of_ble_eq_true rfl), (Nat.le_of_ble_eq_true rfl)⟩ rfl (Nat.le_of_ble_eq_true rfl) dX10_changes_27 ?_
  refine xr_if_eq C 37 dX10_changes_30 (by decide) (fun c30 => ?_) (fun c30 => ?_)
  · have hF := fx_pos hF c30
    refine xr_iload_n C 3 dX10_changes_37 rfl rfl ?_
    exact bX10_changes_38 C   a0 a1 a2 a3 a3 ta0 h27 hF
  · have hF := fx_neg hF c30
    refine xr_iload_n C 2 dX10_changes_33 rfl rfl ?_
    refine xr_goto C 38 dX10_changes_34 (by decide) ?_
    exact bX10_changes_38 C   a0 a1 a2 a3 a2 ta0 h27 hF
theorem dX10_sub_0 : decode cX10_sub 0 = .ok (.aload_n 0, 1) := by decide +kernel
theorem dX10_sub_1 : decode cX10_sub 1 = .ok (.iconst 0, 1) := by decide +kernel
theorem dX10_sub_2 : decode cX10_sub 2 = .ok (.putfield 63, 3) := by decide +kernel
theorem dX10_sub_5 : decode cX10_sub 5 = .ok (.aload_n 0, 1) := by decide +kernel
theorem dX10_sub_6 : decode cX10_sub 6 = .ok (.iload_n 1, 1) := by decide +kernel
theorem dX10_sub_7 : decode cX10_sub 7 = .ok (.iload_n 2, 1) := by decide +kernel
theorem dX10_sub_8 : decode cX10_sub 8 = .ok (.iload_n 3, 1) := by decide +kernel
theorem dX10_sub_9 : decode cX10_sub 9 = .ok (.invokevirtual 227, 3) := by decide +kernel
theorem dX10_sub_12 : decode cX10_sub 12 = .ok (.istore 4, 2) := by decide +kernel
theorem dX10_sub_14 : decode cX10_sub 14 = .ok (.iload 4, 2) := by decide +kernel
theorem dX10_sub_16 : decode cX10_sub 16 = .ok (.ifCond .eq 6, 3) := by decide +kernel
theorem dX10_sub_19 : decode cX10_sub 19 = .ok (.iload 4, 2) := by decide +kernel
theorem dX10_sub_21 : decode cX10_sub 21 = .ok (.ireturn, 1) := by decide +kernel
theorem dX10_sub_22 : decode cX10_sub 22 = .ok (.aload_n 0, 1) := by decide +kernel
theorem dX10_sub_23 : decode cX10_sub 23 = .ok (.invokevirtual 218, 3) := by decide +kernel
theorem dX10_sub_26 : decode cX10_sub 26 = .ok (.aload_n 0, 1) := by decide +kernel
theorem dX10_sub_27 : decode cX10_sub 27 = .ok (.iload_n 1, 1) := by decide +kernel
theorem dX10_sub_28 : decode cX10_sub 28 = .ok (.iload_n 2, 1) := by decide +kernel
theorem dX10_sub_29 : decode cX10_sub 29 = .ok (.iload_n 3, 1) := by decide +kernel
theorem dX10_sub_30 : decode cX10_sub 30 = .ok (.invokevirtual 230, 3) := by decide +kernel
theorem dX10_sub_33 : decode cX10_sub 33 = .ok (.aload_n 0, 1) := by decide +kernel
theorem dX10_sub_34 : decode cX10_sub 34 = .ok (.getfield 36, 3) := by decide +kernel
theorem dX10_sub_37 : decode cX10_sub 37 = .ok (.iconst 5, 1) := by decide +kernel
theorem dX10_sub_38 : decode cX10_sub 38 = .ok (.iload_n 1, 1) := by decide +kernel
theorem dX10_sub_39 : decode cX10_sub 39 = .ok (.iadd, 1) := by decide +kernel
theorem dX10_sub_40 : decode cX10_sub 40 = .ok (.iaload, 1) := by decide +kernel
theorem dX10_sub_41 : decode cX10_sub 41 = .ok (.ireturn, 1) := by decide +kernel
def fX10_sub (a0 : Nat) (a1 : Int32) (a2 : Int32) (a3 : Int32) (h : hp_T) : Option (Int32 × hp_T) := fx_let (hp_sI h a0 0 (0 : Int32)) fun (h2 : hp_T) => fx_b2 (fX10_wrongSub a0 a1 a2 a3 h2) fun (r9 : Int32) (h9 : hp_T) => if r9 = 0 then (fx_b1 (fX10_keeps a0 h9) fun (h23 : hp_T) => fx_b1 (fX10_changes a0 a1 a2 a3 h23) fun (h30 : hp_T) => fx_g (fx_in ((5 : Int32) + a1) 120) (some ((h30.1 (h30.2.2 a0 20) (fx_ix ((5 : Int32) + a1))), h30))) else (some (r9, h9))
set_option maxRecDepth 100000 in
set_option maxHeartbeats 4000000 in
theorem mX10_sub (l : Launch) (G : xr_G) (a0 : Nat) (a1 : Int32) (a2 : Int32) (a3 : Int32) (ta0 : hp_sh a0 = (10, 0)) (h h1 : hp_T) (r : Int32) (hF : fX10_sub a0 a1 a2 a3 h = some (r, h1)) : xr_M l G yX10_sub cX10_sub 5 (xr_R 4 93) (some .int) [.ref (G.2.2.1 a0), .int a1, .int a2, .int a3] h (xr_Qi G r h1) := by
  refine xr_start rfl (Nat.le_of_ble_eq_true rfl) (fun K C => ?_)
  show xr_j l G K 5 h [(0, .ref (G.2.2.1 a0)), (1, .int a1), (2, .int a2), (3, .int a3)] 0 []
  unfold fX10_sub at hF
  refine xr_aload_n C 0 dX10_sub_0 rfl rfl ?_
  refine xr_iconst (v := 0) C dX10_sub_1 (by decide) ?_
  refine xr_puti C fpX10_63 rfl rfl rfl dX10_sub_2 ta0 (fun h2 e2 => ?_)
  have hF := fx_letE hF h2 e2
  refine xr_aload_n C 0 dX10_sub_5 rfl rfl ?_
  refine xr_iload_n C 1 dX10_sub_6 rfl rfl ?_
  refine xr_iload_n C 2 dX10_sub_7 rfl rfl ?_
  refine xr_iload_n C 3 dX10_sub_8 rfl rfl ?_
  obtain ⟨r9, h9, e9, hF⟩ := fx_b2E hF
  refine xr_callVi C mvX10_227 [.int a1, .int a2, .int a3] [] (mX10_wrongSub l G a0 a1 a2 a3 ta0 h2 h9 r9 e9) ta0 (by decide) vc10 rfl ⟨rfl, rfl, (Nat.le_of_ble_eq_true rfl), (Nat.le_of_ble_eq_true rfl)⟩ rfl (Nat.le_of_ble_eq_true rfl) dX10_sub_9 ?_
  refine xr_istore C [(4, .int r9), (0, .ref (G.2.2.1 a0)), (1, .int a1), (2, .int a2), (3, .int a3)] dX10_sub_12 (Nat.le_of_ble_eq_true rfl) rfl ?_
  refine xr_iload C 0 dX10_sub_14 rfl ?_
  refine xr_if_eq C 22 dX10_sub_16 (by decide) (fun c16 => ?_) (fun c16 => ?_)
  · have hF := fx_pos hF c16
    refine xr_aload_n C 1 dX10_sub_22 rfl rfl ?_
    obtain ⟨h23, e23, hF⟩ := fx_b1E hF
    refine xr_callVv C mvX10_218 [] [] (mX10_keeps l G a0 ta0 h9 h23 e23) ta0 (by decide) vc10 rfl ⟨rfl, rfl, (Nat.le_of_ble_eq_true rfl), (Nat.le_of_ble_eq_true rfl)⟩ rfl (Nat.le_of_ble_eq_true rfl) dX10_sub_23 ?_
    refine xr_aload_n C 1 dX10_sub_26 rfl rfl ?_
    refine xr_iload_n C 2 dX10_sub_27 rfl rfl ?_
    refine xr_iload_n C 3 dX10_sub_28 rfl rfl ?_
    refine xr_iload_n C 4 dX10_sub_29 rfl rfl ?_
    obtain ⟨h30, e30, hF⟩ := fx_b1E hF
    refine xr_callVv C mvX10_230 [.int a1, .int a2, .int a3] [] (mX10_changes l G a0 a1 a2 a3 ta0 h23 h30 e30) ta0 (by decide) vc10 rfl ⟨rfl, rfl, (Nat.le_of_ble_eq_true rfl), (Nat.le_of_ble_eq_true rfl)⟩ rfl (Nat.le_of_ble_eq_true rfl) dX10_sub_30 ?_
    refine xr_aload_n C 1 dX10_sub_33 rfl rfl ?_
    refine xr_getr C flX10_36 rfl (by decide) dX10_sub_34 ta0 (fun t34 => ?_)
    refine xr_iconst (v := 5) C dX10_sub_37 (by decide) ?_
    refine xr_iload_n C 2 dX10_sub_38 rfl rfl ?_
    refine xr_iadd C dX10_sub_39 ?_
    obtain ⟨g40, hF⟩ := fx_gE hF
    refine xr_iald C dX10_sub_40 t34 g40 ?_
    cases hF
    exact xr_iret C dX10_sub_41
  · have hF := fx_neg hF c16
    refine xr_iload C 0 dX10_sub_19 rfl ?_
    cases hF
    exact xr_iret C dX10_sub_21
theorem dX10_wrongMove_0 : decode cX10_wrongMove 0 = .ok (.aload_n 0, 1) := by decide +kernel
theorem dX10_wrongMove_1 : decode cX10_wrongMove 1 = .ok (.iload_n 1, 1) := by decide +kernel
theorem dX10_wrongMove_2 : decode cX10_wrongMove 2 = .ok (.invokevirtual 180, 3) := by decide +kernel
theorem dX10_wrongMove_5 : decode cX10_wrongMove 5 = .ok (.ifCond .eq 14, 3) := by decide +kernel
theorem dX10_wrongMove_8 : decode cX10_wrongMove 8 = .ok (.iload_n 2, 1) := by decide +kernel
theorem dX10_wrongMove_9 : decode cX10_wrongMove 9 = .ok (.ifCond .eq 12, 3) := by decide +kernel
theorem dX10_wrongMove_12 : decode cX10_wrongMove 12 = .ok (.iload_n 2, 1) := by decide +kernel
theorem dX10_wrongMove_13 : decode cX10_wrongMove 13 = .ok (.invokestatic 233, 3) := by decide +kernel
theorem dX10_wrongMove_16 : decode cX10_wrongMove 16 = .ok (.ifCond .ne 5, 3) := by decide +kernel
theorem dX10_wrongMove_19 : decode cX10_wrongMove 19 = .ok (.iconst (-1), 1) := by decide +kernel
theorem dX10_wrongMove_20 : decode cX10_wrongMove 20 = .ok (.ireturn, 1) := by decide +kernel
theorem dX10_wrongMove_21 : decode cX10_wrongMove 21 = .ok (.aload_n 0, 1) := by decide +kernel
theorem dX10_wrongMove_22 : decode cX10_wrongMove 22 = .ok (.invokevirtual 215, 3) := by decide +kernel
theorem dX10_wrongMove_25 : decode cX10_wrongMove 25 = .ok (.ifCond .eq 6, 3) := by decide +kernel
theorem dX10_wrongMove_28 : decode cX10_wrongMove 28 = .ok (.bipush (-2), 2) := by decide +kernel
theorem dX10_wrongMove_30 : decode cX10_wrongMove 30 = .ok (.ireturn, 1) := by decide +kernel
theorem dX10_wrongMove_31 : decode cX10_wrongMove 31 = .ok (.aload_n 0, 1) := by decide +kernel
theorem dX10_wrongMove_32 : decode cX10_wrongMove 32 = .ok (.getfield 36, 3) := by decide +kernel
theorem dX10_wrongMove_35 : decode cX10_wrongMove 35 = .ok (.bipush 7, 2) := by decide +kernel
theorem dX10_wrongMove_37 : decode cX10_wrongMove 37 = .ok (.iload_n 1, 1) := by decide +kernel
theorem dX10_wrongMove_38 : decode cX10_wrongMove 38 = .ok (.iadd, 1) := by decide +kernel
theorem dX10_wrongMove_39 : decode cX10_wrongMove 39 = .ok (.iaload, 1) := by decide +kernel
theorem dX10_wrongMove_40 : decode cX10_wrongMove 40 = .ok (.iconst (-1), 1) := by decide +kernel
theorem dX10_wrongMove_41 : decode cX10_wrongMove 41 = .ok (.if_icmp .eq 7, 3) := by decide +kernel
theorem dX10_wrongMove_44 : decode cX10_wrongMove 44 = .ok (.iconst 1, 1) := by decide +kernel
theorem dX10_wrongMove_45 : decode cX10_wrongMove 45 = .ok (.goto 4, 3) := by decide +kernel
theorem dX10_wrongMove_48 : decode cX10_wrongMove 48 = .ok (.iconst 0, 1) := by decide +kernel
theorem dX10_wrongMove_49 : decode cX10_wrongMove 49 = .ok (.istore_n 3, 1) := by decide +kernel
theorem dX10_wrongMove_50 : decode cX10_wrongMove 50 = .ok (.aload_n 0, 1) := by decide +kernel
theorem dX10_wrongMove_51 : decode cX10_wrongMove 51 = .ok (.getfield 13, 3) := by decide +kernel
theorem dX10_wrongMove_54 : decode cX10_wrongMove 54 = .ok (.bipush 7, 2) := by decide +kernel
theorem dX10_wrongMove_56 : decode cX10_wrongMove 56 = .ok (.iload_n 1, 1) := by decide +kernel
theorem dX10_wrongMove_57 : decode cX10_wrongMove 57 = .ok (.iadd, 1) := by decide +kernel
theorem dX10_wrongMove_58 : decode cX10_wrongMove 58 = .ok (.iaload, 1) := by decide +kernel
theorem dX10_wrongMove_59 : decode cX10_wrongMove 59 = .ok (.iconst (-1), 1) := by decide +kernel
theorem dX10_wrongMove_60 : decode cX10_wrongMove 60 = .ok (.if_icmp .eq 16, 3) := by decide +kernel
theorem dX10_wrongMove_63 : decode cX10_wrongMove 63 = .ok (.iload_n 3, 1) := by decide +kernel
theorem dX10_wrongMove_64 : decode cX10_wrongMove 64 = .ok (.iload_n 2, 1) := by decide +kernel
theorem dX10_wrongMove_65 : decode cX10_wrongMove 65 = .ok (.ifCond .le 7, 3) := by decide +kernel
theorem dX10_wrongMove_68 : decode cX10_wrongMove 68 = .ok (.iconst 1, 1) := by decide +kernel
theorem dX10_wrongMove_69 : decode cX10_wrongMove 69 = .ok (.goto 4, 3) := by decide +kernel
theorem dX10_wrongMove_72 : decode cX10_wrongMove 72 = .ok (.iconst 0, 1) := by decide +kernel
theorem dX10_wrongMove_73 : decode cX10_wrongMove 73 = .ok (.if_icmp .ne 6, 3) := by decide +kernel
theorem dX10_wrongMove_76 : decode cX10_wrongMove 76 = .ok (.bipush (-3), 2) := by decide +kernel
theorem dX10_wrongMove_78 : decode cX10_wrongMove 78 = .ok (.ireturn, 1) := by decide +kernel
theorem dX10_wrongMove_79 : decode cX10_wrongMove 79 = .ok (.aload_n 0, 1) := by decide +kernel
theorem dX10_wrongMove_80 : decode cX10_wrongMove 80 = .ok (.getfield 36, 3) := by decide +kernel
theorem dX10_wrongMove_83 : decode cX10_wrongMove 83 = .ok (.bipush 9, 2) := by decide +kernel
theorem dX10_wrongMove_85 : decode cX10_wrongMove 85 = .ok (.iload_n 1, 1) := by decide +kernel
theorem dX10_wrongMove_86 : decode cX10_wrongMove 86 = .ok (.iadd, 1) := by decide +kernel
theorem dX10_wrongMove_87 : decode cX10_wrongMove 87 = .ok (.iaload, 1) := by decide +kernel
theorem dX10_wrongMove_88 : decode cX10_wrongMove 88 = .ok (.iconst 1, 1) := by decide +kernel
theorem dX10_wrongMove_89 : decode cX10_wrongMove 89 = .ok (.if_icmp .ne 6, 3) := by decide +kernel
theorem dX10_wrongMove_92 : decode cX10_wrongMove 92 = .ok (.bipush (-4), 2) := by decide +kernel
theorem dX10_wrongMove_94 : decode cX10_wrongMove 94 = .ok (.ireturn, 1) := by decide +kernel
theorem dX10_wrongMove_95 : decode cX10_wrongMove 95 = .ok (.iload_n 2, 1) := by decide +kernel
theorem dX10_wrongMove_96 : decode cX10_wrongMove 96 = .ok (.iconst 1, 1) := by decide +kernel
theorem dX10_wrongMove_97 : decode cX10_wrongMove 97 = .ok (.if_icmp .ne 18, 3) := by decide +kernel
theorem dX10_wrongMove_100 : decode cX10_wrongMove 100 = .ok (.aload_n 0, 1) := by decide +kernel
theorem dX10_wrongMove_101 : decode cX10_wrongMove 101 = .ok (.getfield 36, 3) := by decide +kernel
theorem dX10_wrongMove_104 : decode cX10_wrongMove 104 = .ok (.iconst 2, 1) := by decide +kernel
theorem dX10_wrongMove_105 : decode cX10_wrongMove 105 = .ok (.iaload, 1) := by decide +kernel
theorem dX10_wrongMove_106 : decode cX10_wrongMove 106 = .ok (.iload_n 1, 1) := by decide +kernel
theorem dX10_wrongMove_107 : decode cX10_wrongMove 107 = .ok (.if_icmp .ne 8, 3) := by decide +kernel
theorem dX10_wrongMove_110 : decode cX10_wrongMove 110 = .ok (.bipush (-5), 2) := by decide +kernel
theorem dX10_wrongMove_112 : decode cX10_wrongMove 112 = .ok (.goto 4, 3) := by decide +kernel
theorem dX10_wrongMove_115 : decode cX10_wrongMove 115 = .ok (.iconst 0, 1) := by decide +kernel
theorem dX10_wrongMove_116 : decode cX10_wrongMove 116 = .ok (.ireturn, 1) := by decide +kernel
def fX10_wrongMove_73  (a0 : Nat) (a1 : Int32) (a2 : Int32) (s0 : Int32) (s1 : Int32) (h : hp_T) : Option (Int32 × hp_T) := if s0 = s1 then (some ((-3 : Int32), h)) else (fx_g (fx_in ((9 : Int32) + a1) 120) (if (h.1 (h.2.2 a0 20) (fx_ix ((9 : Int32) + a1))) = (1 : Int32) then (some ((-4 : Int32), h)) else (if a2 = (1 : Int32) then (if (h.1 (h.2.2 a0 20) (fx_ix (2 : Int32))) = a1 then (some ((-5 : Int32), h)) else (some ((0 : Int32), h))) else (some ((0 : Int32), h)))))
set_option maxRecDepth 100000 in
set_option maxHeartbeats 4000000 in
theorem bX10_wrongMove_73 {l : Launch} {G : xr_G} {K : xr_K} {r : Int32} {h1 : hp_T} (C : xr_C G K cX10_wrongMove RX10 4 (xr_R 1 21) (some .int) (some (xr_Qi G r h1)))  (a0 : Nat) (a1 : Int32) (a2 : Int32) (s0 : Int32) (s1 : Int32) (ta0 : hp_sh a0 = (10, 0)) (h : hp_T) (hF : fX10_wrongMove_73 a0 a1 a2 s0 s1 h = some (r, h1)) : xr_j l G K 4 h [(0, .ref (G.2.2.1 a0)), (1, .int a1), (2, .int a2)] 73 [.int s1, .int s0] := by
  unfold fX10_wrongMove_73 at hF
  refine xr_icmp_ne C 79 dX10_wrongMove_73 (by decide) (fun c73 => ?_) (fun c73 => ?_)
  · have hF := fx_neg hF c73
    refine xr_aload_n C 0 dX10_wrongMove_79 rfl rfl ?_
    refine xr_getr C flX10_36 rfl (by decide) dX10_wrongMove_80 ta0 (fun t80 => ?_)
    refine xr_bipush (v := 9) C dX10_wrongMove_83 (by decide) ?_
    refine xr_iload_n C 1 dX10_wrongMove_85 rfl rfl ?_
    refine xr_iadd C dX10_wrongMove_86 ?_
    obtain ⟨g87, hF⟩ := fx_gE hF
    refine xr_iald C dX10_wrongMove_87 t80 g87 ?_
    refine xr_iconst (v := 1) C dX10_wrongMove_88 (by decide) ?_
    refine xr_icmp_ne C 95 dX10_wrongMove_89 (by decide) (fun c89 => ?_) (fun c89 => ?_)
    · have hF := fx_neg hF c89
      refine xr_iload_n C 2 dX10_wrongMove_95 rfl rfl ?_
      refine xr_iconst (v := 1) C dX10_wrongMove_96 (by decide) ?_
      refine xr_icmp_ne C 115 dX10_wrongMove_97 (by decide) (fun c97 => ?_) (fun c97 => ?_)
      · have hF := fx_neg hF c97
        refine xr_iconst (v := 0) C dX10_wrongMove_115 (by decide) ?_
        cases hF
        exact xr_iret C dX10_wrongMove_116
      · have hF := fx_pos hF c97
        refine xr_aload_n C 0 dX10_wrongMove_100 rfl rfl ?_
        refine xr_getr C flX10_36 rfl (by decide) dX10_wrongMove_101 ta0 (fun t101 => ?_)
        refine xr_iconst (v := 2) C dX10_wrongMove_104 (by decide) ?_
        refine xr_iald C dX10_wrongMove_105 t101 (by decide) ?_
        refine xr_iload_n C 1 dX10_wrongMove_106 rfl rfl ?_
        refine xr_icmp_ne C 115 dX10_wrongMove_107 (by decide) (fun c107 => ?_) (fun c107 => ?_)
        · have hF := fx_neg hF c107
          refine xr_iconst (v := 0) C dX10_wrongMove_115 (by decide) ?_
          cases hF
          exact xr_iret C dX10_wrongMove_116
        · have hF := fx_pos hF c107
          refine xr_bipush (v := -5) C dX10_wrongMove_110 (by decide) ?_
          refine xr_goto C 116 dX10_wrongMove_112 (by decide) ?_
          cases hF
          exact xr_iret C dX10_wrongMove_116
    · have hF := fx_pos hF c89
      refine xr_bipush (v := -4) C dX10_wrongMove_92 (by decide) ?_
      cases hF
      exact xr_iret C dX10_wrongMove_94
  · have hF := fx_pos hF c73
    refine xr_bipush (v := -3) C dX10_wrongMove_76 (by decide) ?_
    cases hF
    exact xr_iret C dX10_wrongMove_78
def fX10_wrongMove_49  (a0 : Nat) (a1 : Int32) (a2 : Int32) (s0 : Int32) (h : hp_T) : Option (Int32 × hp_T) := fx_g (fx_in ((7 : Int32) + a1) 117) (if (h.1 (h.2.2 a0 3) (fx_ix ((7 : Int32) + a1))) = (-1 : Int32) then (some ((-3 : Int32), h)) else (if a2 ≤ 0 then (fX10_wrongMove_73 a0 a1 a2 s0 (0 : Int32) h) else (fX10_wrongMove_73 a0 a1 a2 s0 (1 : Int32) h)))
set_option maxRecDepth 100000 in
set_option maxHeartbeats 4000000 in
theorem bX10_wrongMove_49 {l : Launch} {G : xr_G} {K : xr_K} {r : Int32} {h1 : hp_T} (C : xr_C G K cX10_wrongMove RX10 4 (xr_R 1 21) (some .int) (some (xr_Qi G r h1)))  (a0 : Nat) (a1 : Int32) (a2 : Int32) (s0 : Int32) (ta0 : hp_sh a0 = (10, 0)) (h : hp_T) (hF : fX10_wrongMove_49 a0 a1 a2 s0 h = some (r, h1)) : xr_j l G K 4 h [(0, .ref (G.2.2.1 a0)), (1, .int a1), (2, .int a2)] 49 [.int s0] := by
  unfold fX10_wrongMove_49 at hF
  refine xr_istore_n C [(3, .int s0), (0, .ref (G.2.2.1 a0)), (1, .int a1), (2, .int a2)] dX10_wrongMove_49 rfl (Nat.le_of_ble_eq_true rfl) rfl ?_
  refine xr_aload_n C 1 dX10_wrongMove_50 rfl rfl ?_
  refine xr_getr C flX10_13 rfl (by decide) dX10_wrongMove_51 ta0 (fun t51 => ?_)
  refine xr_bipush (v := 7) C dX10_wrongMove_54 (by decide) ?_
  refine xr_iload_n C 2 dX10_wrongMove_56 rfl rfl ?_
  refine xr_iadd C dX10_wrongMove_57 ?_
  obtain ⟨g58, hF⟩ := fx_gE hF
  refine xr_iald C dX10_wrongMove_58 t51 g58 ?_
  refine xr_iconst (v := -1) C dX10_wrongMove_59 (by decide) ?_
  refine xr_icmp_eq C 76 dX10_wrongMove_60 (by decide) (fun c60 => ?_) (fun c60 => ?_)
  · have hF := fx_pos hF c60
    refine xr_bipush (v := -3) C dX10_wrongMove_76 (by decide) ?_
    cases hF
    exact xr_iret C dX10_wrongMove_78
  · have hF := fx_neg hF c60
    refine xr_iload_n C 0 dX10_wrongMove_63 rfl rfl ?_
    refine xr_iload_n C 3 dX10_wrongMove_64 rfl rfl ?_
    refine xr_if_le C 72 dX10_wrongMove_65 (by decide) (fun c65 => ?_) (fun c65 => ?_)
    · have hF := fx_pos hF c65
      refine xr_iconst (v := 0) C dX10_wrongMove_72 (by decide) ?_
      refine xr_sub [1, 2, 3] [(0, .ref (G.2.2.1 a0)), (1, .int a1), (2, .int a2)] rfl ?_
      exact bX10_wrongMove_73 C   a0 a1 a2 s0 (0 : Int32) ta0 h hF
    · have hF := fx_neg hF c65
      refine xr_iconst (v := 1) C dX10_wrongMove_68 (by decide) ?_
      refine xr_goto C 73 dX10_wrongMove_69 (by decide) ?_
      refine xr_sub [1, 2, 3] [(0, .ref (G.2.2.1 a0)), (1, .int a1), (2, .int a2)] rfl ?_
      exact bX10_wrongMove_73 C   a0 a1 a2 s0 (1 : Int32) ta0 h hF
def fX10_wrongMove_21  (a0 : Nat) (a1 : Int32) (a2 : Int32) (h : hp_T) : Option (Int32 × hp_T) := fx_b2 (fX10_isOver a0 h) fun (r22 : Int32) (h22 : hp_T) => if r22 = 0 then (fx_g (fx_in ((7 : Int32) + a1) 120) (if (h22.1 (h22.2.2 a0 20) (fx_ix ((7 : Int32) + a1))) = (-1 : Int32) then (fX10_wrongMove_49 a0 a1 a2 (0 : Int32) h22) else (fX10_wrongMove_49 a0 a1 a2 (1 : Int32) h22))) else (some ((-2 : Int32), h22))
set_option maxRecDepth 100000 in
set_option maxHeartbeats 4000000 in
theorem bX10_wrongMove_21 {l : Launch} {G : xr_G} {K : xr_K} {r : Int32} {h1 : hp_T} (C : xr_C G K cX10_wrongMove RX10 4 (xr_R 1 21) (some .int) (some (xr_Qi G r h1)))  (a0 : Nat) (a1 : Int32) (a2 : Int32) (ta0 : hp_sh a0 = (10, 0)) (h : hp_T) (hF : fX10_wrongMove_21 a0 a1 a2 h = some (r, h1)) : xr_j l G K 4 h [(0, .ref (G.2.2.1 a0)), (1, .int a1), (2, .int a2)] 21 [] := by
  unfold fX10_wrongMove_21 at hF
  refine xr_aload_n C 0 dX10_wrongMove_21 rfl rfl ?_
  obtain ⟨r22, h22, e22, hF⟩ := fx_b2E hF
  refine xr_callVi C mvX10_215 [] [] (mX10_isOver l G a0 ta0 h h22 r22 e22) ta0 (by decide) vc10 rfl ⟨rfl, rfl, (Nat.le_of_ble_eq_true rfl), (Nat.le_of_ble_eq_true rfl)⟩ rfl (Nat.le_of_ble_eq_true rfl) dX10_wrongMove_22 ?_
  refine xr_if_eq C 31 dX10_wrongMove_25 (by decide) (fun c25 => ?_) (fun c25 => ?_)
  · have hF := fx_pos hF c25
    refine xr_aload_n C 0 dX10_wrongMove_31 rfl rfl ?_
    refine xr_getr C flX10_36 rfl (by decide) dX10_wrongMove_32 ta0 (fun t32 => ?_)
    refine xr_bipush (v := 7) C dX10_wrongMove_35 (by decide) ?_
    refine xr_iload_n C 1 dX10_wrongMove_37 rfl rfl ?_
    refine xr_iadd C dX10_wrongMove_38 ?_
    obtain ⟨g39, hF⟩ := fx_gE hF
    refine xr_iald C dX10_wrongMove_39 t32 g39 ?_
    refine xr_iconst (v := -1) C dX10_wrongMove_40 (by decide) ?_
    refine xr_icmp_eq C 48 dX10_wrongMove_41 (by decide) (fun c41 => ?_) (fun c41 => ?_)
    · have hF := fx_pos hF c41
      refine xr_iconst (v := 0) C dX10_wrongMove_48 (by decide) ?_
      exact bX10_wrongMove_49 C   a0 a1 a2 (0 : Int32) ta0 h22 hF
    · have hF := fx_neg hF c41
      refine xr_iconst (v := 1) C dX10_wrongMove_44 (by decide) ?_
      refine xr_goto C 49 dX10_wrongMove_45 (by decide) ?_
      exact bX10_wrongMove_49 C   a0 a1 a2 (1 : Int32) ta0 h22 hF
  · have hF := fx_neg hF c25
    refine xr_bipush (v := -2) C dX10_wrongMove_28 (by decide) ?_
    cases hF
    exact xr_iret C dX10_wrongMove_30
def fX10_wrongMove (a0 : Nat) (a1 : Int32) (a2 : Int32) (h : hp_T) : Option (Int32 × hp_T) := fx_b2 (fX10_isSide a0 a1 h) fun (r2 : Int32) (h2 : hp_T) => if r2 = 0 then (some ((-1 : Int32), h2)) else (if a2 = 0 then (fX10_wrongMove_21 a0 a1 a2 h2) else (fx_b2 (fX10_isRear a2 h2) fun (r13 : Int32) (h13 : hp_T) => if r13 = 0 then (some ((-1 : Int32), h13)) else (fX10_wrongMove_21 a0 a1 a2 h13)))
set_option maxRecDepth 100000 in
set_option maxHeartbeats 4000000 in
theorem mX10_wrongMove (l : Launch) (G : xr_G) (a0 : Nat) (a1 : Int32) (a2 : Int32) (ta0 : hp_sh a0 = (10, 0)) (h h1 : hp_T) (r : Int32) (hF : fX10_wrongMove a0 a1 a2 h = some (r, h1)) : xr_M l G yX10_wrongMove cX10_wrongMove 4 (xr_R 1 21) (some .int) [.ref (G.2.2.1 a0), .int a1, .int a2] h (xr_Qi G r h1) := by
  refine xr_start rfl (Nat.le_of_ble_eq_true rfl) (fun K C => ?_)
  show xr_j l G K 4 h [(0, .ref (G.2.2.1 a0)), (1, .int a1), (2, .int a2)] 0 []
  unfold fX10_wrongMove at hF
  refine xr_aload_n C 0 dX10_wrongMove_0 rfl rfl ?_
  refine xr_iload_n C 1 dX10_wrongMove_1 rfl rfl ?_
  obtain ⟨r2, h2, e2, hF⟩ := fx_b2E hF
  refine xr_callVi C mvX10_180 [.int a1] [] (mX10_isSide l G a0 a1 ta0 h h2 r2 e2) ta0 (by decide) vc10 rfl ⟨rfl, rfl, (Nat.le_of_ble_eq_true rfl), (Nat.le_of_ble_eq_true rfl)⟩ rfl (Nat.le_of_ble_eq_true rfl) dX10_wrongMove_2 ?_
  refine xr_if_eq C 19 dX10_wrongMove_5 (by decide) (fun c5 => ?_) (fun c5 => ?_)
  · have hF := fx_pos hF c5
    refine xr_iconst (v := -1) C dX10_wrongMove_19 (by decide) ?_
    cases hF
    exact xr_iret C dX10_wrongMove_20
  · have hF := fx_neg hF c5
    refine xr_iload_n C 2 dX10_wrongMove_8 rfl rfl ?_
    refine xr_if_eq C 21 dX10_wrongMove_9 (by decide) (fun c9 => ?_) (fun c9 => ?_)
    · have hF := fx_pos hF c9
      exact bX10_wrongMove_21 C   a0 a1 a2 ta0 h2 hF
    · have hF := fx_neg hF c9
      refine xr_iload_n C 2 dX10_wrongMove_12 rfl rfl ?_
      obtain ⟨r13, h13, e13, hF⟩ := fx_b2E hF
      refine xr_callSi C mvX10_233 [.int a2] [] (mX10_isRear l G a2  h2 h13 r13 e13) rfl ⟨rfl, rfl, (Nat.le_of_ble_eq_true rfl), (Nat.le_of_ble_eq_true rfl)⟩ rfl (Nat.le_of_ble_eq_true rfl) dX10_wrongMove_13 ?_
      refine xr_if_ne C 21 dX10_wrongMove_16 (by decide) (fun c16 => ?_) (fun c16 => ?_)
      · have hF := fx_neg hF c16
        exact bX10_wrongMove_21 C   a0 a1 a2 ta0 h13 hF
      · have hF := fx_pos hF c16
        refine xr_iconst (v := -1) C dX10_wrongMove_19 (by decide) ?_
        cases hF
        exact xr_iret C dX10_wrongMove_20
theorem dX10_moves_0 : decode cX10_moves 0 = .ok (.aload_n 0, 1) := by decide +kernel
theorem dX10_moves_1 : decode cX10_moves 1 = .ok (.getfield 13, 3) := by decide +kernel
theorem dX10_moves_4 : decode cX10_moves 4 = .ok (.bipush 7, 2) := by decide +kernel
theorem dX10_moves_6 : decode cX10_moves 6 = .ok (.iload_n 1, 1) := by decide +kernel
theorem dX10_moves_7 : decode cX10_moves 7 = .ok (.iadd, 1) := by decide +kernel
theorem dX10_moves_8 : decode cX10_moves 8 = .ok (.iaload, 1) := by decide +kernel
theorem dX10_moves_9 : decode cX10_moves 9 = .ok (.istore_n 3, 1) := by decide +kernel
theorem dX10_moves_10 : decode cX10_moves 10 = .ok (.aload_n 0, 1) := by decide +kernel
theorem dX10_moves_11 : decode cX10_moves 11 = .ok (.getfield 36, 3) := by decide +kernel
theorem dX10_moves_14 : decode cX10_moves 14 = .ok (.bipush 7, 2) := by decide +kernel
theorem dX10_moves_16 : decode cX10_moves 16 = .ok (.iload_n 1, 1) := by decide +kernel
theorem dX10_moves_17 : decode cX10_moves 17 = .ok (.iadd, 1) := by decide +kernel
theorem dX10_moves_18 : decode cX10_moves 18 = .ok (.iaload, 1) := by decide +kernel
theorem dX10_moves_19 : decode cX10_moves 19 = .ok (.istore 4, 2) := by decide +kernel
theorem dX10_moves_21 : decode cX10_moves 21 = .ok (.iload_n 2, 1) := by decide +kernel
theorem dX10_moves_22 : decode cX10_moves 22 = .ok (.ifCond .ne 29, 3) := by decide +kernel
theorem dX10_moves_25 : decode cX10_moves 25 = .ok (.aload_n 0, 1) := by decide +kernel
theorem dX10_moves_26 : decode cX10_moves 26 = .ok (.iload_n 1, 1) := by decide +kernel
theorem dX10_moves_27 : decode cX10_moves 27 = .ok (.aload_n 0, 1) := by decide +kernel
theorem dX10_moves_28 : decode cX10_moves 28 = .ok (.iload_n 1, 1) := by decide +kernel
theorem dX10_moves_29 : decode cX10_moves 29 = .ok (.iload_n 3, 1) := by decide +kernel
theorem dX10_moves_30 : decode cX10_moves 30 = .ok (.invokevirtual 199, 3) := by decide +kernel
theorem dX10_moves_33 : decode cX10_moves 33 = .ok (.iload 4, 2) := by decide +kernel
theorem dX10_moves_35 : decode cX10_moves 35 = .ok (.invokevirtual 211, 3) := by decide +kernel
theorem dX10_moves_38 : decode cX10_moves 38 = .ok (.aload_n 0, 1) := by decide +kernel
theorem dX10_moves_39 : decode cX10_moves 39 = .ok (.getfield 36, 3) := by decide +kernel
theorem dX10_moves_42 : decode cX10_moves 42 = .ok (.bipush 7, 2) := by decide +kernel
theorem dX10_moves_44 : decode cX10_moves 44 = .ok (.iload_n 1, 1) := by decide +kernel
theorem dX10_moves_45 : decode cX10_moves 45 = .ok (.iadd, 1) := by decide +kernel
theorem dX10_moves_46 : decode cX10_moves 46 = .ok (.iconst (-1), 1) := by decide +kernel
theorem dX10_moves_47 : decode cX10_moves 47 = .ok (.iastore, 1) := by decide +kernel
theorem dX10_moves_48 : decode cX10_moves 48 = .ok (.goto 29, 3) := by decide +kernel
theorem dX10_moves_51 : decode cX10_moves 51 = .ok (.aload_n 0, 1) := by decide +kernel
theorem dX10_moves_52 : decode cX10_moves 52 = .ok (.iload_n 1, 1) := by decide +kernel
theorem dX10_moves_53 : decode cX10_moves 53 = .ok (.iload_n 2, 1) := by decide +kernel
theorem dX10_moves_54 : decode cX10_moves 54 = .ok (.invokevirtual 183, 3) := by decide +kernel
theorem dX10_moves_57 : decode cX10_moves 57 = .ok (.istore 4, 2) := by decide +kernel
theorem dX10_moves_59 : decode cX10_moves 59 = .ok (.aload_n 0, 1) := by decide +kernel
theorem dX10_moves_60 : decode cX10_moves 60 = .ok (.iload_n 1, 1) := by decide +kernel
theorem dX10_moves_61 : decode cX10_moves 61 = .ok (.iload_n 2, 1) := by decide +kernel
theorem dX10_moves_62 : decode cX10_moves 62 = .ok (.iload_n 3, 1) := by decide +kernel
theorem dX10_moves_63 : decode cX10_moves 63 = .ok (.invokevirtual 211, 3) := by decide +kernel
theorem dX10_moves_66 : decode cX10_moves 66 = .ok (.aload_n 0, 1) := by decide +kernel
theorem dX10_moves_67 : decode cX10_moves 67 = .ok (.getfield 36, 3) := by decide +kernel
theorem dX10_moves_70 : decode cX10_moves 70 = .ok (.bipush 7, 2) := by decide +kernel
theorem dX10_moves_72 : decode cX10_moves 72 = .ok (.iload_n 1, 1) := by decide +kernel
theorem dX10_moves_73 : decode cX10_moves 73 = .ok (.iadd, 1) := by decide +kernel
theorem dX10_moves_74 : decode cX10_moves 74 = .ok (.iload 4, 2) := by decide +kernel
theorem dX10_moves_76 : decode cX10_moves 76 = .ok (.iastore, 1) := by decide +kernel
theorem dX10_moves_77 : decode cX10_moves 77 = .ok (.aload_n 0, 1) := by decide +kernel
theorem dX10_moves_78 : decode cX10_moves 78 = .ok (.getfield 36, 3) := by decide +kernel
theorem dX10_moves_81 : decode cX10_moves 81 = .ok (.bipush 9, 2) := by decide +kernel
theorem dX10_moves_83 : decode cX10_moves 83 = .ok (.iload_n 1, 1) := by decide +kernel
theorem dX10_moves_84 : decode cX10_moves 84 = .ok (.iadd, 1) := by decide +kernel
theorem dX10_moves_85 : decode cX10_moves 85 = .ok (.iconst 1, 1) := by decide +kernel
theorem dX10_moves_86 : decode cX10_moves 86 = .ok (.iastore, 1) := by decide +kernel
theorem dX10_moves_87 : decode cX10_moves 87 = .ok (.iload 4, 2) := by decide +kernel
theorem dX10_moves_89 : decode cX10_moves 89 = .ok (.ireturn, 1) := by decide +kernel
def fX10_moves_77  (a0 : Nat) (a1 : Int32) (a4 : Int32) (h : hp_T) : Option (Int32 × hp_T) := fx_g (fx_in ((9 : Int32) + a1) 120) (fx_let (hp_sI h (h.2.2 a0 20) (fx_ix ((9 : Int32) + a1)) (1 : Int32)) fun (h86 : hp_T) => some (a4, h86))
set_option maxRecDepth 100000 in
set_option maxHeartbeats 4000000 in
theorem bX10_moves_77 {l : Launch} {G : xr_G} {K : xr_K} {r : Int32} {h1 : hp_T} (C : xr_C G K cX10_moves RX10 5 (xr_R 3 67) (some .int) (some (xr_Qi G r h1)))  (a0 : Nat) (a1 : Int32) (a4 : Int32) (ta0 : hp_sh a0 = (10, 0)) (h : hp_T) (hF : fX10_moves_77 a0 a1 a4 h = some (r, h1)) : xr_j l G K 5 h [(0, .ref (G.2.2.1 a0)), (1, .int a1), (4, .int a4)] 77 [] := by
  unfold fX10_moves_77 at hF
  refine xr_aload_n C 0 dX10_moves_77 rfl rfl ?_
  refine xr_getr C flX10_36 rfl (by decide) dX10_moves_78 ta0 (fun t78 => ?_)
  refine xr_bipush (v := 9) C dX10_moves_81 (by decide) ?_
  refine xr_iload_n C 1 dX10_moves_83 rfl rfl ?_
  refine xr_iadd C dX10_moves_84 ?_
  refine xr_iconst (v := 1) C dX10_moves_85 (by decide) ?_
  obtain ⟨g86, hF⟩ := fx_gE hF
  refine xr_iast C dX10_moves_86 t78 g86 (fun h86 e86 => ?_)
  have hF := fx_letE hF h86 e86
  refine xr_iload C 2 dX10_moves_87 rfl ?_
  cases hF
  exact xr_iret C dX10_moves_89
def fX10_moves (a0 : Nat) (a1 : Int32) (a2 : Int32) (h : hp_T) : Option (Int32 × hp_T) := fx_g (fx_in ((7 : Int32) + a1) 117) (fx_let (h.1 (h.2.2 a0 3) (fx_ix ((7 : Int32) + a1))) fun (x9 : Int32) => fx_g (fx_in ((7 : Int32) + a1) 120) (fx_let (h.1 (h.2.2 a0 20) (fx_ix ((7 : Int32) + a1))) fun (x19 : Int32) => if a2 = 0 then (fx_b2 (fX10_spotOf a0 a1 x9 h) fun (r30 : Int32) (h30 : hp_T) => fx_b1 (fX10_puts a0 a1 r30 x19 h30) fun (h35 : hp_T) => fx_g (fx_in ((7 : Int32) + a1) 120) (fx_let (hp_sI h35 (h35.2.2 a0 20) (fx_ix ((7 : Int32) + a1)) (-1 : Int32)) fun (h47 : hp_T) => fX10_moves_77 a0 a1 x19 h47)) else (fx_b2 (fX10_court a0 a1 a2 h) fun (r54 : Int32) (h54 : hp_T) => fx_b1 (fX10_puts a0 a1 a2 x9 h54) fun (h63 : hp_T) => fx_g (fx_in ((7 : Int32) + a1) 120) (fx_let (hp_sI h63 (h63.2.2 a0 20) (fx_ix ((7 : Int32) + a1)) r54) fun (h76 : hp_T) => fX10_moves_77 a0 a1 r54 h76))))
set_option maxRecDepth 100000 in
set_option maxHeartbeats 4000000 in
theorem mX10_moves (l : Launch) (G : xr_G) (a0 : Nat) (a1 : Int32) (a2 : Int32) (ta0 : hp_sh a0 = (10, 0)) (h h1 : hp_T) (r : Int32) (hF : fX10_moves a0 a1 a2 h = some (r, h1)) : xr_M l G yX10_moves cX10_moves 5 (xr_R 3 67) (some .int) [.ref (G.2.2.1 a0), .int a1, .int a2] h (xr_Qi G r h1) := by
  refine xr_start rfl (Nat.le_of_ble_eq_true rfl) (fun K C => ?_)
  show xr_j l G K 5 h [(0, .ref (G.2.2.1 a0)), (1, .int a1), (2, .int a2)] 0 []
  unfold fX10_moves at hF
  refine xr_aload_n C 0 dX10_moves_0 rfl rfl ?_
  refine xr_getr C flX10_13 rfl (by decide) dX10_moves_1 ta0 (fun t1 => ?_)
  refine xr_bipush (v := 7) C dX10_moves_4 (by decide) ?_
  refine xr_iload_n C 1 dX10_moves_6 rfl rfl ?_
  refine xr_iadd C dX10_moves_7 ?_
  obtain ⟨g8, hF⟩ := fx_gE hF
  refine xr_iald C dX10_moves_8 t1 g8 ?_
  refine xr_topi (fun x9 e9 => ?_)
  have hF := fx_letE hF x9 e9
  refine xr_istore_n C [(3, .int x9), (0, .ref (G.2.2.1 a0)), (1, .int a1), (2, .int a2)] dX10_moves_9 rfl (Nat.le_of_ble_eq_true rfl) rfl ?_
  refine xr_aload_n C 1 dX10_moves_10 rfl rfl ?_
  refine xr_getr C flX10_36 rfl (by decide) dX10_moves_11 ta0 (fun t11 => ?_)
  refine xr_bipush (v := 7) C dX10_moves_14 (by decide) ?_
  refine xr_iload_n C 2 dX10_moves_16 rfl rfl ?_
  refine xr_iadd C dX10_moves_17 ?_
  obtain ⟨g18, hF⟩ := fx_gE hF
  refine xr_iald C dX10_moves_18 t11 g18 ?_
  refine xr_topi (fun x19 e19 => ?_)
  have hF := fx_letE hF x19 e19
  refine xr_istore C [(4, .int x19), (3, .int x9), (0, .ref (G.2.2.1 a0)), (1, .int a1), (2, .int a2)] dX10_moves_19 (Nat.le_of_ble_eq_true rfl) rfl ?_
  refine xr_iload_n C 4 dX10_moves_21 rfl rfl ?_
  refine xr_if_ne C 51 dX10_moves_22 (by decide) (fun c22 => ?_) (fun c22 => ?_)
  · have hF := fx_neg hF c22
    refine xr_aload_n C 2 dX10_moves_51 rfl rfl ?_
    refine xr_iload_n C 3 dX10_moves_52 rfl rfl ?_
    refine xr_iload_n C 4 dX10_moves_53 rfl rfl ?_
    obtain ⟨r54, h54, e54, hF⟩ := fx_b2E hF
    refine xr_callVi C mvX10_183 [.int a1, .int a2] [] (mX10_court l G a0 a1 a2 ta0 h h54 r54 e54) ta0 (by decide) vc10 rfl ⟨rfl, rfl, (Nat.le_of_ble_eq_true rfl), (Nat.le_of_ble_eq_true rfl)⟩ rfl (Nat.le_of_ble_eq_true rfl) dX10_moves_54 ?_
    refine xr_istore C [(4, .int r54), (3, .int x9), (0, .ref (G.2.2.1 a0)), (1, .int a1), (2, .int a2)] dX10_moves_57 (Nat.le_of_ble_eq_true rfl) rfl ?_
    refine xr_aload_n C 2 dX10_moves_59 rfl rfl ?_
    refine xr_iload_n C 3 dX10_moves_60 rfl rfl ?_
    refine xr_iload_n C 4 dX10_moves_61 rfl rfl ?_
    refine xr_iload_n C 1 dX10_moves_62 rfl rfl ?_
    obtain ⟨h63, e63, hF⟩ := fx_b1E hF
    refine xr_callVv C mvX10_211 [.int a1, .int a2, .int x9] [] (mX10_puts l G a0 a1 a2 x9 ta0 h54 h63 e63) ta0 (by decide) vc10 rfl ⟨rfl, rfl, (Nat.le_of_ble_eq_true rfl), (Nat.le_of_ble_eq_true rfl)⟩ rfl (Nat.le_of_ble_eq_true rfl) dX10_moves_63 ?_
    refine xr_aload_n C 2 dX10_moves_66 rfl rfl ?_
    refine xr_getr C flX10_36 rfl (by decide) dX10_moves_67 ta0 (fun t67 => ?_)
    refine xr_bipush (v := 7) C dX10_moves_70 (by decide) ?_
    refine xr_iload_n C 3 dX10_moves_72 rfl rfl ?_
    refine xr_iadd C dX10_moves_73 ?_
    refine xr_iload C 0 dX10_moves_74 rfl ?_
    obtain ⟨g76, hF⟩ := fx_gE hF
    refine xr_iast C dX10_moves_76 t67 g76 (fun h76 e76 => ?_)
    have hF := fx_letE hF h76 e76
    refine xr_sub [2, 3, 0] [(0, .ref (G.2.2.1 a0)), (1, .int a1), (4, .int r54)] rfl ?_
    exact bX10_moves_77 C   a0 a1 r54 ta0 h76 hF
  · have hF := fx_pos hF c22
    refine xr_aload_n C 2 dX10_moves_25 rfl rfl ?_
    refine xr_iload_n C 3 dX10_moves_26 rfl rfl ?_
    refine xr_aload_n C 2 dX10_moves_27 rfl rfl ?_
    refine xr_iload_n C 3 dX10_moves_28 rfl rfl ?_
    refine xr_iload_n C 1 dX10_moves_29 rfl rfl ?_
    obtain ⟨r30, h30, e30, hF⟩ := fx_b2E hF
    refine xr_callVi C mvX10_199 [.int a1, .int x9] [.int a1, .ref (G.2.2.1 a0)] (mX10_spotOf l G a0 a1 x9 ta0 h h30 r30 e30) ta0 (by decide) vc10 rfl ⟨rfl, rfl, (Nat.le_of_ble_eq_true rfl), (Nat.le_of_ble_eq_true rfl)⟩ rfl (Nat.le_of_ble_eq_true rfl) dX10_moves_30 ?_
    refine xr_iload C 0 dX10_moves_33 rfl ?_
    obtain ⟨h35, e35, hF⟩ := fx_b1E hF
    refine xr_callVv C mvX10_211 [.int a1, .int r30, .int x19] [] (mX10_puts l G a0 a1 r30 x19 ta0 h30 h35 e35) ta0 (by decide) vc10 rfl ⟨rfl, rfl, (Nat.le_of_ble_eq_true rfl), (Nat.le_of_ble_eq_true rfl)⟩ rfl (Nat.le_of_ble_eq_true rfl) dX10_moves_35 ?_
    refine xr_aload_n C 2 dX10_moves_38 rfl rfl ?_
    refine xr_getr C flX10_36 rfl (by decide) dX10_moves_39 ta0 (fun t39 => ?_)
    refine xr_bipush (v := 7) C dX10_moves_42 (by decide) ?_
    refine xr_iload_n C 3 dX10_moves_44 rfl rfl ?_
    refine xr_iadd C dX10_moves_45 ?_
    refine xr_iconst (v := -1) C dX10_moves_46 (by decide) ?_
    obtain ⟨g47, hF⟩ := fx_gE hF
    refine xr_iast C dX10_moves_47 t39 g47 (fun h47 e47 => ?_)
    have hF := fx_letE hF h47 e47
    refine xr_goto C 77 dX10_moves_48 (by decide) ?_
    refine xr_sub [2, 3, 0] [(0, .ref (G.2.2.1 a0)), (1, .int a1), (4, .int x19)] rfl ?_
    exact bX10_moves_77 C   a0 a1 x19 ta0 h47 hF
theorem dX10_move_0 : decode cX10_move 0 = .ok (.aload_n 0, 1) := by decide +kernel
theorem dX10_move_1 : decode cX10_move 1 = .ok (.iconst 0, 1) := by decide +kernel
theorem dX10_move_2 : decode cX10_move 2 = .ok (.putfield 63, 3) := by decide +kernel
theorem dX10_move_5 : decode cX10_move 5 = .ok (.aload_n 0, 1) := by decide +kernel
theorem dX10_move_6 : decode cX10_move 6 = .ok (.iload_n 1, 1) := by decide +kernel
theorem dX10_move_7 : decode cX10_move 7 = .ok (.iload_n 2, 1) := by decide +kernel
theorem dX10_move_8 : decode cX10_move 8 = .ok (.invokevirtual 236, 3) := by decide +kernel
theorem dX10_move_11 : decode cX10_move 11 = .ok (.istore_n 3, 1) := by decide +kernel
theorem dX10_move_12 : decode cX10_move 12 = .ok (.iload_n 3, 1) := by decide +kernel
theorem dX10_move_13 : decode cX10_move 13 = .ok (.ifCond .eq 5, 3) := by decide +kernel
theorem dX10_move_16 : decode cX10_move 16 = .ok (.iload_n 3, 1) := by decide +kernel
theorem dX10_move_17 : decode cX10_move 17 = .ok (.ireturn, 1) := by decide +kernel
theorem dX10_move_18 : decode cX10_move 18 = .ok (.aload_n 0, 1) := by decide +kernel
theorem dX10_move_19 : decode cX10_move 19 = .ok (.invokevirtual 218, 3) := by decide +kernel
theorem dX10_move_22 : decode cX10_move 22 = .ok (.aload_n 0, 1) := by decide +kernel
theorem dX10_move_23 : decode cX10_move 23 = .ok (.iload_n 1, 1) := by decide +kernel
theorem dX10_move_24 : decode cX10_move 24 = .ok (.iload_n 2, 1) := by decide +kernel
theorem dX10_move_25 : decode cX10_move 25 = .ok (.invokevirtual 239, 3) := by decide +kernel
theorem dX10_move_28 : decode cX10_move 28 = .ok (.ireturn, 1) := by decide +kernel
def fX10_move (a0 : Nat) (a1 : Int32) (a2 : Int32) (h : hp_T) : Option (Int32 × hp_T) := fx_let (hp_sI h a0 0 (0 : Int32)) fun (h2 : hp_T) => fx_b2 (fX10_wrongMove a0 a1 a2 h2) fun (r8 : Int32) (h8 : hp_T) => if r8 = 0 then (fx_b1 (fX10_keeps a0 h8) fun (h19 : hp_T) => fx_b2 (fX10_moves a0 a1 a2 h19) fun (r25 : Int32) (h25 : hp_T) => some (r25, h25)) else (some (r8, h8))
set_option maxRecDepth 100000 in
set_option maxHeartbeats 4000000 in
theorem mX10_move (l : Launch) (G : xr_G) (a0 : Nat) (a1 : Int32) (a2 : Int32) (ta0 : hp_sh a0 = (10, 0)) (h h1 : hp_T) (r : Int32) (hF : fX10_move a0 a1 a2 h = some (r, h1)) : xr_M l G yX10_move cX10_move 4 (xr_R 4 91) (some .int) [.ref (G.2.2.1 a0), .int a1, .int a2] h (xr_Qi G r h1) := by
  refine xr_start rfl (Nat.le_of_ble_eq_true rfl) (fun K C => ?_)
  show xr_j l G K 4 h [(0, .ref (G.2.2.1 a0)), (1, .int a1), (2, .int a2)] 0 []
  unfold fX10_move at hF
  refine xr_aload_n C 0 dX10_move_0 rfl rfl ?_
  refine xr_iconst (v := 0) C dX10_move_1 (by decide) ?_
  refine xr_puti C fpX10_63 rfl rfl rfl dX10_move_2 ta0 (fun h2 e2 => ?_)
  have hF := fx_letE hF h2 e2
  refine xr_aload_n C 0 dX10_move_5 rfl rfl ?_
  refine xr_iload_n C 1 dX10_move_6 rfl rfl ?_
  refine xr_iload_n C 2 dX10_move_7 rfl rfl ?_
  obtain ⟨r8, h8, e8, hF⟩ := fx_b2E hF
  refine xr_callVi C mvX10_236 [.int a1, .int a2] [] (mX10_wrongMove l G a0 a1 a2 ta0 h2 h8 r8 e8) ta0 (by decide) vc10 rfl ⟨rfl, rfl, (Nat.le_of_ble_eq_true rfl), (Nat.le_of_ble_eq_true rfl)⟩ rfl (Nat.le_of_ble_eq_true rfl) dX10_move_8 ?_
  refine xr_istore_n C [(3, .int r8), (0, .ref (G.2.2.1 a0)), (1, .int a1), (2, .int a2)] dX10_move_11 rfl (Nat.le_of_ble_eq_true rfl) rfl ?_
  refine xr_iload_n C 0 dX10_move_12 rfl rfl ?_
  refine xr_if_eq C 18 dX10_move_13 (by decide) (fun c13 => ?_) (fun c13 => ?_)
  · have hF := fx_pos hF c13
    refine xr_aload_n C 1 dX10_move_18 rfl rfl ?_
    obtain ⟨h19, e19, hF⟩ := fx_b1E hF
    refine xr_callVv C mvX10_218 [] [] (mX10_keeps l G a0 ta0 h8 h19 e19) ta0 (by decide) vc10 rfl ⟨rfl, rfl, (Nat.le_of_ble_eq_true rfl), (Nat.le_of_ble_eq_true rfl)⟩ rfl (Nat.le_of_ble_eq_true rfl) dX10_move_19 ?_
    refine xr_aload_n C 1 dX10_move_22 rfl rfl ?_
    refine xr_iload_n C 2 dX10_move_23 rfl rfl ?_
    refine xr_iload_n C 3 dX10_move_24 rfl rfl ?_
    obtain ⟨r25, h25, e25, hF⟩ := fx_b2E hF
    refine xr_callVi C mvX10_239 [.int a1, .int a2] [] (mX10_moves l G a0 a1 a2 ta0 h19 h25 r25 e25) ta0 (by decide) vc10 rfl ⟨rfl, rfl, (Nat.le_of_ble_eq_true rfl), (Nat.le_of_ble_eq_true rfl)⟩ rfl (Nat.le_of_ble_eq_true rfl) dX10_move_25 ?_
    cases hF
    exact xr_iret C dX10_move_28
  · have hF := fx_neg hF c13
    refine xr_iload_n C 0 dX10_move_16 rfl rfl ?_
    cases hF
    exact xr_iret C dX10_move_17
theorem dX10_stand_0 : decode cX10_stand 0 = .ok (.aload_n 0, 1) := by decide +kernel
theorem dX10_stand_1 : decode cX10_stand 1 = .ok (.iconst 0, 1) := by decide +kernel
theorem dX10_stand_2 : decode cX10_stand 2 = .ok (.putfield 63, 3) := by decide +kernel
theorem dX10_stand_5 : decode cX10_stand 5 = .ok (.aload_n 0, 1) := by decide +kernel
theorem dX10_stand_6 : decode cX10_stand 6 = .ok (.iload_n 1, 1) := by decide +kernel
theorem dX10_stand_7 : decode cX10_stand 7 = .ok (.invokevirtual 180, 3) := by decide +kernel
theorem dX10_stand_10 : decode cX10_stand 10 = .ok (.ifCond .eq 32, 3) := by decide +kernel
theorem dX10_stand_13 : decode cX10_stand 13 = .ok (.iload_n 2, 1) := by decide +kernel
theorem dX10_stand_14 : decode cX10_stand 14 = .ok (.invokestatic 205, 3) := by decide +kernel
theorem dX10_stand_17 : decode cX10_stand 17 = .ok (.ifCond .eq 25, 3) := by decide +kernel
theorem dX10_stand_20 : decode cX10_stand 20 = .ok (.iload_n 3, 1) := by decide +kernel
theorem dX10_stand_21 : decode cX10_stand 21 = .ok (.ifCond .lt 21, 3) := by decide +kernel
theorem dX10_stand_24 : decode cX10_stand 24 = .ok (.iload_n 3, 1) := by decide +kernel
theorem dX10_stand_25 : decode cX10_stand 25 = .ok (.bipush 90, 2) := by decide +kernel
theorem dX10_stand_27 : decode cX10_stand 27 = .ok (.if_icmp .gt 15, 3) := by decide +kernel
theorem dX10_stand_30 : decode cX10_stand 30 = .ok (.iload 4, 2) := by decide +kernel
theorem dX10_stand_32 : decode cX10_stand 32 = .ok (.ifCond .lt 10, 3) := by decide +kernel
theorem dX10_stand_35 : decode cX10_stand 35 = .ok (.iload 4, 2) := by decide +kernel
theorem dX10_stand_37 : decode cX10_stand 37 = .ok (.bipush 90, 2) := by decide +kernel
theorem dX10_stand_39 : decode cX10_stand 39 = .ok (.if_icmp .le 5, 3) := by decide +kernel
theorem dX10_stand_42 : decode cX10_stand 42 = .ok (.iconst 0, 1) := by decide +kernel
theorem dX10_stand_43 : decode cX10_stand 43 = .ok (.ireturn, 1) := by decide +kernel
theorem dX10_stand_44 : decode cX10_stand 44 = .ok (.aload_n 0, 1) := by decide +kernel
theorem dX10_stand_45 : decode cX10_stand 45 = .ok (.invokevirtual 218, 3) := by decide +kernel
theorem dX10_stand_48 : decode cX10_stand 48 = .ok (.bipush 71, 2) := by decide +kernel
theorem dX10_stand_50 : decode cX10_stand 50 = .ok (.iconst 2, 1) := by decide +kernel
theorem dX10_stand_51 : decode cX10_stand 51 = .ok (.iload_n 1, 1) := by decide +kernel
theorem dX10_stand_52 : decode cX10_stand 52 = .ok (.iload_n 2, 1) := by decide +kernel
theorem dX10_stand_53 : decode cX10_stand 53 = .ok (.iconst 1, 1) := by decide +kernel
theorem dX10_stand_54 : decode cX10_stand 54 = .ok (.isub, 1) := by decide +kernel
theorem dX10_stand_55 : decode cX10_stand 55 = .ok (.bipush 6, 2) := by decide +kernel
theorem dX10_stand_57 : decode cX10_stand 57 = .ok (.invokestatic 167, 3) := by decide +kernel
theorem dX10_stand_60 : decode cX10_stand 60 = .ok (.imul, 1) := by decide +kernel
theorem dX10_stand_61 : decode cX10_stand 61 = .ok (.iadd, 1) := by decide +kernel
theorem dX10_stand_62 : decode cX10_stand 62 = .ok (.istore 5, 2) := by decide +kernel
theorem dX10_stand_64 : decode cX10_stand 64 = .ok (.aload_n 0, 1) := by decide +kernel
theorem dX10_stand_65 : decode cX10_stand 65 = .ok (.getfield 36, 3) := by decide +kernel
theorem dX10_stand_68 : decode cX10_stand 68 = .ok (.iload 5, 2) := by decide +kernel
theorem dX10_stand_70 : decode cX10_stand 70 = .ok (.iload_n 3, 1) := by decide +kernel
theorem dX10_stand_71 : decode cX10_stand 71 = .ok (.iastore, 1) := by decide +kernel
theorem dX10_stand_72 : decode cX10_stand 72 = .ok (.aload_n 0, 1) := by decide +kernel
theorem dX10_stand_73 : decode cX10_stand 73 = .ok (.getfield 36, 3) := by decide +kernel
theorem dX10_stand_76 : decode cX10_stand 76 = .ok (.iload 5, 2) := by decide +kernel
theorem dX10_stand_78 : decode cX10_stand 78 = .ok (.iconst 1, 1) := by decide +kernel
theorem dX10_stand_79 : decode cX10_stand 79 = .ok (.iadd, 1) := by decide +kernel
theorem dX10_stand_80 : decode cX10_stand 80 = .ok (.iload 4, 2) := by decide +kernel
theorem dX10_stand_82 : decode cX10_stand 82 = .ok (.iastore, 1) := by decide +kernel
theorem dX10_stand_83 : decode cX10_stand 83 = .ok (.iconst 1, 1) := by decide +kernel
theorem dX10_stand_84 : decode cX10_stand 84 = .ok (.ireturn, 1) := by decide +kernel
def fX10_stand (a0 : Nat) (a1 : Int32) (a2 : Int32) (a3 : Int32) (a4 : Int32) (h : hp_T) : Option (Int32 × hp_T) := fx_let (hp_sI h a0 0 (0 : Int32)) fun (h2 : hp_T) => fx_b2 (fX10_isSide a0 a1 h2) fun (r7 : Int32) (h7 : hp_T) => if r7 = 0 then (some ((0 : Int32), h7)) else (fx_b2 (fX10_isSpot a2 h7) fun (r14 : Int32) (h14 : hp_T) => if r14 = 0 then (some ((0 : Int32), h14)) else (if a3 < 0 then (some ((0 : Int32), h14)) else (if (90 : Int32) < a3 then (some ((0 : Int32), h14)) else (if a4 < 0 then (some ((0 : Int32), h14)) else (if a4 ≤ (90 : Int32) then (fx_b1 (fX10_keeps a0 h14) fun (h45 : hp_T) => fx_b2 (fX10_two a1 (a2 - (1 : Int32)) (6 : Int32) h45) fun (r57 : Int32) (h57 : hp_T) => fx_let ((71 : Int32) + ((2 : Int32) * r57)) fun (x62 : Int32) => fx_g (fx_in x62 120) (fx_let (hp_sI h57 (h57.2.2 a0 20) (fx_ix x62) a3) fun (h71 : hp_T) => fx_g (fx_in (x62 + (1 : Int32)) 120) (fx_let (hp_sI h71 (h71.2.2 a0 20) (fx_ix (x62 + (1 : Int32))) a4) fun (h82 : hp_T) => some ((1 : Int32), h82)))) else (some ((0 : Int32), h14)))))))
set_option maxRecDepth 100000 in
set_option maxHeartbeats 4000000 in
theorem mX10_stand (l : Launch) (G : xr_G) (a0 : Nat) (a1 : Int32) (a2 : Int32) (a3 : Int32) (a4 : Int32) (ta0 : hp_sh a0 = (10, 0)) (h h1 : hp_T) (r : Int32) (hF : fX10_stand a0 a1 a2 a3 a4 h = some (r, h1)) : xr_M l G yX10_stand cX10_stand 6 (xr_R 1 22) (some .boolean) [.ref (G.2.2.1 a0), .int a1, .int a2, .int a3, .int a4] h (xr_Qi G r h1) := by
  refine xr_start rfl (Nat.le_of_ble_eq_true rfl) (fun K C => ?_)
  show xr_j l G K 6 h [(0, .ref (G.2.2.1 a0)), (1, .int a1), (2, .int a2), (3, .int a3), (4, .int a4)] 0 []
  unfold fX10_stand at hF
  refine xr_aload_n C 0 dX10_stand_0 rfl rfl ?_
  refine xr_iconst (v := 0) C dX10_stand_1 (by decide) ?_
  refine xr_puti C fpX10_63 rfl rfl rfl dX10_stand_2 ta0 (fun h2 e2 => ?_)
  have hF := fx_letE hF h2 e2
  refine xr_aload_n C 0 dX10_stand_5 rfl rfl ?_
  refine xr_iload_n C 1 dX10_stand_6 rfl rfl ?_
  obtain ⟨r7, h7, e7, hF⟩ := fx_b2E hF
  refine xr_callVi C mvX10_180 [.int a1] [] (mX10_isSide l G a0 a1 ta0 h2 h7 r7 e7) ta0 (by decide) vc10 rfl ⟨rfl, rfl, (Nat.le_of_ble_eq_true rfl), (Nat.le_of_ble_eq_true rfl)⟩ rfl (Nat.le_of_ble_eq_true rfl) dX10_stand_7 ?_
  refine xr_if_eq C 42 dX10_stand_10 (by decide) (fun c10 => ?_) (fun c10 => ?_)
  · have hF := fx_pos hF c10
    refine xr_iconst (v := 0) C dX10_stand_42 (by decide) ?_
    cases hF
    exact xr_zret C rfl dX10_stand_43
  · have hF := fx_neg hF c10
    refine xr_iload_n C 2 dX10_stand_13 rfl rfl ?_
    obtain ⟨r14, h14, e14, hF⟩ := fx_b2E hF
    refine xr_callSi C mvX10_205 [.int a2] [] (mX10_isSpot l G a2  h7 h14 r14 e14) rfl ⟨rfl, rfl, (Nat.le_of_ble_eq_true rfl), (Nat.le_of_ble_eq_true rfl)⟩ rfl (Nat.le_of_ble_eq_true rfl) dX10_stand_14 ?_
    refine xr_if_eq C 42 dX10_stand_17 (by decide) (fun c17 => ?_) (fun c17 => ?_)
    · have hF := fx_pos hF c17
      refine xr_iconst (v := 0) C dX10_stand_42 (by decide) ?_
      cases hF
      exact xr_zret C rfl dX10_stand_43
    · have hF := fx_neg hF c17
      refine xr_iload_n C 3 dX10_stand_20 rfl rfl ?_
      refine xr_if_lt C 42 dX10_stand_21 (by decide) (fun c21 => ?_) (fun c21 => ?_)
      · have hF := fx_pos hF c21
        refine xr_iconst (v := 0) C dX10_stand_42 (by decide) ?_
        cases hF
        exact xr_zret C rfl dX10_stand_43
      · have hF := fx_neg hF c21
        refine xr_iload_n C 3 dX10_stand_24 rfl rfl ?_
        refine xr_bipush (v := 90) C dX10_stand_25 (by decide) ?_
        refine xr_icmp_gt C 42 dX10_stand_27 (by decide) (fun c27 => ?_) (fun c27 => ?_)
        · have hF := fx_pos hF c27
          refine xr_iconst (v := 0) C dX10_stand_42 (by decide) ?_
          cases hF
          exact xr_zret C rfl dX10_stand_43
        · have hF := fx_neg hF c27
          refine xr_iload C 4 dX10_stand_30 rfl ?_
          refine xr_if_lt C 42 dX10_stand_32 (by decide) (fun c32 => ?_) (fun c32 => ?_)
          · have hF := fx_pos hF c32
            refine xr_iconst (v := 0) C dX10_stand_42 (by decide) ?_
            cases hF
            exact xr_zret C rfl dX10_stand_43
          · have hF := fx_neg hF c32
            refine xr_iload C 4 dX10_stand_35 rfl ?_
            refine xr_bipush (v := 90) C dX10_stand_37 (by decide) ?_
            refine xr_icmp_le C 44 dX10_stand_39 (by decide) (fun c39 => ?_) (fun c39 => ?_)
            · have hF := fx_pos hF c39
              refine xr_aload_n C 0 dX10_stand_44 rfl rfl ?_
              obtain ⟨h45, e45, hF⟩ := fx_b1E hF
              refine xr_callVv C mvX10_218 [] [] (mX10_keeps l G a0 ta0 h14 h45 e45) ta0 (by decide) vc10 rfl ⟨rfl, rfl, (Nat.le_of_ble_eq_true rfl), (Nat.le_of_ble_eq_true rfl)⟩ rfl (Nat.le_of_ble_eq_true rfl) dX10_stand_45 ?_
              refine xr_bipush (v := 71) C dX10_stand_48 (by decide) ?_
              refine xr_iconst (v := 2) C dX10_stand_50 (by decide) ?_
              refine xr_iload_n C 1 dX10_stand_51 rfl rfl ?_
              refine xr_iload_n C 2 dX10_stand_52 rfl rfl ?_
              refine xr_iconst (v := 1) C dX10_stand_53 (by decide) ?_
              refine xr_isub C dX10_stand_54 ?_
              refine xr_bipush (v := 6) C dX10_stand_55 (by decide) ?_
              obtain ⟨r57, h57, e57, hF⟩ := fx_b2E hF
              refine xr_callSi C mvX10_167 [.int a1, .int (a2 - (1 : Int32)), .int (6 : Int32)] [.int (2 : Int32), .int (71 : Int32)] (mX10_two l G a1 (a2 - (1 : Int32)) (6 : Int32)  h45 h57 r57 e57) rfl ⟨rfl, rfl, (Nat.le_of_ble_eq_true rfl), (Nat.le_of_ble_eq_true rfl)⟩ rfl (Nat.le_of_ble_eq_true rfl) dX10_stand_57 ?_
              refine xr_imul C dX10_stand_60 ?_
              refine xr_iadd C dX10_stand_61 ?_
              refine xr_topi (fun x62 e62 => ?_)
              have hF := fx_letE hF x62 e62
              refine xr_istore C [(5, .int x62), (0, .ref (G.2.2.1 a0)), (1, .int a1), (2, .int a2), (3, .int a3), (4, .int a4)] dX10_stand_62 (Nat.le_of_ble_eq_true rfl) rfl ?_
              refine xr_aload_n C 1 dX10_stand_64 rfl rfl ?_
              refine xr_getr C flX10_36 rfl (by decide) dX10_stand_65 ta0 (fun t65 => ?_)
              refine xr_iload C 0 dX10_stand_68 rfl ?_
              refine xr_iload_n C 4 dX10_stand_70 rfl rfl ?_
              obtain ⟨g71, hF⟩ := fx_gE hF
              refine xr_iast C dX10_stand_71 t65 g71 (fun h71 e71 => ?_)
              have hF := fx_letE hF h71 e71
              refine xr_aload_n C 1 dX10_stand_72 rfl rfl ?_
              refine xr_getr C flX10_36 rfl (by decide) dX10_stand_73 ta0 (fun t73 => ?_)
              refine xr_iload C 0 dX10_stand_76 rfl ?_
              refine xr_iconst (v := 1) C dX10_stand_78 (by decide) ?_
              refine xr_iadd C dX10_stand_79 ?_
              refine xr_iload C 5 dX10_stand_80 rfl ?_
              obtain ⟨g82, hF⟩ := fx_gE hF
              refine xr_iast C dX10_stand_82 t73 g82 (fun h82 e82 => ?_)
              have hF := fx_letE hF h82 e82
              refine xr_iconst (v := 1) C dX10_stand_83 (by decide) ?_
              cases hF
              exact xr_zret C rfl dX10_stand_84
            · have hF := fx_neg hF c39
              refine xr_iconst (v := 0) C dX10_stand_42 (by decide) ?_
              cases hF
              exact xr_zret C rfl dX10_stand_43
theorem dX10_stands_0 : decode cX10_stands 0 = .ok (.aload_n 0, 1) := by decide +kernel
theorem dX10_stands_1 : decode cX10_stands 1 = .ok (.getfield 36, 3) := by decide +kernel
theorem dX10_stands_4 : decode cX10_stands 4 = .ok (.bipush 71, 2) := by decide +kernel
theorem dX10_stands_6 : decode cX10_stands 6 = .ok (.iconst 2, 1) := by decide +kernel
theorem dX10_stands_7 : decode cX10_stands 7 = .ok (.iload_n 1, 1) := by decide +kernel
theorem dX10_stands_8 : decode cX10_stands 8 = .ok (.iload_n 2, 1) := by decide +kernel
theorem dX10_stands_9 : decode cX10_stands 9 = .ok (.iconst 1, 1) := by decide +kernel
theorem dX10_stands_10 : decode cX10_stands 10 = .ok (.isub, 1) := by decide +kernel
theorem dX10_stands_11 : decode cX10_stands 11 = .ok (.bipush 6, 2) := by decide +kernel
theorem dX10_stands_13 : decode cX10_stands 13 = .ok (.invokestatic 167, 3) := by decide +kernel
theorem dX10_stands_16 : decode cX10_stands 16 = .ok (.imul, 1) := by decide +kernel
theorem dX10_stands_17 : decode cX10_stands 17 = .ok (.iadd, 1) := by decide +kernel
theorem dX10_stands_18 : decode cX10_stands 18 = .ok (.iload_n 3, 1) := by decide +kernel
theorem dX10_stands_19 : decode cX10_stands 19 = .ok (.iadd, 1) := by decide +kernel
theorem dX10_stands_20 : decode cX10_stands 20 = .ok (.iaload, 1) := by decide +kernel
theorem dX10_stands_21 : decode cX10_stands 21 = .ok (.ireturn, 1) := by decide +kernel
def fX10_stands (a0 : Nat) (a1 : Int32) (a2 : Int32) (a3 : Int32) (h : hp_T) : Option (Int32 × hp_T) := fx_b2 (fX10_two a1 (a2 - (1 : Int32)) (6 : Int32) h) fun (r13 : Int32) (h13 : hp_T) => fx_g (fx_in (((71 : Int32) + ((2 : Int32) * r13)) + a3) 120) (some ((h13.1 (h.2.2 a0 20) (fx_ix (((71 : Int32) + ((2 : Int32) * r13)) + a3))), h13))
set_option maxRecDepth 100000 in
set_option maxHeartbeats 4000000 in
theorem mX10_stands (l : Launch) (G : xr_G) (a0 : Nat) (a1 : Int32) (a2 : Int32) (a3 : Int32) (ta0 : hp_sh a0 = (10, 0)) (h h1 : hp_T) (r : Int32) (hF : fX10_stands a0 a1 a2 a3 h = some (r, h1)) : xr_M l G yX10_stands cX10_stands 4 (xr_R 1 22) (some .int) [.ref (G.2.2.1 a0), .int a1, .int a2, .int a3] h (xr_Qi G r h1) := by
  refine xr_start rfl (Nat.le_of_ble_eq_true rfl) (fun K C => ?_)
  show xr_j l G K 4 h [(0, .ref (G.2.2.1 a0)), (1, .int a1), (2, .int a2), (3, .int a3)] 0 []
  unfold fX10_stands at hF
  refine xr_aload_n C 0 dX10_stands_0 rfl rfl ?_
  refine xr_getr C flX10_36 rfl (by decide) dX10_stands_1 ta0 (fun t1 => ?_)
  refine xr_bipush (v := 71) C dX10_stands_4 (by decide) ?_
  refine xr_iconst (v := 2) C dX10_stands_6 (by decide) ?_
  refine xr_iload_n C 1 dX10_stands_7 rfl rfl ?_
  refine xr_iload_n C 2 dX10_stands_8 rfl rfl ?_
  refine xr_iconst (v := 1) C dX10_stands_9 (by decide) ?_
  refine xr_isub C dX10_stands_10 ?_
  refine xr_bipush (v := 6) C dX10_stands_11 (by decide) ?_
  obtain ⟨r13, h13, e13, hF⟩ := fx_b2E hF
  refine xr_callSi C mvX10_167 [.int a1, .int (a2 - (1 : Int32)), .int (6 : Int32)] [.int (2 : Int32), .int (71 : Int32), .ref (G.2.2.1 (h.2.2 a0 20))] (mX10_two l G a1 (a2 - (1 : Int32)) (6 : Int32)  h h13 r13 e13) rfl ⟨rfl, rfl, (Nat.le_of_ble_eq_true rfl), (Nat.le_of_ble_eq_true rfl)⟩ rfl (Nat.le_of_ble_eq_true rfl) dX10_stands_13 ?_
  refine xr_imul C dX10_stands_16 ?_
  refine xr_iadd C dX10_stands_17 ?_
  refine xr_iload_n C 3 dX10_stands_18 rfl rfl ?_
  refine xr_iadd C dX10_stands_19 ?_
  obtain ⟨g20, hF⟩ := fx_gE hF
  refine xr_iald C dX10_stands_20 t1 g20 ?_
  cases hF
  exact xr_iret C dX10_stands_21
theorem dX10_standing_0 : decode cX10_standing 0 = .ok (.aload_n 0, 1) := by decide +kernel
theorem dX10_standing_1 : decode cX10_standing 1 = .ok (.iconst 0, 1) := by decide +kernel
theorem dX10_standing_2 : decode cX10_standing 2 = .ok (.putfield 63, 3) := by decide +kernel
theorem dX10_standing_5 : decode cX10_standing 5 = .ok (.aload_n 0, 1) := by decide +kernel
theorem dX10_standing_6 : decode cX10_standing 6 = .ok (.iload_n 1, 1) := by decide +kernel
theorem dX10_standing_7 : decode cX10_standing 7 = .ok (.invokevirtual 180, 3) := by decide +kernel
theorem dX10_standing_10 : decode cX10_standing 10 = .ok (.ifCond .eq 29, 3) := by decide +kernel
theorem dX10_standing_13 : decode cX10_standing 13 = .ok (.iload_n 2, 1) := by decide +kernel
theorem dX10_standing_14 : decode cX10_standing 14 = .ok (.invokestatic 205, 3) := by decide +kernel
theorem dX10_standing_17 : decode cX10_standing 17 = .ok (.ifCond .eq 22, 3) := by decide +kernel
theorem dX10_standing_20 : decode cX10_standing 20 = .ok (.iload_n 3, 1) := by decide +kernel
theorem dX10_standing_21 : decode cX10_standing 21 = .ok (.ifCond .eq 8, 3) := by decide +kernel
theorem dX10_standing_24 : decode cX10_standing 24 = .ok (.iload_n 3, 1) := by decide +kernel
theorem dX10_standing_25 : decode cX10_standing 25 = .ok (.iconst 1, 1) := by decide +kernel
theorem dX10_standing_26 : decode cX10_standing 26 = .ok (.if_icmp .ne 13, 3) := by decide +kernel
theorem dX10_standing_29 : decode cX10_standing 29 = .ok (.aload_n 0, 1) := by decide +kernel
theorem dX10_standing_30 : decode cX10_standing 30 = .ok (.iload_n 1, 1) := by decide +kernel
theorem dX10_standing_31 : decode cX10_standing 31 = .ok (.iload_n 2, 1) := by decide +kernel
theorem dX10_standing_32 : decode cX10_standing 32 = .ok (.iload_n 3, 1) := by decide +kernel
theorem dX10_standing_33 : decode cX10_standing 33 = .ok (.invokevirtual 242, 3) := by decide +kernel
theorem dX10_standing_36 : decode cX10_standing 36 = .ok (.goto 4, 3) := by decide +kernel
theorem dX10_standing_39 : decode cX10_standing 39 = .ok (.iconst (-1), 1) := by decide +kernel
theorem dX10_standing_40 : decode cX10_standing 40 = .ok (.ireturn, 1) := by decide +kernel
def fX10_standing_29  (a0 : Nat) (a1 : Int32) (a2 : Int32) (a3 : Int32) (h : hp_T) : Option (Int32 × hp_T) := fx_b2 (fX10_stands a0 a1 a2 a3 h) fun (r33 : Int32) (h33 : hp_T) => some (r33, h33)
set_option maxRecDepth 100000 in
set_option maxHeartbeats 4000000 in
theorem bX10_standing_29 {l : Launch} {G : xr_G} {K : xr_K} {r : Int32} {h1 : hp_T} (C : xr_C G K cX10_standing RX10 4 (xr_R 2 45) (some .int) (some (xr_Qi G r h1)))  (a0 : Nat) (a1 : Int32) (a2 : Int32) (a3 : Int32) (ta0 : hp_sh a0 = (10, 0)) (h : hp_T) (hF : fX10_standing_29 a0 a1 a2 a3 h = some (r, h1)) : xr_j l G K 4 h [(0, .ref (G.2.2.1 a0)), (1, .int a1), (2, .int a2), (3, .int a3)] 29 [] := by
  unfold fX10_standing_29 at hF
  refine xr_aload_n C 0 dX10_standing_29 rfl rfl ?_
  refine xr_iload_n C 1 dX10_standing_30 rfl rfl ?_
  refine xr_iload_n C 2 dX10_standing_31 rfl rfl ?_
  refine xr_iload_n C 3 dX10_standing_32 rfl rfl ?_
  obtain ⟨r33, h33, e33, hF⟩ := fx_b2E hF
  refine xr_callVi C mvX10_242 [.int a1, .int a2, .int a3] [] (mX10_stands l G a0 a1 a2 a3 ta0 h h33 r33 e33) ta0 (by decide) vc10 rfl ⟨rfl, rfl, (Nat.le_of_ble_eq_true rfl), (Nat.le_of_ble_eq_true rfl)⟩ rfl (Nat.le_of_ble_eq_true rfl) dX10_standing_33 ?_
  refine xr_goto C 40 dX10_standing_36 (by decide) ?_
  cases hF
  exact xr_iret C dX10_standing_40
def fX10_standing (a0 : Nat) (a1 : Int32) (a2 : Int32) (a3 : Int32) (h : hp_T) : Option (Int32 × hp_T) := fx_let (hp_sI h a0 0 (0 : Int32)) fun (h2 : hp_T) => fx_b2 (fX10_isSide a0 a1 h2) fun (r7 : Int32) (h7 : hp_T) => if r7 = 0 then (some ((-1 : Int32), h7)) else (fx_b2 (fX10_isSpot a2 h7) fun (r14 : Int32) (h14 : hp_T) => if r14 = 0 then (some ((-1 : Int32), h14)) else (if a3 = 0 then (fX10_standing_29 a0 a1 a2 a3 h14) else (if a3 = (1 : Int32) then (fX10_standing_29 a0 a1 a2 a3 h14) else (some ((-1 : Int32), h14)))))
set_option maxRecDepth 100000 in
set_option maxHeartbeats 4000000 in
theorem mX10_standing (l : Launch) (G : xr_G) (a0 : Nat) (a1 : Int32) (a2 : Int32) (a3 : Int32) (ta0 : hp_sh a0 = (10, 0)) (h h1 : hp_T) (r : Int32) (hF : fX10_standing a0 a1 a2 a3 h = some (r, h1)) : xr_M l G yX10_standing cX10_standing 4 (xr_R 2 45) (some .int) [.ref (G.2.2.1 a0), .int a1, .int a2, .int a3] h (xr_Qi G r h1) := by
  refine xr_start rfl (Nat.le_of_ble_eq_true rfl) (fun K C => ?_)
  show xr_j l G K 4 h [(0, .ref (G.2.2.1 a0)), (1, .int a1), (2, .int a2), (3, .int a3)] 0 []
  unfold fX10_standing at hF
  refine xr_aload_n C 0 dX10_standing_0 rfl rfl ?_
  refine xr_iconst (v := 0) C dX10_standing_1 (by decide) ?_
  refine xr_puti C fpX10_63 rfl rfl rfl dX10_standing_2 ta0 (fun h2 e2 => ?_)
  have hF := fx_letE hF h2 e2
  refine xr_aload_n C 0 dX10_standing_5 rfl rfl ?_
  refine xr_iload_n C 1 dX10_standing_6 rfl rfl ?_
  obtain ⟨r7, h7, e7, hF⟩ := fx_b2E hF
  refine xr_callVi C mvX10_180 [.int a1] [] (mX10_isSide l G a0 a1 ta0 h2 h7 r7 e7) ta0 (by decide) vc10 rfl ⟨rfl, rfl, (Nat.le_of_ble_eq_true rfl), (Nat.le_of_ble_eq_true rfl)⟩ rfl (Nat.le_of_ble_eq_true rfl) dX10_standing_7 ?_
  refine xr_if_eq C 39 dX10_standing_10 (by decide) (fun c10 => ?_) (fun c10 => ?_)
  · have hF := fx_pos hF c10
    refine xr_iconst (v := -1) C dX10_standing_39 (by decide) ?_
    cases hF
    exact xr_iret C dX10_standing_40
  · have hF := fx_neg hF c10
    refine xr_iload_n C 2 dX10_standing_13 rfl rfl ?_
    obtain ⟨r14, h14, e14, hF⟩ := fx_b2E hF
    refine xr_callSi C mvX10_205 [.int a2] [] (mX10_isSpot l G a2  h7 h14 r14 e14) rfl ⟨rfl, rfl, (Nat.le_of_ble_eq_true rfl), (Nat.le_of_ble_eq_true rfl)⟩ rfl (Nat.le_of_ble_eq_true rfl) dX10_standing_14 ?_
    refine xr_if_eq C 39 dX10_standing_17 (by decide) (fun c17 => ?_) (fun c17 => ?_)
    · have hF := fx_pos hF c17
      refine xr_iconst (v := -1) C dX10_standing_39 (by decide) ?_
      cases hF
      exact xr_iret C dX10_standing_40
    · have hF := fx_neg hF c17
      refine xr_iload_n C 3 dX10_standing_20 rfl rfl ?_
      refine xr_if_eq C 29 dX10_standing_21 (by decide) (fun c21 => ?_) (fun c21 => ?_)
      · have hF := fx_pos hF c21
        exact bX10_standing_29 C   a0 a1 a2 a3 ta0 h14 hF
      · have hF := fx_neg hF c21
        refine xr_iload_n C 3 dX10_standing_24 rfl rfl ?_
        refine xr_iconst (v := 1) C dX10_standing_25 (by decide) ?_
        refine xr_icmp_ne C 39 dX10_standing_26 (by decide) (fun c26 => ?_) (fun c26 => ?_)
        · have hF := fx_neg hF c26
          refine xr_iconst (v := -1) C dX10_standing_39 (by decide) ?_
          cases hF
          exact xr_iret C dX10_standing_40
        · have hF := fx_pos hF c26
          exact bX10_standing_29 C   a0 a1 a2 a3 ta0 h14 hF
theorem dX10_now_0 : decode cX10_now 0 = .ok (.aload_n 0, 1) := by decide +kernel
theorem dX10_now_1 : decode cX10_now 1 = .ok (.iconst 0, 1) := by decide +kernel
theorem dX10_now_2 : decode cX10_now 2 = .ok (.putfield 63, 3) := by decide +kernel
theorem dX10_now_5 : decode cX10_now 5 = .ok (.aload_n 0, 1) := by decide +kernel
theorem dX10_now_6 : decode cX10_now 6 = .ok (.getfield 59, 3) := by decide +kernel
theorem dX10_now_9 : decode cX10_now 9 = .ok (.ifCond .eq 13, 3) := by decide +kernel
theorem dX10_now_12 : decode cX10_now 12 = .ok (.iload_n 1, 1) := by decide +kernel
theorem dX10_now_13 : decode cX10_now 13 = .ok (.ifCond .lt 9, 3) := by decide +kernel
theorem dX10_now_16 : decode cX10_now 16 = .ok (.iload_n 1, 1) := by decide +kernel
theorem dX10_now_17 : decode cX10_now 17 = .ok (.bipush 8, 2) := by decide +kernel
theorem dX10_now_19 : decode cX10_now 19 = .ok (.if_icmp .le 5, 3) := by decide +kernel
theorem dX10_now_22 : decode cX10_now 22 = .ok (.iconst (-1), 1) := by decide +kernel
theorem dX10_now_23 : decode cX10_now 23 = .ok (.ireturn, 1) := by decide +kernel
theorem dX10_now_24 : decode cX10_now 24 = .ok (.iload_n 1, 1) := by decide +kernel
theorem dX10_now_25 : decode cX10_now 25 = .ok (.tableswitch 99 0 7 #[47, 47, 56, 63, 76, 76, 87, 87], 47) := by decide +kernel
theorem dX10_now_72 : decode cX10_now 72 = .ok (.aload_n 0, 1) := by decide +kernel
theorem dX10_now_73 : decode cX10_now 73 = .ok (.getfield 36, 3) := by decide +kernel
theorem dX10_now_76 : decode cX10_now 76 = .ok (.iconst 0, 1) := by decide +kernel
theorem dX10_now_77 : decode cX10_now 77 = .ok (.iload_n 1, 1) := by decide +kernel
theorem dX10_now_78 : decode cX10_now 78 = .ok (.iadd, 1) := by decide +kernel
theorem dX10_now_79 : decode cX10_now 79 = .ok (.iaload, 1) := by decide +kernel
theorem dX10_now_80 : decode cX10_now 80 = .ok (.ireturn, 1) := by decide +kernel
theorem dX10_now_81 : decode cX10_now 81 = .ok (.aload_n 0, 1) := by decide +kernel
theorem dX10_now_82 : decode cX10_now 82 = .ok (.getfield 36, 3) := by decide +kernel
theorem dX10_now_85 : decode cX10_now 85 = .ok (.iconst 2, 1) := by decide +kernel
theorem dX10_now_86 : decode cX10_now 86 = .ok (.iaload, 1) := by decide +kernel
theorem dX10_now_87 : decode cX10_now 87 = .ok (.ireturn, 1) := by decide +kernel
theorem dX10_now_88 : decode cX10_now 88 = .ok (.aload_n 0, 1) := by decide +kernel
theorem dX10_now_89 : decode cX10_now 89 = .ok (.invokevirtual 215, 3) := by decide +kernel
theorem dX10_now_92 : decode cX10_now 92 = .ok (.ifCond .eq 7, 3) := by decide +kernel
theorem dX10_now_95 : decode cX10_now 95 = .ok (.iconst 1, 1) := by decide +kernel
theorem dX10_now_96 : decode cX10_now 96 = .ok (.goto 4, 3) := by decide +kernel
theorem dX10_now_99 : decode cX10_now 99 = .ok (.iconst 0, 1) := by decide +kernel
theorem dX10_now_100 : decode cX10_now 100 = .ok (.ireturn, 1) := by decide +kernel
theorem dX10_now_101 : decode cX10_now 101 = .ok (.aload_n 0, 1) := by decide +kernel
theorem dX10_now_102 : decode cX10_now 102 = .ok (.getfield 36, 3) := by decide +kernel
theorem dX10_now_105 : decode cX10_now 105 = .ok (.iconst 5, 1) := by decide +kernel
theorem dX10_now_106 : decode cX10_now 106 = .ok (.iload_n 1, 1) := by decide +kernel
theorem dX10_now_107 : decode cX10_now 107 = .ok (.iadd, 1) := by decide +kernel
theorem dX10_now_108 : decode cX10_now 108 = .ok (.iconst 4, 1) := by decide +kernel
theorem dX10_now_109 : decode cX10_now 109 = .ok (.isub, 1) := by decide +kernel
theorem dX10_now_110 : decode cX10_now 110 = .ok (.iaload, 1) := by decide +kernel
theorem dX10_now_111 : decode cX10_now 111 = .ok (.ireturn, 1) := by decide +kernel
theorem dX10_now_112 : decode cX10_now 112 = .ok (.aload_n 0, 1) := by decide +kernel
theorem dX10_now_113 : decode cX10_now 113 = .ok (.getfield 36, 3) := by decide +kernel
theorem dX10_now_116 : decode cX10_now 116 = .ok (.iconst 3, 1) := by decide +kernel
theorem dX10_now_117 : decode cX10_now 117 = .ok (.iload_n 1, 1) := by decide +kernel
theorem dX10_now_118 : decode cX10_now 118 = .ok (.iadd, 1) := by decide +kernel
theorem dX10_now_119 : decode cX10_now 119 = .ok (.bipush 6, 2) := by decide +kernel
theorem dX10_now_121 : decode cX10_now 121 = .ok (.isub, 1) := by decide +kernel
theorem dX10_now_122 : decode cX10_now 122 = .ok (.iaload, 1) := by decide +kernel
theorem dX10_now_123 : decode cX10_now 123 = .ok (.ireturn, 1) := by decide +kernel
theorem dX10_now_124 : decode cX10_now 124 = .ok (.aload_n 0, 1) := by decide +kernel
theorem dX10_now_125 : decode cX10_now 125 = .ok (.getfield 36, 3) := by decide +kernel
theorem dX10_now_128 : decode cX10_now 128 = .ok (.bipush 119, 2) := by decide +kernel
theorem dX10_now_130 : decode cX10_now 130 = .ok (.iaload, 1) := by decide +kernel
theorem dX10_now_131 : decode cX10_now 131 = .ok (.ireturn, 1) := by decide +kernel
def fX10_now_112  (a0 : Nat) (a1 : Int32) (h : hp_T) : Option (Int32 × hp_T) := fx_g (fx_in (((3 : Int32) + a1) - (6 : Int32)) 120) (some ((h.1 (h.2.2 a0 20) (fx_ix (((3 : Int32) + a1) - (6 : Int32)))), h))
set_option maxRecDepth 100000 in
set_option maxHeartbeats 4000000 in
theorem bX10_now_112 {l : Launch} {G : xr_G} {K : xr_K} {r : Int32} {h1 : hp_T} (C : xr_C G K cX10_now RX10 2 (xr_R 1 20) (some .int) (some (xr_Qi G r h1)))  (a0 : Nat) (a1 : Int32) (ta0 : hp_sh a0 = (10, 0)) (h : hp_T) (hF : fX10_now_112 a0 a1 h = some (r, h1)) : xr_j l G K 2 h [(0, .ref (G.2.2.1 a0)), (1, .int a1)] 112 [] := by
  unfold fX10_now_112 at hF
  refine xr_aload_n C 0 dX10_now_112 rfl rfl ?_
  refine xr_getr C flX10_36 rfl (by decide) dX10_now_113 ta0 (fun t113 => ?_)
  refine xr_iconst (v := 3) C dX10_now_116 (by decide) ?_
  refine xr_iload_n C 1 dX10_now_117 rfl rfl ?_
  refine xr_iadd C dX10_now_118 ?_
  refine xr_bipush (v := 6) C dX10_now_119 (by decide) ?_
  refine xr_isub C dX10_now_121 ?_
  obtain ⟨g122, hF⟩ := fx_gE hF
  refine xr_iald C dX10_now_122 t113 g122 ?_
  cases hF
  exact xr_iret C dX10_now_123
def fX10_now_101  (a0 : Nat) (a1 : Int32) (h : hp_T) : Option (Int32 × hp_T) := fx_g (fx_in (((5 : Int32) + a1) - (4 : Int32)) 120) (some ((h.1 (h.2.2 a0 20) (fx_ix (((5 : Int32) + a1) - (4 : Int32)))), h))
set_option maxRecDepth 100000 in
set_option maxHeartbeats 4000000 in
theorem bX10_now_101 {l : Launch} {G : xr_G} {K : xr_K} {r : Int32} {h1 : hp_T} (C : xr_C G K cX10_now RX10 2 (xr_R 1 20) (some .int) (some (xr_Qi G r h1)))  (a0 : Nat) (a1 : Int32) (ta0 : hp_sh a0 = (10, 0)) (h : hp_T) (hF : fX10_now_101 a0 a1 h = some (r, h1)) : xr_j l G K 2 h [(0, .ref (G.2.2.1 a0)), (1, .int a1)] 101 [] := by
  unfold fX10_now_101 at hF
  refine xr_aload_n C 0 dX10_now_101 rfl rfl ?_
  refine xr_getr C flX10_36 rfl (by decide) dX10_now_102 ta0 (fun t102 => ?_)
  refine xr_iconst (v := 5) C dX10_now_105 (by decide) ?_
  refine xr_iload_n C 1 dX10_now_106 rfl rfl ?_
  refine xr_iadd C dX10_now_107 ?_
  refine xr_iconst (v := 4) C dX10_now_108 (by decide) ?_
  refine xr_isub C dX10_now_109 ?_
  obtain ⟨g110, hF⟩ := fx_gE hF
  refine xr_iald C dX10_now_110 t102 g110 ?_
  cases hF
  exact xr_iret C dX10_now_111
def fX10_now_72  (a0 : Nat) (a1 : Int32) (h : hp_T) : Option (Int32 × hp_T) := fx_g (fx_in ((0 : Int32) + a1) 120) (some ((h.1 (h.2.2 a0 20) (fx_ix ((0 : Int32) + a1))), h))
set_option maxRecDepth 100000 in
set_option maxHeartbeats 4000000 in
theorem bX10_now_72 {l : Launch} {G : xr_G} {K : xr_K} {r : Int32} {h1 : hp_T} (C : xr_C G K cX10_now RX10 2 (xr_R 1 20) (some .int) (some (xr_Qi G r h1)))  (a0 : Nat) (a1 : Int32) (ta0 : hp_sh a0 = (10, 0)) (h : hp_T) (hF : fX10_now_72 a0 a1 h = some (r, h1)) : xr_j l G K 2 h [(0, .ref (G.2.2.1 a0)), (1, .int a1)] 72 [] := by
  unfold fX10_now_72 at hF
  refine xr_aload_n C 0 dX10_now_72 rfl rfl ?_
  refine xr_getr C flX10_36 rfl (by decide) dX10_now_73 ta0 (fun t73 => ?_)
  refine xr_iconst (v := 0) C dX10_now_76 (by decide) ?_
  refine xr_iload_n C 1 dX10_now_77 rfl rfl ?_
  refine xr_iadd C dX10_now_78 ?_
  obtain ⟨g79, hF⟩ := fx_gE hF
  refine xr_iald C dX10_now_79 t73 g79 ?_
  cases hF
  exact xr_iret C dX10_now_80
def fX10_now (a0 : Nat) (a1 : Int32) (h : hp_T) : Option (Int32 × hp_T) := fx_let (hp_sI h a0 0 (0 : Int32)) fun (h2 : hp_T) => if (h2.1 a0 7) = 0 then (some ((-1 : Int32), h2)) else (if a1 < 0 then (some ((-1 : Int32), h2)) else (if a1 ≤ (8 : Int32) then (if a1 = 0 then (fX10_now_72 a0 a1 h2) else if a1 = 1 then (fX10_now_72 a0 a1 h2) else if a1 = 2 then (some ((h2.1 (h2.2.2 a0 20) (fx_ix (2 : Int32))), h2)) else if a1 = 3 then (fx_b2 (fX10_isOver a0 h2) fun (r89 : Int32) (h89 : hp_T) => if r89 = 0 then (some ((0 : Int32), h89)) else (some ((1 : Int32), h89))) else if a1 = 4 then (fX10_now_101 a0 a1 h2) else if a1 = 5 then (fX10_now_101 a0 a1 h2) else if a1 = 6 then (fX10_now_112 a0 a1 h2) else if a1 = 7 then (fX10_now_112 a0 a1 h2) else (some ((h2.1 (h2.2.2 a0 20) (fx_ix (119 : Int32))), h2))) else (some ((-1 : Int32), h2))))
set_option maxRecDepth 100000 in
set_option maxHeartbeats 4000000 in
theorem mX10_now (l : Launch) (G : xr_G) (a0 : Nat) (a1 : Int32) (ta0 : hp_sh a0 = (10, 0)) (h h1 : hp_T) (r : Int32) (hF : fX10_now a0 a1 h = some (r, h1)) : xr_M l G yX10_now cX10_now 2 (xr_R 1 20) (some .int) [.ref (G.2.2.1 a0), .int a1] h (xr_Qi G r h1) := by
  refine xr_start rfl (Nat.le_of_ble_eq_true rfl) (fun K C => ?_)
  show xr_j l G K 2 h [(0, .ref (G.2.2.1 a0)), (1, .int a1)] 0 []
  unfold fX10_now at hF
  refine xr_aload_n C 0 dX10_now_0 rfl rfl ?_
  refine xr_iconst (v := 0) C dX10_now_1 (by decide) ?_
  refine xr_puti C fpX10_63 rfl rfl rfl dX10_now_2 ta0 (fun h2 e2 => ?_)
  have hF := fx_letE hF h2 e2
  refine xr_aload_n C 0 dX10_now_5 rfl rfl ?_
  refine xr_geti C flX10_59 rfl dX10_now_6 ta0 ?_
  refine xr_if_eq C 22 dX10_now_9 (by decide) (fun c9 => ?_) (fun c9 => ?_)
  · have hF := fx_pos hF c9
    refine xr_iconst (v := -1) C dX10_now_22 (by decide) ?_
    cases hF
    exact xr_iret C dX10_now_23
  · have hF := fx_neg hF c9
    refine xr_iload_n C 1 dX10_now_12 rfl rfl ?_
    refine xr_if_lt C 22 dX10_now_13 (by decide) (fun c13 => ?_) (fun c13 => ?_)
    · have hF := fx_pos hF c13
      refine xr_iconst (v := -1) C dX10_now_22 (by decide) ?_
      cases hF
      exact xr_iret C dX10_now_23
    · have hF := fx_neg hF c13
      refine xr_iload_n C 1 dX10_now_16 rfl rfl ?_
      refine xr_bipush (v := 8) C dX10_now_17 (by decide) ?_
      refine xr_icmp_le C 24 dX10_now_19 (by decide) (fun c19 => ?_) (fun c19 => ?_)
      · have hF := fx_pos hF c19
        refine xr_iload_n C 1 dX10_now_24 rfl rfl ?_
        by_cases c25_0 : a1 = 0
        · have hF := fx_pos hF c25_0
          refine xr_tableIn C 72 dX10_now_25 (by rw [c25_0]; decide) (by rw [c25_0]; decide) (by rw [c25_0]; first | done | rfl) (by decide) ?_
          exact bX10_now_72 C   a0 a1 ta0 h2 hF
        have hF := fx_neg hF c25_0
        by_cases c25_1 : a1 = 1
        · have hF := fx_pos hF c25_1
          refine xr_tableIn C 72 dX10_now_25 (by rw [c25_1]; decide) (by rw [c25_1]; decide) (by rw [c25_1]; first | done | rfl) (by decide) ?_
          exact bX10_now_72 C   a0 a1 ta0 h2 hF
        have hF := fx_neg hF c25_1
        by_cases c25_2 : a1 = 2
        · have hF := fx_pos hF c25_2
          refine xr_tableIn C 81 dX10_now_25 (by rw [c25_2]; decide) (by rw [c25_2]; decide) (by rw [c25_2]; first | done | rfl) (by decide) ?_
          refine xr_aload_n C 0 dX10_now_81 rfl rfl ?_
          refine xr_getr C flX10_36 rfl (by decide) dX10_now_82 ta0 (fun t82 => ?_)
          refine xr_iconst (v := 2) C dX10_now_85 (by decide) ?_
          refine xr_iald C dX10_now_86 t82 (by decide) ?_
          cases hF
          exact xr_iret C dX10_now_87
        have hF := fx_neg hF c25_2
        by_cases c25_3 : a1 = 3
        · have hF := fx_pos hF c25_3
          refine xr_tableIn C 88 dX10_now_25 (by rw [c25_3]; decide) (by rw [c25_3]; decide) (by rw [c25_3]; first | done | rfl) (by decide) ?_
          refine xr_aload_n C 0 dX10_now_88 rfl rfl ?_
          obtain ⟨r89, h89, e89, hF⟩ := fx_b2E hF
          refine xr_callVi C mvX10_215 [] [] (mX10_isOver l G a0 ta0 h2 h89 r89 e89) ta0 (by decide) vc10 rfl ⟨rfl, rfl, (Nat.le_of_ble_eq_true rfl), (Nat.le_of_ble_eq_true rfl)⟩ rfl (Nat.le_of_ble_eq_true rfl) dX10_now_89 ?_
          refine xr_if_eq C 99 dX10_now_92 (by decide) (fun c92 => ?_) (fun c92 => ?_)
          · have hF := fx_pos hF c92
            refine xr_iconst (v := 0) C dX10_now_99 (by decide) ?_
            cases hF
            exact xr_iret C dX10_now_100
          · have hF := fx_neg hF c92
            refine xr_iconst (v := 1) C dX10_now_95 (by decide) ?_
            refine xr_goto C 100 dX10_now_96 (by decide) ?_
            cases hF
            exact xr_iret C dX10_now_100
        have hF := fx_neg hF c25_3
        by_cases c25_4 : a1 = 4
        · have hF := fx_pos hF c25_4
          refine xr_tableIn C 101 dX10_now_25 (by rw [c25_4]; decide) (by rw [c25_4]; decide) (by rw [c25_4]; first | done | rfl) (by decide) ?_
          exact bX10_now_101 C   a0 a1 ta0 h2 hF
        have hF := fx_neg hF c25_4
        by_cases c25_5 : a1 = 5
        · have hF := fx_pos hF c25_5
          refine xr_tableIn C 101 dX10_now_25 (by rw [c25_5]; decide) (by rw [c25_5]; decide) (by rw [c25_5]; first | done | rfl) (by decide) ?_
          exact bX10_now_101 C   a0 a1 ta0 h2 hF
        have hF := fx_neg hF c25_5
        by_cases c25_6 : a1 = 6
        · have hF := fx_pos hF c25_6
          refine xr_tableIn C 112 dX10_now_25 (by rw [c25_6]; decide) (by rw [c25_6]; decide) (by rw [c25_6]; first | done | rfl) (by decide) ?_
          exact bX10_now_112 C   a0 a1 ta0 h2 hF
        have hF := fx_neg hF c25_6
        by_cases c25_7 : a1 = 7
        · have hF := fx_pos hF c25_7
          refine xr_tableIn C 112 dX10_now_25 (by rw [c25_7]; decide) (by rw [c25_7]; decide) (by rw [c25_7]; first | done | rfl) (by decide) ?_
          exact bX10_now_112 C   a0 a1 ta0 h2 hF
        have hF := fx_neg hF c25_7
        refine xr_tableOut C 124 dX10_now_25 (fx_out8 c25_0 c25_1 c25_2 c25_3 c25_4 c25_5 c25_6 c25_7) (by decide) ?_
        refine xr_aload_n C 0 dX10_now_124 rfl rfl ?_
        refine xr_getr C flX10_36 rfl (by decide) dX10_now_125 ta0 (fun t125 => ?_)
        refine xr_bipush (v := 119) C dX10_now_128 (by decide) ?_
        refine xr_iald C dX10_now_130 t125 (by decide) ?_
        cases hF
        exact xr_iret C dX10_now_131
      · have hF := fx_neg hF c19
        refine xr_iconst (v := -1) C dX10_now_22 (by decide) ?_
        cases hF
        exact xr_iret C dX10_now_23
theorem dX10_takesCourt_0 : decode cX10_takesCourt 0 = .ok (.iconst 0, 1) := by decide +kernel
theorem dX10_takesCourt_1 : decode cX10_takesCourt 1 = .ok (.istore_n 1, 1) := by decide +kernel
theorem dX10_takesCourt_2 : decode cX10_takesCourt 2 = .ok (.iload_n 1, 1) := by decide +kernel
theorem dX10_takesCourt_3 : decode cX10_takesCourt 3 = .ok (.iconst 2, 1) := by decide +kernel
theorem dX10_takesCourt_4 : decode cX10_takesCourt 4 = .ok (.if_icmp .ge 43, 3) := by decide +kernel
theorem dX10_takesCourt_7 : decode cX10_takesCourt 7 = .ok (.iconst 0, 1) := by decide +kernel
theorem dX10_takesCourt_8 : decode cX10_takesCourt 8 = .ok (.istore_n 2, 1) := by decide +kernel
theorem dX10_takesCourt_9 : decode cX10_takesCourt 9 = .ok (.iload_n 2, 1) := by decide +kernel
theorem dX10_takesCourt_10 : decode cX10_takesCourt 10 = .ok (.bipush 6, 2) := by decide +kernel
theorem dX10_takesCourt_12 : decode cX10_takesCourt 12 = .ok (.if_icmp .ge 29, 3) := by decide +kernel
theorem dX10_takesCourt_15 : decode cX10_takesCourt 15 = .ok (.aload_n 0, 1) := by decide +kernel
theorem dX10_takesCourt_16 : decode cX10_takesCourt 16 = .ok (.getfield 45, 3) := by decide +kernel
theorem dX10_takesCourt_19 : decode cX10_takesCourt 19 = .ok (.iload_n 1, 1) := by decide +kernel
theorem dX10_takesCourt_20 : decode cX10_takesCourt 20 = .ok (.iload_n 2, 1) := by decide +kernel
theorem dX10_takesCourt_21 : decode cX10_takesCourt 21 = .ok (.bipush 6, 2) := by decide +kernel
theorem dX10_takesCourt_23 : decode cX10_takesCourt 23 = .ok (.invokestatic 167, 3) := by decide +kernel
theorem dX10_takesCourt_26 : decode cX10_takesCourt 26 = .ok (.aload_n 0, 1) := by decide +kernel
theorem dX10_takesCourt_27 : decode cX10_takesCourt 27 = .ok (.iload_n 1, 1) := by decide +kernel
theorem dX10_takesCourt_28 : decode cX10_takesCourt 28 = .ok (.iload_n 2, 1) := by decide +kernel
theorem dX10_takesCourt_29 : decode cX10_takesCourt 29 = .ok (.iconst 1, 1) := by decide +kernel
theorem dX10_takesCourt_30 : decode cX10_takesCourt 30 = .ok (.iadd, 1) := by decide +kernel
theorem dX10_takesCourt_31 : decode cX10_takesCourt 31 = .ok (.invokevirtual 183, 3) := by decide +kernel
theorem dX10_takesCourt_34 : decode cX10_takesCourt 34 = .ok (.iastore, 1) := by decide +kernel
theorem dX10_takesCourt_35 : decode cX10_takesCourt 35 = .ok (.iinc 2 1, 3) := by decide +kernel
theorem dX10_takesCourt_38 : decode cX10_takesCourt 38 = .ok (.goto (-29), 3) := by decide +kernel
theorem dX10_takesCourt_41 : decode cX10_takesCourt 41 = .ok (.iinc 1 1, 3) := by decide +kernel
theorem dX10_takesCourt_44 : decode cX10_takesCourt 44 = .ok (.goto (-42), 3) := by decide +kernel
theorem dX10_takesCourt_47 : decode cX10_takesCourt 47 = .ok (.return_, 1) := by decide +kernel
def fX10_takesCourt_9 (k2 : Nat → Int32 → hp_T → Option hp_T) : Nat → Nat → Int32 → Int32 → hp_T → Option hp_T
  | 0, _, _, _, _ => none
  | n + 1, a0, a1, a2, h => if (6 : Int32) ≤ a2 then (fx_let (a1 + (1 : Int32)) fun (x41 : Int32) => k2 a0 x41 h) else (fx_b2 (fX10_two a1 a2 (6 : Int32) h) fun (r23 : Int32) (h23 : hp_T) => fx_b2 (fX10_court a0 a1 (a2 + (1 : Int32)) h23) fun (r31 : Int32) (h31 : hp_T) => fx_g (fx_in r23 12) (fx_let (hp_sI h31 (h.2.2 a0 24) (fx_ix r23) r31) fun (h34 : hp_T) => fx_let (a2 + (1 : Int32)) fun (x35 : Int32) => fX10_takesCourt_9 k2 n a0 a1 x35 h34))
set_option maxRecDepth 100000 in
set_option maxHeartbeats 4000000 in
theorem bX10_takesCourt_9 {l : Launch} {G : xr_G} {K : xr_K} {h1 : hp_T} (C : xr_C G K cX10_takesCourt RX10 3 (xr_R 2 44) none (some (xr_Qv G h1))) (k2 : Nat → Int32 → hp_T → Option hp_T) (j2 : ∀ (a0 : Nat) (a1 : Int32) (ta0 : hp_sh a0 = (10, 0)) (h : hp_T), k2 a0 a1 h = some h1 → xr_j l G K 3 h [(0, .ref (G.2.2.1 a0)), (1, .int a1)] 2 []) : ∀ (n : Nat) (a0 : Nat) (a1 : Int32) (a2 : Int32) (ta0 : hp_sh a0 = (10, 0)) (h : hp_T), fX10_takesCourt_9 k2 n a0 a1 a2 h = some h1 → xr_j l G K 3 h [(0, .ref (G.2.2.1 a0)), (1, .int a1), (2, .int a2)] 9 [] := by
  intro n
  induction n with
  | zero =>
    intro a0 a1 a2 ta0 h hF
    cases hF
  | succ n ih =>
    intro a0 a1 a2 ta0 h hF
    rw [fX10_takesCourt_9] at hF
    refine xr_iload_n C 2 dX10_takesCourt_9 rfl rfl ?_
    refine xr_bipush (v := 6) C dX10_takesCourt_10 (by decide) ?_
    refine xr_icmp_ge C 41 dX10_takesCourt_12 (by decide) (fun c12 => ?_) (fun c12 => ?_)
    · have hF := fx_pos hF c12
      obtain ⟨x41, e41⟩ : ∃ y : Int32, y = (a1 + (1 : Int32)) := ⟨_, rfl⟩
      have hF := fx_letE hF x41 e41
      refine xr_iinc C x41 1 [(1, .int x41), (0, .ref (G.2.2.1 a0)), (2, .int a2)] dX10_takesCourt_41 rfl (by rw [e41]; rfl) (Nat.le_of_ble_eq_true rfl) rfl ?_
      refine xr_goto C 2 dX10_takesCourt_44 (by decide) ?_
      refine xr_sub [1, 0] [(0, .ref (G.2.2.1 a0)), (1, .int x41)] rfl ?_
      exact j2 a0 x41 ta0 h hF
    · have hF := fx_neg hF c12
      refine xr_aload_n C 0 dX10_takesCourt_15 rfl rfl ?_
      refine xr_getr C flX10_45 rfl (by decide) dX10_takesCourt_16 ta0 (fun t16 => ?_)
      refine xr_iload_n C 1 dX10_takesCourt_19 rfl rfl ?_
      refine xr_iload_n C 2 dX10_takesCourt_20 rfl rfl ?_
      refine xr_bipush (v := 6) C dX10_takesCourt_21 (by decide) ?_
      obtain ⟨r23, h23, e23, hF⟩ := fx_b2E hF
      refine xr_callSi C mvX10_167 [.int a1, .int a2, .int (6 : Int32)] [.ref (G.2.2.1 (h.2.2 a0 24))] (mX10_two l G a1 a2 (6 : Int32)  h h23 r23 e23) rfl ⟨rfl, rfl, (Nat.le_of_ble_eq_true rfl), (Nat.le_of_ble_eq_true rfl)⟩ rfl (Nat.le_of_ble_eq_true rfl) dX10_takesCourt_23 ?_
      refine xr_aload_n C 0 dX10_takesCourt_26 rfl rfl ?_
      refine xr_iload_n C 1 dX10_takesCourt_27 rfl rfl ?_
      refine xr_iload_n C 2 dX10_takesCourt_28 rfl rfl ?_
      refine xr_iconst (v := 1) C dX10_takesCourt_29 (by decide) ?_
      refine xr_iadd C dX10_takesCourt_30 ?_
      obtain ⟨r31, h31, e31, hF⟩ := fx_b2E hF
      refine xr_callVi C mvX10_183 [.int a1, .int (a2 + (1 : Int32))] [.int r23, .ref (G.2.2.1 (h.2.2 a0 24))] (mX10_court l G a0 a1 (a2 + (1 : Int32)) ta0 h23 h31 r31 e31) ta0 (by decide) vc10 rfl ⟨rfl, rfl, (Nat.le_of_ble_eq_true rfl), (Nat.le_of_ble_eq_true rfl)⟩ rfl (Nat.le_of_ble_eq_true rfl) dX10_takesCourt_31 ?_
      obtain ⟨g34, hF⟩ := fx_gE hF
      refine xr_iast C dX10_takesCourt_34 t16 g34 (fun h34 e34 => ?_)
      have hF := fx_letE hF h34 e34
      obtain ⟨x35, e35⟩ : ∃ y : Int32, y = (a2 + (1 : Int32)) := ⟨_, rfl⟩
      have hF := fx_letE hF x35 e35
      refine xr_iinc C x35 2 [(2, .int x35), (0, .ref (G.2.2.1 a0)), (1, .int a1)] dX10_takesCourt_35 rfl (by rw [e35]; rfl) (Nat.le_of_ble_eq_true rfl) rfl ?_
      refine xr_goto C 9 dX10_takesCourt_38 (by decide) ?_
      refine xr_sub [1, 2, 0] [(0, .ref (G.2.2.1 a0)), (1, .int a1), (2, .int x35)] rfl ?_
      exact ih a0 a1 x35 ta0 h34 hF
def fX10_takesCourt_2  : Nat → Nat → Int32 → hp_T → Option hp_T
  | 0, _, _, _ => none
  | n + 1, a0, a1, h => if (2 : Int32) ≤ a1 then (some h) else (fX10_takesCourt_9 (fX10_takesCourt_2 n) fx_N a0 a1 (0 : Int32) h)
set_option maxRecDepth 100000 in
set_option maxHeartbeats 4000000 in
theorem bX10_takesCourt_2 {l : Launch} {G : xr_G} {K : xr_K} {h1 : hp_T} (C : xr_C G K cX10_takesCourt RX10 3 (xr_R 2 44) none (some (xr_Qv G h1)))  : ∀ (n : Nat) (a0 : Nat) (a1 : Int32) (ta0 : hp_sh a0 = (10, 0)) (h : hp_T), fX10_takesCourt_2 n a0 a1 h = some h1 → xr_j l G K 3 h [(0, .ref (G.2.2.1 a0)), (1, .int a1)] 2 [] := by
  intro n
  induction n with
  | zero =>
    intro a0 a1 ta0 h hF
    cases hF
  | succ n ih =>
    intro a0 a1 ta0 h hF
    rw [fX10_takesCourt_2] at hF
    refine xr_iload_n C 1 dX10_takesCourt_2 rfl rfl ?_
    refine xr_iconst (v := 2) C dX10_takesCourt_3 (by decide) ?_
    refine xr_icmp_ge C 47 dX10_takesCourt_4 (by decide) (fun c4 => ?_) (fun c4 => ?_)
    · have hF := fx_pos hF c4
      cases hF
      exact xr_vret C dX10_takesCourt_47
    · have hF := fx_neg hF c4
      refine xr_iconst (v := 0) C dX10_takesCourt_7 (by decide) ?_
      refine xr_istore_n C [(2, .int (0 : Int32)), (0, .ref (G.2.2.1 a0)), (1, .int a1)] dX10_takesCourt_8 rfl (Nat.le_of_ble_eq_true rfl) rfl ?_
      refine xr_sub [1, 2, 0] [(0, .ref (G.2.2.1 a0)), (1, .int a1), (2, .int (0 : Int32))] rfl ?_
      exact bX10_takesCourt_9 C (fX10_takesCourt_2 n) (fun a0 a1 ta0 h hF => ih a0 a1 ta0 h hF) fx_N a0 a1 (0 : Int32) ta0 h hF
def fX10_takesCourt (a0 : Nat) (h : hp_T) : Option hp_T := fX10_takesCourt_2 fx_N a0 (0 : Int32) h
set_option maxRecDepth 100000 in
set_option maxHeartbeats 4000000 in
theorem mX10_takesCourt (l : Launch) (G : xr_G) (a0 : Nat) (ta0 : hp_sh a0 = (10, 0)) (h h1 : hp_T) (hF : fX10_takesCourt a0 h = some h1) : xr_M l G yX10_takesCourt cX10_takesCourt 3 (xr_R 2 44) none [.ref (G.2.2.1 a0)] h (xr_Qv G h1) := by
  refine xr_start rfl (Nat.le_of_ble_eq_true rfl) (fun K C => ?_)
  show xr_j l G K 3 h [(0, .ref (G.2.2.1 a0))] 0 []
  unfold fX10_takesCourt at hF
  refine xr_iconst (v := 0) C dX10_takesCourt_0 (by decide) ?_
  refine xr_istore_n C [(1, .int (0 : Int32)), (0, .ref (G.2.2.1 a0))] dX10_takesCourt_1 rfl (Nat.le_of_ble_eq_true rfl) rfl ?_
  refine xr_sub [1, 0] [(0, .ref (G.2.2.1 a0)), (1, .int (0 : Int32))] rfl ?_
  exact bX10_takesCourt_2 C  fx_N a0 (0 : Int32) ta0 h hF
theorem dX10_takesLines_0 : decode cX10_takesLines 0 = .ok (.iconst 0, 1) := by decide +kernel
theorem dX10_takesLines_1 : decode cX10_takesLines 1 = .ok (.istore_n 1, 1) := by decide +kernel
theorem dX10_takesLines_2 : decode cX10_takesLines 2 = .ok (.iload_n 1, 1) := by decide +kernel
theorem dX10_takesLines_3 : decode cX10_takesLines 3 = .ok (.iconst 2, 1) := by decide +kernel
theorem dX10_takesLines_4 : decode cX10_takesLines 4 = .ok (.if_icmp .ge 43, 3) := by decide +kernel
theorem dX10_takesLines_7 : decode cX10_takesLines 7 = .ok (.iconst 0, 1) := by decide +kernel
theorem dX10_takesLines_8 : decode cX10_takesLines 8 = .ok (.istore_n 2, 1) := by decide +kernel
theorem dX10_takesLines_9 : decode cX10_takesLines 9 = .ok (.iload_n 2, 1) := by decide +kernel
theorem dX10_takesLines_10 : decode cX10_takesLines 10 = .ok (.bipush 6, 2) := by decide +kernel
theorem dX10_takesLines_12 : decode cX10_takesLines 12 = .ok (.if_icmp .ge 29, 3) := by decide +kernel
theorem dX10_takesLines_15 : decode cX10_takesLines 15 = .ok (.aload_n 0, 1) := by decide +kernel
theorem dX10_takesLines_16 : decode cX10_takesLines 16 = .ok (.getfield 45, 3) := by decide +kernel
theorem dX10_takesLines_19 : decode cX10_takesLines 19 = .ok (.iload_n 1, 1) := by decide +kernel
theorem dX10_takesLines_20 : decode cX10_takesLines 20 = .ok (.iload_n 2, 1) := by decide +kernel
theorem dX10_takesLines_21 : decode cX10_takesLines 21 = .ok (.bipush 6, 2) := by decide +kernel
theorem dX10_takesLines_23 : decode cX10_takesLines 23 = .ok (.invokestatic 167, 3) := by decide +kernel
theorem dX10_takesLines_26 : decode cX10_takesLines 26 = .ok (.aload_n 0, 1) := by decide +kernel
theorem dX10_takesLines_27 : decode cX10_takesLines 27 = .ok (.iload_n 1, 1) := by decide +kernel
theorem dX10_takesLines_28 : decode cX10_takesLines 28 = .ok (.iload_n 2, 1) := by decide +kernel
theorem dX10_takesLines_29 : decode cX10_takesLines 29 = .ok (.iconst 1, 1) := by decide +kernel
theorem dX10_takesLines_30 : decode cX10_takesLines 30 = .ok (.iadd, 1) := by decide +kernel
theorem dX10_takesLines_31 : decode cX10_takesLines 31 = .ok (.invokevirtual 208, 3) := by decide +kernel
theorem dX10_takesLines_34 : decode cX10_takesLines 34 = .ok (.iastore, 1) := by decide +kernel
theorem dX10_takesLines_35 : decode cX10_takesLines 35 = .ok (.iinc 2 1, 3) := by decide +kernel
theorem dX10_takesLines_38 : decode cX10_takesLines 38 = .ok (.goto (-29), 3) := by decide +kernel
theorem dX10_takesLines_41 : decode cX10_takesLines 41 = .ok (.iinc 1 1, 3) := by decide +kernel
theorem dX10_takesLines_44 : decode cX10_takesLines 44 = .ok (.goto (-42), 3) := by decide +kernel
theorem dX10_takesLines_47 : decode cX10_takesLines 47 = .ok (.return_, 1) := by decide +kernel
def fX10_takesLines_9 (k2 : Nat → Int32 → hp_T → Option hp_T) : Nat → Nat → Int32 → Int32 → hp_T → Option hp_T
  | 0, _, _, _, _ => none
  | n + 1, a0, a1, a2, h => if (6 : Int32) ≤ a2 then (fx_let (a1 + (1 : Int32)) fun (x41 : Int32) => k2 a0 x41 h) else (fx_b2 (fX10_two a1 a2 (6 : Int32) h) fun (r23 : Int32) (h23 : hp_T) => fx_b2 (fX10_lined a0 a1 (a2 + (1 : Int32)) h23) fun (r31 : Int32) (h31 : hp_T) => fx_g (fx_in r23 12) (fx_let (hp_sI h31 (h.2.2 a0 24) (fx_ix r23) r31) fun (h34 : hp_T) => fx_let (a2 + (1 : Int32)) fun (x35 : Int32) => fX10_takesLines_9 k2 n a0 a1 x35 h34))
set_option maxRecDepth 100000 in
set_option maxHeartbeats 4000000 in
theorem bX10_takesLines_9 {l : Launch} {G : xr_G} {K : xr_K} {h1 : hp_T} (C : xr_C G K cX10_takesLines RX10 3 (xr_R 3 67) none (some (xr_Qv G h1))) (k2 : Nat → Int32 → hp_T → Option hp_T) (j2 : ∀ (a0 : Nat) (a1 : Int32) (ta0 : hp_sh a0 = (10, 0)) (h : hp_T), k2 a0 a1 h = some h1 → xr_j l G K 3 h [(0, .ref (G.2.2.1 a0)), (1, .int a1)] 2 []) : ∀ (n : Nat) (a0 : Nat) (a1 : Int32) (a2 : Int32) (ta0 : hp_sh a0 = (10, 0)) (h : hp_T), fX10_takesLines_9 k2 n a0 a1 a2 h = some h1 → xr_j l G K 3 h [(0, .ref (G.2.2.1 a0)), (1, .int a1), (2, .int a2)] 9 [] := by
  intro n
  induction n with
  | zero =>
    intro a0 a1 a2 ta0 h hF
    cases hF
  | succ n ih =>
    intro a0 a1 a2 ta0 h hF
    rw [fX10_takesLines_9] at hF
    refine xr_iload_n C 2 dX10_takesLines_9 rfl rfl ?_
    refine xr_bipush (v := 6) C dX10_takesLines_10 (by decide) ?_
    refine xr_icmp_ge C 41 dX10_takesLines_12 (by decide) (fun c12 => ?_) (fun c12 => ?_)
    · have hF := fx_pos hF c12
      obtain ⟨x41, e41⟩ : ∃ y : Int32, y = (a1 + (1 : Int32)) := ⟨_, rfl⟩
      have hF := fx_letE hF x41 e41
      refine xr_iinc C x41 1 [(1, .int x41), (0, .ref (G.2.2.1 a0)), (2, .int a2)] dX10_takesLines_41 rfl (by rw [e41]; rfl) (Nat.le_of_ble_eq_true rfl) rfl ?_
      refine xr_goto C 2 dX10_takesLines_44 (by decide) ?_
      refine xr_sub [1, 0] [(0, .ref (G.2.2.1 a0)), (1, .int x41)] rfl ?_
      exact j2 a0 x41 ta0 h hF
    · have hF := fx_neg hF c12
      refine xr_aload_n C 0 dX10_takesLines_15 rfl rfl ?_
      refine xr_getr C flX10_45 rfl (by decide) dX10_takesLines_16 ta0 (fun t16 => ?_)
      refine xr_iload_n C 1 dX10_takesLines_19 rfl rfl ?_
      refine xr_iload_n C 2 dX10_takesLines_20 rfl rfl ?_
      refine xr_bipush (v := 6) C dX10_takesLines_21 (by decide) ?_
      obtain ⟨r23, h23, e23, hF⟩ := fx_b2E hF
      refine xr_callSi C mvX10_167 [.int a1, .int a2, .int (6 : Int32)] [.ref (G.2.2.1 (h.2.2 a0 24))] (mX10_two l G a1 a2 (6 : Int32)  h h23 r23 e23) rfl ⟨rfl, rfl, (Nat.le_of_ble_eq_true rfl), (Nat.le_of_ble_eq_true rfl)⟩ rfl (Nat.le_of_ble_eq_true rfl) dX10_takesLines_23 ?_
      refine xr_aload_n C 0 dX10_takesLines_26 rfl rfl ?_
      refine xr_iload_n C 1 dX10_takesLines_27 rfl rfl ?_
      refine xr_iload_n C 2 dX10_takesLines_28 rfl rfl ?_
      refine xr_iconst (v := 1) C dX10_takesLines_29 (by decide) ?_
      refine xr_iadd C dX10_takesLines_30 ?_
      obtain ⟨r31, h31, e31, hF⟩ := fx_b2E hF
      refine xr_callVi C mvX10_208 [.int a1, .int (a2 + (1 : Int32))] [.int r23, .ref (G.2.2.1 (h.2.2 a0 24))] (mX10_lined l G a0 a1 (a2 + (1 : Int32)) ta0 h23 h31 r31 e31) ta0 (by decide) vc10 rfl ⟨rfl, rfl, (Nat.le_of_ble_eq_true rfl), (Nat.le_of_ble_eq_true rfl)⟩ rfl (Nat.le_of_ble_eq_true rfl) dX10_takesLines_31 ?_
      obtain ⟨g34, hF⟩ := fx_gE hF
      refine xr_iast C dX10_takesLines_34 t16 g34 (fun h34 e34 => ?_)
      have hF := fx_letE hF h34 e34
      obtain ⟨x35, e35⟩ : ∃ y : Int32, y = (a2 + (1 : Int32)) := ⟨_, rfl⟩
      have hF := fx_letE hF x35 e35
      refine xr_iinc C x35 2 [(2, .int x35), (0, .ref (G.2.2.1 a0)), (1, .int a1)] dX10_takesLines_35 rfl (by rw [e35]; rfl) (Nat.le_of_ble_eq_true rfl) rfl ?_
      refine xr_goto C 9 dX10_takesLines_38 (by decide) ?_
      refine xr_sub [1, 2, 0] [(0, .ref (G.2.2.1 a0)), (1, .int a1), (2, .int x35)] rfl ?_
      exact ih a0 a1 x35 ta0 h34 hF
def fX10_takesLines_2  : Nat → Nat → Int32 → hp_T → Option hp_T
  | 0, _, _, _ => none
  | n + 1, a0, a1, h => if (2 : Int32) ≤ a1 then (some h) else (fX10_takesLines_9 (fX10_takesLines_2 n) fx_N a0 a1 (0 : Int32) h)
set_option maxRecDepth 100000 in
set_option maxHeartbeats 4000000 in
theorem bX10_takesLines_2 {l : Launch} {G : xr_G} {K : xr_K} {h1 : hp_T} (C : xr_C G K cX10_takesLines RX10 3 (xr_R 3 67) none (some (xr_Qv G h1)))  : ∀ (n : Nat) (a0 : Nat) (a1 : Int32) (ta0 : hp_sh a0 = (10, 0)) (h : hp_T), fX10_takesLines_2 n a0 a1 h = some h1 → xr_j l G K 3 h [(0, .ref (G.2.2.1 a0)), (1, .int a1)] 2 [] := by
  intro n
  induction n with
  | zero =>
    intro a0 a1 ta0 h hF
    cases hF
  | succ n ih =>
    intro a0 a1 ta0 h hF
    rw [fX10_takesLines_2] at hF
    refine xr_iload_n C 1 dX10_takesLines_2 rfl rfl ?_
    refine xr_iconst (v := 2) C dX10_takesLines_3 (by decide) ?_
    refine xr_icmp_ge C 47 dX10_takesLines_4 (by decide) (fun c4 => ?_) (fun c4 => ?_)
    · have hF := fx_pos hF c4
      cases hF
      exact xr_vret C dX10_takesLines_47
    · have hF := fx_neg hF c4
      refine xr_iconst (v := 0) C dX10_takesLines_7 (by decide) ?_
      refine xr_istore_n C [(2, .int (0 : Int32)), (0, .ref (G.2.2.1 a0)), (1, .int a1)] dX10_takesLines_8 rfl (Nat.le_of_ble_eq_true rfl) rfl ?_
      refine xr_sub [1, 2, 0] [(0, .ref (G.2.2.1 a0)), (1, .int a1), (2, .int (0 : Int32))] rfl ?_
      exact bX10_takesLines_9 C (fX10_takesLines_2 n) (fun a0 a1 ta0 h hF => ih a0 a1 ta0 h hF) fx_N a0 a1 (0 : Int32) ta0 h hF
def fX10_takesLines (a0 : Nat) (h : hp_T) : Option hp_T := fX10_takesLines_2 fx_N a0 (0 : Int32) h
set_option maxRecDepth 100000 in
set_option maxHeartbeats 4000000 in
theorem mX10_takesLines (l : Launch) (G : xr_G) (a0 : Nat) (ta0 : hp_sh a0 = (10, 0)) (h h1 : hp_T) (hF : fX10_takesLines a0 h = some h1) : xr_M l G yX10_takesLines cX10_takesLines 3 (xr_R 3 67) none [.ref (G.2.2.1 a0)] h (xr_Qv G h1) := by
  refine xr_start rfl (Nat.le_of_ble_eq_true rfl) (fun K C => ?_)
  show xr_j l G K 3 h [(0, .ref (G.2.2.1 a0))] 0 []
  unfold fX10_takesLines at hF
  refine xr_iconst (v := 0) C dX10_takesLines_0 (by decide) ?_
  refine xr_istore_n C [(1, .int (0 : Int32)), (0, .ref (G.2.2.1 a0))] dX10_takesLines_1 rfl (Nat.le_of_ble_eq_true rfl) rfl ?_
  refine xr_sub [1, 0] [(0, .ref (G.2.2.1 a0)), (1, .int (0 : Int32))] rfl ?_
  exact bX10_takesLines_2 C  fx_N a0 (0 : Int32) ta0 h hF
theorem dX10_takesStart_0 : decode cX10_takesStart 0 = .ok (.iconst 0, 1) := by decide +kernel
theorem dX10_takesStart_1 : decode cX10_takesStart 1 = .ok (.istore_n 1, 1) := by decide +kernel
theorem dX10_takesStart_2 : decode cX10_takesStart 2 = .ok (.iload_n 1, 1) := by decide +kernel
theorem dX10_takesStart_3 : decode cX10_takesStart 3 = .ok (.bipush 12, 2) := by decide +kernel
theorem dX10_takesStart_5 : decode cX10_takesStart 5 = .ok (.if_icmp .ge 24, 3) := by decide +kernel
theorem dX10_takesStart_8 : decode cX10_takesStart 8 = .ok (.aload_n 0, 1) := by decide +kernel
theorem dX10_takesStart_9 : decode cX10_takesStart 9 = .ok (.getfield 45, 3) := by decide +kernel
theorem dX10_takesStart_12 : decode cX10_takesStart 12 = .ok (.iload_n 1, 1) := by decide +kernel
theorem dX10_takesStart_13 : decode cX10_takesStart 13 = .ok (.aload_n 0, 1) := by decide +kernel
theorem dX10_takesStart_14 : decode cX10_takesStart 14 = .ok (.getfield 13, 3) := by decide +kernel
theorem dX10_takesStart_17 : decode cX10_takesStart 17 = .ok (.bipush 9, 2) := by decide +kernel
theorem dX10_takesStart_19 : decode cX10_takesStart 19 = .ok (.iload_n 1, 1) := by decide +kernel
theorem dX10_takesStart_20 : decode cX10_takesStart 20 = .ok (.iadd, 1) := by decide +kernel
theorem dX10_takesStart_21 : decode cX10_takesStart 21 = .ok (.iaload, 1) := by decide +kernel
theorem dX10_takesStart_22 : decode cX10_takesStart 22 = .ok (.iastore, 1) := by decide +kernel
theorem dX10_takesStart_23 : decode cX10_takesStart 23 = .ok (.iinc 1 1, 3) := by decide +kernel
theorem dX10_takesStart_26 : decode cX10_takesStart 26 = .ok (.goto (-24), 3) := by decide +kernel
theorem dX10_takesStart_29 : decode cX10_takesStart 29 = .ok (.return_, 1) := by decide +kernel
def fX10_takesStart_2  : Nat → Nat → Int32 → hp_T → Option hp_T
  | 0, _, _, _ => none
  | n + 1, a0, a1, h => if (12 : Int32) ≤ a1 then (some h) else (fx_g (fx_in ((9 : Int32) + a1) 117) (fx_g (fx_in a1 12) (fx_let (hp_sI h (h.2.2 a0 24) (fx_ix a1) (h.1 (h.2.2 a0 3) (fx_ix ((9 : Int32) + a1)))) fun (h22 : hp_T) => fx_let (a1 + (1 : Int32)) fun (x23 : Int32) => fX10_takesStart_2 n a0 x23 h22)))
set_option maxRecDepth 100000 in
set_option maxHeartbeats 4000000 in
theorem bX10_takesStart_2 {l : Launch} {G : xr_G} {K : xr_K} {h1 : hp_T} (C : xr_C G K cX10_takesStart RX10 2 (xr_R 0 0) none (some (xr_Qv G h1)))  : ∀ (n : Nat) (a0 : Nat) (a1 : Int32) (ta0 : hp_sh a0 = (10, 0)) (h : hp_T), fX10_takesStart_2 n a0 a1 h = some h1 → xr_j l G K 2 h [(0, .ref (G.2.2.1 a0)), (1, .int a1)] 2 [] := by
  intro n
  induction n with
  | zero =>
    intro a0 a1 ta0 h hF
    cases hF
  | succ n ih =>
    intro a0 a1 ta0 h hF
    rw [fX10_takesStart_2] at hF
    refine xr_iload_n C 1 dX10_takesStart_2 rfl rfl ?_
    refine xr_bipush (v := 12) C dX10_takesStart_3 (by decide) ?_
    refine xr_icmp_ge C 29 dX10_takesStart_5 (by decide) (fun c5 => ?_) (fun c5 => ?_)
    · have hF := fx_pos hF c5
      cases hF
      exact xr_vret C dX10_takesStart_29
    · have hF := fx_neg hF c5
      refine xr_aload_n C 0 dX10_takesStart_8 rfl rfl ?_
      refine xr_getr C flX10_45 rfl (by decide) dX10_takesStart_9 ta0 (fun t9 => ?_)
      refine xr_iload_n C 1 dX10_takesStart_12 rfl rfl ?_
      refine xr_aload_n C 0 dX10_takesStart_13 rfl rfl ?_
      refine xr_getr C flX10_13 rfl (by decide) dX10_takesStart_14 ta0 (fun t14 => ?_)
      refine xr_bipush (v := 9) C dX10_takesStart_17 (by decide) ?_
      refine xr_iload_n C 1 dX10_takesStart_19 rfl rfl ?_
      refine xr_iadd C dX10_takesStart_20 ?_
      obtain ⟨g21, hF⟩ := fx_gE hF
      refine xr_iald C dX10_takesStart_21 t14 g21 ?_
      obtain ⟨g22, hF⟩ := fx_gE hF
      refine xr_iast C dX10_takesStart_22 t9 g22 (fun h22 e22 => ?_)
      have hF := fx_letE hF h22 e22
      obtain ⟨x23, e23⟩ : ∃ y : Int32, y = (a1 + (1 : Int32)) := ⟨_, rfl⟩
      have hF := fx_letE hF x23 e23
      refine xr_iinc C x23 1 [(1, .int x23), (0, .ref (G.2.2.1 a0))] dX10_takesStart_23 rfl (by rw [e23]; rfl) (Nat.le_of_ble_eq_true rfl) rfl ?_
      refine xr_goto C 2 dX10_takesStart_26 (by decide) ?_
      refine xr_sub [1, 0] [(0, .ref (G.2.2.1 a0)), (1, .int x23)] rfl ?_
      exact ih a0 x23 ta0 h22 hF
def fX10_takesStart (a0 : Nat) (h : hp_T) : Option hp_T := fX10_takesStart_2 fx_N a0 (0 : Int32) h
set_option maxRecDepth 100000 in
set_option maxHeartbeats 4000000 in
theorem mX10_takesStart (l : Launch) (G : xr_G) (a0 : Nat) (ta0 : hp_sh a0 = (10, 0)) (h h1 : hp_T) (hF : fX10_takesStart a0 h = some h1) : xr_M l G yX10_takesStart cX10_takesStart 2 (xr_R 0 0) none [.ref (G.2.2.1 a0)] h (xr_Qv G h1) := by
  refine xr_start rfl (Nat.le_of_ble_eq_true rfl) (fun K C => ?_)
  show xr_j l G K 2 h [(0, .ref (G.2.2.1 a0))] 0 []
  unfold fX10_takesStart at hF
  refine xr_iconst (v := 0) C dX10_takesStart_0 (by decide) ?_
  refine xr_istore_n C [(1, .int (0 : Int32)), (0, .ref (G.2.2.1 a0))] dX10_takesStart_1 rfl (Nat.le_of_ble_eq_true rfl) rfl ?_
  refine xr_sub [1, 0] [(0, .ref (G.2.2.1 a0)), (1, .int (0 : Int32))] rfl ?_
  exact bX10_takesStart_2 C  fx_N a0 (0 : Int32) ta0 h hF
theorem dX10_sixWorth_0 : decode cX10_sixWorth 0 = .ok (.iconst 0, 1) := by decide +kernel
theorem dX10_sixWorth_1 : decode cX10_sixWorth 1 = .ok (.istore_n 3, 1) := by decide +kernel
theorem dX10_sixWorth_2 : decode cX10_sixWorth 2 = .ok (.iconst 1, 1) := by decide +kernel
theorem dX10_sixWorth_3 : decode cX10_sixWorth 3 = .ok (.istore 4, 2) := by decide +kernel
theorem dX10_sixWorth_5 : decode cX10_sixWorth 5 = .ok (.iload 4, 2) := by decide +kernel
theorem dX10_sixWorth_7 : decode cX10_sixWorth 7 = .ok (.bipush 6, 2) := by decide +kernel
theorem dX10_sixWorth_9 : decode cX10_sixWorth 9 = .ok (.if_icmp .gt 54, 3) := by decide +kernel
theorem dX10_sixWorth_12 : decode cX10_sixWorth 12 = .ok (.aload_n 0, 1) := by decide +kernel
theorem dX10_sixWorth_13 : decode cX10_sixWorth 13 = .ok (.getfield 45, 3) := by decide +kernel
theorem dX10_sixWorth_16 : decode cX10_sixWorth 16 = .ok (.iload_n 1, 1) := by decide +kernel
theorem dX10_sixWorth_17 : decode cX10_sixWorth 17 = .ok (.iload 4, 2) := by decide +kernel
theorem dX10_sixWorth_19 : decode cX10_sixWorth 19 = .ok (.iconst 1, 1) := by decide +kernel
theorem dX10_sixWorth_20 : decode cX10_sixWorth 20 = .ok (.isub, 1) := by decide +kernel
theorem dX10_sixWorth_21 : decode cX10_sixWorth 21 = .ok (.iload_n 2, 1) := by decide +kernel
theorem dX10_sixWorth_22 : decode cX10_sixWorth 22 = .ok (.iadd, 1) := by decide +kernel
theorem dX10_sixWorth_23 : decode cX10_sixWorth 23 = .ok (.bipush 6, 2) := by decide +kernel
theorem dX10_sixWorth_25 : decode cX10_sixWorth 25 = .ok (.irem, 1) := by decide +kernel
theorem dX10_sixWorth_26 : decode cX10_sixWorth 26 = .ok (.bipush 6, 2) := by decide +kernel
theorem dX10_sixWorth_28 : decode cX10_sixWorth 28 = .ok (.invokestatic 167, 3) := by decide +kernel
theorem dX10_sixWorth_31 : decode cX10_sixWorth 31 = .ok (.iaload, 1) := by decide +kernel
theorem dX10_sixWorth_32 : decode cX10_sixWorth 32 = .ok (.istore 5, 2) := by decide +kernel
theorem dX10_sixWorth_34 : decode cX10_sixWorth 34 = .ok (.iload_n 3, 1) := by decide +kernel
theorem dX10_sixWorth_35 : decode cX10_sixWorth 35 = .ok (.aload_n 0, 1) := by decide +kernel
theorem dX10_sixWorth_36 : decode cX10_sixWorth 36 = .ok (.iload_n 1, 1) := by decide +kernel
theorem dX10_sixWorth_37 : decode cX10_sixWorth 37 = .ok (.iload 5, 2) := by decide +kernel
theorem dX10_sixWorth_39 : decode cX10_sixWorth 39 = .ok (.iload 4, 2) := by decide +kernel
theorem dX10_sixWorth_41 : decode cX10_sixWorth 41 = .ok (.invokestatic 177, 3) := by decide +kernel
theorem dX10_sixWorth_44 : decode cX10_sixWorth 44 = .ok (.ifCond .eq 7, 3) := by decide +kernel
theorem dX10_sixWorth_47 : decode cX10_sixWorth 47 = .ok (.iconst 1, 1) := by decide +kernel
theorem dX10_sixWorth_48 : decode cX10_sixWorth 48 = .ok (.goto 4, 3) := by decide +kernel
theorem dX10_sixWorth_51 : decode cX10_sixWorth 51 = .ok (.iconst 2, 1) := by decide +kernel
theorem dX10_sixWorth_52 : decode cX10_sixWorth 52 = .ok (.invokevirtual 196, 3) := by decide +kernel
theorem dX10_sixWorth_55 : decode cX10_sixWorth 55 = .ok (.iadd, 1) := by decide +kernel
theorem dX10_sixWorth_56 : decode cX10_sixWorth 56 = .ok (.istore_n 3, 1) := by decide +kernel
theorem dX10_sixWorth_57 : decode cX10_sixWorth 57 = .ok (.iinc 4 1, 3) := by decide +kernel
theorem dX10_sixWorth_60 : decode cX10_sixWorth 60 = .ok (.goto (-55), 3) := by decide +kernel
theorem dX10_sixWorth_63 : decode cX10_sixWorth 63 = .ok (.iload_n 3, 1) := by decide +kernel
theorem dX10_sixWorth_64 : decode cX10_sixWorth 64 = .ok (.ireturn, 1) := by decide +kernel
def fX10_sixWorth_52 (k5 : Nat → Int32 → Int32 → Int32 → Int32 → hp_T → Option (Int32 × hp_T)) (a0 : Nat) (a1 : Int32) (a2 : Int32) (a4 : Int32) (s0 : Int32) (s1 : Nat) (s2 : Int32) (s3 : Int32) (s4 : Int32) (h : hp_T) : Option (Int32 × hp_T) := fx_b2 (fX10_skill s1 s2 s3 s4 h) fun (r52 : Int32) (h52 : hp_T) => fx_let (s0 + r52) fun (x56 : Int32) => fx_let (a4 + (1 : Int32)) fun (x57 : Int32) => k5 a0 a1 a2 x56 x57 h52
set_option maxRecDepth 100000 in
set_option maxHeartbeats 4000000 in
theorem bX10_sixWorth_52 {l : Launch} {G : xr_G} {K : xr_K} {r : Int32} {h1 : hp_T} (C : xr_C G K cX10_sixWorth RX10 6 (xr_R 2 45) (some .int) (some (xr_Qi G r h1))) (k5 : Nat → Int32 → Int32 → Int32 → Int32 → hp_T → Option (Int32 × hp_T)) (j5 : ∀ (a0 : Nat) (a1 : Int32) (a2 : Int32) (a3 : Int32) (a4 : Int32) (ta0 : hp_sh a0 = (10, 0)) (h : hp_T), k5 a0 a1 a2 a3 a4 h = some (r, h1) → xr_j l G K 6 h [(0, .ref (G.2.2.1 a0)), (1, .int a1), (2, .int a2), (3, .int a3), (4, .int a4)] 5 []) (a0 : Nat) (a1 : Int32) (a2 : Int32) (a4 : Int32) (s0 : Int32) (s1 : Nat) (s2 : Int32) (s3 : Int32) (s4 : Int32) (ta0 : hp_sh a0 = (10, 0)) (ts1 : hp_sh s1 = (10, 0)) (h : hp_T) (hF : fX10_sixWorth_52 k5 a0 a1 a2 a4 s0 s1 s2 s3 s4 h = some (r, h1)) : xr_j l G K 6 h [(0, .ref (G.2.2.1 a0)), (1, .int a1), (2, .int a2), (4, .int a4)] 52 [.int s4, .int s3, .int s2, .ref (G.2.2.1 s1), .int s0] := by
  unfold fX10_sixWorth_52 at hF
  obtain ⟨r52, h52, e52, hF⟩ := fx_b2E hF
  refine xr_callVi C mvX10_196 [.int s2, .int s3, .int s4] [.int s0] (mX10_skill l G s1 s2 s3 s4 ts1 h h52 r52 e52) ts1 (by decide) vc10 rfl ⟨rfl, rfl, (Nat.le_of_ble_eq_true rfl), (Nat.le_of_ble_eq_true rfl)⟩ rfl (Nat.le_of_ble_eq_true rfl) dX10_sixWorth_52 ?_
  refine xr_iadd C dX10_sixWorth_55 ?_
  refine xr_topi (fun x56 e56 => ?_)
  have hF := fx_letE hF x56 e56
  refine xr_istore_n C [(3, .int x56), (0, .ref (G.2.2.1 a0)), (1, .int a1), (2, .int a2), (4, .int a4)] dX10_sixWorth_56 rfl (Nat.le_of_ble_eq_true rfl) rfl ?_
  obtain ⟨x57, e57⟩ : ∃ y : Int32, y = (a4 + (1 : Int32)) := ⟨_, rfl⟩
  have hF := fx_letE hF x57 e57
  refine xr_iinc C x57 4 [(4, .int x57), (3, .int x56), (0, .ref (G.2.2.1 a0)), (1, .int a1), (2, .int a2)] dX10_sixWorth_57 rfl (by rw [e57]; rfl) (Nat.le_of_ble_eq_true rfl) rfl ?_
  refine xr_goto C 5 dX10_sixWorth_60 (by decide) ?_
  refine xr_sub [2, 3, 4, 1, 0] [(0, .ref (G.2.2.1 a0)), (1, .int a1), (2, .int a2), (3, .int x56), (4, .int x57)] rfl ?_
  exact j5 a0 a1 a2 x56 x57 ta0 h52 hF
def fX10_sixWorth_5  : Nat → Nat → Int32 → Int32 → Int32 → Int32 → hp_T → Option (Int32 × hp_T)
  | 0, _, _, _, _, _, _ => none
  | n + 1, a0, a1, a2, a3, a4, h => if (6 : Int32) < a4 then (some (a3, h)) else (fx_b2 (fX10_two a1 (fx_rem ((a4 - (1 : Int32)) + a2) (6 : Int32)) (6 : Int32) h) fun (r28 : Int32) (h28 : hp_T) => fx_g (fx_in r28 12) (fx_let (h28.1 (h.2.2 a0 24) (fx_ix r28)) fun (x32 : Int32) => fx_b2 (fX10_isFront a4 h28) fun (r41 : Int32) (h41 : hp_T) => if r41 = 0 then (fX10_sixWorth_52 (fX10_sixWorth_5 n) a0 a1 a2 a4 a3 a0 a1 x32 (2 : Int32) h41) else (fX10_sixWorth_52 (fX10_sixWorth_5 n) a0 a1 a2 a4 a3 a0 a1 x32 (1 : Int32) h41)))
set_option maxRecDepth 100000 in
set_option maxHeartbeats 4000000 in
theorem bX10_sixWorth_5 {l : Launch} {G : xr_G} {K : xr_K} {r : Int32} {h1 : hp_T} (C : xr_C G K cX10_sixWorth RX10 6 (xr_R 2 45) (some .int) (some (xr_Qi G r h1)))  : ∀ (n : Nat) (a0 : Nat) (a1 : Int32) (a2 : Int32) (a3 : Int32) (a4 : Int32) (ta0 : hp_sh a0 = (10, 0)) (h : hp_T), fX10_sixWorth_5 n a0 a1 a2 a3 a4 h = some (r, h1) → xr_j l G K 6 h [(0, .ref (G.2.2.1 a0)), (1, .int a1), (2, .int a2), (3, .int a3), (4, .int a4)] 5 [] := by
  intro n
  induction n with
  | zero =>
    intro a0 a1 a2 a3 a4 ta0 h hF
    cases hF
  | succ n ih =>
    intro a0 a1 a2 a3 a4 ta0 h hF
    rw [fX10_sixWorth_5] at hF
    refine xr_iload C 4 dX10_sixWorth_5 rfl ?_
    refine xr_bipush (v := 6) C dX10_sixWorth_7 (by decide) ?_
    refine xr_icmp_gt C 63 dX10_sixWorth_9 (by decide) (fun c9 => ?_) (fun c9 => ?_)
    · have hF := fx_pos hF c9
      refine xr_iload_n C 3 dX10_sixWorth_63 rfl rfl ?_
      cases hF
      exact xr_iret C dX10_sixWorth_64
    · have hF := fx_neg hF c9
      refine xr_aload_n C 0 dX10_sixWorth_12 rfl rfl ?_
      refine xr_getr C flX10_45 rfl (by decide) dX10_sixWorth_13 ta0 (fun t13 => ?_)
      refine xr_iload_n C 1 dX10_sixWorth_16 rfl rfl ?_
      refine xr_iload C 4 dX10_sixWorth_17 rfl ?_
      refine xr_iconst (v := 1) C dX10_sixWorth_19 (by decide) ?_
      refine xr_isub C dX10_sixWorth_20 ?_
      refine xr_iload_n C 2 dX10_sixWorth_21 rfl rfl ?_
      refine xr_iadd C dX10_sixWorth_22 ?_
      refine xr_bipush (v := 6) C dX10_sixWorth_23 (by decide) ?_
      refine xr_irem C dX10_sixWorth_25 (by decide) ?_
      refine xr_bipush (v := 6) C dX10_sixWorth_26 (by decide) ?_
      obtain ⟨r28, h28, e28, hF⟩ := fx_b2E hF
      refine xr_callSi C mvX10_167 [.int a1, .int (fx_rem ((a4 - (1 : Int32)) + a2) (6 : Int32)), .int (6 : Int32)] [.ref (G.2.2.1 (h.2.2 a0 24))] (mX10_two l G a1 (fx_rem ((a4 - (1 : Int32)) + a2) (6 : Int32)) (6 : Int32)  h h28 r28 e28) rfl ⟨rfl, rfl, (Nat.le_of_ble_eq_true rfl), (Nat.le_of_ble_eq_true rfl)⟩ rfl (Nat.le_of_ble_eq_true rfl) dX10_sixWorth_28 ?_
      obtain ⟨g31, hF⟩ := fx_gE hF
      refine xr_iald C dX10_sixWorth_31 t13 g31 ?_
      refine xr_topi (fun x32 e32 => ?_)
      have hF := fx_letE hF x32 e32
      refine xr_istore C [(5, .int x32), (0, .ref (G.2.2.1 a0)), (1, .int a1), (2, .int a2), (3, .int a3), (4, .int a4)] dX10_sixWorth_32 (Nat.le_of_ble_eq_true rfl) rfl ?_
      refine xr_iload_n C 4 dX10_sixWorth_34 rfl rfl ?_
      refine xr_aload_n C 1 dX10_sixWorth_35 rfl rfl ?_
      refine xr_iload_n C 2 dX10_sixWorth_36 rfl rfl ?_
      refine xr_iload C 0 dX10_sixWorth_37 rfl ?_
      refine xr_iload C 5 dX10_sixWorth_39 rfl ?_
      obtain ⟨r41, h41, e41, hF⟩ := fx_b2E hF
      refine xr_callSi C mvX10_177 [.int a4] [.int x32, .int a1, .ref (G.2.2.1 a0), .int a3] (mX10_isFront l G a4  h28 h41 r41 e41) rfl ⟨rfl, rfl, (Nat.le_of_ble_eq_true rfl), (Nat.le_of_ble_eq_true rfl)⟩ rfl (Nat.le_of_ble_eq_true rfl) dX10_sixWorth_41 ?_
      refine xr_if_eq C 51 dX10_sixWorth_44 (by decide) (fun c44 => ?_) (fun c44 => ?_)
      · have hF := fx_pos hF c44
        refine xr_iconst (v := 2) C dX10_sixWorth_51 (by decide) ?_
        refine xr_sub [1, 2, 3, 5] [(0, .ref (G.2.2.1 a0)), (1, .int a1), (2, .int a2), (4, .int a4)] rfl ?_
        exact bX10_sixWorth_52 C (fX10_sixWorth_5 n) (fun a0 a1 a2 a3 a4 ta0 h hF => ih a0 a1 a2 a3 a4 ta0 h hF)  a0 a1 a2 a4 a3 a0 a1 x32 (2 : Int32) ta0 ta0 h41 hF
      · have hF := fx_neg hF c44
        refine xr_iconst (v := 1) C dX10_sixWorth_47 (by decide) ?_
        refine xr_goto C 52 dX10_sixWorth_48 (by decide) ?_
        refine xr_sub [1, 2, 3, 5] [(0, .ref (G.2.2.1 a0)), (1, .int a1), (2, .int a2), (4, .int a4)] rfl ?_
        exact bX10_sixWorth_52 C (fX10_sixWorth_5 n) (fun a0 a1 a2 a3 a4 ta0 h hF => ih a0 a1 a2 a3 a4 ta0 h hF)  a0 a1 a2 a4 a3 a0 a1 x32 (1 : Int32) ta0 ta0 h41 hF
def fX10_sixWorth (a0 : Nat) (a1 : Int32) (a2 : Int32) (h : hp_T) : Option (Int32 × hp_T) := fX10_sixWorth_5 fx_N a0 a1 a2 (0 : Int32) (1 : Int32) h
set_option maxRecDepth 100000 in
set_option maxHeartbeats 4000000 in
theorem mX10_sixWorth (l : Launch) (G : xr_G) (a0 : Nat) (a1 : Int32) (a2 : Int32) (ta0 : hp_sh a0 = (10, 0)) (h h1 : hp_T) (r : Int32) (hF : fX10_sixWorth a0 a1 a2 h = some (r, h1)) : xr_M l G yX10_sixWorth cX10_sixWorth 6 (xr_R 2 45) (some .int) [.ref (G.2.2.1 a0), .int a1, .int a2] h (xr_Qi G r h1) := by
  refine xr_start rfl (Nat.le_of_ble_eq_true rfl) (fun K C => ?_)
  show xr_j l G K 6 h [(0, .ref (G.2.2.1 a0)), (1, .int a1), (2, .int a2)] 0 []
  unfold fX10_sixWorth at hF
  refine xr_iconst (v := 0) C dX10_sixWorth_0 (by decide) ?_
  refine xr_istore_n C [(3, .int (0 : Int32)), (0, .ref (G.2.2.1 a0)), (1, .int a1), (2, .int a2)] dX10_sixWorth_1 rfl (Nat.le_of_ble_eq_true rfl) rfl ?_
  refine xr_iconst (v := 1) C dX10_sixWorth_2 (by decide) ?_
  refine xr_istore C [(4, .int (1 : Int32)), (3, .int (0 : Int32)), (0, .ref (G.2.2.1 a0)), (1, .int a1), (2, .int a2)] dX10_sixWorth_3 (Nat.le_of_ble_eq_true rfl) rfl ?_
  refine xr_sub [2, 3, 4, 1, 0] [(0, .ref (G.2.2.1 a0)), (1, .int a1), (2, .int a2), (3, .int (0 : Int32)), (4, .int (1 : Int32))] rfl ?_
  exact bX10_sixWorth_5 C  fx_N a0 a1 a2 (0 : Int32) (1 : Int32) ta0 h hF
theorem dX10_chanceOf_0 : decode cX10_chanceOf 0 = .ok (.iload_n 3, 1) := by decide +kernel
theorem dX10_chanceOf_1 : decode cX10_chanceOf 1 = .ok (.ifCond .ne 7, 3) := by decide +kernel
theorem dX10_chanceOf_4 : decode cX10_chanceOf 4 = .ok (.iload_n 1, 1) := by decide +kernel
theorem dX10_chanceOf_5 : decode cX10_chanceOf 5 = .ok (.goto 4, 3) := by decide +kernel
theorem dX10_chanceOf_8 : decode cX10_chanceOf 8 = .ok (.iload_n 2, 1) := by decide +kernel
theorem dX10_chanceOf_9 : decode cX10_chanceOf 9 = .ok (.istore 4, 2) := by decide +kernel
theorem dX10_chanceOf_11 : decode cX10_chanceOf 11 = .ok (.iload_n 3, 1) := by decide +kernel
theorem dX10_chanceOf_12 : decode cX10_chanceOf 12 = .ok (.ifCond .ne 7, 3) := by decide +kernel
theorem dX10_chanceOf_15 : decode cX10_chanceOf 15 = .ok (.iload_n 2, 1) := by decide +kernel
theorem dX10_chanceOf_16 : decode cX10_chanceOf 16 = .ok (.goto 4, 3) := by decide +kernel
theorem dX10_chanceOf_19 : decode cX10_chanceOf 19 = .ok (.iload_n 1, 1) := by decide +kernel
theorem dX10_chanceOf_20 : decode cX10_chanceOf 20 = .ok (.istore 5, 2) := by decide +kernel
theorem dX10_chanceOf_22 : decode cX10_chanceOf 22 = .ok (.aload_n 0, 1) := by decide +kernel
theorem dX10_chanceOf_23 : decode cX10_chanceOf 23 = .ok (.getfield 45, 3) := by decide +kernel
theorem dX10_chanceOf_26 : decode cX10_chanceOf 26 = .ok (.iload_n 3, 1) := by decide +kernel
theorem dX10_chanceOf_27 : decode cX10_chanceOf 27 = .ok (.iload 4, 2) := by decide +kernel
theorem dX10_chanceOf_29 : decode cX10_chanceOf 29 = .ok (.bipush 6, 2) := by decide +kernel
theorem dX10_chanceOf_31 : decode cX10_chanceOf 31 = .ok (.irem, 1) := by decide +kernel
theorem dX10_chanceOf_32 : decode cX10_chanceOf 32 = .ok (.bipush 6, 2) := by decide +kernel
theorem dX10_chanceOf_34 : decode cX10_chanceOf 34 = .ok (.invokestatic 167, 3) := by decide +kernel
theorem dX10_chanceOf_37 : decode cX10_chanceOf 37 = .ok (.iaload, 1) := by decide +kernel
theorem dX10_chanceOf_38 : decode cX10_chanceOf 38 = .ok (.istore 6, 2) := by decide +kernel
theorem dX10_chanceOf_40 : decode cX10_chanceOf 40 = .ok (.sipush 500, 3) := by decide +kernel
theorem dX10_chanceOf_43 : decode cX10_chanceOf 43 = .ok (.aload_n 0, 1) := by decide +kernel
theorem dX10_chanceOf_44 : decode cX10_chanceOf 44 = .ok (.iload_n 3, 1) := by decide +kernel
theorem dX10_chanceOf_45 : decode cX10_chanceOf 45 = .ok (.iload 6, 2) := by decide +kernel
theorem dX10_chanceOf_47 : decode cX10_chanceOf 47 = .ok (.iconst 0, 1) := by decide +kernel
theorem dX10_chanceOf_48 : decode cX10_chanceOf 48 = .ok (.invokevirtual 196, 3) := by decide +kernel
theorem dX10_chanceOf_51 : decode cX10_chanceOf 51 = .ok (.iadd, 1) := by decide +kernel
theorem dX10_chanceOf_52 : decode cX10_chanceOf 52 = .ok (.aload_n 0, 1) := by decide +kernel
theorem dX10_chanceOf_53 : decode cX10_chanceOf 53 = .ok (.iload_n 3, 1) := by decide +kernel
theorem dX10_chanceOf_54 : decode cX10_chanceOf 54 = .ok (.iload 4, 2) := by decide +kernel
theorem dX10_chanceOf_56 : decode cX10_chanceOf 56 = .ok (.invokevirtual 250, 3) := by decide +kernel
theorem dX10_chanceOf_59 : decode cX10_chanceOf 59 = .ok (.iadd, 1) := by decide +kernel
theorem dX10_chanceOf_60 : decode cX10_chanceOf 60 = .ok (.aload_n 0, 1) := by decide +kernel
theorem dX10_chanceOf_61 : decode cX10_chanceOf 61 = .ok (.iconst 1, 1) := by decide +kernel
theorem dX10_chanceOf_62 : decode cX10_chanceOf 62 = .ok (.iload_n 3, 1) := by decide +kernel
theorem dX10_chanceOf_63 : decode cX10_chanceOf 63 = .ok (.isub, 1) := by decide +kernel
theorem dX10_chanceOf_64 : decode cX10_chanceOf 64 = .ok (.iload 5, 2) := by decide +kernel
theorem dX10_chanceOf_66 : decode cX10_chanceOf 66 = .ok (.invokevirtual 250, 3) := by decide +kernel
theorem dX10_chanceOf_69 : decode cX10_chanceOf 69 = .ok (.isub, 1) := by decide +kernel
theorem dX10_chanceOf_70 : decode cX10_chanceOf 70 = .ok (.aload_n 0, 1) := by decide +kernel
theorem dX10_chanceOf_71 : decode cX10_chanceOf 71 = .ok (.getfield 13, 3) := by decide +kernel
theorem dX10_chanceOf_74 : decode cX10_chanceOf 74 = .ok (.iconst 2, 1) := by decide +kernel
theorem dX10_chanceOf_75 : decode cX10_chanceOf 75 = .ok (.iaload, 1) := by decide +kernel
theorem dX10_chanceOf_76 : decode cX10_chanceOf 76 = .ok (.isub, 1) := by decide +kernel
theorem dX10_chanceOf_77 : decode cX10_chanceOf 77 = .ok (.istore 7, 2) := by decide +kernel
theorem dX10_chanceOf_79 : decode cX10_chanceOf 79 = .ok (.iload 7, 2) := by decide +kernel
theorem dX10_chanceOf_81 : decode cX10_chanceOf 81 = .ok (.bipush 50, 2) := by decide +kernel
theorem dX10_chanceOf_83 : decode cX10_chanceOf 83 = .ok (.if_icmp .ge 8, 3) := by decide +kernel
theorem dX10_chanceOf_86 : decode cX10_chanceOf 86 = .ok (.bipush 50, 2) := by decide +kernel
theorem dX10_chanceOf_88 : decode cX10_chanceOf 88 = .ok (.goto 19, 3) := by decide +kernel
theorem dX10_chanceOf_91 : decode cX10_chanceOf 91 = .ok (.iload 7, 2) := by decide +kernel
theorem dX10_chanceOf_93 : decode cX10_chanceOf 93 = .ok (.sipush 950, 3) := by decide +kernel
theorem dX10_chanceOf_96 : decode cX10_chanceOf 96 = .ok (.if_icmp .le 9, 3) := by decide +kernel
theorem dX10_chanceOf_99 : decode cX10_chanceOf 99 = .ok (.sipush 950, 3) := by decide +kernel
theorem dX10_chanceOf_102 : decode cX10_chanceOf 102 = .ok (.goto 5, 3) := by decide +kernel
theorem dX10_chanceOf_105 : decode cX10_chanceOf 105 = .ok (.iload 7, 2) := by decide +kernel
theorem dX10_chanceOf_107 : decode cX10_chanceOf 107 = .ok (.ireturn, 1) := by decide +kernel
def fX10_chanceOf_20  (a0 : Nat) (a3 : Int32) (a4 : Int32) (s0 : Int32) (h : hp_T) : Option (Int32 × hp_T) := fx_b2 (fX10_two a3 (fx_rem a4 (6 : Int32)) (6 : Int32) h) fun (r34 : Int32) (h34 : hp_T) => fx_g (fx_in r34 12) (fx_let (h34.1 (h.2.2 a0 24) (fx_ix r34)) fun (x38 : Int32) => fx_b2 (fX10_skill a0 a3 x38 (0 : Int32) h34) fun (r48 : Int32) (h48 : hp_T) => fx_b2 (fX10_sixWorth a0 a3 a4 h48) fun (r56 : Int32) (h56 : hp_T) => fx_b2 (fX10_sixWorth a0 ((1 : Int32) - a3) s0 h56) fun (r66 : Int32) (h66 : hp_T) => fx_let (((((500 : Int32) + r48) + r56) - r66) - (h66.1 (h66.2.2 a0 3) (fx_ix (2 : Int32)))) fun (x77 : Int32) => if (50 : Int32) ≤ x77 then (if x77 ≤ (950 : Int32) then (some (x77, h66)) else (some ((950 : Int32), h66))) else (some ((50 : Int32), h66)))
set_option maxRecDepth 100000 in
set_option maxHeartbeats 4000000 in
theorem bX10_chanceOf_20 {l : Launch} {G : xr_G} {K : xr_K} {r : Int32} {h1 : hp_T} (C : xr_C G K cX10_chanceOf RX10 8 (xr_R 3 70) (some .int) (some (xr_Qi G r h1)))  (a0 : Nat) (a3 : Int32) (a4 : Int32) (s0 : Int32) (ta0 : hp_sh a0 = (10, 0)) (h : hp_T) (hF : fX10_chanceOf_20 a0 a3 a4 s0 h = some (r, h1)) : xr_j l G K 8 h [(0, .ref (G.2.2.1 a0)), (3, .int a3), (4, .int a4)] 20 [.int s0] := by
  unfold fX10_chanceOf_20 at hF
  refine xr_istore C [(5, .int s0), (0, .ref (G.2.2.1 a0)), (3, .int a3), (4, .int a4)] dX10_chanceOf_20 (Nat.le_of_ble_eq_true rfl) rfl ?_
  refine xr_aload_n C 1 dX10_chanceOf_22 rfl rfl ?_
  refine xr_getr C flX10_45 rfl (by decide) dX10_chanceOf_23 ta0 (fun t23 => ?_)
  refine xr_iload_n C 2 dX10_chanceOf_26 rfl rfl ?_
  refine xr_iload C 3 dX10_chanceOf_27 rfl ?_
  refine xr_bipush (v := 6) C dX10_chanceOf_29 (by decide) ?_
  refine xr_irem C dX10_chanceOf_31 (by decide) ?_
  refine xr_bipush (v := 6) C dX10_chanceOf_32 (by decide) ?_
  obtain ⟨r34, h34, e34, hF⟩ := fx_b2E hF
  refine xr_callSi C mvX10_167 [.int a3, .int (fx_rem a4 (6 : Int32)), .int (6 : Int32)] [.ref (G.2.2.1 (h.2.2 a0 24))] (mX10_two l G a3 (fx_rem a4 (6 : Int32)) (6 : Int32)  h h34 r34 e34) rfl ⟨rfl, rfl, (Nat.le_of_ble_eq_true rfl), (Nat.le_of_ble_eq_true rfl)⟩ rfl (Nat.le_of_ble_eq_true rfl) dX10_chanceOf_34 ?_
  obtain ⟨g37, hF⟩ := fx_gE hF
  refine xr_iald C dX10_chanceOf_37 t23 g37 ?_
  refine xr_topi (fun x38 e38 => ?_)
  have hF := fx_letE hF x38 e38
  refine xr_istore C [(6, .int x38), (5, .int s0), (0, .ref (G.2.2.1 a0)), (3, .int a3), (4, .int a4)] dX10_chanceOf_38 (Nat.le_of_ble_eq_true rfl) rfl ?_
  refine xr_sipush (v := 500) C dX10_chanceOf_40 (by decide) ?_
  refine xr_aload_n C 2 dX10_chanceOf_43 rfl rfl ?_
  refine xr_iload_n C 3 dX10_chanceOf_44 rfl rfl ?_
  refine xr_iload C 0 dX10_chanceOf_45 rfl ?_
  refine xr_iconst (v := 0) C dX10_chanceOf_47 (by decide) ?_
  obtain ⟨r48, h48, e48, hF⟩ := fx_b2E hF
  refine xr_callVi C mvX10_196 [.int a3, .int x38, .int (0 : Int32)] [.int (500 : Int32)] (mX10_skill l G a0 a3 x38 (0 : Int32) ta0 h34 h48 r48 e48) ta0 (by decide) vc10 rfl ⟨rfl, rfl, (Nat.le_of_ble_eq_true rfl), (Nat.le_of_ble_eq_true rfl)⟩ rfl (Nat.le_of_ble_eq_true rfl) dX10_chanceOf_48 ?_
  refine xr_iadd C dX10_chanceOf_51 ?_
  refine xr_aload_n C 2 dX10_chanceOf_52 rfl rfl ?_
  refine xr_iload_n C 3 dX10_chanceOf_53 rfl rfl ?_
  refine xr_iload C 4 dX10_chanceOf_54 rfl ?_
  obtain ⟨r56, h56, e56, hF⟩ := fx_b2E hF
  refine xr_callVi C mvX10_250 [.int a3, .int a4] [.int ((500 : Int32) + r48)] (mX10_sixWorth l G a0 a3 a4 ta0 h48 h56 r56 e56) ta0 (by decide) vc10 rfl ⟨rfl, rfl, (Nat.le_of_ble_eq_true rfl), (Nat.le_of_ble_eq_true rfl)⟩ rfl (Nat.le_of_ble_eq_true rfl) dX10_chanceOf_56 ?_
  refine xr_iadd C dX10_chanceOf_59 ?_
  refine xr_aload_n C 2 dX10_chanceOf_60 rfl rfl ?_
  refine xr_iconst (v := 1) C dX10_chanceOf_61 (by decide) ?_
  refine xr_iload_n C 3 dX10_chanceOf_62 rfl rfl ?_
  refine xr_isub C dX10_chanceOf_63 ?_
  refine xr_iload C 1 dX10_chanceOf_64 rfl ?_
  obtain ⟨r66, h66, e66, hF⟩ := fx_b2E hF
  refine xr_callVi C mvX10_250 [.int ((1 : Int32) - a3), .int s0] [.int (((500 : Int32) + r48) + r56)] (mX10_sixWorth l G a0 ((1 : Int32) - a3) s0 ta0 h56 h66 r66 e66) ta0 (by decide) vc10 rfl ⟨rfl, rfl, (Nat.le_of_ble_eq_true rfl), (Nat.le_of_ble_eq_true rfl)⟩ rfl (Nat.le_of_ble_eq_true rfl) dX10_chanceOf_66 ?_
  refine xr_isub C dX10_chanceOf_69 ?_
  refine xr_aload_n C 2 dX10_chanceOf_70 rfl rfl ?_
  refine xr_getr C flX10_13 rfl (by decide) dX10_chanceOf_71 ta0 (fun t71 => ?_)
  refine xr_iconst (v := 2) C dX10_chanceOf_74 (by decide) ?_
  refine xr_iald C dX10_chanceOf_75 t71 (by decide) ?_
  refine xr_isub C dX10_chanceOf_76 ?_
  refine xr_topi (fun x77 e77 => ?_)
  have hF := fx_letE hF x77 e77
  refine xr_istore C [(7, .int x77), (6, .int x38), (5, .int s0), (0, .ref (G.2.2.1 a0)), (3, .int a3), (4, .int a4)] dX10_chanceOf_77 (Nat.le_of_ble_eq_true rfl) rfl ?_
  refine xr_iload C 0 dX10_chanceOf_79 rfl ?_
  refine xr_bipush (v := 50) C dX10_chanceOf_81 (by decide) ?_
  refine xr_icmp_ge C 91 dX10_chanceOf_83 (by decide) (fun c83 => ?_) (fun c83 => ?_)
  · have hF := fx_pos hF c83
    refine xr_iload C 0 dX10_chanceOf_91 rfl ?_
    refine xr_sipush (v := 950) C dX10_chanceOf_93 (by decide) ?_
    refine xr_icmp_le C 105 dX10_chanceOf_96 (by decide) (fun c96 => ?_) (fun c96 => ?_)
    · have hF := fx_pos hF c96
      refine xr_iload C 0 dX10_chanceOf_105 rfl ?_
      cases hF
      exact xr_iret C dX10_chanceOf_107
    · have hF := fx_neg hF c96
      refine xr_sipush (v := 950) C dX10_chanceOf_99 (by decide) ?_
      refine xr_goto C 107 dX10_chanceOf_102 (by decide) ?_
      cases hF
      exact xr_iret C dX10_chanceOf_107
  · have hF := fx_neg hF c83
    refine xr_bipush (v := 50) C dX10_chanceOf_86 (by decide) ?_
    refine xr_goto C 107 dX10_chanceOf_88 (by decide) ?_
    cases hF
    exact xr_iret C dX10_chanceOf_107
def fX10_chanceOf_9  (a0 : Nat) (a1 : Int32) (a2 : Int32) (a3 : Int32) (s0 : Int32) (h : hp_T) : Option (Int32 × hp_T) := if a3 = 0 then (fX10_chanceOf_20 a0 a3 s0 a2 h) else (fX10_chanceOf_20 a0 a3 s0 a1 h)
set_option maxRecDepth 100000 in
set_option maxHeartbeats 4000000 in
theorem bX10_chanceOf_9 {l : Launch} {G : xr_G} {K : xr_K} {r : Int32} {h1 : hp_T} (C : xr_C G K cX10_chanceOf RX10 8 (xr_R 3 70) (some .int) (some (xr_Qi G r h1)))  (a0 : Nat) (a1 : Int32) (a2 : Int32) (a3 : Int32) (s0 : Int32) (ta0 : hp_sh a0 = (10, 0)) (h : hp_T) (hF : fX10_chanceOf_9 a0 a1 a2 a3 s0 h = some (r, h1)) : xr_j l G K 8 h [(0, .ref (G.2.2.1 a0)), (1, .int a1), (2, .int a2), (3, .int a3)] 9 [.int s0] := by
  unfold fX10_chanceOf_9 at hF
  refine xr_istore C [(4, .int s0), (0, .ref (G.2.2.1 a0)), (1, .int a1), (2, .int a2), (3, .int a3)] dX10_chanceOf_9 (Nat.le_of_ble_eq_true rfl) rfl ?_
  refine xr_iload_n C 4 dX10_chanceOf_11 rfl rfl ?_
  refine xr_if_ne C 19 dX10_chanceOf_12 (by decide) (fun c12 => ?_) (fun c12 => ?_)
  · have hF := fx_neg hF c12
    refine xr_iload_n C 2 dX10_chanceOf_19 rfl rfl ?_
    refine xr_sub [1, 4, 0] [(0, .ref (G.2.2.1 a0)), (3, .int a3), (4, .int s0)] rfl ?_
    exact bX10_chanceOf_20 C   a0 a3 s0 a1 ta0 h hF
  · have hF := fx_pos hF c12
    refine xr_iload_n C 3 dX10_chanceOf_15 rfl rfl ?_
    refine xr_goto C 20 dX10_chanceOf_16 (by decide) ?_
    refine xr_sub [1, 4, 0] [(0, .ref (G.2.2.1 a0)), (3, .int a3), (4, .int s0)] rfl ?_
    exact bX10_chanceOf_20 C   a0 a3 s0 a2 ta0 h hF
def fX10_chanceOf (a0 : Nat) (a1 : Int32) (a2 : Int32) (a3 : Int32) (h : hp_T) : Option (Int32 × hp_T) := if a3 = 0 then (fX10_chanceOf_9 a0 a1 a2 a3 a1 h) else (fX10_chanceOf_9 a0 a1 a2 a3 a2 h)
set_option maxRecDepth 100000 in
set_option maxHeartbeats 4000000 in
theorem mX10_chanceOf (l : Launch) (G : xr_G) (a0 : Nat) (a1 : Int32) (a2 : Int32) (a3 : Int32) (ta0 : hp_sh a0 = (10, 0)) (h h1 : hp_T) (r : Int32) (hF : fX10_chanceOf a0 a1 a2 a3 h = some (r, h1)) : xr_M l G yX10_chanceOf cX10_chanceOf 8 (xr_R 3 70) (some .int) [.ref (G.2.2.1 a0), .int a1, .int a2, .int a3] h (xr_Qi G r h1) := by
  refine xr_start rfl (Nat.le_of_ble_eq_true rfl) (fun K C => ?_)
  show xr_j l G K 8 h [(0, .ref (G.2.2.1 a0)), (1, .int a1), (2, .int a2), (3, .int a3)] 0 []
  unfold fX10_chanceOf at hF
  refine xr_iload_n C 3 dX10_chanceOf_0 rfl rfl ?_
  refine xr_if_ne C 8 dX10_chanceOf_1 (by decide) (fun c1 => ?_) (fun c1 => ?_)
  · have hF := fx_neg hF c1
    refine xr_iload_n C 2 dX10_chanceOf_8 rfl rfl ?_
    exact bX10_chanceOf_9 C   a0 a1 a2 a3 a2 ta0 h hF
  · have hF := fx_pos hF c1
    refine xr_iload_n C 1 dX10_chanceOf_4 rfl rfl ?_
    refine xr_goto C 9 dX10_chanceOf_5 (by decide) ?_
    exact bX10_chanceOf_9 C   a0 a1 a2 a3 a1 ta0 h hF
theorem dX10_chance_0 : decode cX10_chance 0 = .ok (.aload_n 0, 1) := by decide +kernel
theorem dX10_chance_1 : decode cX10_chance 1 = .ok (.iconst 0, 1) := by decide +kernel
theorem dX10_chance_2 : decode cX10_chance 2 = .ok (.putfield 63, 3) := by decide +kernel
theorem dX10_chance_5 : decode cX10_chance 5 = .ok (.aload_n 0, 1) := by decide +kernel
theorem dX10_chance_6 : decode cX10_chance 6 = .ok (.getfield 59, 3) := by decide +kernel
theorem dX10_chance_9 : decode cX10_chance 9 = .ok (.ifCond .ne 5, 3) := by decide +kernel
theorem dX10_chance_12 : decode cX10_chance 12 = .ok (.iconst (-1), 1) := by decide +kernel
theorem dX10_chance_13 : decode cX10_chance 13 = .ok (.ireturn, 1) := by decide +kernel
theorem dX10_chance_14 : decode cX10_chance 14 = .ok (.aload_n 0, 1) := by decide +kernel
theorem dX10_chance_15 : decode cX10_chance 15 = .ok (.invokevirtual 215, 3) := by decide +kernel
theorem dX10_chance_18 : decode cX10_chance 18 = .ok (.ifCond .eq 6, 3) := by decide +kernel
theorem dX10_chance_21 : decode cX10_chance 21 = .ok (.bipush (-2), 2) := by decide +kernel
theorem dX10_chance_23 : decode cX10_chance 23 = .ok (.ireturn, 1) := by decide +kernel
theorem dX10_chance_24 : decode cX10_chance 24 = .ok (.aload_n 0, 1) := by decide +kernel
theorem dX10_chance_25 : decode cX10_chance 25 = .ok (.invokevirtual 253, 3) := by decide +kernel
theorem dX10_chance_28 : decode cX10_chance 28 = .ok (.aload_n 0, 1) := by decide +kernel
theorem dX10_chance_29 : decode cX10_chance 29 = .ok (.iconst 0, 1) := by decide +kernel
theorem dX10_chance_30 : decode cX10_chance 30 = .ok (.iconst 0, 1) := by decide +kernel
theorem dX10_chance_31 : decode cX10_chance 31 = .ok (.aload_n 0, 1) := by decide +kernel
theorem dX10_chance_32 : decode cX10_chance 32 = .ok (.getfield 36, 3) := by decide +kernel
theorem dX10_chance_35 : decode cX10_chance 35 = .ok (.iconst 2, 1) := by decide +kernel
theorem dX10_chance_36 : decode cX10_chance 36 = .ok (.iaload, 1) := by decide +kernel
theorem dX10_chance_37 : decode cX10_chance 37 = .ok (.invokevirtual 256, 3) := by decide +kernel
theorem dX10_chance_40 : decode cX10_chance 40 = .ok (.ireturn, 1) := by decide +kernel
def fX10_chance (a0 : Nat) (h : hp_T) : Option (Int32 × hp_T) := fx_let (hp_sI h a0 0 (0 : Int32)) fun (h2 : hp_T) => if (h2.1 a0 7) = 0 then (some ((-1 : Int32), h2)) else (fx_b2 (fX10_isOver a0 h2) fun (r15 : Int32) (h15 : hp_T) => if r15 = 0 then (fx_b1 (fX10_takesCourt a0 h15) fun (h25 : hp_T) => fx_b2 (fX10_chanceOf a0 (0 : Int32) (0 : Int32) (h25.1 (h25.2.2 a0 20) (fx_ix (2 : Int32))) h25) fun (r37 : Int32) (h37 : hp_T) => some (r37, h37)) else (some ((-2 : Int32), h15)))
set_option maxRecDepth 100000 in
set_option maxHeartbeats 4000000 in
theorem mX10_chance (l : Launch) (G : xr_G) (a0 : Nat) (ta0 : hp_sh a0 = (10, 0)) (h h1 : hp_T) (r : Int32) (hF : fX10_chance a0 h = some (r, h1)) : xr_M l G yX10_chance cX10_chance 1 (xr_R 4 97) (some .int) [.ref (G.2.2.1 a0)] h (xr_Qi G r h1) := by
  refine xr_start rfl (Nat.le_of_ble_eq_true rfl) (fun K C => ?_)
  show xr_j l G K 1 h [(0, .ref (G.2.2.1 a0))] 0 []
  unfold fX10_chance at hF
  refine xr_aload_n C 0 dX10_chance_0 rfl rfl ?_
  refine xr_iconst (v := 0) C dX10_chance_1 (by decide) ?_
  refine xr_puti C fpX10_63 rfl rfl rfl dX10_chance_2 ta0 (fun h2 e2 => ?_)
  have hF := fx_letE hF h2 e2
  refine xr_aload_n C 0 dX10_chance_5 rfl rfl ?_
  refine xr_geti C flX10_59 rfl dX10_chance_6 ta0 ?_
  refine xr_if_ne C 14 dX10_chance_9 (by decide) (fun c9 => ?_) (fun c9 => ?_)
  · have hF := fx_neg hF c9
    refine xr_aload_n C 0 dX10_chance_14 rfl rfl ?_
    obtain ⟨r15, h15, e15, hF⟩ := fx_b2E hF
    refine xr_callVi C mvX10_215 [] [] (mX10_isOver l G a0 ta0 h2 h15 r15 e15) ta0 (by decide) vc10 rfl ⟨rfl, rfl, (Nat.le_of_ble_eq_true rfl), (Nat.le_of_ble_eq_true rfl)⟩ rfl (Nat.le_of_ble_eq_true rfl) dX10_chance_15 ?_
    refine xr_if_eq C 24 dX10_chance_18 (by decide) (fun c18 => ?_) (fun c18 => ?_)
    · have hF := fx_pos hF c18
      refine xr_aload_n C 0 dX10_chance_24 rfl rfl ?_
      obtain ⟨h25, e25, hF⟩ := fx_b1E hF
      refine xr_callVv C mvX10_253 [] [] (mX10_takesCourt l G a0 ta0 h15 h25 e25) ta0 (by decide) vc10 rfl ⟨rfl, rfl, (Nat.le_of_ble_eq_true rfl), (Nat.le_of_ble_eq_true rfl)⟩ rfl (Nat.le_of_ble_eq_true rfl) dX10_chance_25 ?_
      refine xr_aload_n C 0 dX10_chance_28 rfl rfl ?_
      refine xr_iconst (v := 0) C dX10_chance_29 (by decide) ?_
      refine xr_iconst (v := 0) C dX10_chance_30 (by decide) ?_
      refine xr_aload_n C 0 dX10_chance_31 rfl rfl ?_
      refine xr_getr C flX10_36 rfl (by decide) dX10_chance_32 ta0 (fun t32 => ?_)
      refine xr_iconst (v := 2) C dX10_chance_35 (by decide) ?_
      refine xr_iald C dX10_chance_36 t32 (by decide) ?_
      obtain ⟨r37, h37, e37, hF⟩ := fx_b2E hF
      refine xr_callVi C mvX10_256 [.int (0 : Int32), .int (0 : Int32), .int (h25.1 (h25.2.2 a0 20) (fx_ix (2 : Int32)))] [] (mX10_chanceOf l G a0 (0 : Int32) (0 : Int32) (h25.1 (h25.2.2 a0 20) (fx_ix (2 : Int32))) ta0 h25 h37 r37 e37) ta0 (by decide) vc10 rfl ⟨rfl, rfl, (Nat.le_of_ble_eq_true rfl), (Nat.le_of_ble_eq_true rfl)⟩ rfl (Nat.le_of_ble_eq_true rfl) dX10_chance_37 ?_
      cases hF
      exact xr_iret C dX10_chance_40
    · have hF := fx_neg hF c18
      refine xr_bipush (v := -2) C dX10_chance_21 (by decide) ?_
      cases hF
      exact xr_iret C dX10_chance_23
  · have hF := fx_pos hF c9
    refine xr_iconst (v := -1) C dX10_chance_12 (by decide) ?_
    cases hF
    exact xr_iret C dX10_chance_13
