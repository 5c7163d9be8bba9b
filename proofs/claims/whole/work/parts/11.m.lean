theorem dX4_valueOf_0 : decode cX4_valueOf 0 = .ok (.iload_n 1, 1) := by decide +kernel
theorem dX4_valueOf_1 : decode cX4_valueOf 1 = .ok (.aload_n 0, 1) := by decide +kernel
theorem dX4_valueOf_2 : decode cX4_valueOf 2 = .ok (.getfield 47, 3) := by decide +kernel
theorem dX4_valueOf_5 : decode cX4_valueOf 5 = .ok (.if_icmp .lt 6, 3) := by decide +kernel
theorem dX4_valueOf_8 : decode cX4_valueOf 8 = .ok (.ldc 79, 2) := by decide +kernel
theorem dX4_valueOf_10 : decode cX4_valueOf 10 = .ok (.ireturn, 1) := by decide +kernel
theorem dX4_valueOf_11 : decode cX4_valueOf 11 = .ok (.iload_n 2, 1) := by decide +kernel
theorem dX4_valueOf_12 : decode cX4_valueOf 12 = .ok (.aload_n 0, 1) := by decide +kernel
theorem dX4_valueOf_13 : decode cX4_valueOf 13 = .ok (.getfield 47, 3) := by decide +kernel
theorem dX4_valueOf_16 : decode cX4_valueOf 16 = .ok (.if_icmp .lt 5, 3) := by decide +kernel
theorem dX4_valueOf_19 : decode cX4_valueOf 19 = .ok (.iconst 0, 1) := by decide +kernel
theorem dX4_valueOf_20 : decode cX4_valueOf 20 = .ok (.ireturn, 1) := by decide +kernel
theorem dX4_valueOf_21 : decode cX4_valueOf 21 = .ok (.aload_n 0, 1) := by decide +kernel
theorem dX4_valueOf_22 : decode cX4_valueOf 22 = .ok (.iload_n 3, 1) := by decide +kernel
theorem dX4_valueOf_23 : decode cX4_valueOf 23 = .ok (.iload 4, 2) := by decide +kernel
theorem dX4_valueOf_25 : decode cX4_valueOf 25 = .ok (.iload 5, 2) := by decide +kernel
theorem dX4_valueOf_27 : decode cX4_valueOf 27 = .ok (.invokevirtual 84, 3) := by decide +kernel
theorem dX4_valueOf_30 : decode cX4_valueOf 30 = .ok (.aload_n 0, 1) := by decide +kernel
theorem dX4_valueOf_31 : decode cX4_valueOf 31 = .ok (.iload_n 1, 1) := by decide +kernel
theorem dX4_valueOf_32 : decode cX4_valueOf 32 = .ok (.iload_n 2, 1) := by decide +kernel
theorem dX4_valueOf_33 : decode cX4_valueOf 33 = .ok (.iload 5, 2) := by decide +kernel
theorem dX4_valueOf_35 : decode cX4_valueOf 35 = .ok (.invokevirtual 88, 3) := by decide +kernel
theorem dX4_valueOf_38 : decode cX4_valueOf 38 = .ok (.aload_n 0, 1) := by decide +kernel
theorem dX4_valueOf_39 : decode cX4_valueOf 39 = .ok (.getfield 29, 3) := by decide +kernel
theorem dX4_valueOf_42 : decode cX4_valueOf 42 = .ok (.iload_n 2, 1) := by decide +kernel
theorem dX4_valueOf_43 : decode cX4_valueOf 43 = .ok (.bipush 12, 2) := by decide +kernel
theorem dX4_valueOf_45 : decode cX4_valueOf 45 = .ok (.imul, 1) := by decide +kernel
theorem dX4_valueOf_46 : decode cX4_valueOf 46 = .ok (.iaload, 1) := by decide +kernel
theorem dX4_valueOf_47 : decode cX4_valueOf 47 = .ok (.ireturn, 1) := by decide +kernel
def fX4_valueOf (a0 : Nat) (a1 : Int32) (a2 : Int32) (a3 : Int32) (a4 : Int32) (a5 : Int32) (h : hp_T) : Option (Int32 × hp_T) := if a1 < (h.1 a0 8) then (if a2 < (h.1 a0 8) then (fx_b1 (fX4_fillCycle a0 a3 a4 a5 h) fun (h27 : hp_T) => fx_b1 (fX4_fillValues a0 a1 a2 a5 h27) fun (h35 : hp_T) => fx_g (fx_in (a2 * (12 : Int32)) 312) (some ((h35.1 (h35.2.2 a0 4) (fx_ix (a2 * (12 : Int32)))), h35))) else (some ((0 : Int32), h))) else (some ((1000000 : Int32), h))
set_option maxRecDepth 100000 in
set_option maxHeartbeats 4000000 in
theorem mX4_valueOf (l : Launch) (G : xr_G) (a0 : Nat) (a1 : Int32) (a2 : Int32) (a3 : Int32) (a4 : Int32) (a5 : Int32) (ta0 : hp_sh a0 = (4, 0)) (h h1 : hp_T) (r : Int32) (hF : fX4_valueOf a0 a1 a2 a3 a4 a5 h = some (r, h1)) : xr_M l G yX4_valueOf cX4_valueOf 6 (xr_R 3 112) (some .int) [.ref (G.2.2.1 a0), .int a1, .int a2, .int a3, .int a4, .int a5] h (xr_Qi G r h1) := by
  refine xr_start rfl (Nat.le_of_ble_eq_true rfl) (fun K C => ?_)
  show xr_j l G K 6 h [(0, .ref (G.2.2.1 a0)), (1, .int a1), (2, .int a2), (3, .int a3), (4, .int a4), (5, .int a5)] 0 []
  unfold fX4_valueOf at hF
  refine xr_iload_n C 1 dX4_valueOf_0 rfl rfl ?_
  refine xr_aload_n C 0 dX4_valueOf_1 rfl rfl ?_
  refine xr_geti C flX4_47 rfl dX4_valueOf_2 ta0 ?_
  refine xr_icmp_lt C 11 dX4_valueOf_5 (by decide) (fun c5 => ?_) (fun c5 => ?_)
  · have hF := fx_pos hF c5
    refine xr_iload_n C 2 dX4_valueOf_11 rfl rfl ?_
    refine xr_aload_n C 0 dX4_valueOf_12 rfl rfl ?_
    refine xr_geti C flX4_47 rfl dX4_valueOf_13 ta0 ?_
    refine xr_icmp_lt C 21 dX4_valueOf_16 (by decide) (fun c16 => ?_) (fun c16 => ?_)
    · have hF := fx_pos hF c16
      refine xr_aload_n C 0 dX4_valueOf_21 rfl rfl ?_
      refine xr_iload_n C 3 dX4_valueOf_22 rfl rfl ?_
      refine xr_iload C 4 dX4_valueOf_23 rfl ?_
      refine xr_iload C 5 dX4_valueOf_25 rfl ?_
      obtain ⟨h27, e27, hF⟩ := fx_b1E hF
      refine xr_callVv C mvX4_84 [.int a3, .int a4, .int a5] [] (mX4_fillCycle l G a0 a3 a4 a5 ta0 h h27 e27) ta0 (by decide) vc4 rfl ⟨rfl, rfl, (Nat.le_of_ble_eq_true rfl), (Nat.le_of_ble_eq_true rfl)⟩ rfl (Nat.le_of_ble_eq_true rfl) dX4_valueOf_27 ?_
      refine xr_aload_n C 0 dX4_valueOf_30 rfl rfl ?_
      refine xr_iload_n C 1 dX4_valueOf_31 rfl rfl ?_
      refine xr_iload_n C 2 dX4_valueOf_32 rfl rfl ?_
      refine xr_iload C 5 dX4_valueOf_33 rfl ?_
      obtain ⟨h35, e35, hF⟩ := fx_b1E hF
      refine xr_callVv C mvX4_88 [.int a1, .int a2, .int a5] [] (mX4_fillValues l G a0 a1 a2 a5 ta0 h27 h35 e35) ta0 (by decide) vc4 rfl ⟨rfl, rfl, (Nat.le_of_ble_eq_true rfl), (Nat.le_of_ble_eq_true rfl)⟩ rfl (Nat.le_of_ble_eq_true rfl) dX4_valueOf_35 ?_
      refine xr_aload_n C 0 dX4_valueOf_38 rfl rfl ?_
      refine xr_getr C flX4_29 rfl (by decide) dX4_valueOf_39 ta0 (fun t39 => ?_)
      refine xr_iload_n C 2 dX4_valueOf_42 rfl rfl ?_
      refine xr_bipush (v := 12) C dX4_valueOf_43 (by decide) ?_
      refine xr_imul C dX4_valueOf_45 ?_
      obtain ⟨g46, hF⟩ := fx_gE hF
      refine xr_iald C dX4_valueOf_46 t39 g46 ?_
      cases hF
      exact xr_iret C dX4_valueOf_47
    · have hF := fx_neg hF c16
      refine xr_iconst (v := 0) C dX4_valueOf_19 (by decide) ?_
      cases hF
      exact xr_iret C dX4_valueOf_20
  · have hF := fx_neg hF c5
    refine xr_ldc C kcX4_79 dX4_valueOf_8 ?_
    cases hF
    exact xr_iret C dX4_valueOf_10
theorem dX4_fillTable_0 : decode cX4_fillTable 0 = .ok (.iconst 0, 1) := by decide +kernel
theorem dX4_fillTable_1 : decode cX4_fillTable 1 = .ok (.istore_n 3, 1) := by decide +kernel
theorem dX4_fillTable_2 : decode cX4_fillTable 2 = .ok (.iload_n 3, 1) := by decide +kernel
theorem dX4_fillTable_3 : decode cX4_fillTable 3 = .ok (.bipush 6, 2) := by decide +kernel
theorem dX4_fillTable_5 : decode cX4_fillTable 5 = .ok (.if_icmp .ge 63, 3) := by decide +kernel
theorem dX4_fillTable_8 : decode cX4_fillTable 8 = .ok (.aload_n 0, 1) := by decide +kernel
theorem dX4_fillTable_9 : decode cX4_fillTable 9 = .ok (.iconst 0, 1) := by decide +kernel
theorem dX4_fillTable_10 : decode cX4_fillTable 10 = .ok (.iload_n 3, 1) := by decide +kernel
theorem dX4_fillTable_11 : decode cX4_fillTable 11 = .ok (.iload_n 2, 1) := by decide +kernel
theorem dX4_fillTable_12 : decode cX4_fillTable 12 = .ok (.invokevirtual 84, 3) := by decide +kernel
theorem dX4_fillTable_15 : decode cX4_fillTable 15 = .ok (.aload_n 0, 1) := by decide +kernel
theorem dX4_fillTable_16 : decode cX4_fillTable 16 = .ok (.iconst 0, 1) := by decide +kernel
theorem dX4_fillTable_17 : decode cX4_fillTable 17 = .ok (.iconst 0, 1) := by decide +kernel
theorem dX4_fillTable_18 : decode cX4_fillTable 18 = .ok (.iload_n 2, 1) := by decide +kernel
theorem dX4_fillTable_19 : decode cX4_fillTable 19 = .ok (.invokevirtual 88, 3) := by decide +kernel
theorem dX4_fillTable_22 : decode cX4_fillTable 22 = .ok (.iconst 0, 1) := by decide +kernel
theorem dX4_fillTable_23 : decode cX4_fillTable 23 = .ok (.istore 4, 2) := by decide +kernel
theorem dX4_fillTable_25 : decode cX4_fillTable 25 = .ok (.iload 4, 2) := by decide +kernel
theorem dX4_fillTable_27 : decode cX4_fillTable 27 = .ok (.bipush 6, 2) := by decide +kernel
theorem dX4_fillTable_29 : decode cX4_fillTable 29 = .ok (.if_icmp .ge 33, 3) := by decide +kernel
theorem dX4_fillTable_32 : decode cX4_fillTable 32 = .ok (.aload_n 1, 1) := by decide +kernel
theorem dX4_fillTable_33 : decode cX4_fillTable 33 = .ok (.iload 4, 2) := by decide +kernel
theorem dX4_fillTable_35 : decode cX4_fillTable 35 = .ok (.bipush 6, 2) := by decide +kernel
theorem dX4_fillTable_37 : decode cX4_fillTable 37 = .ok (.imul, 1) := by decide +kernel
theorem dX4_fillTable_38 : decode cX4_fillTable 38 = .ok (.iload 4, 2) := by decide +kernel
theorem dX4_fillTable_40 : decode cX4_fillTable 40 = .ok (.iload_n 3, 1) := by decide +kernel
theorem dX4_fillTable_41 : decode cX4_fillTable 41 = .ok (.iadd, 1) := by decide +kernel
theorem dX4_fillTable_42 : decode cX4_fillTable 42 = .ok (.bipush 6, 2) := by decide +kernel
theorem dX4_fillTable_44 : decode cX4_fillTable 44 = .ok (.irem, 1) := by decide +kernel
theorem dX4_fillTable_45 : decode cX4_fillTable 45 = .ok (.iadd, 1) := by decide +kernel
theorem dX4_fillTable_46 : decode cX4_fillTable 46 = .ok (.aload_n 0, 1) := by decide +kernel
theorem dX4_fillTable_47 : decode cX4_fillTable 47 = .ok (.getfield 29, 3) := by decide +kernel
theorem dX4_fillTable_50 : decode cX4_fillTable 50 = .ok (.iconst 2, 1) := by decide +kernel
theorem dX4_fillTable_51 : decode cX4_fillTable 51 = .ok (.iload 4, 2) := by decide +kernel
theorem dX4_fillTable_53 : decode cX4_fillTable 53 = .ok (.imul, 1) := by decide +kernel
theorem dX4_fillTable_54 : decode cX4_fillTable 54 = .ok (.iaload, 1) := by decide +kernel
theorem dX4_fillTable_55 : decode cX4_fillTable 55 = .ok (.iastore, 1) := by decide +kernel
theorem dX4_fillTable_56 : decode cX4_fillTable 56 = .ok (.iinc 4 1, 3) := by decide +kernel
theorem dX4_fillTable_59 : decode cX4_fillTable 59 = .ok (.goto (-34), 3) := by decide +kernel
theorem dX4_fillTable_62 : decode cX4_fillTable 62 = .ok (.iinc 3 1, 3) := by decide +kernel
theorem dX4_fillTable_65 : decode cX4_fillTable 65 = .ok (.goto (-63), 3) := by decide +kernel
theorem dX4_fillTable_68 : decode cX4_fillTable 68 = .ok (.return_, 1) := by decide +kernel
def fX4_fillTable_25 (k2 : Nat → Nat → Int32 → Int32 → hp_T → Option hp_T) : Nat → Nat → Nat → Int32 → Int32 → Int32 → hp_T → Option hp_T
  | 0, _, _, _, _, _, _ => none
  | n + 1, a0, a1, a2, a3, a4, h => if (6 : Int32) ≤ a4 then (fx_let (a3 + (1 : Int32)) fun (x62 : Int32) => k2 a0 a1 a2 x62 h) else (fx_g (fx_in ((2 : Int32) * a4) 312) (fx_g (fx_in ((a4 * (6 : Int32)) + (fx_rem (a4 + a3) (6 : Int32))) 36) (fx_let (hp_sI h a1 (fx_ix ((a4 * (6 : Int32)) + (fx_rem (a4 + a3) (6 : Int32)))) (h.1 (h.2.2 a0 4) (fx_ix ((2 : Int32) * a4)))) fun (h55 : hp_T) => fx_let (a4 + (1 : Int32)) fun (x56 : Int32) => fX4_fillTable_25 k2 n a0 a1 a2 a3 x56 h55)))
set_option maxRecDepth 100000 in
set_option maxHeartbeats 4000000 in
theorem bX4_fillTable_25 {l : Launch} {G : xr_G} {K : xr_K} {h1 : hp_T} (C : xr_C G K cX4_fillTable RX4 5 (xr_R 3 112) none (some (xr_Qv G h1))) (k2 : Nat → Nat → Int32 → Int32 → hp_T → Option hp_T) (j2 : ∀ (a0 : Nat) (a1 : Nat) (a2 : Int32) (a3 : Int32) (ta0 : hp_sh a0 = (4, 0)) (ta1 : hp_sh a1 = (20, 36)) (h : hp_T), k2 a0 a1 a2 a3 h = some h1 → xr_j l G K 5 h [(0, .ref (G.2.2.1 a0)), (1, .ref (G.2.2.1 a1)), (2, .int a2), (3, .int a3)] 2 []) : ∀ (n : Nat) (a0 : Nat) (a1 : Nat) (a2 : Int32) (a3 : Int32) (a4 : Int32) (ta0 : hp_sh a0 = (4, 0)) (ta1 : hp_sh a1 = (20, 36)) (h : hp_T), fX4_fillTable_25 k2 n a0 a1 a2 a3 a4 h = some h1 → xr_j l G K 5 h [(0, .ref (G.2.2.1 a0)), (1, .ref (G.2.2.1 a1)), (2, .int a2), (3, .int a3), (4, .int a4)] 25 [] := by
  intro n
  induction n with
  | zero =>
    intro a0 a1 a2 a3 a4 ta0 ta1 h hF
    cases hF
  | succ n ih =>
    intro a0 a1 a2 a3 a4 ta0 ta1 h hF
    rw [fX4_fillTable_25] at hF
    refine xr_iload C 4 dX4_fillTable_25 rfl ?_
    refine xr_bipush (v := 6) C dX4_fillTable_27 (by decide) ?_
    refine xr_icmp_ge C 62 dX4_fillTable_29 (by decide) (fun c29 => ?_) (fun c29 => ?_)
    · have hF := fx_pos hF c29
      obtain ⟨x62, e62⟩ : ∃ y : Int32, y = (a3 + (1 : Int32)) := ⟨_, rfl⟩
      have hF := fx_letE hF x62 e62
      refine xr_iinc C x62 3 [(3, .int x62), (0, .ref (G.2.2.1 a0)), (1, .ref (G.2.2.1 a1)), (2, .int a2), (4, .int a4)] dX4_fillTable_62 rfl (by rw [e62]; rfl) (Nat.le_of_ble_eq_true rfl) rfl ?_
      refine xr_goto C 2 dX4_fillTable_65 (by decide) ?_
      refine xr_sub [1, 2, 3, 0] [(0, .ref (G.2.2.1 a0)), (1, .ref (G.2.2.1 a1)), (2, .int a2), (3, .int x62)] rfl ?_
      exact j2 a0 a1 a2 x62 ta0 ta1 h hF
    · have hF := fx_neg hF c29
      refine xr_aload_n C 1 dX4_fillTable_32 rfl rfl ?_
      refine xr_iload C 4 dX4_fillTable_33 rfl ?_
      refine xr_bipush (v := 6) C dX4_fillTable_35 (by decide) ?_
      refine xr_imul C dX4_fillTable_37 ?_
      refine xr_iload C 4 dX4_fillTable_38 rfl ?_
      refine xr_iload_n C 3 dX4_fillTable_40 rfl rfl ?_
      refine xr_iadd C dX4_fillTable_41 ?_
      refine xr_bipush (v := 6) C dX4_fillTable_42 (by decide) ?_
      refine xr_irem C dX4_fillTable_44 (by decide) ?_
      refine xr_iadd C dX4_fillTable_45 ?_
      refine xr_aload_n C 0 dX4_fillTable_46 rfl rfl ?_
      refine xr_getr C flX4_29 rfl (by decide) dX4_fillTable_47 ta0 (fun t47 => ?_)
      refine xr_iconst (v := 2) C dX4_fillTable_50 (by decide) ?_
      refine xr_iload C 4 dX4_fillTable_51 rfl ?_
      refine xr_imul C dX4_fillTable_53 ?_
      obtain ⟨g54, hF⟩ := fx_gE hF
      refine xr_iald C dX4_fillTable_54 t47 g54 ?_
      obtain ⟨g55, hF⟩ := fx_gE hF
      refine xr_iast C dX4_fillTable_55 ta1 g55 (fun h55 e55 => ?_)
      have hF := fx_letE hF h55 e55
      obtain ⟨x56, e56⟩ : ∃ y : Int32, y = (a4 + (1 : Int32)) := ⟨_, rfl⟩
      have hF := fx_letE hF x56 e56
      refine xr_iinc C x56 4 [(4, .int x56), (0, .ref (G.2.2.1 a0)), (1, .ref (G.2.2.1 a1)), (2, .int a2), (3, .int a3)] dX4_fillTable_56 rfl (by rw [e56]; rfl) (Nat.le_of_ble_eq_true rfl) rfl ?_
      refine xr_goto C 25 dX4_fillTable_59 (by decide) ?_
      refine xr_sub [1, 2, 3, 4, 0] [(0, .ref (G.2.2.1 a0)), (1, .ref (G.2.2.1 a1)), (2, .int a2), (3, .int a3), (4, .int x56)] rfl ?_
      exact ih a0 a1 a2 a3 x56 ta0 ta1 h55 hF
def fX4_fillTable_2  : Nat → Nat → Nat → Int32 → Int32 → hp_T → Option hp_T
  | 0, _, _, _, _, _ => none
  | n + 1, a0, a1, a2, a3, h => if (6 : Int32) ≤ a3 then (some h) else (fx_b1 (fX4_fillCycle a0 (0 : Int32) a3 a2 h) fun (h12 : hp_T) => fx_b1 (fX4_fillValues a0 (0 : Int32) (0 : Int32) a2 h12) fun (h19 : hp_T) => fX4_fillTable_25 (fX4_fillTable_2 n) fx_N a0 a1 a2 a3 (0 : Int32) h19)
set_option maxRecDepth 100000 in
set_option maxHeartbeats 4000000 in
theorem bX4_fillTable_2 {l : Launch} {G : xr_G} {K : xr_K} {h1 : hp_T} (C : xr_C G K cX4_fillTable RX4 5 (xr_R 3 112) none (some (xr_Qv G h1)))  : ∀ (n : Nat) (a0 : Nat) (a1 : Nat) (a2 : Int32) (a3 : Int32) (ta0 : hp_sh a0 = (4, 0)) (ta1 : hp_sh a1 = (20, 36)) (h : hp_T), fX4_fillTable_2 n a0 a1 a2 a3 h = some h1 → xr_j l G K 5 h [(0, .ref (G.2.2.1 a0)), (1, .ref (G.2.2.1 a1)), (2, .int a2), (3, .int a3)] 2 [] := by
  intro n
  induction n with
  | zero =>
    intro a0 a1 a2 a3 ta0 ta1 h hF
    cases hF
  | succ n ih =>
    intro a0 a1 a2 a3 ta0 ta1 h hF
    rw [fX4_fillTable_2] at hF
    refine xr_iload_n C 3 dX4_fillTable_2 rfl rfl ?_
    refine xr_bipush (v := 6) C dX4_fillTable_3 (by decide) ?_
    refine xr_icmp_ge C 68 dX4_fillTable_5 (by decide) (fun c5 => ?_) (fun c5 => ?_)
    · have hF := fx_pos hF c5
      cases hF
      exact xr_vret C dX4_fillTable_68
    · have hF := fx_neg hF c5
      refine xr_aload_n C 0 dX4_fillTable_8 rfl rfl ?_
      refine xr_iconst (v := 0) C dX4_fillTable_9 (by decide) ?_
      refine xr_iload_n C 3 dX4_fillTable_10 rfl rfl ?_
      refine xr_iload_n C 2 dX4_fillTable_11 rfl rfl ?_
      obtain ⟨h12, e12, hF⟩ := fx_b1E hF
      refine xr_callVv C mvX4_84 [.int (0 : Int32), .int a3, .int a2] [] (mX4_fillCycle l G a0 (0 : Int32) a3 a2 ta0 h h12 e12) ta0 (by decide) vc4 rfl ⟨rfl, rfl, (Nat.le_of_ble_eq_true rfl), (Nat.le_of_ble_eq_true rfl)⟩ rfl (Nat.le_of_ble_eq_true rfl) dX4_fillTable_12 ?_
      refine xr_aload_n C 0 dX4_fillTable_15 rfl rfl ?_
      refine xr_iconst (v := 0) C dX4_fillTable_16 (by decide) ?_
      refine xr_iconst (v := 0) C dX4_fillTable_17 (by decide) ?_
      refine xr_iload_n C 2 dX4_fillTable_18 rfl rfl ?_
      obtain ⟨h19, e19, hF⟩ := fx_b1E hF
      refine xr_callVv C mvX4_88 [.int (0 : Int32), .int (0 : Int32), .int a2] [] (mX4_fillValues l G a0 (0 : Int32) (0 : Int32) a2 ta0 h12 h19 e19) ta0 (by decide) vc4 rfl ⟨rfl, rfl, (Nat.le_of_ble_eq_true rfl), (Nat.le_of_ble_eq_true rfl)⟩ rfl (Nat.le_of_ble_eq_true rfl) dX4_fillTable_19 ?_
      refine xr_iconst (v := 0) C dX4_fillTable_22 (by decide) ?_
      refine xr_istore C [(4, .int (0 : Int32)), (0, .ref (G.2.2.1 a0)), (1, .ref (G.2.2.1 a1)), (2, .int a2), (3, .int a3)] dX4_fillTable_23 (Nat.le_of_ble_eq_true rfl) rfl ?_
      refine xr_sub [1, 2, 3, 4, 0] [(0, .ref (G.2.2.1 a0)), (1, .ref (G.2.2.1 a1)), (2, .int a2), (3, .int a3), (4, .int (0 : Int32))] rfl ?_
      exact bX4_fillTable_25 C (fX4_fillTable_2 n) (fun a0 a1 a2 a3 ta0 ta1 h hF => ih a0 a1 a2 a3 ta0 ta1 h hF) fx_N a0 a1 a2 a3 (0 : Int32) ta0 ta1 h19 hF
def fX4_fillTable (a0 : Nat) (a1 : Nat) (a2 : Int32) (h : hp_T) : Option hp_T := fX4_fillTable_2 fx_N a0 a1 a2 (0 : Int32) h
set_option maxRecDepth 100000 in
set_option maxHeartbeats 4000000 in
theorem mX4_fillTable (l : Launch) (G : xr_G) (a0 : Nat) (a1 : Nat) (a2 : Int32) (ta0 : hp_sh a0 = (4, 0)) (ta1 : hp_sh a1 = (20, 36)) (h h1 : hp_T) (hF : fX4_fillTable a0 a1 a2 h = some h1) : xr_M l G yX4_fillTable cX4_fillTable 5 (xr_R 3 112) none [.ref (G.2.2.1 a0), .ref (G.2.2.1 a1), .int a2] h (xr_Qv G h1) := by
  refine xr_start rfl (Nat.le_of_ble_eq_true rfl) (fun K C => ?_)
  show xr_j l G K 5 h [(0, .ref (G.2.2.1 a0)), (1, .ref (G.2.2.1 a1)), (2, .int a2)] 0 []
  unfold fX4_fillTable at hF
  refine xr_iconst (v := 0) C dX4_fillTable_0 (by decide) ?_
  refine xr_istore_n C [(3, .int (0 : Int32)), (0, .ref (G.2.2.1 a0)), (1, .ref (G.2.2.1 a1)), (2, .int a2)] dX4_fillTable_1 rfl (Nat.le_of_ble_eq_true rfl) rfl ?_
  refine xr_sub [1, 2, 3, 0] [(0, .ref (G.2.2.1 a0)), (1, .ref (G.2.2.1 a1)), (2, .int a2), (3, .int (0 : Int32))] rfl ?_
  exact bX4_fillTable_2 C  fx_N a0 a1 a2 (0 : Int32) ta0 ta1 h hF

def fJ7_fill_d0a16_312_6  : Nat → Nat → Int64 → Int32 → Int32 → hp_T → Option hp_T
  | 0, _, _, _, _, _ => none
  | n + 1, a0, a1, a3, a4, h => if a4 ≤ a3 then (some h) else (fx_g (fx_in a3 312) (fx_let (hp_sL h a0 (fx_ix a3) a1) fun (h15 : hp_T) => fx_let (a3 + (1 : Int32)) fun (x16 : Int32) => fJ7_fill_d0a16_312_6 n a0 a1 x16 a4 h15))
set_option maxRecDepth 100000 in
set_option maxHeartbeats 4000000 in
theorem bJ7_fill_d0a16_312_6 {l : Launch} {G : xr_G} {K : xr_K} {h1 : hp_T} (C : xr_C G K cJ7_fill_d0a16 RJ7 5 (xr_R 0 0) none (some (xr_Qv G h1)))  : ∀ (n : Nat) (a0 : Nat) (a1 : Int64) (a3 : Int32) (a4 : Int32) (ta0 : hp_sh a0 = (21, 312)) (h : hp_T), fJ7_fill_d0a16_312_6 n a0 a1 a3 a4 h = some h1 → xr_j l G K 5 h [(0, .ref (G.2.2.1 a0)), (1, .long a1), (3, .int a3), (4, .int a4)] 6 [] := by
  intro n
  induction n with
  | zero =>
    intro a0 a1 a3 a4 ta0 h hF
    cases hF
  | succ n ih =>
    intro a0 a1 a3 a4 ta0 h hF
    rw [fJ7_fill_d0a16_312_6] at hF
    refine xr_iload_n C 2 dJ7_fill_d0a16_6 rfl rfl ?_
    refine xr_iload C 3 dJ7_fill_d0a16_7 rfl ?_
    refine xr_icmp_ge C 22 dJ7_fill_d0a16_9 (by decide) (fun c9 => ?_) (fun c9 => ?_)
    · have hF := fx_pos hF c9
      cases hF
      exact xr_vret C dJ7_fill_d0a16_22
    · have hF := fx_neg hF c9
      refine xr_aload_n C 0 dJ7_fill_d0a16_12 rfl rfl ?_
      refine xr_iload_n C 2 dJ7_fill_d0a16_13 rfl rfl ?_
      refine xr_lload_n C 1 dJ7_fill_d0a16_14 rfl rfl ?_
      obtain ⟨g15, hF⟩ := fx_gE hF
      refine xr_last C dJ7_fill_d0a16_15 ta0 g15 (fun h15 e15 => ?_)
      have hF := fx_letE hF h15 e15
      obtain ⟨x16, e16⟩ : ∃ y : Int32, y = (a3 + (1 : Int32)) := ⟨_, rfl⟩
      have hF := fx_letE hF x16 e16
      refine xr_iinc C x16 2 [(3, .int x16), (0, .ref (G.2.2.1 a0)), (1, .long a1), (4, .int a4)] dJ7_fill_d0a16_16 rfl (by rw [e16]; rfl) (Nat.le_of_ble_eq_true rfl) rfl ?_
      refine xr_goto C 6 dJ7_fill_d0a16_19 (by decide) ?_
      refine xr_sub [1, 2, 0, 3] [(0, .ref (G.2.2.1 a0)), (1, .long a1), (3, .int x16), (4, .int a4)] rfl ?_
      exact ih a0 a1 x16 a4 ta0 h15 hF
def fJ7_fill_d0a16_312 (a0 : Nat) (a1 : Int64) (h : hp_T) : Option hp_T := fJ7_fill_d0a16_312_6 fx_N a0 a1 (0 : Int32) (312 : Int32) h
set_option maxRecDepth 100000 in
set_option maxHeartbeats 4000000 in
theorem mJ7_fill_d0a16_312 (l : Launch) (G : xr_G) (a0 : Nat) (a1 : Int64) (ta0 : hp_sh a0 = (21, 312)) (h h1 : hp_T) (hF : fJ7_fill_d0a16_312 a0 a1 h = some h1) : xr_M l G yJ7_fill_d0a16 cJ7_fill_d0a16 5 (xr_R 0 0) none [.ref (G.2.2.1 a0), .long a1] h (xr_Qv G h1) := by
  refine xr_start rfl (Nat.le_of_ble_eq_true rfl) (fun K C => ?_)
  show xr_j l G K 5 h [(0, .ref (G.2.2.1 a0)), (1, .long a1)] 0 []
  unfold fJ7_fill_d0a16_312 at hF
  refine xr_iconst (v := 0) C dJ7_fill_d0a16_0 (by decide) ?_
  refine xr_istore_n C [(3, .int (0 : Int32)), (0, .ref (G.2.2.1 a0)), (1, .long a1)] dJ7_fill_d0a16_1 rfl (Nat.le_of_ble_eq_true rfl) rfl ?_
  refine xr_aload_n C 1 dJ7_fill_d0a16_2 rfl rfl ?_
  refine xr_lalen (v := 312) C dJ7_fill_d0a16_3 ta0 (by decide) ?_
  refine xr_istore C [(4, .int (312 : Int32)), (3, .int (0 : Int32)), (0, .ref (G.2.2.1 a0)), (1, .long a1)] dJ7_fill_d0a16_4 (Nat.le_of_ble_eq_true rfl) rfl ?_
  refine xr_sub [2, 3, 1, 0] [(0, .ref (G.2.2.1 a0)), (1, .long a1), (3, .int (0 : Int32)), (4, .int (312 : Int32))] rfl ?_
  exact bJ7_fill_d0a16_312_6 C  fx_N a0 a1 (0 : Int32) (312 : Int32) ta0 h hF

def fJ7_fill_d0a16_676_6  : Nat → Nat → Int64 → Int32 → Int32 → hp_T → Option hp_T
  | 0, _, _, _, _, _ => none
  | n + 1, a0, a1, a3, a4, h => if a4 ≤ a3 then (some h) else (fx_g (fx_in a3 676) (fx_let (hp_sL h a0 (fx_ix a3) a1) fun (h15 : hp_T) => fx_let (a3 + (1 : Int32)) fun (x16 : Int32) => fJ7_fill_d0a16_676_6 n a0 a1 x16 a4 h15))
set_option maxRecDepth 100000 in
set_option maxHeartbeats 4000000 in
theorem bJ7_fill_d0a16_676_6 {l : Launch} {G : xr_G} {K : xr_K} {h1 : hp_T} (C : xr_C G K cJ7_fill_d0a16 RJ7 5 (xr_R 0 0) none (some (xr_Qv G h1)))  : ∀ (n : Nat) (a0 : Nat) (a1 : Int64) (a3 : Int32) (a4 : Int32) (ta0 : hp_sh a0 = (21, 676)) (h : hp_T), fJ7_fill_d0a16_676_6 n a0 a1 a3 a4 h = some h1 → xr_j l G K 5 h [(0, .ref (G.2.2.1 a0)), (1, .long a1), (3, .int a3), (4, .int a4)] 6 [] := by
  intro n
  induction n with
  | zero =>
    intro a0 a1 a3 a4 ta0 h hF
    cases hF
  | succ n ih =>
    intro a0 a1 a3 a4 ta0 h hF
    rw [fJ7_fill_d0a16_676_6] at hF
    refine xr_iload_n C 2 dJ7_fill_d0a16_6 rfl rfl ?_
    refine xr_iload C 3 dJ7_fill_d0a16_7 rfl ?_
    refine xr_icmp_ge C 22 dJ7_fill_d0a16_9 (by decide) (fun c9 => ?_) (fun c9 => ?_)
    · have hF := fx_pos hF c9
      cases hF
      exact xr_vret C dJ7_fill_d0a16_22
    · have hF := fx_neg hF c9
      refine xr_aload_n C 0 dJ7_fill_d0a16_12 rfl rfl ?_
      refine xr_iload_n C 2 dJ7_fill_d0a16_13 rfl rfl ?_
      refine xr_lload_n C 1 dJ7_fill_d0a16_14 rfl rfl ?_
      obtain ⟨g15, hF⟩ := fx_gE hF
      refine xr_last C dJ7_fill_d0a16_15 ta0 g15 (fun h15 e15 => ?_)
      have hF := fx_letE hF h15 e15
      obtain ⟨x16, e16⟩ : ∃ y : Int32, y = (a3 + (1 : Int32)) := ⟨_, rfl⟩
      have hF := fx_letE hF x16 e16
      refine xr_iinc C x16 2 [(3, .int x16), (0, .ref (G.2.2.1 a0)), (1, .long a1), (4, .int a4)] dJ7_fill_d0a16_16 rfl (by rw [e16]; rfl) (Nat.le_of_ble_eq_true rfl) rfl ?_
      refine xr_goto C 6 dJ7_fill_d0a16_19 (by decide) ?_
      refine xr_sub [1, 2, 0, 3] [(0, .ref (G.2.2.1 a0)), (1, .long a1), (3, .int x16), (4, .int a4)] rfl ?_
      exact ih a0 a1 x16 a4 ta0 h15 hF
def fJ7_fill_d0a16_676 (a0 : Nat) (a1 : Int64) (h : hp_T) : Option hp_T := fJ7_fill_d0a16_676_6 fx_N a0 a1 (0 : Int32) (676 : Int32) h
set_option maxRecDepth 100000 in
set_option maxHeartbeats 4000000 in
theorem mJ7_fill_d0a16_676 (l : Launch) (G : xr_G) (a0 : Nat) (a1 : Int64) (ta0 : hp_sh a0 = (21, 676)) (h h1 : hp_T) (hF : fJ7_fill_d0a16_676 a0 a1 h = some h1) : xr_M l G yJ7_fill_d0a16 cJ7_fill_d0a16 5 (xr_R 0 0) none [.ref (G.2.2.1 a0), .long a1] h (xr_Qv G h1) := by
  refine xr_start rfl (Nat.le_of_ble_eq_true rfl) (fun K C => ?_)
  show xr_j l G K 5 h [(0, .ref (G.2.2.1 a0)), (1, .long a1)] 0 []
  unfold fJ7_fill_d0a16_676 at hF
  refine xr_iconst (v := 0) C dJ7_fill_d0a16_0 (by decide) ?_
  refine xr_istore_n C [(3, .int (0 : Int32)), (0, .ref (G.2.2.1 a0)), (1, .long a1)] dJ7_fill_d0a16_1 rfl (Nat.le_of_ble_eq_true rfl) rfl ?_
  refine xr_aload_n C 1 dJ7_fill_d0a16_2 rfl rfl ?_
  refine xr_lalen (v := 676) C dJ7_fill_d0a16_3 ta0 (by decide) ?_
  refine xr_istore C [(4, .int (676 : Int32)), (3, .int (0 : Int32)), (0, .ref (G.2.2.1 a0)), (1, .long a1)] dJ7_fill_d0a16_4 (Nat.le_of_ble_eq_true rfl) rfl ?_
  refine xr_sub [2, 3, 1, 0] [(0, .ref (G.2.2.1 a0)), (1, .long a1), (3, .int (0 : Int32)), (4, .int (676 : Int32))] rfl ?_
  exact bJ7_fill_d0a16_676_6 C  fx_N a0 a1 (0 : Int32) (676 : Int32) ta0 h hF
theorem dX4_spreadCell_0 : decode cX4_spreadCell 0 = .ok (.iload_n 2, 1) := by decide +kernel
theorem dX4_spreadCell_1 : decode cX4_spreadCell 1 = .ok (.bipush 12, 2) := by decide +kernel
theorem dX4_spreadCell_3 : decode cX4_spreadCell 3 = .ok (.imul, 1) := by decide +kernel
theorem dX4_spreadCell_4 : decode cX4_spreadCell 4 = .ok (.istore 4, 2) := by decide +kernel
theorem dX4_spreadCell_6 : decode cX4_spreadCell 6 = .ok (.iload_n 1, 1) := by decide +kernel
theorem dX4_spreadCell_7 : decode cX4_spreadCell 7 = .ok (.aload_n 0, 1) := by decide +kernel
theorem dX4_spreadCell_8 : decode cX4_spreadCell 8 = .ok (.getfield 47, 3) := by decide +kernel
theorem dX4_spreadCell_11 : decode cX4_spreadCell 11 = .ok (.if_icmp .ge 11, 3) := by decide +kernel
theorem dX4_spreadCell_14 : decode cX4_spreadCell 14 = .ok (.iload_n 2, 1) := by decide +kernel
theorem dX4_spreadCell_15 : decode cX4_spreadCell 15 = .ok (.aload_n 0, 1) := by decide +kernel
theorem dX4_spreadCell_16 : decode cX4_spreadCell 16 = .ok (.getfield 47, 3) := by decide +kernel
theorem dX4_spreadCell_19 : decode cX4_spreadCell 19 = .ok (.if_icmp .lt 7, 3) := by decide +kernel
theorem dX4_spreadCell_22 : decode cX4_spreadCell 22 = .ok (.iconst 1, 1) := by decide +kernel
theorem dX4_spreadCell_23 : decode cX4_spreadCell 23 = .ok (.goto 4, 3) := by decide +kernel
theorem dX4_spreadCell_26 : decode cX4_spreadCell 26 = .ok (.iconst 0, 1) := by decide +kernel
theorem dX4_spreadCell_27 : decode cX4_spreadCell 27 = .ok (.istore 5, 2) := by decide +kernel
theorem dX4_spreadCell_29 : decode cX4_spreadCell 29 = .ok (.lconst 0, 1) := by decide +kernel
theorem dX4_spreadCell_30 : decode cX4_spreadCell 30 = .ok (.lstore 6, 2) := by decide +kernel
theorem dX4_spreadCell_32 : decode cX4_spreadCell 32 = .ok (.iconst 0, 1) := by decide +kernel
theorem dX4_spreadCell_33 : decode cX4_spreadCell 33 = .ok (.istore 8, 2) := by decide +kernel
theorem dX4_spreadCell_35 : decode cX4_spreadCell 35 = .ok (.iload 8, 2) := by decide +kernel
theorem dX4_spreadCell_37 : decode cX4_spreadCell 37 = .ok (.bipush 12, 2) := by decide +kernel
theorem dX4_spreadCell_39 : decode cX4_spreadCell 39 = .ok (.if_icmp .ge 171, 3) := by decide +kernel
theorem dX4_spreadCell_42 : decode cX4_spreadCell 42 = .ok (.aload_n 0, 1) := by decide +kernel
theorem dX4_spreadCell_43 : decode cX4_spreadCell 43 = .ok (.getfield 35, 3) := by decide +kernel
theorem dX4_spreadCell_46 : decode cX4_spreadCell 46 = .ok (.iload 4, 2) := by decide +kernel
theorem dX4_spreadCell_48 : decode cX4_spreadCell 48 = .ok (.iload 8, 2) := by decide +kernel
theorem dX4_spreadCell_50 : decode cX4_spreadCell 50 = .ok (.iadd, 1) := by decide +kernel
theorem dX4_spreadCell_51 : decode cX4_spreadCell 51 = .ok (.laload, 1) := by decide +kernel
theorem dX4_spreadCell_52 : decode cX4_spreadCell 52 = .ok (.lstore 9, 2) := by decide +kernel
theorem dX4_spreadCell_54 : decode cX4_spreadCell 54 = .ok (.lload 6, 2) := by decide +kernel
theorem dX4_spreadCell_56 : decode cX4_spreadCell 56 = .ok (.lload 9, 2) := by decide +kernel
theorem dX4_spreadCell_58 : decode cX4_spreadCell 58 = .ok (.ladd, 1) := by decide +kernel
theorem dX4_spreadCell_59 : decode cX4_spreadCell 59 = .ok (.lstore 6, 2) := by decide +kernel
theorem dX4_spreadCell_61 : decode cX4_spreadCell 61 = .ok (.lload 9, 2) := by decide +kernel
theorem dX4_spreadCell_63 : decode cX4_spreadCell 63 = .ok (.lconst 0, 1) := by decide +kernel
theorem dX4_spreadCell_64 : decode cX4_spreadCell 64 = .ok (.lcmp, 1) := by decide +kernel
theorem dX4_spreadCell_65 : decode cX4_spreadCell 65 = .ok (.ifCond .eq 139, 3) := by decide +kernel
theorem dX4_spreadCell_68 : decode cX4_spreadCell 68 = .ok (.iload 5, 2) := by decide +kernel
theorem dX4_spreadCell_70 : decode cX4_spreadCell 70 = .ok (.ifCond .ne 134, 3) := by decide +kernel
theorem dX4_spreadCell_73 : decode cX4_spreadCell 73 = .ok (.iload 8, 2) := by decide +kernel
theorem dX4_spreadCell_75 : decode cX4_spreadCell 75 = .ok (.iconst 1, 1) := by decide +kernel
theorem dX4_spreadCell_76 : decode cX4_spreadCell 76 = .ok (.iadd, 1) := by decide +kernel
theorem dX4_spreadCell_77 : decode cX4_spreadCell 77 = .ok (.bipush 12, 2) := by decide +kernel
theorem dX4_spreadCell_79 : decode cX4_spreadCell 79 = .ok (.if_icmp .ne 7, 3) := by decide +kernel
theorem dX4_spreadCell_82 : decode cX4_spreadCell 82 = .ok (.iconst 0, 1) := by decide +kernel
theorem dX4_spreadCell_83 : decode cX4_spreadCell 83 = .ok (.goto 7, 3) := by decide +kernel
theorem dX4_spreadCell_86 : decode cX4_spreadCell 86 = .ok (.iload 8, 2) := by decide +kernel
theorem dX4_spreadCell_88 : decode cX4_spreadCell 88 = .ok (.iconst 1, 1) := by decide +kernel
theorem dX4_spreadCell_89 : decode cX4_spreadCell 89 = .ok (.iadd, 1) := by decide +kernel
theorem dX4_spreadCell_90 : decode cX4_spreadCell 90 = .ok (.istore 11, 2) := by decide +kernel
theorem dX4_spreadCell_92 : decode cX4_spreadCell 92 = .ok (.iload 8, 2) := by decide +kernel
theorem dX4_spreadCell_94 : decode cX4_spreadCell 94 = .ok (.iload_n 3, 1) := by decide +kernel
theorem dX4_spreadCell_95 : decode cX4_spreadCell 95 = .ok (.iadd, 1) := by decide +kernel
theorem dX4_spreadCell_96 : decode cX4_spreadCell 96 = .ok (.iconst 1, 1) := by decide +kernel
theorem dX4_spreadCell_97 : decode cX4_spreadCell 97 = .ok (.iand, 1) := by decide +kernel
theorem dX4_spreadCell_98 : decode cX4_spreadCell 98 = .ok (.ifCond .ne 7, 3) := by decide +kernel
theorem dX4_spreadCell_101 : decode cX4_spreadCell 101 = .ok (.iconst 1, 1) := by decide +kernel
theorem dX4_spreadCell_102 : decode cX4_spreadCell 102 = .ok (.goto 4, 3) := by decide +kernel
theorem dX4_spreadCell_105 : decode cX4_spreadCell 105 = .ok (.iconst 0, 1) := by decide +kernel
theorem dX4_spreadCell_106 : decode cX4_spreadCell 106 = .ok (.istore 12, 2) := by decide +kernel
theorem dX4_spreadCell_108 : decode cX4_spreadCell 108 = .ok (.lload 9, 2) := by decide +kernel
theorem dX4_spreadCell_110 : decode cX4_spreadCell 110 = .ok (.aload_n 0, 1) := by decide +kernel
theorem dX4_spreadCell_111 : decode cX4_spreadCell 111 = .ok (.getfield 21, 3) := by decide +kernel
theorem dX4_spreadCell_114 : decode cX4_spreadCell 114 = .ok (.iload 8, 2) := by decide +kernel
theorem dX4_spreadCell_116 : decode cX4_spreadCell 116 = .ok (.iaload, 1) := by decide +kernel
theorem dX4_spreadCell_117 : decode cX4_spreadCell 117 = .ok (.i2l, 1) := by decide +kernel
theorem dX4_spreadCell_118 : decode cX4_spreadCell 118 = .ok (.lmul, 1) := by decide +kernel
theorem dX4_spreadCell_119 : decode cX4_spreadCell 119 = .ok (.ldc2_w 109, 3) := by decide +kernel
theorem dX4_spreadCell_122 : decode cX4_spreadCell 122 = .ok (.ldiv, 1) := by decide +kernel
theorem dX4_spreadCell_123 : decode cX4_spreadCell 123 = .ok (.lstore 13, 2) := by decide +kernel
theorem dX4_spreadCell_125 : decode cX4_spreadCell 125 = .ok (.aload_n 0, 1) := by decide +kernel
theorem dX4_spreadCell_126 : decode cX4_spreadCell 126 = .ok (.getfield 38, 3) := by decide +kernel
theorem dX4_spreadCell_129 : decode cX4_spreadCell 129 = .ok (.iload 4, 2) := by decide +kernel
theorem dX4_spreadCell_131 : decode cX4_spreadCell 131 = .ok (.iload 12, 2) := by decide +kernel
theorem dX4_spreadCell_133 : decode cX4_spreadCell 133 = .ok (.ifCond .eq 8, 3) := by decide +kernel
theorem dX4_spreadCell_136 : decode cX4_spreadCell 136 = .ok (.iload 8, 2) := by decide +kernel
theorem dX4_spreadCell_138 : decode cX4_spreadCell 138 = .ok (.goto 5, 3) := by decide +kernel
theorem dX4_spreadCell_141 : decode cX4_spreadCell 141 = .ok (.iload 11, 2) := by decide +kernel
theorem dX4_spreadCell_143 : decode cX4_spreadCell 143 = .ok (.iadd, 1) := by decide +kernel
theorem dX4_spreadCell_144 : decode cX4_spreadCell 144 = .ok (.dup2, 1) := by decide +kernel
theorem dX4_spreadCell_145 : decode cX4_spreadCell 145 = .ok (.laload, 1) := by decide +kernel
theorem dX4_spreadCell_146 : decode cX4_spreadCell 146 = .ok (.iload 12, 2) := by decide +kernel
theorem dX4_spreadCell_148 : decode cX4_spreadCell 148 = .ok (.ifCond .eq 8, 3) := by decide +kernel
theorem dX4_spreadCell_151 : decode cX4_spreadCell 151 = .ok (.lload 13, 2) := by decide +kernel
theorem dX4_spreadCell_153 : decode cX4_spreadCell 153 = .ok (.goto 8, 3) := by decide +kernel
theorem dX4_spreadCell_156 : decode cX4_spreadCell 156 = .ok (.lload 9, 2) := by decide +kernel
theorem dX4_spreadCell_158 : decode cX4_spreadCell 158 = .ok (.lload 13, 2) := by decide +kernel
theorem dX4_spreadCell_160 : decode cX4_spreadCell 160 = .ok (.lsub, 1) := by decide +kernel
theorem dX4_spreadCell_161 : decode cX4_spreadCell 161 = .ok (.ladd, 1) := by decide +kernel
theorem dX4_spreadCell_162 : decode cX4_spreadCell 162 = .ok (.lastore, 1) := by decide +kernel
theorem dX4_spreadCell_163 : decode cX4_spreadCell 163 = .ok (.aload_n 0, 1) := by decide +kernel
theorem dX4_spreadCell_164 : decode cX4_spreadCell 164 = .ok (.getfield 35, 3) := by decide +kernel
theorem dX4_spreadCell_167 : decode cX4_spreadCell 167 = .ok (.iload 4, 2) := by decide +kernel
theorem dX4_spreadCell_169 : decode cX4_spreadCell 169 = .ok (.bipush 12, 2) := by decide +kernel
theorem dX4_spreadCell_171 : decode cX4_spreadCell 171 = .ok (.iadd, 1) := by decide +kernel
theorem dX4_spreadCell_172 : decode cX4_spreadCell 172 = .ok (.iload 12, 2) := by decide +kernel
theorem dX4_spreadCell_174 : decode cX4_spreadCell 174 = .ok (.ifCond .eq 8, 3) := by decide +kernel
theorem dX4_spreadCell_177 : decode cX4_spreadCell 177 = .ok (.iload 11, 2) := by decide +kernel
theorem dX4_spreadCell_179 : decode cX4_spreadCell 179 = .ok (.goto 5, 3) := by decide +kernel
theorem dX4_spreadCell_182 : decode cX4_spreadCell 182 = .ok (.iload 8, 2) := by decide +kernel
theorem dX4_spreadCell_184 : decode cX4_spreadCell 184 = .ok (.iadd, 1) := by decide +kernel
theorem dX4_spreadCell_185 : decode cX4_spreadCell 185 = .ok (.dup2, 1) := by decide +kernel
theorem dX4_spreadCell_186 : decode cX4_spreadCell 186 = .ok (.laload, 1) := by decide +kernel
theorem dX4_spreadCell_187 : decode cX4_spreadCell 187 = .ok (.iload 12, 2) := by decide +kernel
theorem dX4_spreadCell_189 : decode cX4_spreadCell 189 = .ok (.ifCond .eq 11, 3) := by decide +kernel
theorem dX4_spreadCell_192 : decode cX4_spreadCell 192 = .ok (.lload 9, 2) := by decide +kernel
theorem dX4_spreadCell_194 : decode cX4_spreadCell 194 = .ok (.lload 13, 2) := by decide +kernel
theorem dX4_spreadCell_196 : decode cX4_spreadCell 196 = .ok (.lsub, 1) := by decide +kernel
theorem dX4_spreadCell_197 : decode cX4_spreadCell 197 = .ok (.goto 5, 3) := by decide +kernel
theorem dX4_spreadCell_200 : decode cX4_spreadCell 200 = .ok (.lload 13, 2) := by decide +kernel
theorem dX4_spreadCell_202 : decode cX4_spreadCell 202 = .ok (.ladd, 1) := by decide +kernel
theorem dX4_spreadCell_203 : decode cX4_spreadCell 203 = .ok (.lastore, 1) := by decide +kernel
theorem dX4_spreadCell_204 : decode cX4_spreadCell 204 = .ok (.iinc 8 1, 3) := by decide +kernel
theorem dX4_spreadCell_207 : decode cX4_spreadCell 207 = .ok (.goto (-172), 3) := by decide +kernel
theorem dX4_spreadCell_210 : decode cX4_spreadCell 210 = .ok (.aload_n 0, 1) := by decide +kernel
theorem dX4_spreadCell_211 : decode cX4_spreadCell 211 = .ok (.getfield 25, 3) := by decide +kernel
theorem dX4_spreadCell_214 : decode cX4_spreadCell 214 = .ok (.iload_n 1, 1) := by decide +kernel
theorem dX4_spreadCell_215 : decode cX4_spreadCell 215 = .ok (.bipush 26, 2) := by decide +kernel
theorem dX4_spreadCell_217 : decode cX4_spreadCell 217 = .ok (.imul, 1) := by decide +kernel
theorem dX4_spreadCell_218 : decode cX4_spreadCell 218 = .ok (.iload_n 2, 1) := by decide +kernel
theorem dX4_spreadCell_219 : decode cX4_spreadCell 219 = .ok (.iadd, 1) := by decide +kernel
theorem dX4_spreadCell_220 : decode cX4_spreadCell 220 = .ok (.lload 6, 2) := by decide +kernel
theorem dX4_spreadCell_222 : decode cX4_spreadCell 222 = .ok (.lastore, 1) := by decide +kernel
theorem dX4_spreadCell_223 : decode cX4_spreadCell 223 = .ok (.return_, 1) := by decide +kernel
def fX4_spreadCell_204 (k35 : Nat → Int32 → Int32 → Int32 → Int32 → Int32 → Int64 → Int32 → hp_T → Option hp_T) (a0 : Nat) (a1 : Int32) (a2 : Int32) (a3 : Int32) (a4 : Int32) (a5 : Int32) (a6 : Int64) (a8 : Int32) (h : hp_T) : Option hp_T := fx_let (a8 + (1 : Int32)) fun (x204 : Int32) => k35 a0 a1 a2 a3 a4 a5 a6 x204 h
set_option maxRecDepth 100000 in
set_option maxHeartbeats 4000000 in
theorem bX4_spreadCell_204 {l : Launch} {G : xr_G} {K : xr_K} {h1 : hp_T} (C : xr_C G K cX4_spreadCell RX4 15 (xr_R 0 0) none (some (xr_Qv G h1))) (k35 : Nat → Int32 → Int32 → Int32 → Int32 → Int32 → Int64 → Int32 → hp_T → Option hp_T) (j35 : ∀ (a0 : Nat) (a1 : Int32) (a2 : Int32) (a3 : Int32) (a4 : Int32) (a5 : Int32) (a6 : Int64) (a8 : Int32) (ta0 : hp_sh a0 = (4, 0)) (h : hp_T), k35 a0 a1 a2 a3 a4 a5 a6 a8 h = some h1 → xr_j l G K 15 h [(0, .ref (G.2.2.1 a0)), (1, .int a1), (2, .int a2), (3, .int a3), (4, .int a4), (5, .int a5), (6, .long a6), (8, .int a8)] 35 []) (a0 : Nat) (a1 : Int32) (a2 : Int32) (a3 : Int32) (a4 : Int32) (a5 : Int32) (a6 : Int64) (a8 : Int32) (ta0 : hp_sh a0 = (4, 0)) (h : hp_T) (hF : fX4_spreadCell_204 k35 a0 a1 a2 a3 a4 a5 a6 a8 h = some h1) : xr_j l G K 15 h [(0, .ref (G.2.2.1 a0)), (1, .int a1), (2, .int a2), (3, .int a3), (4, .int a4), (5, .int a5), (6, .long a6), (8, .int a8)] 204 [] := by
  unfold fX4_spreadCell_204 at hF
  obtain ⟨x204, e204⟩ : ∃ y : Int32, y = (a8 + (1 : Int32)) := ⟨_, rfl⟩
  have hF := fx_letE hF x204 e204
  refine xr_iinc C x204 7 [(8, .int x204), (0, .ref (G.2.2.1 a0)), (1, .int a1), (2, .int a2), (3, .int a3), (4, .int a4), (5, .int a5), (6, .long a6)] dX4_spreadCell_204 rfl (by rw [e204]; rfl) (Nat.le_of_ble_eq_true rfl) rfl ?_
  refine xr_goto C 35 dX4_spreadCell_207 (by decide) ?_
  refine xr_sub [1, 2, 3, 4, 5, 6, 7, 0] [(0, .ref (G.2.2.1 a0)), (1, .int a1), (2, .int a2), (3, .int a3), (4, .int a4), (5, .int a5), (6, .long a6), (8, .int x204)] rfl ?_
  exact j35 a0 a1 a2 a3 a4 a5 a6 x204 ta0 h hF
def fX4_spreadCell_202 (k35 : Nat → Int32 → Int32 → Int32 → Int32 → Int32 → Int64 → Int32 → hp_T → Option hp_T) (a0 : Nat) (a1 : Int32) (a2 : Int32) (a3 : Int32) (a4 : Int32) (a5 : Int32) (a6 : Int64) (a8 : Int32) (s0 : Nat) (s1 : Int32) (s2 : Int64) (s3 : Int64) (h : hp_T) : Option hp_T := fx_g (fx_in s1 312) (fx_let (hp_sL h s0 (fx_ix s1) (s2 + s3)) fun (h203 : hp_T) => fX4_spreadCell_204 k35 a0 a1 a2 a3 a4 a5 a6 a8 h203)
set_option maxRecDepth 100000 in
set_option maxHeartbeats 4000000 in
theorem bX4_spreadCell_202 {l : Launch} {G : xr_G} {K : xr_K} {h1 : hp_T} (C : xr_C G K cX4_spreadCell RX4 15 (xr_R 0 0) none (some (xr_Qv G h1))) (k35 : Nat → Int32 → Int32 → Int32 → Int32 → Int32 → Int64 → Int32 → hp_T → Option hp_T) (j35 : ∀ (a0 : Nat) (a1 : Int32) (a2 : Int32) (a3 : Int32) (a4 : Int32) (a5 : Int32) (a6 : Int64) (a8 : Int32) (ta0 : hp_sh a0 = (4, 0)) (h : hp_T), k35 a0 a1 a2 a3 a4 a5 a6 a8 h = some h1 → xr_j l G K 15 h [(0, .ref (G.2.2.1 a0)), (1, .int a1), (2, .int a2), (3, .int a3), (4, .int a4), (5, .int a5), (6, .long a6), (8, .int a8)] 35 []) (a0 : Nat) (a1 : Int32) (a2 : Int32) (a3 : Int32) (a4 : Int32) (a5 : Int32) (a6 : Int64) (a8 : Int32) (s0 : Nat) (s1 : Int32) (s2 : Int64) (s3 : Int64) (ta0 : hp_sh a0 = (4, 0)) (ts0 : hp_sh s0 = (21, 312)) (h : hp_T) (hF : fX4_spreadCell_202 k35 a0 a1 a2 a3 a4 a5 a6 a8 s0 s1 s2 s3 h = some h1) : xr_j l G K 15 h [(0, .ref (G.2.2.1 a0)), (1, .int a1), (2, .int a2), (3, .int a3), (4, .int a4), (5, .int a5), (6, .long a6), (8, .int a8)] 202 [.long s3, .long s2, .int s1, .ref (G.2.2.1 s0)] := by
  unfold fX4_spreadCell_202 at hF
  refine xr_ladd C dX4_spreadCell_202 ?_
  obtain ⟨g203, hF⟩ := fx_gE hF
  refine xr_last C dX4_spreadCell_203 ts0 g203 (fun h203 e203 => ?_)
  have hF := fx_letE hF h203 e203
  exact bX4_spreadCell_204 C k35 j35  a0 a1 a2 a3 a4 a5 a6 a8 ta0 h203 hF
def fX4_spreadCell_184 (k35 : Nat → Int32 → Int32 → Int32 → Int32 → Int32 → Int64 → Int32 → hp_T → Option hp_T) (a0 : Nat) (a1 : Int32) (a2 : Int32) (a3 : Int32) (a4 : Int32) (a5 : Int32) (a6 : Int64) (a8 : Int32) (a9 : Int64) (a12 : Int32) (a13 : Int64) (s0 : Nat) (s1 : Int32) (s2 : Int32) (h : hp_T) : Option hp_T := fx_let (s1 + s2) fun (x185 : Int32) => fx_g (fx_in x185 312) (if a12 = 0 then (fX4_spreadCell_202 k35 a0 a1 a2 a3 a4 a5 a6 a8 s0 x185 (h.2.1 s0 (fx_ix x185)) a13 h) else (fX4_spreadCell_202 k35 a0 a1 a2 a3 a4 a5 a6 a8 s0 x185 (h.2.1 s0 (fx_ix x185)) (a9 - a13) h))
set_option maxRecDepth 100000 in
set_option maxHeartbeats 4000000 in
theorem bX4_spreadCell_184 {l : Launch} {G : xr_G} {K : xr_K} {h1 : hp_T} (C : xr_C G K cX4_spreadCell RX4 15 (xr_R 0 0) none (some (xr_Qv G h1))) (k35 : Nat → Int32 → Int32 → Int32 → Int32 → Int32 → Int64 → Int32 → hp_T → Option hp_T) (j35 : ∀ (a0 : Nat) (a1 : Int32) (a2 : Int32) (a3 : Int32) (a4 : Int32) (a5 : Int32) (a6 : Int64) (a8 : Int32) (ta0 : hp_sh a0 = (4, 0)) (h : hp_T), k35 a0 a1 a2 a3 a4 a5 a6 a8 h = some h1 → xr_j l G K 15 h [(0, .ref (G.2.2.1 a0)), (1, .int a1), (2, .int a2), (3, .int a3), (4, .int a4), (5, .int a5), (6, .long a6), (8, .int a8)] 35 []) (a0 : Nat) (a1 : Int32) (a2 : Int32) (a3 : Int32) (a4 : Int32) (a5 : Int32) (a6 : Int64) (a8 : Int32) (a9 : Int64) (a12 : Int32) (a13 : Int64) (s0 : Nat) (s1 : Int32) (s2 : Int32) (ta0 : hp_sh a0 = (4, 0)) (ts0 : hp_sh s0 = (21, 312)) (h : hp_T) (hF : fX4_spreadCell_184 k35 a0 a1 a2 a3 a4 a5 a6 a8 a9 a12 a13 s0 s1 s2 h = some h1) : xr_j l G K 15 h [(0, .ref (G.2.2.1 a0)), (1, .int a1), (2, .int a2), (3, .int a3), (4, .int a4), (5, .int a5), (6, .long a6), (8, .int a8), (9, .long a9), (12, .int a12), (13, .long a13)] 184 [.int s2, .int s1, .ref (G.2.2.1 s0)] := by
  unfold fX4_spreadCell_184 at hF
  refine xr_iadd C dX4_spreadCell_184 ?_
  refine xr_topi (fun x185 e185 => ?_)
  have hF := fx_letE hF x185 e185
  refine xr_dup2 C dX4_spreadCell_185 rfl rfl ?_
  obtain ⟨g186, hF⟩ := fx_gE hF
  refine xr_lald C dX4_spreadCell_186 ts0 g186 ?_
  refine xr_iload C 9 dX4_spreadCell_187 rfl ?_
  refine xr_if_eq C 200 dX4_spreadCell_189 (by decide) (fun c189 => ?_) (fun c189 => ?_)
  · have hF := fx_pos hF c189
    refine xr_lload C 10 dX4_spreadCell_200 rfl ?_
    refine xr_sub [0, 1, 2, 3, 4, 5, 6, 7] [(0, .ref (G.2.2.1 a0)), (1, .int a1), (2, .int a2), (3, .int a3), (4, .int a4), (5, .int a5), (6, .long a6), (8, .int a8)] rfl ?_
    exact bX4_spreadCell_202 C k35 j35  a0 a1 a2 a3 a4 a5 a6 a8 s0 x185 (h.2.1 s0 (fx_ix x185)) a13 ta0 ts0 h hF
  · have hF := fx_neg hF c189
    refine xr_lload C 8 dX4_spreadCell_192 rfl ?_
    refine xr_lload C 10 dX4_spreadCell_194 rfl ?_
    refine xr_lsub C dX4_spreadCell_196 ?_
    refine xr_goto C 202 dX4_spreadCell_197 (by decide) ?_
    refine xr_sub [0, 1, 2, 3, 4, 5, 6, 7] [(0, .ref (G.2.2.1 a0)), (1, .int a1), (2, .int a2), (3, .int a3), (4, .int a4), (5, .int a5), (6, .long a6), (8, .int a8)] rfl ?_
    exact bX4_spreadCell_202 C k35 j35  a0 a1 a2 a3 a4 a5 a6 a8 s0 x185 (h.2.1 s0 (fx_ix x185)) (a9 - a13) ta0 ts0 h hF
def fX4_spreadCell_161 (k35 : Nat → Int32 → Int32 → Int32 → Int32 → Int32 → Int64 → Int32 → hp_T → Option hp_T) (a0 : Nat) (a1 : Int32) (a2 : Int32) (a3 : Int32) (a4 : Int32) (a5 : Int32) (a6 : Int64) (a8 : Int32) (a9 : Int64) (a11 : Int32) (a12 : Int32) (a13 : Int64) (s0 : Nat) (s1 : Int32) (s2 : Int64) (s3 : Int64) (h : hp_T) : Option hp_T := fx_g (fx_in s1 312) (fx_let (hp_sL h s0 (fx_ix s1) (s2 + s3)) fun (h162 : hp_T) => if a12 = 0 then (fX4_spreadCell_184 k35 a0 a1 a2 a3 a4 a5 a6 a8 a9 a12 a13 (h162.2.2 a0 6) (a4 + (12 : Int32)) a8 h162) else (fX4_spreadCell_184 k35 a0 a1 a2 a3 a4 a5 a6 a8 a9 a12 a13 (h162.2.2 a0 6) (a4 + (12 : Int32)) a11 h162))
set_option maxRecDepth 100000 in
set_option maxHeartbeats 4000000 in
theorem bX4_spreadCell_161 {l : Launch} {G : xr_G} {K : xr_K} {h1 : hp_T} (C : xr_C G K cX4_spreadCell RX4 15 (xr_R 0 0) none (some (xr_Qv G h1))) (k35 : Nat → Int32 → Int32 → Int32 → Int32 → Int32 → Int64 → Int32 → hp_T → Option hp_T) (j35 : ∀ (a0 : Nat) (a1 : Int32) (a2 : Int32) (a3 : Int32) (a4 : Int32) (a5 : Int32) (a6 : Int64) (a8 : Int32) (ta0 : hp_sh a0 = (4, 0)) (h : hp_T), k35 a0 a1 a2 a3 a4 a5 a6 a8 h = some h1 → xr_j l G K 15 h [(0, .ref (G.2.2.1 a0)), (1, .int a1), (2, .int a2), (3, .int a3), (4, .int a4), (5, .int a5), (6, .long a6), (8, .int a8)] 35 []) (a0 : Nat) (a1 : Int32) (a2 : Int32) (a3 : Int32) (a4 : Int32) (a5 : Int32) (a6 : Int64) (a8 : Int32) (a9 : Int64) (a11 : Int32) (a12 : Int32) (a13 : Int64) (s0 : Nat) (s1 : Int32) (s2 : Int64) (s3 : Int64) (ta0 : hp_sh a0 = (4, 0)) (ts0 : hp_sh s0 = (21, 312)) (h : hp_T) (hF : fX4_spreadCell_161 k35 a0 a1 a2 a3 a4 a5 a6 a8 a9 a11 a12 a13 s0 s1 s2 s3 h = some h1) : xr_j l G K 15 h [(0, .ref (G.2.2.1 a0)), (1, .int a1), (2, .int a2), (3, .int a3), (4, .int a4), (5, .int a5), (6, .long a6), (8, .int a8), (9, .long a9), (11, .int a11), (12, .int a12), (13, .long a13)] 161 [.long s3, .long s2, .int s1, .ref (G.2.2.1 s0)] := by
  unfold fX4_spreadCell_161 at hF
  refine xr_ladd C dX4_spreadCell_161 ?_
  obtain ⟨g162, hF⟩ := fx_gE hF
  refine xr_last C dX4_spreadCell_162 ts0 g162 (fun h162 e162 => ?_)
  have hF := fx_letE hF h162 e162
  refine xr_aload_n C 0 dX4_spreadCell_163 rfl rfl ?_
  refine xr_getr C flX4_35 rfl (by decide) dX4_spreadCell_164 ta0 (fun t164 => ?_)
  refine xr_iload C 4 dX4_spreadCell_167 rfl ?_
  refine xr_bipush (v := 12) C dX4_spreadCell_169 (by decide) ?_
  refine xr_iadd C dX4_spreadCell_171 ?_
  refine xr_iload C 10 dX4_spreadCell_172 rfl ?_
  refine xr_if_eq C 182 dX4_spreadCell_174 (by decide) (fun c174 => ?_) (fun c174 => ?_)
  · have hF := fx_pos hF c174
    refine xr_iload C 7 dX4_spreadCell_182 rfl ?_
    refine xr_sub [0, 1, 2, 3, 4, 5, 6, 7, 8, 10, 11] [(0, .ref (G.2.2.1 a0)), (1, .int a1), (2, .int a2), (3, .int a3), (4, .int a4), (5, .int a5), (6, .long a6), (8, .int a8), (9, .long a9), (12, .int a12), (13, .long a13)] rfl ?_
    exact bX4_spreadCell_184 C k35 j35  a0 a1 a2 a3 a4 a5 a6 a8 a9 a12 a13 (h162.2.2 a0 6) (a4 + (12 : Int32)) a8 ta0 t164 h162 hF
  · have hF := fx_neg hF c174
    refine xr_iload C 9 dX4_spreadCell_177 rfl ?_
    refine xr_goto C 184 dX4_spreadCell_179 (by decide) ?_
    refine xr_sub [0, 1, 2, 3, 4, 5, 6, 7, 8, 10, 11] [(0, .ref (G.2.2.1 a0)), (1, .int a1), (2, .int a2), (3, .int a3), (4, .int a4), (5, .int a5), (6, .long a6), (8, .int a8), (9, .long a9), (12, .int a12), (13, .long a13)] rfl ?_
    exact bX4_spreadCell_184 C k35 j35  a0 a1 a2 a3 a4 a5 a6 a8 a9 a12 a13 (h162.2.2 a0 6) (a4 + (12 : Int32)) a11 ta0 t164 h162 hF
def fX4_spreadCell_143 (k35 : Nat → Int32 → Int32 → Int32 → Int32 → Int32 → Int64 → Int32 → hp_T → Option hp_T) (a0 : Nat) (a1 : Int32) (a2 : Int32) (a3 : Int32) (a4 : Int32) (a5 : Int32) (a6 : Int64) (a8 : Int32) (a9 : Int64) (a11 : Int32) (a12 : Int32) (a13 : Int64) (s0 : Nat) (s1 : Int32) (s2 : Int32) (h : hp_T) : Option hp_T := fx_let (s1 + s2) fun (x144 : Int32) => fx_g (fx_in x144 312) (if a12 = 0 then (fX4_spreadCell_161 k35 a0 a1 a2 a3 a4 a5 a6 a8 a9 a11 a12 a13 s0 x144 (h.2.1 s0 (fx_ix x144)) (a9 - a13) h) else (fX4_spreadCell_161 k35 a0 a1 a2 a3 a4 a5 a6 a8 a9 a11 a12 a13 s0 x144 (h.2.1 s0 (fx_ix x144)) a13 h))
set_option maxRecDepth 100000 in
set_option maxHeartbeats 4000000 in
theorem bX4_spreadCell_143 {l : Launch} {G : xr_G} {K : xr_K} {h1 : hp_T} (C : xr_C G K cX4_spreadCell RX4 15 (xr_R 0 0) none (some (xr_Qv G h1))) (k35 : Nat → Int32 → Int32 → Int32 → Int32 → Int32 → Int64 → Int32 → hp_T → Option hp_T) (j35 : ∀ (a0 : Nat) (a1 : Int32) (a2 : Int32) (a3 : Int32) (a4 : Int32) (a5 : Int32) (a6 : Int64) (a8 : Int32) (ta0 : hp_sh a0 = (4, 0)) (h : hp_T), k35 a0 a1 a2 a3 a4 a5 a6 a8 h = some h1 → xr_j l G K 15 h [(0, .ref (G.2.2.1 a0)), (1, .int a1), (2, .int a2), (3, .int a3), (4, .int a4), (5, .int a5), (6, .long a6), (8, .int a8)] 35 []) (a0 : Nat) (a1 : Int32) (a2 : Int32) (a3 : Int32) (a4 : Int32) (a5 : Int32) (a6 : Int64) (a8 : Int32) (a9 : Int64) (a11 : Int32) (a12 : Int32) (a13 : Int64) (s0 : Nat) (s1 : Int32) (s2 : Int32) (ta0 : hp_sh a0 = (4, 0)) (ts0 : hp_sh s0 = (21, 312)) (h : hp_T) (hF : fX4_spreadCell_143 k35 a0 a1 a2 a3 a4 a5 a6 a8 a9 a11 a12 a13 s0 s1 s2 h = some h1) : xr_j l G K 15 h [(0, .ref (G.2.2.1 a0)), (1, .int a1), (2, .int a2), (3, .int a3), (4, .int a4), (5, .int a5), (6, .long a6), (8, .int a8), (9, .long a9), (11, .int a11), (12, .int a12), (13, .long a13)] 143 [.int s2, .int s1, .ref (G.2.2.1 s0)] := by
  unfold fX4_spreadCell_143 at hF
  refine xr_iadd C dX4_spreadCell_143 ?_
  refine xr_topi (fun x144 e144 => ?_)
  have hF := fx_letE hF x144 e144
  refine xr_dup2 C dX4_spreadCell_144 rfl rfl ?_
  obtain ⟨g145, hF⟩ := fx_gE hF
  refine xr_lald C dX4_spreadCell_145 ts0 g145 ?_
  refine xr_iload C 10 dX4_spreadCell_146 rfl ?_
  refine xr_if_eq C 156 dX4_spreadCell_148 (by decide) (fun c148 => ?_) (fun c148 => ?_)
  · have hF := fx_pos hF c148
    refine xr_lload C 8 dX4_spreadCell_156 rfl ?_
    refine xr_lload C 11 dX4_spreadCell_158 rfl ?_
    refine xr_lsub C dX4_spreadCell_160 ?_
    exact bX4_spreadCell_161 C k35 j35  a0 a1 a2 a3 a4 a5 a6 a8 a9 a11 a12 a13 s0 x144 (h.2.1 s0 (fx_ix x144)) (a9 - a13) ta0 ts0 h hF
  · have hF := fx_neg hF c148
    refine xr_lload C 11 dX4_spreadCell_151 rfl ?_
    refine xr_goto C 161 dX4_spreadCell_153 (by decide) ?_
    exact bX4_spreadCell_161 C k35 j35  a0 a1 a2 a3 a4 a5 a6 a8 a9 a11 a12 a13 s0 x144 (h.2.1 s0 (fx_ix x144)) a13 ta0 ts0 h hF
def fX4_spreadCell_106 (k35 : Nat → Int32 → Int32 → Int32 → Int32 → Int32 → Int64 → Int32 → hp_T → Option hp_T) (a0 : Nat) (a1 : Int32) (a2 : Int32) (a3 : Int32) (a4 : Int32) (a5 : Int32) (a6 : Int64) (a8 : Int32) (a9 : Int64) (a11 : Int32) (s0 : Int32) (h : hp_T) : Option hp_T := fx_g (fx_in a8 12) (fx_let ((a9 * (Int32.toInt64 (h.1 (h.2.2 a0 2) (fx_ix a8)))) / (1000 : Int64)) fun (x123 : Int64) => if s0 = 0 then (fX4_spreadCell_143 k35 a0 a1 a2 a3 a4 a5 a6 a8 a9 a11 s0 x123 (h.2.2 a0 7) a4 a11 h) else (fX4_spreadCell_143 k35 a0 a1 a2 a3 a4 a5 a6 a8 a9 a11 s0 x123 (h.2.2 a0 7) a4 a8 h))
set_option maxRecDepth 100000 in
set_option maxHeartbeats 4000000 in
theorem bX4_spreadCell_106 {l : Launch} {G : xr_G} {K : xr_K} {h1 : hp_T} (C : xr_C G K cX4_spreadCell RX4 15 (xr_R 0 0) none (some (xr_Qv G h1))) (k35 : Nat → Int32 → Int32 → Int32 → Int32 → Int32 → Int64 → Int32 → hp_T → Option hp_T) (j35 : ∀ (a0 : Nat) (a1 : Int32) (a2 : Int32) (a3 : Int32) (a4 : Int32) (a5 : Int32) (a6 : Int64) (a8 : Int32) (ta0 : hp_sh a0 = (4, 0)) (h : hp_T), k35 a0 a1 a2 a3 a4 a5 a6 a8 h = some h1 → xr_j l G K 15 h [(0, .ref (G.2.2.1 a0)), (1, .int a1), (2, .int a2), (3, .int a3), (4, .int a4), (5, .int a5), (6, .long a6), (8, .int a8)] 35 []) (a0 : Nat) (a1 : Int32) (a2 : Int32) (a3 : Int32) (a4 : Int32) (a5 : Int32) (a6 : Int64) (a8 : Int32) (a9 : Int64) (a11 : Int32) (s0 : Int32) (ta0 : hp_sh a0 = (4, 0)) (h : hp_T) (hF : fX4_spreadCell_106 k35 a0 a1 a2 a3 a4 a5 a6 a8 a9 a11 s0 h = some h1) : xr_j l G K 15 h [(0, .ref (G.2.2.1 a0)), (1, .int a1), (2, .int a2), (3, .int a3), (4, .int a4), (5, .int a5), (6, .long a6), (8, .int a8), (9, .long a9), (11, .int a11)] 106 [.int s0] := by
  unfold fX4_spreadCell_106 at hF
  refine xr_istore C [(12, .int s0), (0, .ref (G.2.2.1 a0)), (1, .int a1), (2, .int a2), (3, .int a3), (4, .int a4), (5, .int a5), (6, .long a6), (8, .int a8), (9, .long a9), (11, .int a11)] dX4_spreadCell_106 (Nat.le_of_ble_eq_true rfl) rfl ?_
  refine xr_lload C 9 dX4_spreadCell_108 rfl ?_
  refine xr_aload_n C 1 dX4_spreadCell_110 rfl rfl ?_
  refine xr_getr C flX4_21 rfl (by decide) dX4_spreadCell_111 ta0 (fun t111 => ?_)
  refine xr_iload C 8 dX4_spreadCell_114 rfl ?_
  obtain ⟨g116, hF⟩ := fx_gE hF
  refine xr_iald C dX4_spreadCell_116 t111 g116 ?_
  refine xr_i2l C dX4_spreadCell_117 ?_
  refine xr_lmul C dX4_spreadCell_118 ?_
  refine xr_ldc2 C klX4_109 dX4_spreadCell_119 ?_
  refine xr_ldiv C dX4_spreadCell_122 (by decide) ?_
  refine xr_topl (fun x123 e123 => ?_)
  have hF := fx_letE hF x123 e123
  refine xr_lstore C [(13, .long x123), (12, .int s0), (0, .ref (G.2.2.1 a0)), (1, .int a1), (2, .int a2), (3, .int a3), (4, .int a4), (5, .int a5), (6, .long a6), (8, .int a8), (9, .long a9), (11, .int a11)] dX4_spreadCell_123 (Nat.le_of_ble_eq_true rfl) rfl ?_
  refine xr_aload_n C 2 dX4_spreadCell_125 rfl rfl ?_
  refine xr_getr C flX4_38 rfl (by decide) dX4_spreadCell_126 ta0 (fun t126 => ?_)
  refine xr_iload C 6 dX4_spreadCell_129 rfl ?_
  refine xr_iload C 1 dX4_spreadCell_131 rfl ?_
  refine xr_if_eq C 141 dX4_spreadCell_133 (by decide) (fun c133 => ?_) (fun c133 => ?_)
  · have hF := fx_pos hF c133
    refine xr_iload C 11 dX4_spreadCell_141 rfl ?_
    refine xr_sub [2, 3, 4, 5, 6, 7, 8, 9, 10, 11, 1, 0] [(0, .ref (G.2.2.1 a0)), (1, .int a1), (2, .int a2), (3, .int a3), (4, .int a4), (5, .int a5), (6, .long a6), (8, .int a8), (9, .long a9), (11, .int a11), (12, .int s0), (13, .long x123)] rfl ?_
    exact bX4_spreadCell_143 C k35 j35  a0 a1 a2 a3 a4 a5 a6 a8 a9 a11 s0 x123 (h.2.2 a0 7) a4 a11 ta0 t126 h hF
  · have hF := fx_neg hF c133
    refine xr_iload C 9 dX4_spreadCell_136 rfl ?_
    refine xr_goto C 143 dX4_spreadCell_138 (by decide) ?_
    refine xr_sub [2, 3, 4, 5, 6, 7, 8, 9, 10, 11, 1, 0] [(0, .ref (G.2.2.1 a0)), (1, .int a1), (2, .int a2), (3, .int a3), (4, .int a4), (5, .int a5), (6, .long a6), (8, .int a8), (9, .long a9), (11, .int a11), (12, .int s0), (13, .long x123)] rfl ?_
    exact bX4_spreadCell_143 C k35 j35  a0 a1 a2 a3 a4 a5 a6 a8 a9 a11 s0 x123 (h.2.2 a0 7) a4 a8 ta0 t126 h hF
def fX4_spreadCell_90 (k35 : Nat → Int32 → Int32 → Int32 → Int32 → Int32 → Int64 → Int32 → hp_T → Option hp_T) (a0 : Nat) (a1 : Int32) (a2 : Int32) (a3 : Int32) (a4 : Int32) (a5 : Int32) (a6 : Int64) (a8 : Int32) (a9 : Int64) (s0 : Int32) (h : hp_T) : Option hp_T := if ((a8 + a3) &&& (1 : Int32)) = 0 then (fX4_spreadCell_106 k35 a0 a1 a2 a3 a4 a5 a6 a8 a9 s0 (1 : Int32) h) else (fX4_spreadCell_106 k35 a0 a1 a2 a3 a4 a5 a6 a8 a9 s0 (0 : Int32) h)
set_option maxRecDepth 100000 in
set_option maxHeartbeats 4000000 in
theorem bX4_spreadCell_90 {l : Launch} {G : xr_G} {K : xr_K} {h1 : hp_T} (C : xr_C G K cX4_spreadCell RX4 15 (xr_R 0 0) none (some (xr_Qv G h1))) (k35 : Nat → Int32 → Int32 → Int32 → Int32 → Int32 → Int64 → Int32 → hp_T → Option hp_T) (j35 : ∀ (a0 : Nat) (a1 : Int32) (a2 : Int32) (a3 : Int32) (a4 : Int32) (a5 : Int32) (a6 : Int64) (a8 : Int32) (ta0 : hp_sh a0 = (4, 0)) (h : hp_T), k35 a0 a1 a2 a3 a4 a5 a6 a8 h = some h1 → xr_j l G K 15 h [(0, .ref (G.2.2.1 a0)), (1, .int a1), (2, .int a2), (3, .int a3), (4, .int a4), (5, .int a5), (6, .long a6), (8, .int a8)] 35 []) (a0 : Nat) (a1 : Int32) (a2 : Int32) (a3 : Int32) (a4 : Int32) (a5 : Int32) (a6 : Int64) (a8 : Int32) (a9 : Int64) (s0 : Int32) (ta0 : hp_sh a0 = (4, 0)) (h : hp_T) (hF : fX4_spreadCell_90 k35 a0 a1 a2 a3 a4 a5 a6 a8 a9 s0 h = some h1) : xr_j l G K 15 h [(0, .ref (G.2.2.1 a0)), (1, .int a1), (2, .int a2), (3, .int a3), (4, .int a4), (5, .int a5), (6, .long a6), (8, .int a8), (9, .long a9)] 90 [.int s0] := by
  unfold fX4_spreadCell_90 at hF
  refine xr_istore C [(11, .int s0), (0, .ref (G.2.2.1 a0)), (1, .int a1), (2, .int a2), (3, .int a3), (4, .int a4), (5, .int a5), (6, .long a6), (8, .int a8), (9, .long a9)] dX4_spreadCell_90 (Nat.le_of_ble_eq_true rfl) rfl ?_
  refine xr_iload C 8 dX4_spreadCell_92 rfl ?_
  refine xr_iload_n C 4 dX4_spreadCell_94 rfl rfl ?_
  refine xr_iadd C dX4_spreadCell_95 ?_
  refine xr_iconst (v := 1) C dX4_spreadCell_96 (by decide) ?_
  refine xr_iand C dX4_spreadCell_97 ?_
  refine xr_if_ne C 105 dX4_spreadCell_98 (by decide) (fun c98 => ?_) (fun c98 => ?_)
  · have hF := fx_neg hF c98
    refine xr_iconst (v := 0) C dX4_spreadCell_105 (by decide) ?_
    refine xr_sub [1, 2, 3, 4, 5, 6, 7, 8, 9, 0] [(0, .ref (G.2.2.1 a0)), (1, .int a1), (2, .int a2), (3, .int a3), (4, .int a4), (5, .int a5), (6, .long a6), (8, .int a8), (9, .long a9), (11, .int s0)] rfl ?_
    exact bX4_spreadCell_106 C k35 j35  a0 a1 a2 a3 a4 a5 a6 a8 a9 s0 (0 : Int32) ta0 h hF
  · have hF := fx_pos hF c98
    refine xr_iconst (v := 1) C dX4_spreadCell_101 (by decide) ?_
    refine xr_goto C 106 dX4_spreadCell_102 (by decide) ?_
    refine xr_sub [1, 2, 3, 4, 5, 6, 7, 8, 9, 0] [(0, .ref (G.2.2.1 a0)), (1, .int a1), (2, .int a2), (3, .int a3), (4, .int a4), (5, .int a5), (6, .long a6), (8, .int a8), (9, .long a9), (11, .int s0)] rfl ?_
    exact bX4_spreadCell_106 C k35 j35  a0 a1 a2 a3 a4 a5 a6 a8 a9 s0 (1 : Int32) ta0 h hF
def fX4_spreadCell_35  : Nat → Nat → Int32 → Int32 → Int32 → Int32 → Int32 → Int64 → Int32 → hp_T → Option hp_T
  | 0, _, _, _, _, _, _, _, _, _ => none
  | n + 1, a0, a1, a2, a3, a4, a5, a6, a8, h => if (12 : Int32) ≤ a8 then (fx_g (fx_in ((a1 * (26 : Int32)) + a2) 676) (fx_let (hp_sL h (h.2.2 a0 3) (fx_ix ((a1 * (26 : Int32)) + a2)) a6) fun (h222 : hp_T) => some h222)) else (fx_g (fx_in (a4 + a8) 312) (fx_let (h.2.1 (h.2.2 a0 6) (fx_ix (a4 + a8))) fun (x52 : Int64) => fx_let (a6 + x52) fun (x59 : Int64) => if (lg_cmp x52 (0 : Int64)) = 0 then (fX4_spreadCell_204 (fX4_spreadCell_35 n) a0 a1 a2 a3 a4 a5 x59 a8 h) else (if a5 = 0 then (if (a8 + (1 : Int32)) = (12 : Int32) then (fX4_spreadCell_90 (fX4_spreadCell_35 n) a0 a1 a2 a3 a4 a5 x59 a8 x52 (0 : Int32) h) else (fX4_spreadCell_90 (fX4_spreadCell_35 n) a0 a1 a2 a3 a4 a5 x59 a8 x52 (a8 + (1 : Int32)) h)) else (fX4_spreadCell_204 (fX4_spreadCell_35 n) a0 a1 a2 a3 a4 a5 x59 a8 h))))
set_option maxRecDepth 100000 in
set_option maxHeartbeats 4000000 in
theorem bX4_spreadCell_35 {l : Launch} {G : xr_G} {K : xr_K} {h1 : hp_T} (C : xr_C G K cX4_spreadCell RX4 15 (xr_R 0 0) none (some (xr_Qv G h1)))  : ∀ (n : Nat) (a0 : Nat) (a1 : Int32) (a2 : Int32) (a3 : Int32) (a4 : Int32) (a5 : Int32) (a6 : Int64) (a8 : Int32) (ta0 : hp_sh a0 = (4, 0)) (h : hp_T), fX4_spreadCell_35 n a0 a1 a2 a3 a4 a5 a6 a8 h = some h1 → xr_j l G K 15 h [(0, .ref (G.2.2.1 a0)), (1, .int a1), (2, .int a2), (3, .int a3), (4, .int a4), (5, .int a5), (6, .long a6), (8, .int a8)] 35 [] := by
  intro n
  induction n with
  | zero =>
    intro a0 a1 a2 a3 a4 a5 a6 a8 ta0 h hF
    cases hF
  | succ n ih =>
    intro a0 a1 a2 a3 a4 a5 a6 a8 ta0 h hF
    rw [fX4_spreadCell_35] at hF
    refine xr_iload C 7 dX4_spreadCell_35 rfl ?_
    refine xr_bipush (v := 12) C dX4_spreadCell_37 (by decide) ?_
    refine xr_icmp_ge C 210 dX4_spreadCell_39 (by decide) (fun c39 => ?_) (fun c39 => ?_)
    · have hF := fx_pos hF c39
      refine xr_aload_n C 0 dX4_spreadCell_210 rfl rfl ?_
      refine xr_getr C flX4_25 rfl (by decide) dX4_spreadCell_211 ta0 (fun t211 => ?_)
      refine xr_iload_n C 1 dX4_spreadCell_214 rfl rfl ?_
      refine xr_bipush (v := 26) C dX4_spreadCell_215 (by decide) ?_
      refine xr_imul C dX4_spreadCell_217 ?_
      refine xr_iload_n C 2 dX4_spreadCell_218 rfl rfl ?_
      refine xr_iadd C dX4_spreadCell_219 ?_
      refine xr_lload C 6 dX4_spreadCell_220 rfl ?_
      obtain ⟨g222, hF⟩ := fx_gE hF
      refine xr_last C dX4_spreadCell_222 t211 g222 (fun h222 e222 => ?_)
      have hF := fx_letE hF h222 e222
      cases hF
      exact xr_vret C dX4_spreadCell_223
    · have hF := fx_neg hF c39
      refine xr_aload_n C 0 dX4_spreadCell_42 rfl rfl ?_
      refine xr_getr C flX4_35 rfl (by decide) dX4_spreadCell_43 ta0 (fun t43 => ?_)
      refine xr_iload C 4 dX4_spreadCell_46 rfl ?_
      refine xr_iload C 7 dX4_spreadCell_48 rfl ?_
      refine xr_iadd C dX4_spreadCell_50 ?_
      obtain ⟨g51, hF⟩ := fx_gE hF
      refine xr_lald C dX4_spreadCell_51 t43 g51 ?_
      refine xr_topl (fun x52 e52 => ?_)
      have hF := fx_letE hF x52 e52
      refine xr_lstore C [(9, .long x52), (0, .ref (G.2.2.1 a0)), (1, .int a1), (2, .int a2), (3, .int a3), (4, .int a4), (5, .int a5), (6, .long a6), (8, .int a8)] dX4_spreadCell_52 (Nat.le_of_ble_eq_true rfl) rfl ?_
      refine xr_lload C 7 dX4_spreadCell_54 rfl ?_
      refine xr_lload C 0 dX4_spreadCell_56 rfl ?_
      refine xr_ladd C dX4_spreadCell_58 ?_
      refine xr_topl (fun x59 e59 => ?_)
      have hF := fx_letE hF x59 e59
      refine xr_lstore C [(6, .long x59), (9, .long x52), (0, .ref (G.2.2.1 a0)), (1, .int a1), (2, .int a2), (3, .int a3), (4, .int a4), (5, .int a5), (8, .int a8)] dX4_spreadCell_59 (Nat.le_of_ble_eq_true rfl) rfl ?_
      refine xr_lload C 1 dX4_spreadCell_61 rfl ?_
      refine xr_lconst (v := 0) C dX4_spreadCell_63 (by decide) ?_
      refine xr_lcmp C dX4_spreadCell_64 ?_
      refine xr_if_eq C 204 dX4_spreadCell_65 (by decide) (fun c65 => ?_) (fun c65 => ?_)
      · have hF := fx_pos hF c65
        refine xr_sub [2, 3, 4, 5, 6, 7, 0, 8] [(0, .ref (G.2.2.1 a0)), (1, .int a1), (2, .int a2), (3, .int a3), (4, .int a4), (5, .int a5), (6, .long x59), (8, .int a8)] rfl ?_
        exact bX4_spreadCell_204 C (fX4_spreadCell_35 n) (fun a0 a1 a2 a3 a4 a5 a6 a8 ta0 h hF => ih a0 a1 a2 a3 a4 a5 a6 a8 ta0 h hF)  a0 a1 a2 a3 a4 a5 x59 a8 ta0 h hF
      · have hF := fx_neg hF c65
        refine xr_iload C 7 dX4_spreadCell_68 rfl ?_
        refine xr_if_ne C 204 dX4_spreadCell_70 (by decide) (fun c70 => ?_) (fun c70 => ?_)
        · have hF := fx_neg hF c70
          refine xr_sub [2, 3, 4, 5, 6, 7, 0, 8] [(0, .ref (G.2.2.1 a0)), (1, .int a1), (2, .int a2), (3, .int a3), (4, .int a4), (5, .int a5), (6, .long x59), (8, .int a8)] rfl ?_
          exact bX4_spreadCell_204 C (fX4_spreadCell_35 n) (fun a0 a1 a2 a3 a4 a5 a6 a8 ta0 h hF => ih a0 a1 a2 a3 a4 a5 a6 a8 ta0 h hF)  a0 a1 a2 a3 a4 a5 x59 a8 ta0 h hF
        · have hF := fx_pos hF c70
          refine xr_iload C 8 dX4_spreadCell_73 rfl ?_
          refine xr_iconst (v := 1) C dX4_spreadCell_75 (by decide) ?_
          refine xr_iadd C dX4_spreadCell_76 ?_
          refine xr_bipush (v := 12) C dX4_spreadCell_77 (by decide) ?_
          refine xr_icmp_ne C 86 dX4_spreadCell_79 (by decide) (fun c79 => ?_) (fun c79 => ?_)
          · have hF := fx_neg hF c79
            refine xr_iload C 8 dX4_spreadCell_86 rfl ?_
            refine xr_iconst (v := 1) C dX4_spreadCell_88 (by decide) ?_
            refine xr_iadd C dX4_spreadCell_89 ?_
            refine xr_sub [2, 3, 4, 5, 6, 7, 0, 8, 1] [(0, .ref (G.2.2.1 a0)), (1, .int a1), (2, .int a2), (3, .int a3), (4, .int a4), (5, .int a5), (6, .long x59), (8, .int a8), (9, .long x52)] rfl ?_
            exact bX4_spreadCell_90 C (fX4_spreadCell_35 n) (fun a0 a1 a2 a3 a4 a5 a6 a8 ta0 h hF => ih a0 a1 a2 a3 a4 a5 a6 a8 ta0 h hF)  a0 a1 a2 a3 a4 a5 x59 a8 x52 (a8 + (1 : Int32)) ta0 h hF
          · have hF := fx_pos hF c79
            refine xr_iconst (v := 0) C dX4_spreadCell_82 (by decide) ?_
            refine xr_goto C 90 dX4_spreadCell_83 (by decide) ?_
            refine xr_sub [2, 3, 4, 5, 6, 7, 0, 8, 1] [(0, .ref (G.2.2.1 a0)), (1, .int a1), (2, .int a2), (3, .int a3), (4, .int a4), (5, .int a5), (6, .long x59), (8, .int a8), (9, .long x52)] rfl ?_
            exact bX4_spreadCell_90 C (fX4_spreadCell_35 n) (fun a0 a1 a2 a3 a4 a5 a6 a8 ta0 h hF => ih a0 a1 a2 a3 a4 a5 a6 a8 ta0 h hF)  a0 a1 a2 a3 a4 a5 x59 a8 x52 (0 : Int32) ta0 h hF
def fX4_spreadCell_27  (a0 : Nat) (a1 : Int32) (a2 : Int32) (a3 : Int32) (a4 : Int32) (s0 : Int32) (h : hp_T) : Option hp_T := fX4_spreadCell_35 fx_N a0 a1 a2 a3 a4 s0 (0 : Int64) (0 : Int32) h
set_option maxRecDepth 100000 in
set_option maxHeartbeats 4000000 in
theorem bX4_spreadCell_27 {l : Launch} {G : xr_G} {K : xr_K} {h1 : hp_T} (C : xr_C G K cX4_spreadCell RX4 15 (xr_R 0 0) none (some (xr_Qv G h1)))  (a0 : Nat) (a1 : Int32) (a2 : Int32) (a3 : Int32) (a4 : Int32) (s0 : Int32) (ta0 : hp_sh a0 = (4, 0)) (h : hp_T) (hF : fX4_spreadCell_27 a0 a1 a2 a3 a4 s0 h = some h1) : xr_j l G K 15 h [(0, .ref (G.2.2.1 a0)), (1, .int a1), (2, .int a2), (3, .int a3), (4, .int a4)] 27 [.int s0] := by
  unfold fX4_spreadCell_27 at hF
  refine xr_istore C [(5, .int s0), (0, .ref (G.2.2.1 a0)), (1, .int a1), (2, .int a2), (3, .int a3), (4, .int a4)] dX4_spreadCell_27 (Nat.le_of_ble_eq_true rfl) rfl ?_
  refine xr_lconst (v := 0) C dX4_spreadCell_29 (by decide) ?_
  refine xr_lstore C [(6, .long (0 : Int64)), (5, .int s0), (0, .ref (G.2.2.1 a0)), (1, .int a1), (2, .int a2), (3, .int a3), (4, .int a4)] dX4_spreadCell_30 (Nat.le_of_ble_eq_true rfl) rfl ?_
  refine xr_iconst (v := 0) C dX4_spreadCell_32 (by decide) ?_
  refine xr_istore C [(8, .int (0 : Int32)), (6, .long (0 : Int64)), (5, .int s0), (0, .ref (G.2.2.1 a0)), (1, .int a1), (2, .int a2), (3, .int a3), (4, .int a4)] dX4_spreadCell_33 (Nat.le_of_ble_eq_true rfl) rfl ?_
  refine xr_sub [3, 4, 5, 6, 7, 2, 1, 0] [(0, .ref (G.2.2.1 a0)), (1, .int a1), (2, .int a2), (3, .int a3), (4, .int a4), (5, .int s0), (6, .long (0 : Int64)), (8, .int (0 : Int32))] rfl ?_
  exact bX4_spreadCell_35 C  fx_N a0 a1 a2 a3 a4 s0 (0 : Int64) (0 : Int32) ta0 h hF
def fX4_spreadCell_22  (a0 : Nat) (a1 : Int32) (a2 : Int32) (a3 : Int32) (a4 : Int32) (h : hp_T) : Option hp_T := fX4_spreadCell_27 a0 a1 a2 a3 a4 (1 : Int32) h
set_option maxRecDepth 100000 in
set_option maxHeartbeats 4000000 in
theorem bX4_spreadCell_22 {l : Launch} {G : xr_G} {K : xr_K} {h1 : hp_T} (C : xr_C G K cX4_spreadCell RX4 15 (xr_R 0 0) none (some (xr_Qv G h1)))  (a0 : Nat) (a1 : Int32) (a2 : Int32) (a3 : Int32) (a4 : Int32) (ta0 : hp_sh a0 = (4, 0)) (h : hp_T) (hF : fX4_spreadCell_22 a0 a1 a2 a3 a4 h = some h1) : xr_j l G K 15 h [(0, .ref (G.2.2.1 a0)), (1, .int a1), (2, .int a2), (3, .int a3), (4, .int a4)] 22 [] := by
  unfold fX4_spreadCell_22 at hF
  refine xr_iconst (v := 1) C dX4_spreadCell_22 (by decide) ?_
  refine xr_goto C 27 dX4_spreadCell_23 (by decide) ?_
  exact bX4_spreadCell_27 C   a0 a1 a2 a3 a4 (1 : Int32) ta0 h hF
def fX4_spreadCell (a0 : Nat) (a1 : Int32) (a2 : Int32) (a3 : Int32) (h : hp_T) : Option hp_T := fx_let (a2 * (12 : Int32)) fun (x4 : Int32) => if (h.1 a0 8) ≤ a1 then (fX4_spreadCell_22 a0 a1 a2 a3 x4 h) else (if a2 < (h.1 a0 8) then (fX4_spreadCell_27 a0 a1 a2 a3 x4 (0 : Int32) h) else (fX4_spreadCell_22 a0 a1 a2 a3 x4 h))
set_option maxRecDepth 100000 in
set_option maxHeartbeats 4000000 in
theorem mX4_spreadCell (l : Launch) (G : xr_G) (a0 : Nat) (a1 : Int32) (a2 : Int32) (a3 : Int32) (ta0 : hp_sh a0 = (4, 0)) (h h1 : hp_T) (hF : fX4_spreadCell a0 a1 a2 a3 h = some h1) : xr_M l G yX4_spreadCell cX4_spreadCell 15 (xr_R 0 0) none [.ref (G.2.2.1 a0), .int a1, .int a2, .int a3] h (xr_Qv G h1) := by
  refine xr_start rfl (Nat.le_of_ble_eq_true rfl) (fun K C => ?_)
  show xr_j l G K 15 h [(0, .ref (G.2.2.1 a0)), (1, .int a1), (2, .int a2), (3, .int a3)] 0 []
  unfold fX4_spreadCell at hF
  refine xr_iload_n C 2 dX4_spreadCell_0 rfl rfl ?_
  refine xr_bipush (v := 12) C dX4_spreadCell_1 (by decide) ?_
  refine xr_imul C dX4_spreadCell_3 ?_
  refine xr_topi (fun x4 e4 => ?_)
  have hF := fx_letE hF x4 e4
  refine xr_istore C [(4, .int x4), (0, .ref (G.2.2.1 a0)), (1, .int a1), (2, .int a2), (3, .int a3)] dX4_spreadCell_4 (Nat.le_of_ble_eq_true rfl) rfl ?_
  refine xr_iload_n C 2 dX4_spreadCell_6 rfl rfl ?_
  refine xr_aload_n C 1 dX4_spreadCell_7 rfl rfl ?_
  refine xr_geti C flX4_47 rfl dX4_spreadCell_8 ta0 ?_
  refine xr_icmp_ge C 22 dX4_spreadCell_11 (by decide) (fun c11 => ?_) (fun c11 => ?_)
  · have hF := fx_pos hF c11
    refine xr_sub [1, 2, 3, 4, 0] [(0, .ref (G.2.2.1 a0)), (1, .int a1), (2, .int a2), (3, .int a3), (4, .int x4)] rfl ?_
    exact bX4_spreadCell_22 C   a0 a1 a2 a3 x4 ta0 h hF
  · have hF := fx_neg hF c11
    refine xr_iload_n C 3 dX4_spreadCell_14 rfl rfl ?_
    refine xr_aload_n C 1 dX4_spreadCell_15 rfl rfl ?_
    refine xr_geti C flX4_47 rfl dX4_spreadCell_16 ta0 ?_
    refine xr_icmp_lt C 26 dX4_spreadCell_19 (by decide) (fun c19 => ?_) (fun c19 => ?_)
    · have hF := fx_pos hF c19
      refine xr_iconst (v := 0) C dX4_spreadCell_26 (by decide) ?_
      refine xr_sub [1, 2, 3, 4, 0] [(0, .ref (G.2.2.1 a0)), (1, .int a1), (2, .int a2), (3, .int a3), (4, .int x4)] rfl ?_
      exact bX4_spreadCell_27 C   a0 a1 a2 a3 x4 (0 : Int32) ta0 h hF
    · have hF := fx_neg hF c19
      refine xr_sub [1, 2, 3, 4, 0] [(0, .ref (G.2.2.1 a0)), (1, .int a1), (2, .int a2), (3, .int a3), (4, .int x4)] rfl ?_
      exact bX4_spreadCell_22 C   a0 a1 a2 a3 x4 ta0 h hF
theorem dX4_spread_0 : decode cX4_spread 0 = .ok (.aload_n 0, 1) := by decide +kernel
theorem dX4_spread_1 : decode cX4_spread 1 = .ok (.iconst 0, 1) := by decide +kernel
theorem dX4_spread_2 : decode cX4_spread 2 = .ok (.iconst 0, 1) := by decide +kernel
theorem dX4_spread_3 : decode cX4_spread 3 = .ok (.iload_n 3, 1) := by decide +kernel
theorem dX4_spread_4 : decode cX4_spread 4 = .ok (.invokevirtual 84, 3) := by decide +kernel
theorem dX4_spread_7 : decode cX4_spread 7 = .ok (.aload_n 0, 1) := by decide +kernel
theorem dX4_spread_8 : decode cX4_spread 8 = .ok (.getfield 25, 3) := by decide +kernel
theorem dX4_spread_11 : decode cX4_spread 11 = .ok (.lconst 0, 1) := by decide +kernel
theorem dX4_spread_12 : decode cX4_spread 12 = .ok (.invokestatic 101, 3) := by decide +kernel
theorem dX4_spread_15 : decode cX4_spread 15 = .ok (.aload_n 0, 1) := by decide +kernel
theorem dX4_spread_16 : decode cX4_spread 16 = .ok (.getfield 35, 3) := by decide +kernel
theorem dX4_spread_19 : decode cX4_spread 19 = .ok (.lconst 0, 1) := by decide +kernel
theorem dX4_spread_20 : decode cX4_spread 20 = .ok (.invokestatic 101, 3) := by decide +kernel
theorem dX4_spread_23 : decode cX4_spread 23 = .ok (.aload_n 0, 1) := by decide +kernel
theorem dX4_spread_24 : decode cX4_spread 24 = .ok (.getfield 35, 3) := by decide +kernel
theorem dX4_spread_27 : decode cX4_spread 27 = .ok (.iload_n 2, 1) := by decide +kernel
theorem dX4_spread_28 : decode cX4_spread 28 = .ok (.bipush 12, 2) := by decide +kernel
theorem dX4_spread_30 : decode cX4_spread 30 = .ok (.imul, 1) := by decide +kernel
theorem dX4_spread_31 : decode cX4_spread 31 = .ok (.ldc2_w 104, 3) := by decide +kernel
theorem dX4_spread_34 : decode cX4_spread 34 = .ok (.lastore, 1) := by decide +kernel
theorem dX4_spread_35 : decode cX4_spread 35 = .ok (.iload_n 1, 1) := by decide +kernel
theorem dX4_spread_36 : decode cX4_spread 36 = .ok (.istore 4, 2) := by decide +kernel
theorem dX4_spread_38 : decode cX4_spread 38 = .ok (.iload 4, 2) := by decide +kernel
theorem dX4_spread_40 : decode cX4_spread 40 = .ok (.aload_n 0, 1) := by decide +kernel
theorem dX4_spread_41 : decode cX4_spread 41 = .ok (.getfield 47, 3) := by decide +kernel
theorem dX4_spread_44 : decode cX4_spread 44 = .ok (.if_icmp .gt 64, 3) := by decide +kernel
theorem dX4_spread_47 : decode cX4_spread 47 = .ok (.aload_n 0, 1) := by decide +kernel
theorem dX4_spread_48 : decode cX4_spread 48 = .ok (.getfield 38, 3) := by decide +kernel
theorem dX4_spread_51 : decode cX4_spread 51 = .ok (.lconst 0, 1) := by decide +kernel
theorem dX4_spread_52 : decode cX4_spread 52 = .ok (.invokestatic 101, 3) := by decide +kernel
theorem dX4_spread_55 : decode cX4_spread 55 = .ok (.iload_n 2, 1) := by decide +kernel
theorem dX4_spread_56 : decode cX4_spread 56 = .ok (.istore 5, 2) := by decide +kernel
theorem dX4_spread_58 : decode cX4_spread 58 = .ok (.iload 5, 2) := by decide +kernel
theorem dX4_spread_60 : decode cX4_spread 60 = .ok (.aload_n 0, 1) := by decide +kernel
theorem dX4_spread_61 : decode cX4_spread 61 = .ok (.getfield 47, 3) := by decide +kernel
theorem dX4_spread_64 : decode cX4_spread 64 = .ok (.if_icmp .gt 18, 3) := by decide +kernel
theorem dX4_spread_67 : decode cX4_spread 67 = .ok (.aload_n 0, 1) := by decide +kernel
theorem dX4_spread_68 : decode cX4_spread 68 = .ok (.iload 4, 2) := by decide +kernel
theorem dX4_spread_70 : decode cX4_spread 70 = .ok (.iload 5, 2) := by decide +kernel
theorem dX4_spread_72 : decode cX4_spread 72 = .ok (.iload_n 3, 1) := by decide +kernel
theorem dX4_spread_73 : decode cX4_spread 73 = .ok (.invokevirtual 106, 3) := by decide +kernel
theorem dX4_spread_76 : decode cX4_spread 76 = .ok (.iinc 5 1, 3) := by decide +kernel
theorem dX4_spread_79 : decode cX4_spread 79 = .ok (.goto (-21), 3) := by decide +kernel
theorem dX4_spread_82 : decode cX4_spread 82 = .ok (.aload_n 0, 1) := by decide +kernel
theorem dX4_spread_83 : decode cX4_spread 83 = .ok (.getfield 35, 3) := by decide +kernel
theorem dX4_spread_86 : decode cX4_spread 86 = .ok (.astore 5, 2) := by decide +kernel
theorem dX4_spread_88 : decode cX4_spread 88 = .ok (.aload_n 0, 1) := by decide +kernel
theorem dX4_spread_89 : decode cX4_spread 89 = .ok (.aload_n 0, 1) := by decide +kernel
theorem dX4_spread_90 : decode cX4_spread 90 = .ok (.getfield 38, 3) := by decide +kernel
theorem dX4_spread_93 : decode cX4_spread 93 = .ok (.putfield 35, 3) := by decide +kernel
theorem dX4_spread_96 : decode cX4_spread 96 = .ok (.aload_n 0, 1) := by decide +kernel
theorem dX4_spread_97 : decode cX4_spread 97 = .ok (.aload 5, 2) := by decide +kernel
theorem dX4_spread_99 : decode cX4_spread 99 = .ok (.putfield 38, 3) := by decide +kernel
theorem dX4_spread_102 : decode cX4_spread 102 = .ok (.iinc 4 1, 3) := by decide +kernel
theorem dX4_spread_105 : decode cX4_spread 105 = .ok (.goto (-67), 3) := by decide +kernel
theorem dX4_spread_108 : decode cX4_spread 108 = .ok (.return_, 1) := by decide +kernel
def fX4_spread_58 (k38 : Nat → Int32 → Int32 → Int32 → hp_T → Option hp_T) : Nat → Nat → Int32 → Int32 → Int32 → Int32 → hp_T → Option hp_T
  | 0, _, _, _, _, _, _ => none
  | n + 1, a0, a2, a3, a4, a5, h => if (h.1 a0 8) < a5 then (fx_let (hp_sR h a0 6 (h.2.2 a0 7)) fun (h93 : hp_T) => fx_let (hp_sR h93 a0 7 (h.2.2 a0 6)) fun (h99 : hp_T) => fx_let (a4 + (1 : Int32)) fun (x102 : Int32) => k38 a0 a2 a3 x102 h99) else (fx_b1 (fX4_spreadCell a0 a4 a5 a3 h) fun (h73 : hp_T) => fx_let (a5 + (1 : Int32)) fun (x76 : Int32) => fX4_spread_58 k38 n a0 a2 a3 a4 x76 h73)
set_option maxRecDepth 100000 in
set_option maxHeartbeats 4000000 in
theorem bX4_spread_58 {l : Launch} {G : xr_G} {K : xr_K} {h1 : hp_T} (C : xr_C G K cX4_spread RX4 6 (xr_R 3 112) none (some (xr_Qv G h1))) (k38 : Nat → Int32 → Int32 → Int32 → hp_T → Option hp_T) (j38 : ∀ (a0 : Nat) (a2 : Int32) (a3 : Int32) (a4 : Int32) (ta0 : hp_sh a0 = (4, 0)) (h : hp_T), k38 a0 a2 a3 a4 h = some h1 → xr_j l G K 6 h [(0, .ref (G.2.2.1 a0)), (2, .int a2), (3, .int a3), (4, .int a4)] 38 []) : ∀ (n : Nat) (a0 : Nat) (a2 : Int32) (a3 : Int32) (a4 : Int32) (a5 : Int32) (ta0 : hp_sh a0 = (4, 0)) (h : hp_T), fX4_spread_58 k38 n a0 a2 a3 a4 a5 h = some h1 → xr_j l G K 6 h [(0, .ref (G.2.2.1 a0)), (2, .int a2), (3, .int a3), (4, .int a4), (5, .int a5)] 58 [] := by
  intro n
  induction n with
  | zero =>
    intro a0 a2 a3 a4 a5 ta0 h hF
    cases hF
  | succ n ih =>
    intro a0 a2 a3 a4 a5 ta0 h hF
    rw [fX4_spread_58] at hF
    refine xr_iload C 4 dX4_spread_58 rfl ?_
    refine xr_aload_n C 0 dX4_spread_60 rfl rfl ?_
    refine xr_geti C flX4_47 rfl dX4_spread_61 ta0 ?_
    refine xr_icmp_gt C 82 dX4_spread_64 (by decide) (fun c64 => ?_) (fun c64 => ?_)
    · have hF := fx_pos hF c64
      refine xr_aload_n C 0 dX4_spread_82 rfl rfl ?_
      refine xr_getr C flX4_35 rfl (by decide) dX4_spread_83 ta0 (fun t83 => ?_)
      refine xr_astore C [(5, .ref (G.2.2.1 (h.2.2 a0 6))), (0, .ref (G.2.2.1 a0)), (2, .int a2), (3, .int a3), (4, .int a4)] dX4_spread_86 (Nat.le_of_ble_eq_true rfl) rfl ?_
      refine xr_aload_n C 1 dX4_spread_88 rfl rfl ?_
      refine xr_aload_n C 1 dX4_spread_89 rfl rfl ?_
      refine xr_getr C flX4_38 rfl (by decide) dX4_spread_90 ta0 (fun t90 => ?_)
      refine xr_putr C fpX4_35 rfl (by decide) (fun _ => rfl) (fun _ => rfl) dX4_spread_93 ta0 t90 (fun h93 e93 => ?_)
      have hF := fx_letE hF h93 e93
      refine xr_aload_n C 1 dX4_spread_96 rfl rfl ?_
      refine xr_aload C 0 dX4_spread_97 rfl ?_
      refine xr_putr C fpX4_38 rfl (by decide) (fun _ => rfl) (fun _ => rfl) dX4_spread_99 ta0 t83 (fun h99 e99 => ?_)
      have hF := fx_letE hF h99 e99
      obtain ⟨x102, e102⟩ : ∃ y : Int32, y = (a4 + (1 : Int32)) := ⟨_, rfl⟩
      have hF := fx_letE hF x102 e102
      refine xr_iinc C x102 4 [(4, .int x102), (5, .ref (G.2.2.1 (h.2.2 a0 6))), (0, .ref (G.2.2.1 a0)), (2, .int a2), (3, .int a3)] dX4_spread_102 rfl (by rw [e102]; rfl) (Nat.le_of_ble_eq_true rfl) rfl ?_
      refine xr_goto C 38 dX4_spread_105 (by decide) ?_
      refine xr_sub [2, 3, 4, 0] [(0, .ref (G.2.2.1 a0)), (2, .int a2), (3, .int a3), (4, .int x102)] rfl ?_
      exact j38 a0 a2 a3 x102 ta0 h99 hF
    · have hF := fx_neg hF c64
      refine xr_aload_n C 0 dX4_spread_67 rfl rfl ?_
      refine xr_iload C 3 dX4_spread_68 rfl ?_
      refine xr_iload C 4 dX4_spread_70 rfl ?_
      refine xr_iload_n C 2 dX4_spread_72 rfl rfl ?_
      obtain ⟨h73, e73, hF⟩ := fx_b1E hF
      refine xr_callVv C mvX4_106 [.int a4, .int a5, .int a3] [] (mX4_spreadCell l G a0 a4 a5 a3 ta0 h h73 e73) ta0 (by decide) vc4 rfl ⟨rfl, rfl, (Nat.le_of_ble_eq_true rfl), (Nat.le_of_ble_eq_true rfl)⟩ rfl (Nat.le_of_ble_eq_true rfl) dX4_spread_73 ?_
      obtain ⟨x76, e76⟩ : ∃ y : Int32, y = (a5 + (1 : Int32)) := ⟨_, rfl⟩
      have hF := fx_letE hF x76 e76
      refine xr_iinc C x76 4 [(5, .int x76), (0, .ref (G.2.2.1 a0)), (2, .int a2), (3, .int a3), (4, .int a4)] dX4_spread_76 rfl (by rw [e76]; rfl) (Nat.le_of_ble_eq_true rfl) rfl ?_
      refine xr_goto C 58 dX4_spread_79 (by decide) ?_
      refine xr_sub [1, 2, 3, 4, 0] [(0, .ref (G.2.2.1 a0)), (2, .int a2), (3, .int a3), (4, .int a4), (5, .int x76)] rfl ?_
      exact ih a0 a2 a3 a4 x76 ta0 h73 hF
def fX4_spread_38  : Nat → Nat → Int32 → Int32 → Int32 → hp_T → Option hp_T
  | 0, _, _, _, _, _ => none
  | n + 1, a0, a2, a3, a4, h => if (h.1 a0 8) < a4 then (some h) else (fx_b1 (fJ7_fill_d0a16_312 (h.2.2 a0 7) (0 : Int64) h) fun (h52 : hp_T) => fX4_spread_58 (fX4_spread_38 n) fx_N a0 a2 a3 a4 a2 h52)
set_option maxRecDepth 100000 in
set_option maxHeartbeats 4000000 in
theorem bX4_spread_38 {l : Launch} {G : xr_G} {K : xr_K} {h1 : hp_T} (C : xr_C G K cX4_spread RX4 6 (xr_R 3 112) none (some (xr_Qv G h1)))  : ∀ (n : Nat) (a0 : Nat) (a2 : Int32) (a3 : Int32) (a4 : Int32) (ta0 : hp_sh a0 = (4, 0)) (h : hp_T), fX4_spread_38 n a0 a2 a3 a4 h = some h1 → xr_j l G K 6 h [(0, .ref (G.2.2.1 a0)), (2, .int a2), (3, .int a3), (4, .int a4)] 38 [] := by
  intro n
  induction n with
  | zero =>
    intro a0 a2 a3 a4 ta0 h hF
    cases hF
  | succ n ih =>
    intro a0 a2 a3 a4 ta0 h hF
    rw [fX4_spread_38] at hF
    refine xr_iload C 3 dX4_spread_38 rfl ?_
    refine xr_aload_n C 0 dX4_spread_40 rfl rfl ?_
    refine xr_geti C flX4_47 rfl dX4_spread_41 ta0 ?_
    refine xr_icmp_gt C 108 dX4_spread_44 (by decide) (fun c44 => ?_) (fun c44 => ?_)
    · have hF := fx_pos hF c44
      cases hF
      exact xr_vret C dX4_spread_108
    · have hF := fx_neg hF c44
      refine xr_aload_n C 0 dX4_spread_47 rfl rfl ?_
      refine xr_getr C flX4_38 rfl (by decide) dX4_spread_48 ta0 (fun t48 => ?_)
      refine xr_lconst (v := 0) C dX4_spread_51 (by decide) ?_
      obtain ⟨h52, e52, hF⟩ := fx_b1E hF
      refine xr_callSv C mvX4_101 [.ref (G.2.2.1 (h.2.2 a0 7)), .long (0 : Int64)] [] (mJ7_fill_d0a16_312 l G (h.2.2 a0 7) (0 : Int64) t48 h h52 e52) rfl ⟨rfl, rfl, (Nat.le_of_ble_eq_true rfl), (Nat.le_of_ble_eq_true rfl)⟩ rfl (Nat.le_of_ble_eq_true rfl) dX4_spread_52 ?_
      refine xr_iload_n C 1 dX4_spread_55 rfl rfl ?_
      refine xr_istore C [(5, .int a2), (0, .ref (G.2.2.1 a0)), (2, .int a2), (3, .int a3), (4, .int a4)] dX4_spread_56 (Nat.le_of_ble_eq_true rfl) rfl ?_
      refine xr_sub [1, 2, 3, 4, 0] [(0, .ref (G.2.2.1 a0)), (2, .int a2), (3, .int a3), (4, .int a4), (5, .int a2)] rfl ?_
      exact bX4_spread_58 C (fX4_spread_38 n) (fun a0 a2 a3 a4 ta0 h hF => ih a0 a2 a3 a4 ta0 h hF) fx_N a0 a2 a3 a4 a2 ta0 h52 hF
def fX4_spread (a0 : Nat) (a1 : Int32) (a2 : Int32) (a3 : Int32) (h : hp_T) : Option hp_T := fx_b1 (fX4_fillCycle a0 (0 : Int32) (0 : Int32) a3 h) fun (h4 : hp_T) => fx_b1 (fJ7_fill_d0a16_676 (h4.2.2 a0 3) (0 : Int64) h4) fun (h12 : hp_T) => fx_b1 (fJ7_fill_d0a16_312 (h12.2.2 a0 6) (0 : Int64) h12) fun (h20 : hp_T) => fx_g (fx_in (a2 * (12 : Int32)) 312) (fx_let (hp_sL h20 (h20.2.2 a0 6) (fx_ix (a2 * (12 : Int32))) (1000000000000 : Int64)) fun (h34 : hp_T) => fX4_spread_38 fx_N a0 a2 a3 a1 h34)
set_option maxRecDepth 100000 in
set_option maxHeartbeats 4000000 in
theorem mX4_spread (l : Launch) (G : xr_G) (a0 : Nat) (a1 : Int32) (a2 : Int32) (a3 : Int32) (ta0 : hp_sh a0 = (4, 0)) (h h1 : hp_T) (hF : fX4_spread a0 a1 a2 a3 h = some h1) : xr_M l G yX4_spread cX4_spread 6 (xr_R 3 112) none [.ref (G.2.2.1 a0), .int a1, .int a2, .int a3] h (xr_Qv G h1) := by
  refine xr_start rfl (Nat.le_of_ble_eq_true rfl) (fun K C => ?_)
  show xr_j l G K 6 h [(0, .ref (G.2.2.1 a0)), (1, .int a1), (2, .int a2), (3, .int a3)] 0 []
  unfold fX4_spread at hF
  refine xr_aload_n C 0 dX4_spread_0 rfl rfl ?_
  refine xr_iconst (v := 0) C dX4_spread_1 (by decide) ?_
  refine xr_iconst (v := 0) C dX4_spread_2 (by decide) ?_
  refine xr_iload_n C 3 dX4_spread_3 rfl rfl ?_
  obtain ⟨h4, e4, hF⟩ := fx_b1E hF
  refine xr_callVv C mvX4_84 [.int (0 : Int32), .int (0 : Int32), .int a3] [] (mX4_fillCycle l G a0 (0 : Int32) (0 : Int32) a3 ta0 h h4 e4) ta0 (by decide) vc4 rfl ⟨rfl, rfl, (Nat.le_of_ble_eq_true rfl), (Nat.le_of_ble_eq_true rfl)⟩ rfl (Nat.le_of_ble_eq_true rfl) dX4_spread_4 ?_
  refine xr_aload_n C 0 dX4_spread_7 rfl rfl ?_
  refine xr_getr C flX4_25 rfl (by decide) dX4_spread_8 ta0 (fun t8 => ?_)
  refine xr_lconst (v := 0) C dX4_spread_11 (by decide) ?_
  obtain ⟨h12, e12, hF⟩ := fx_b1E hF
  refine xr_callSv C mvX4_101 [.ref (G.2.2.1 (h4.2.2 a0 3)), .long (0 : Int64)] [] (mJ7_fill_d0a16_676 l G (h4.2.2 a0 3) (0 : Int64) t8 h4 h12 e12) rfl ⟨rfl, rfl, (Nat.le_of_ble_eq_true rfl), (Nat.le_of_ble_eq_true rfl)⟩ rfl (Nat.le_of_ble_eq_true rfl) dX4_spread_12 ?_
  refine xr_aload_n C 0 dX4_spread_15 rfl rfl ?_
  refine xr_getr C flX4_35 rfl (by decide) dX4_spread_16 ta0 (fun t16 => ?_)
  refine xr_lconst (v := 0) C dX4_spread_19 (by decide) ?_
  obtain ⟨h20, e20, hF⟩ := fx_b1E hF
  refine xr_callSv C mvX4_101 [.ref (G.2.2.1 (h12.2.2 a0 6)), .long (0 : Int64)] [] (mJ7_fill_d0a16_312 l G (h12.2.2 a0 6) (0 : Int64) t16 h12 h20 e20) rfl ⟨rfl, rfl, (Nat.le_of_ble_eq_true rfl), (Nat.le_of_ble_eq_true rfl)⟩ rfl (Nat.le_of_ble_eq_true rfl) dX4_spread_20 ?_
  refine xr_aload_n C 0 dX4_spread_23 rfl rfl ?_
  refine xr_getr C flX4_35 rfl (by decide) dX4_spread_24 ta0 (fun t24 => ?_)
  refine xr_iload_n C 2 dX4_spread_27 rfl rfl ?_
  refine xr_bipush (v := 12) C dX4_spread_28 (by decide) ?_
  refine xr_imul C dX4_spread_30 ?_
  refine xr_ldc2 C klX4_104 dX4_spread_31 ?_
  obtain ⟨g34, hF⟩ := fx_gE hF
  refine xr_last C dX4_spread_34 t24 g34 (fun h34 e34 => ?_)
  have hF := fx_letE hF h34 e34
  refine xr_iload_n C 1 dX4_spread_35 rfl rfl ?_
  refine xr_istore C [(4, .int a1), (0, .ref (G.2.2.1 a0)), (1, .int a1), (2, .int a2), (3, .int a3)] dX4_spread_36 (Nat.le_of_ble_eq_true rfl) rfl ?_
  refine xr_sub [1, 3, 4, 0] [(0, .ref (G.2.2.1 a0)), (2, .int a2), (3, .int a3), (4, .int a1)] rfl ?_
  exact bX4_spread_38 C  fx_N a0 a2 a3 a1 ta0 h34 hF
theorem dX4_reachedAt_0 : decode cX4_reachedAt 0 = .ok (.aload_n 0, 1) := by decide +kernel
theorem dX4_reachedAt_1 : decode cX4_reachedAt 1 = .ok (.getfield 25, 3) := by decide +kernel
theorem dX4_reachedAt_4 : decode cX4_reachedAt 4 = .ok (.iload_n 1, 1) := by decide +kernel
theorem dX4_reachedAt_5 : decode cX4_reachedAt 5 = .ok (.bipush 26, 2) := by decide +kernel
theorem dX4_reachedAt_7 : decode cX4_reachedAt 7 = .ok (.imul, 1) := by decide +kernel
theorem dX4_reachedAt_8 : decode cX4_reachedAt 8 = .ok (.iload_n 2, 1) := by decide +kernel
theorem dX4_reachedAt_9 : decode cX4_reachedAt 9 = .ok (.iadd, 1) := by decide +kernel
theorem dX4_reachedAt_10 : decode cX4_reachedAt 10 = .ok (.laload, 1) := by decide +kernel
theorem dX4_reachedAt_11 : decode cX4_reachedAt 11 = .ok (.lreturn, 1) := by decide +kernel
def fX4_reachedAt (a0 : Nat) (a1 : Int32) (a2 : Int32) (h : hp_T) : Option (Int64 × hp_T) := fx_g (fx_in ((a1 * (26 : Int32)) + a2) 676) (some ((h.2.1 (h.2.2 a0 3) (fx_ix ((a1 * (26 : Int32)) + a2))), h))
set_option maxRecDepth 100000 in
set_option maxHeartbeats 4000000 in
theorem mX4_reachedAt (l : Launch) (G : xr_G) (a0 : Nat) (a1 : Int32) (a2 : Int32) (ta0 : hp_sh a0 = (4, 0)) (h h1 : hp_T) (r : Int64) (hF : fX4_reachedAt a0 a1 a2 h = some (r, h1)) : xr_M l G yX4_reachedAt cX4_reachedAt 3 (xr_R 0 0) (some .long) [.ref (G.2.2.1 a0), .int a1, .int a2] h (xr_Ql G r h1) := by
  refine xr_start rfl (Nat.le_of_ble_eq_true rfl) (fun K C => ?_)
  show xr_j l G K 3 h [(0, .ref (G.2.2.1 a0)), (1, .int a1), (2, .int a2)] 0 []
  unfold fX4_reachedAt at hF
  refine xr_aload_n C 0 dX4_reachedAt_0 rfl rfl ?_
  refine xr_getr C flX4_25 rfl (by decide) dX4_reachedAt_1 ta0 (fun t1 => ?_)
  refine xr_iload_n C 1 dX4_reachedAt_4 rfl rfl ?_
  refine xr_bipush (v := 26) C dX4_reachedAt_5 (by decide) ?_
  refine xr_imul C dX4_reachedAt_7 ?_
  refine xr_iload_n C 2 dX4_reachedAt_8 rfl rfl ?_
  refine xr_iadd C dX4_reachedAt_9 ?_
  obtain ⟨g10, hF⟩ := fx_gE hF
  refine xr_lald C dX4_reachedAt_10 t1 g10 ?_
  cases hF
  exact xr_lret C dX4_reachedAt_11
theorem dX5_take_0 : decode cX5_take 0 = .ok (.bipush 24, 2) := by decide +kernel
theorem dX5_take_2 : decode cX5_take 2 = .ok (.istore_n 2, 1) := by decide +kernel
theorem dX5_take_3 : decode cX5_take 3 = .ok (.iload_n 2, 1) := by decide +kernel
theorem dX5_take_4 : decode cX5_take 4 = .ok (.ifCond .lt 45, 3) := by decide +kernel
theorem dX5_take_7 : decode cX5_take 7 = .ok (.aload_n 0, 1) := by decide +kernel
theorem dX5_take_8 : decode cX5_take 8 = .ok (.getfield 19, 3) := by decide +kernel
theorem dX5_take_11 : decode cX5_take 11 = .ok (.sipush 900, 3) := by decide +kernel
theorem dX5_take_14 : decode cX5_take 14 = .ok (.if_icmp .ge 35, 3) := by decide +kernel
theorem dX5_take_17 : decode cX5_take 17 = .ok (.aload_n 0, 1) := by decide +kernel
theorem dX5_take_18 : decode cX5_take 18 = .ok (.getfield 9, 3) := by decide +kernel
theorem dX5_take_21 : decode cX5_take 21 = .ok (.aload_n 0, 1) := by decide +kernel
theorem dX5_take_22 : decode cX5_take 22 = .ok (.getfield 19, 3) := by decide +kernel
theorem dX5_take_25 : decode cX5_take 25 = .ok (.iload_n 1, 1) := by decide +kernel
theorem dX5_take_26 : decode cX5_take 26 = .ok (.iload_n 2, 1) := by decide +kernel
theorem dX5_take_27 : decode cX5_take 27 = .ok (.iushr, 1) := by decide +kernel
theorem dX5_take_28 : decode cX5_take 28 = .ok (.sipush 255, 3) := by decide +kernel
theorem dX5_take_31 : decode cX5_take 31 = .ok (.iand, 1) := by decide +kernel
theorem dX5_take_32 : decode cX5_take 32 = .ok (.iastore, 1) := by decide +kernel
theorem dX5_take_33 : decode cX5_take 33 = .ok (.aload_n 0, 1) := by decide +kernel
theorem dX5_take_34 : decode cX5_take 34 = .ok (.dup, 1) := by decide +kernel
theorem dX5_take_35 : decode cX5_take 35 = .ok (.getfield 19, 3) := by decide +kernel
theorem dX5_take_38 : decode cX5_take 38 = .ok (.iconst 1, 1) := by decide +kernel
theorem dX5_take_39 : decode cX5_take 39 = .ok (.iadd, 1) := by decide +kernel
theorem dX5_take_40 : decode cX5_take 40 = .ok (.putfield 19, 3) := by decide +kernel
theorem dX5_take_43 : decode cX5_take 43 = .ok (.iinc 2 (-8), 3) := by decide +kernel
theorem dX5_take_46 : decode cX5_take 46 = .ok (.goto (-43), 3) := by decide +kernel
theorem dX5_take_49 : decode cX5_take 49 = .ok (.return_, 1) := by decide +kernel
def fX5_take_3  : Nat → Nat → Int32 → Int32 → hp_T → Option hp_T
  | 0, _, _, _, _ => none
  | n + 1, a0, a1, a2, h => if a2 < 0 then (some h) else (if (900 : Int32) ≤ (h.1 a0 1) then (some h) else (fx_g (fx_in (h.1 a0 1) 900) (fx_let (hp_sI h (h.2.2 a0 0) (fx_ix (h.1 a0 1)) ((fx_ushr a1 a2) &&& (255 : Int32))) fun (h32 : hp_T) => fx_let (hp_sI h32 a0 1 ((h32.1 a0 1) + (1 : Int32))) fun (h40 : hp_T) => fx_let (a2 + (-8 : Int32)) fun (x43 : Int32) => fX5_take_3 n a0 a1 x43 h40)))
set_option maxRecDepth 100000 in
set_option maxHeartbeats 4000000 in
theorem bX5_take_3 {l : Launch} {G : xr_G} {K : xr_K} {h1 : hp_T} (C : xr_C G K cX5_take RX5 3 (xr_R 0 0) none (some (xr_Qv G h1)))  : ∀ (n : Nat) (a0 : Nat) (a1 : Int32) (a2 : Int32) (ta0 : hp_sh a0 = (5, 0)) (h : hp_T), fX5_take_3 n a0 a1 a2 h = some h1 → xr_j l G K 3 h [(0, .ref (G.2.2.1 a0)), (1, .int a1), (2, .int a2)] 3 [] := by
  intro n
  induction n with
  | zero =>
    intro a0 a1 a2 ta0 h hF
    cases hF
  | succ n ih =>
    intro a0 a1 a2 ta0 h hF
    rw [fX5_take_3] at hF
    refine xr_iload_n C 2 dX5_take_3 rfl rfl ?_
    refine xr_if_lt C 49 dX5_take_4 (by decide) (fun c4 => ?_) (fun c4 => ?_)
    · have hF := fx_pos hF c4
      cases hF
      exact xr_vret C dX5_take_49
    · have hF := fx_neg hF c4
      refine xr_aload_n C 0 dX5_take_7 rfl rfl ?_
      refine xr_geti C flX5_19 rfl dX5_take_8 ta0 ?_
      refine xr_sipush (v := 900) C dX5_take_11 (by decide) ?_
      refine xr_icmp_ge C 49 dX5_take_14 (by decide) (fun c14 => ?_) (fun c14 => ?_)
      · have hF := fx_pos hF c14
        cases hF
        exact xr_vret C dX5_take_49
      · have hF := fx_neg hF c14
        refine xr_aload_n C 0 dX5_take_17 rfl rfl ?_
        refine xr_getr C flX5_9 rfl (by decide) dX5_take_18 ta0 (fun t18 => ?_)
        refine xr_aload_n C 0 dX5_take_21 rfl rfl ?_
        refine xr_geti C flX5_19 rfl dX5_take_22 ta0 ?_
        refine xr_iload_n C 1 dX5_take_25 rfl rfl ?_
        refine xr_iload_n C 2 dX5_take_26 rfl rfl ?_
        refine xr_iushr C dX5_take_27 ?_
        refine xr_sipush (v := 255) C dX5_take_28 (by decide) ?_
        refine xr_iand C dX5_take_31 ?_
        obtain ⟨g32, hF⟩ := fx_gE hF
        refine xr_iast C dX5_take_32 t18 g32 (fun h32 e32 => ?_)
        have hF := fx_letE hF h32 e32
        refine xr_aload_n C 0 dX5_take_33 rfl rfl ?_
        refine xr_dup C dX5_take_34 rfl ?_
        refine xr_geti C flX5_19 rfl dX5_take_35 ta0 ?_
        refine xr_iconst (v := 1) C dX5_take_38 (by decide) ?_
        refine xr_iadd C dX5_take_39 ?_
        refine xr_puti C fpX5_19 rfl rfl rfl dX5_take_40 ta0 (fun h40 e40 => ?_)
        have hF := fx_letE hF h40 e40
        obtain ⟨x43, e43⟩ : ∃ y : Int32, y = (a2 + (-8 : Int32)) := ⟨_, rfl⟩
        have hF := fx_letE hF x43 e43
        refine xr_iinc C x43 2 [(2, .int x43), (0, .ref (G.2.2.1 a0)), (1, .int a1)] dX5_take_43 rfl (by rw [e43]; rfl) (Nat.le_of_ble_eq_true rfl) rfl ?_
        refine xr_goto C 3 dX5_take_46 (by decide) ?_
        refine xr_sub [1, 2, 0] [(0, .ref (G.2.2.1 a0)), (1, .int a1), (2, .int x43)] rfl ?_
        exact ih a0 a1 x43 ta0 h40 hF
def fX5_take (a0 : Nat) (a1 : Int32) (h : hp_T) : Option hp_T := fX5_take_3 fx_N a0 a1 (24 : Int32) h
set_option maxRecDepth 100000 in
set_option maxHeartbeats 4000000 in
theorem mX5_take (l : Launch) (G : xr_G) (a0 : Nat) (a1 : Int32) (ta0 : hp_sh a0 = (5, 0)) (h h1 : hp_T) (hF : fX5_take a0 a1 h = some h1) : xr_M l G yX5_take cX5_take 3 (xr_R 0 0) none [.ref (G.2.2.1 a0), .int a1] h (xr_Qv G h1) := by
  refine xr_start rfl (Nat.le_of_ble_eq_true rfl) (fun K C => ?_)
  show xr_j l G K 3 h [(0, .ref (G.2.2.1 a0)), (1, .int a1)] 0 []
  unfold fX5_take at hF
  refine xr_bipush (v := 24) C dX5_take_0 (by decide) ?_
  refine xr_istore_n C [(2, .int (24 : Int32)), (0, .ref (G.2.2.1 a0)), (1, .int a1)] dX5_take_2 rfl (Nat.le_of_ble_eq_true rfl) rfl ?_
  refine xr_sub [1, 2, 0] [(0, .ref (G.2.2.1 a0)), (1, .int a1), (2, .int (24 : Int32))] rfl ?_
  exact bX5_take_3 C  fx_N a0 a1 (24 : Int32) ta0 h hF
theorem dX7_clear_0 : decode cX7_clear 0 = .ok (.aload_n 0, 1) := by decide +kernel
theorem dX7_clear_1 : decode cX7_clear 1 = .ok (.iconst 0, 1) := by decide +kernel
theorem dX7_clear_2 : decode cX7_clear 2 = .ok (.putfield 31, 3) := by decide +kernel
theorem dX7_clear_5 : decode cX7_clear 5 = .ok (.aload_n 0, 1) := by decide +kernel
theorem dX7_clear_6 : decode cX7_clear 6 = .ok (.iconst 0, 1) := by decide +kernel
theorem dX7_clear_7 : decode cX7_clear 7 = .ok (.putfield 34, 3) := by decide +kernel
theorem dX7_clear_10 : decode cX7_clear 10 = .ok (.aload_n 0, 1) := by decide +kernel
theorem dX7_clear_11 : decode cX7_clear 11 = .ok (.iconst (-1), 1) := by decide +kernel
theorem dX7_clear_12 : decode cX7_clear 12 = .ok (.putfield 27, 3) := by decide +kernel
theorem dX7_clear_15 : decode cX7_clear 15 = .ok (.return_, 1) := by decide +kernel
def fX7_clear (a0 : Nat) (h : hp_T) : Option hp_T := fx_let (hp_sI h a0 5 (0 : Int32)) fun (h2 : hp_T) => fx_let (hp_sI h2 a0 6 (0 : Int32)) fun (h7 : hp_T) => fx_let (hp_sI h7 a0 7 (-1 : Int32)) fun (h12 : hp_T) => some h12
set_option maxRecDepth 100000 in
set_option maxHeartbeats 4000000 in
theorem mX7_clear (l : Launch) (G : xr_G) (a0 : Nat) (ta0 : hp_sh a0 = (7, 0)) (h h1 : hp_T) (hF : fX7_clear a0 h = some h1) : xr_M l G yX7_clear cX7_clear 1 (xr_R 0 0) none [.ref (G.2.2.1 a0)] h (xr_Qv G h1) := by
  refine xr_start rfl (Nat.le_of_ble_eq_true rfl) (fun K C => ?_)
  show xr_j l G K 1 h [(0, .ref (G.2.2.1 a0))] 0 []
  unfold fX7_clear at hF
  refine xr_aload_n C 0 dX7_clear_0 rfl rfl ?_
  refine xr_iconst (v := 0) C dX7_clear_1 (by decide) ?_
  refine xr_puti C fpX7_31 rfl rfl rfl dX7_clear_2 ta0 (fun h2 e2 => ?_)
  have hF := fx_letE hF h2 e2
  refine xr_aload_n C 0 dX7_clear_5 rfl rfl ?_
  refine xr_iconst (v := 0) C dX7_clear_6 (by decide) ?_
  refine xr_puti C fpX7_34 rfl rfl rfl dX7_clear_7 ta0 (fun h7 e7 => ?_)
  have hF := fx_letE hF h7 e7
  refine xr_aload_n C 0 dX7_clear_10 rfl rfl ?_
  refine xr_iconst (v := -1) C dX7_clear_11 (by decide) ?_
  refine xr_puti C fpX7_27 rfl rfl rfl dX7_clear_12 ta0 (fun h12 e12 => ?_)
  have hF := fx_letE hF h12 e12
  cases hF
  exact xr_vret C dX7_clear_15
theorem dX8_clear_0 : decode cX8_clear 0 = .ok (.aload_n 0, 1) := by decide +kernel
theorem dX8_clear_1 : decode cX8_clear 1 = .ok (.getfield 12, 3) := by decide +kernel
theorem dX8_clear_4 : decode cX8_clear 4 = .ok (.invokevirtual 21, 3) := by decide +kernel
theorem dX8_clear_7 : decode cX8_clear 7 = .ok (.aload_n 0, 1) := by decide +kernel
theorem dX8_clear_8 : decode cX8_clear 8 = .ok (.getfield 18, 3) := by decide +kernel
theorem dX8_clear_11 : decode cX8_clear 11 = .ok (.invokevirtual 21, 3) := by decide +kernel
theorem dX8_clear_14 : decode cX8_clear 14 = .ok (.aload_n 0, 1) := by decide +kernel
theorem dX8_clear_15 : decode cX8_clear 15 = .ok (.iconst (-1), 1) := by decide +kernel
theorem dX8_clear_16 : decode cX8_clear 16 = .ok (.putfield 24, 3) := by decide +kernel
theorem dX8_clear_19 : decode cX8_clear 19 = .ok (.aload_n 0, 1) := by decide +kernel
theorem dX8_clear_20 : decode cX8_clear 20 = .ok (.iconst (-1), 1) := by decide +kernel
theorem dX8_clear_21 : decode cX8_clear 21 = .ok (.putfield 28, 3) := by decide +kernel
theorem dX8_clear_24 : decode cX8_clear 24 = .ok (.aload_n 0, 1) := by decide +kernel
theorem dX8_clear_25 : decode cX8_clear 25 = .ok (.iconst (-1), 1) := by decide +kernel
theorem dX8_clear_26 : decode cX8_clear 26 = .ok (.putfield 31, 3) := by decide +kernel
theorem dX8_clear_29 : decode cX8_clear 29 = .ok (.aload_n 0, 1) := by decide +kernel
theorem dX8_clear_30 : decode cX8_clear 30 = .ok (.iconst (-1), 1) := by decide +kernel
theorem dX8_clear_31 : decode cX8_clear 31 = .ok (.putfield 34, 3) := by decide +kernel
theorem dX8_clear_34 : decode cX8_clear 34 = .ok (.aload_n 0, 1) := by decide +kernel
theorem dX8_clear_35 : decode cX8_clear 35 = .ok (.iconst 0, 1) := by decide +kernel
theorem dX8_clear_36 : decode cX8_clear 36 = .ok (.putfield 37, 3) := by decide +kernel
theorem dX8_clear_39 : decode cX8_clear 39 = .ok (.return_, 1) := by decide +kernel
def fX8_clear (a0 : Nat) (h : hp_T) : Option hp_T := fx_b1 (fX7_clear (h.2.2 a0 0) h) fun (h4 : hp_T) => fx_b1 (fX7_clear (h4.2.2 a0 1) h4) fun (h11 : hp_T) => fx_let (hp_sI h11 a0 2 (-1 : Int32)) fun (h16 : hp_T) => fx_let (hp_sI h16 a0 3 (-1 : Int32)) fun (h21 : hp_T) => fx_let (hp_sI h21 a0 4 (-1 : Int32)) fun (h26 : hp_T) => fx_let (hp_sI h26 a0 5 (-1 : Int32)) fun (h31 : hp_T) => fx_let (hp_sI h31 a0 6 (0 : Int32)) fun (h36 : hp_T) => some h36
set_option maxRecDepth 100000 in
set_option maxHeartbeats 4000000 in
theorem mX8_clear (l : Launch) (G : xr_G) (a0 : Nat) (ta0 : hp_sh a0 = (8, 0)) (h h1 : hp_T) (hF : fX8_clear a0 h = some h1) : xr_M l G yX8_clear cX8_clear 1 (xr_R 1 20) none [.ref (G.2.2.1 a0)] h (xr_Qv G h1) := by
  refine xr_start rfl (Nat.le_of_ble_eq_true rfl) (fun K C => ?_)
  show xr_j l G K 1 h [(0, .ref (G.2.2.1 a0))] 0 []
  unfold fX8_clear at hF
  refine xr_aload_n C 0 dX8_clear_0 rfl rfl ?_
  refine xr_getr C flX8_12 rfl (by decide) dX8_clear_1 ta0 (fun t1 => ?_)
  obtain ⟨h4, e4, hF⟩ := fx_b1E hF
  refine xr_callVv C mvX8_21 [] [] (mX7_clear l G (h.2.2 a0 0) t1 h h4 e4) t1 (by decide) vc7 rfl ⟨rfl, rfl, (Nat.le_of_ble_eq_true rfl), (Nat.le_of_ble_eq_true rfl)⟩ rfl (Nat.le_of_ble_eq_true rfl) dX8_clear_4 ?_
  refine xr_aload_n C 0 dX8_clear_7 rfl rfl ?_
  refine xr_getr C flX8_18 rfl (by decide) dX8_clear_8 ta0 (fun t8 => ?_)
  obtain ⟨h11, e11, hF⟩ := fx_b1E hF
  refine xr_callVv C mvX8_21 [] [] (mX7_clear l G (h4.2.2 a0 1) t8 h4 h11 e11) t8 (by decide) vc7 rfl ⟨rfl, rfl, (Nat.le_of_ble_eq_true rfl), (Nat.le_of_ble_eq_true rfl)⟩ rfl (Nat.le_of_ble_eq_true rfl) dX8_clear_11 ?_
  refine xr_aload_n C 0 dX8_clear_14 rfl rfl ?_
  refine xr_iconst (v := -1) C dX8_clear_15 (by decide) ?_
  refine xr_puti C fpX8_24 rfl rfl rfl dX8_clear_16 ta0 (fun h16 e16 => ?_)
  have hF := fx_letE hF h16 e16
  refine xr_aload_n C 0 dX8_clear_19 rfl rfl ?_
  refine xr_iconst (v := -1) C dX8_clear_20 (by decide) ?_
  refine xr_puti C fpX8_28 rfl rfl rfl dX8_clear_21 ta0 (fun h21 e21 => ?_)
  have hF := fx_letE hF h21 e21
  refine xr_aload_n C 0 dX8_clear_24 rfl rfl ?_
  refine xr_iconst (v := -1) C dX8_clear_25 (by decide) ?_
  refine xr_puti C fpX8_31 rfl rfl rfl dX8_clear_26 ta0 (fun h26 e26 => ?_)
  have hF := fx_letE hF h26 e26
  refine xr_aload_n C 0 dX8_clear_29 rfl rfl ?_
  refine xr_iconst (v := -1) C dX8_clear_30 (by decide) ?_
  refine xr_puti C fpX8_34 rfl rfl rfl dX8_clear_31 ta0 (fun h31 e31 => ?_)
  have hF := fx_letE hF h31 e31
  refine xr_aload_n C 0 dX8_clear_34 rfl rfl ?_
  refine xr_iconst (v := 0) C dX8_clear_35 (by decide) ?_
  refine xr_puti C fpX8_37 rfl rfl rfl dX8_clear_36 ta0 (fun h36 e36 => ?_)
  have hF := fx_letE hF h36 e36
  cases hF
  exact xr_vret C dX8_clear_39
theorem dX5_isLetter_0 : decode cX5_isLetter 0 = .ok (.iload_n 0, 1) := by decide +kernel
theorem dX5_isLetter_1 : decode cX5_isLetter 1 = .ok (.bipush 97, 2) := by decide +kernel
theorem dX5_isLetter_3 : decode cX5_isLetter 3 = .ok (.if_icmp .lt 13, 3) := by decide +kernel
theorem dX5_isLetter_6 : decode cX5_isLetter 6 = .ok (.iload_n 0, 1) := by decide +kernel
theorem dX5_isLetter_7 : decode cX5_isLetter 7 = .ok (.bipush 122, 2) := by decide +kernel
theorem dX5_isLetter_9 : decode cX5_isLetter 9 = .ok (.if_icmp .gt 7, 3) := by decide +kernel
theorem dX5_isLetter_12 : decode cX5_isLetter 12 = .ok (.iconst 1, 1) := by decide +kernel
theorem dX5_isLetter_13 : decode cX5_isLetter 13 = .ok (.goto 4, 3) := by decide +kernel
theorem dX5_isLetter_16 : decode cX5_isLetter 16 = .ok (.iconst 0, 1) := by decide +kernel
theorem dX5_isLetter_17 : decode cX5_isLetter 17 = .ok (.ireturn, 1) := by decide +kernel
def fX5_isLetter (a0 : Int32) (h : hp_T) : Option (Int32 × hp_T) := if a0 < (97 : Int32) then (some ((0 : Int32), h)) else (if (122 : Int32) < a0 then (some ((0 : Int32), h)) else (some ((1 : Int32), h)))
set_option maxRecDepth 100000 in
set_option maxHeartbeats 4000000 in
theorem mX5_isLetter (l : Launch) (G : xr_G) (a0 : Int32)  (h h1 : hp_T) (r : Int32) (hF : fX5_isLetter a0 h = some (r, h1)) : xr_M l G yX5_isLetter cX5_isLetter 1 (xr_R 0 0) (some .boolean) [.int a0] h (xr_Qi G r h1) := by
  refine xr_start rfl (Nat.le_of_ble_eq_true rfl) (fun K C => ?_)
  show xr_j l G K 1 h [(0, .int a0)] 0 []
  unfold fX5_isLetter at hF
  refine xr_iload_n C 0 dX5_isLetter_0 rfl rfl ?_
  refine xr_bipush (v := 97) C dX5_isLetter_1 (by decide) ?_
  refine xr_icmp_lt C 16 dX5_isLetter_3 (by decide) (fun c3 => ?_) (fun c3 => ?_)
  · have hF := fx_pos hF c3
    refine xr_iconst (v := 0) C dX5_isLetter_16 (by decide) ?_
    cases hF
    exact xr_zret C rfl dX5_isLetter_17
  · have hF := fx_neg hF c3
    refine xr_iload_n C 0 dX5_isLetter_6 rfl rfl ?_
    refine xr_bipush (v := 122) C dX5_isLetter_7 (by decide) ?_
    refine xr_icmp_gt C 16 dX5_isLetter_9 (by decide) (fun c9 => ?_) (fun c9 => ?_)
    · have hF := fx_pos hF c9
      refine xr_iconst (v := 0) C dX5_isLetter_16 (by decide) ?_
      cases hF
      exact xr_zret C rfl dX5_isLetter_17
    · have hF := fx_neg hF c9
      refine xr_iconst (v := 1) C dX5_isLetter_12 (by decide) ?_
      refine xr_goto C 17 dX5_isLetter_13 (by decide) ?_
      cases hF
      exact xr_zret C rfl dX5_isLetter_17
theorem dX5_isKeyword_0 : decode cX5_isKeyword 0 = .ok (.iload_n 0, 1) := by decide +kernel
theorem dX5_isKeyword_1 : decode cX5_isKeyword 1 = .ok (.ldc 155, 2) := by decide +kernel
theorem dX5_isKeyword_3 : decode cX5_isKeyword 3 = .ok (.if_icmp .eq 45, 3) := by decide +kernel
theorem dX5_isKeyword_6 : decode cX5_isKeyword 6 = .ok (.iload_n 0, 1) := by decide +kernel
theorem dX5_isKeyword_7 : decode cX5_isKeyword 7 = .ok (.ldc 156, 2) := by decide +kernel
theorem dX5_isKeyword_9 : decode cX5_isKeyword 9 = .ok (.if_icmp .eq 39, 3) := by decide +kernel
theorem dX5_isKeyword_12 : decode cX5_isKeyword 12 = .ok (.iload_n 0, 1) := by decide +kernel
theorem dX5_isKeyword_13 : decode cX5_isKeyword 13 = .ok (.ldc 157, 2) := by decide +kernel
theorem dX5_isKeyword_15 : decode cX5_isKeyword 15 = .ok (.if_icmp .eq 33, 3) := by decide +kernel
theorem dX5_isKeyword_18 : decode cX5_isKeyword 18 = .ok (.iload_n 0, 1) := by decide +kernel
theorem dX5_isKeyword_19 : decode cX5_isKeyword 19 = .ok (.ldc 131, 2) := by decide +kernel
theorem dX5_isKeyword_21 : decode cX5_isKeyword 21 = .ok (.if_icmp .eq 27, 3) := by decide +kernel
theorem dX5_isKeyword_24 : decode cX5_isKeyword 24 = .ok (.iload_n 0, 1) := by decide +kernel
theorem dX5_isKeyword_25 : decode cX5_isKeyword 25 = .ok (.ldc 132, 2) := by decide +kernel
theorem dX5_isKeyword_27 : decode cX5_isKeyword 27 = .ok (.if_icmp .eq 21, 3) := by decide +kernel
theorem dX5_isKeyword_30 : decode cX5_isKeyword 30 = .ok (.iload_n 0, 1) := by decide +kernel
theorem dX5_isKeyword_31 : decode cX5_isKeyword 31 = .ok (.ldc 158, 2) := by decide +kernel
theorem dX5_isKeyword_33 : decode cX5_isKeyword 33 = .ok (.if_icmp .eq 15, 3) := by decide +kernel
theorem dX5_isKeyword_36 : decode cX5_isKeyword 36 = .ok (.iload_n 0, 1) := by decide +kernel
theorem dX5_isKeyword_37 : decode cX5_isKeyword 37 = .ok (.ldc 159, 2) := by decide +kernel
theorem dX5_isKeyword_39 : decode cX5_isKeyword 39 = .ok (.if_icmp .eq 9, 3) := by decide +kernel
theorem dX5_isKeyword_42 : decode cX5_isKeyword 42 = .ok (.iload_n 0, 1) := by decide +kernel
theorem dX5_isKeyword_43 : decode cX5_isKeyword 43 = .ok (.ldc 160, 2) := by decide +kernel
theorem dX5_isKeyword_45 : decode cX5_isKeyword 45 = .ok (.if_icmp .ne 7, 3) := by decide +kernel
theorem dX5_isKeyword_48 : decode cX5_isKeyword 48 = .ok (.iconst 1, 1) := by decide +kernel
theorem dX5_isKeyword_49 : decode cX5_isKeyword 49 = .ok (.goto 4, 3) := by decide +kernel
theorem dX5_isKeyword_52 : decode cX5_isKeyword 52 = .ok (.iconst 0, 1) := by decide +kernel
theorem dX5_isKeyword_53 : decode cX5_isKeyword 53 = .ok (.ireturn, 1) := by decide +kernel
def fX5_isKeyword (a0 : Int32) (h : hp_T) : Option (Int32 × hp_T) := if a0 = (552909459 : Int32) then (some ((1 : Int32), h)) else (if a0 = (644179 : Int32) then (some ((1 : Int32), h)) else (if a0 = (168165 : Int32) then (some ((1 : Int32), h)) else (if a0 = (513619 : Int32) then (some ((1 : Int32), h)) else (if a0 = (679650899 : Int32) then (some ((1 : Int32), h)) else (if a0 = (215205 : Int32) then (some ((1 : Int32), h)) else (if a0 = (20579924 : Int32) then (some ((1 : Int32), h)) else (if a0 = (6605428 : Int32) then (some ((1 : Int32), h)) else (some ((0 : Int32), h)))))))))
set_option maxRecDepth 100000 in
set_option maxHeartbeats 4000000 in
theorem mX5_isKeyword (l : Launch) (G : xr_G) (a0 : Int32)  (h h1 : hp_T) (r : Int32) (hF : fX5_isKeyword a0 h = some (r, h1)) : xr_M l G yX5_isKeyword cX5_isKeyword 1 (xr_R 0 0) (some .boolean) [.int a0] h (xr_Qi G r h1) := by
  refine xr_start rfl (Nat.le_of_ble_eq_true rfl) (fun K C => ?_)
  show xr_j l G K 1 h [(0, .int a0)] 0 []
  unfold fX5_isKeyword at hF
  refine xr_iload_n C 0 dX5_isKeyword_0 rfl rfl ?_
  refine xr_ldc C kcX5_155 dX5_isKeyword_1 ?_
  refine xr_icmp_eq C 48 dX5_isKeyword_3 (by decide) (fun c3 => ?_) (fun c3 => ?_)
  · have hF := fx_pos hF c3
    refine xr_iconst (v := 1) C dX5_isKeyword_48 (by decide) ?_
    refine xr_goto C 53 dX5_isKeyword_49 (by decide) ?_
    cases hF
    exact xr_zret C rfl dX5_isKeyword_53
  · have hF := fx_neg hF c3
    refine xr_iload_n C 0 dX5_isKeyword_6 rfl rfl ?_
    refine xr_ldc C kcX5_156 dX5_isKeyword_7 ?_
    refine xr_icmp_eq C 48 dX5_isKeyword_9 (by decide) (fun c9 => ?_) (fun c9 => ?_)
    · have hF := fx_pos hF c9
      refine xr_iconst (v := 1) C dX5_isKeyword_48 (by decide) ?_
      refine xr_goto C 53 dX5_isKeyword_49 (by decide) ?_
      cases hF
      exact xr_zret C rfl dX5_isKeyword_53
    · have hF := fx_neg hF c9
      refine xr_iload_n C 0 dX5_isKeyword_12 rfl rfl ?_
      refine xr_ldc C kcX5_157 dX5_isKeyword_13 ?_
      refine xr_icmp_eq C 48 dX5_isKeyword_15 (by decide) (fun c15 => ?_) (fun c15 => ?_)
      · have hF := fx_pos hF c15
        refine xr_iconst (v := 1) C dX5_isKeyword_48 (by decide) ?_
        refine xr_goto C 53 dX5_isKeyword_49 (by decide) ?_
        cases hF
        exact xr_zret C rfl dX5_isKeyword_53
      · have hF := fx_neg hF c15
        refine xr_iload_n C 0 dX5_isKeyword_18 rfl rfl ?_
        refine xr_ldc C kcX5_131 dX5_isKeyword_19 ?_
        refine xr_icmp_eq C 48 dX5_isKeyword_21 (by decide) (fun c21 => ?_) (fun c21 => ?_)
        · have hF := fx_pos hF c21
          refine xr_iconst (v := 1) C dX5_isKeyword_48 (by decide) ?_
          refine xr_goto C 53 dX5_isKeyword_49 (by decide) ?_
          cases hF
          exact xr_zret C rfl dX5_isKeyword_53
        · have hF := fx_neg hF c21
          refine xr_iload_n C 0 dX5_isKeyword_24 rfl rfl ?_
          refine xr_ldc C kcX5_132 dX5_isKeyword_25 ?_
          refine xr_icmp_eq C 48 dX5_isKeyword_27 (by decide) (fun c27 => ?_) (fun c27 => ?_)
          · have hF := fx_pos hF c27
            refine xr_iconst (v := 1) C dX5_isKeyword_48 (by decide) ?_
            refine xr_goto C 53 dX5_isKeyword_49 (by decide) ?_
            cases hF
            exact xr_zret C rfl dX5_isKeyword_53
          · have hF := fx_neg hF c27
            refine xr_iload_n C 0 dX5_isKeyword_30 rfl rfl ?_
            refine xr_ldc C kcX5_158 dX5_isKeyword_31 ?_
            refine xr_icmp_eq C 48 dX5_isKeyword_33 (by decide) (fun c33 => ?_) (fun c33 => ?_)
            · have hF := fx_pos hF c33
              refine xr_iconst (v := 1) C dX5_isKeyword_48 (by decide) ?_
              refine xr_goto C 53 dX5_isKeyword_49 (by decide) ?_
              cases hF
              exact xr_zret C rfl dX5_isKeyword_53
            · have hF := fx_neg hF c33
              refine xr_iload_n C 0 dX5_isKeyword_36 rfl rfl ?_
              refine xr_ldc C kcX5_159 dX5_isKeyword_37 ?_
              refine xr_icmp_eq C 48 dX5_isKeyword_39 (by decide) (fun c39 => ?_) (fun c39 => ?_)
              · have hF := fx_pos hF c39
                refine xr_iconst (v := 1) C dX5_isKeyword_48 (by decide) ?_
                refine xr_goto C 53 dX5_isKeyword_49 (by decide) ?_
                cases hF
                exact xr_zret C rfl dX5_isKeyword_53
              · have hF := fx_neg hF c39
                refine xr_iload_n C 0 dX5_isKeyword_42 rfl rfl ?_
                refine xr_ldc C kcX5_160 dX5_isKeyword_43 ?_
                refine xr_icmp_ne C 52 dX5_isKeyword_45 (by decide) (fun c45 => ?_) (fun c45 => ?_)
                · have hF := fx_neg hF c45
                  refine xr_iconst (v := 0) C dX5_isKeyword_52 (by decide) ?_
                  cases hF
                  exact xr_zret C rfl dX5_isKeyword_53
                · have hF := fx_pos hF c45
                  refine xr_iconst (v := 1) C dX5_isKeyword_48 (by decide) ?_
                  refine xr_goto C 53 dX5_isKeyword_49 (by decide) ?_
                  cases hF
                  exact xr_zret C rfl dX5_isKeyword_53
theorem dX5_takeWord_0 : decode cX5_takeWord 0 = .ok (.aload_n 0, 1) := by decide +kernel
theorem dX5_takeWord_1 : decode cX5_takeWord 1 = .ok (.getfield 25, 3) := by decide +kernel
theorem dX5_takeWord_4 : decode cX5_takeWord 4 = .ok (.aload_n 0, 1) := by decide +kernel
theorem dX5_takeWord_5 : decode cX5_takeWord 5 = .ok (.getfield 22, 3) := by decide +kernel
theorem dX5_takeWord_8 : decode cX5_takeWord 8 = .ok (.if_icmp .ge 71, 3) := by decide +kernel
theorem dX5_takeWord_11 : decode cX5_takeWord 11 = .ok (.aload_n 0, 1) := by decide +kernel
theorem dX5_takeWord_12 : decode cX5_takeWord 12 = .ok (.getfield 9, 3) := by decide +kernel
theorem dX5_takeWord_15 : decode cX5_takeWord 15 = .ok (.aload_n 0, 1) := by decide +kernel
theorem dX5_takeWord_16 : decode cX5_takeWord 16 = .ok (.getfield 25, 3) := by decide +kernel
theorem dX5_takeWord_19 : decode cX5_takeWord 19 = .ok (.iaload, 1) := by decide +kernel
theorem dX5_takeWord_20 : decode cX5_takeWord 20 = .ok (.invokestatic 135, 3) := by decide +kernel
theorem dX5_takeWord_23 : decode cX5_takeWord 23 = .ok (.ifCond .eq 56, 3) := by decide +kernel
theorem dX5_takeWord_26 : decode cX5_takeWord 26 = .ok (.aload_n 0, 1) := by decide +kernel
theorem dX5_takeWord_27 : decode cX5_takeWord 27 = .ok (.getfield 25, 3) := by decide +kernel
theorem dX5_takeWord_30 : decode cX5_takeWord 30 = .ok (.aload_n 0, 1) := by decide +kernel
theorem dX5_takeWord_31 : decode cX5_takeWord 31 = .ok (.getfield 133, 3) := by decide +kernel
theorem dX5_takeWord_34 : decode cX5_takeWord 34 = .ok (.isub, 1) := by decide +kernel
theorem dX5_takeWord_35 : decode cX5_takeWord 35 = .ok (.bipush 6, 2) := by decide +kernel
theorem dX5_takeWord_37 : decode cX5_takeWord 37 = .ok (.if_icmp .ge 29, 3) := by decide +kernel
theorem dX5_takeWord_40 : decode cX5_takeWord 40 = .ok (.aload_n 0, 1) := by decide +kernel
theorem dX5_takeWord_41 : decode cX5_takeWord 41 = .ok (.aload_n 0, 1) := by decide +kernel
theorem dX5_takeWord_42 : decode cX5_takeWord 42 = .ok (.getfield 68, 3) := by decide +kernel
theorem dX5_takeWord_45 : decode cX5_takeWord 45 = .ok (.bipush 32, 2) := by decide +kernel
theorem dX5_takeWord_47 : decode cX5_takeWord 47 = .ok (.imul, 1) := by decide +kernel
theorem dX5_takeWord_48 : decode cX5_takeWord 48 = .ok (.aload_n 0, 1) := by decide +kernel
theorem dX5_takeWord_49 : decode cX5_takeWord 49 = .ok (.getfield 9, 3) := by decide +kernel
theorem dX5_takeWord_52 : decode cX5_takeWord 52 = .ok (.aload_n 0, 1) := by decide +kernel
theorem dX5_takeWord_53 : decode cX5_takeWord 53 = .ok (.getfield 25, 3) := by decide +kernel
theorem dX5_takeWord_56 : decode cX5_takeWord 56 = .ok (.iaload, 1) := by decide +kernel
theorem dX5_takeWord_57 : decode cX5_takeWord 57 = .ok (.iadd, 1) := by decide +kernel
theorem dX5_takeWord_58 : decode cX5_takeWord 58 = .ok (.bipush 97, 2) := by decide +kernel
theorem dX5_takeWord_60 : decode cX5_takeWord 60 = .ok (.isub, 1) := by decide +kernel
theorem dX5_takeWord_61 : decode cX5_takeWord 61 = .ok (.iconst 1, 1) := by decide +kernel
theorem dX5_takeWord_62 : decode cX5_takeWord 62 = .ok (.iadd, 1) := by decide +kernel
theorem dX5_takeWord_63 : decode cX5_takeWord 63 = .ok (.putfield 68, 3) := by decide +kernel
theorem dX5_takeWord_66 : decode cX5_takeWord 66 = .ok (.aload_n 0, 1) := by decide +kernel
theorem dX5_takeWord_67 : decode cX5_takeWord 67 = .ok (.dup, 1) := by decide +kernel
theorem dX5_takeWord_68 : decode cX5_takeWord 68 = .ok (.getfield 25, 3) := by decide +kernel
theorem dX5_takeWord_71 : decode cX5_takeWord 71 = .ok (.iconst 1, 1) := by decide +kernel
theorem dX5_takeWord_72 : decode cX5_takeWord 72 = .ok (.iadd, 1) := by decide +kernel
theorem dX5_takeWord_73 : decode cX5_takeWord 73 = .ok (.putfield 25, 3) := by decide +kernel
theorem dX5_takeWord_76 : decode cX5_takeWord 76 = .ok (.goto (-76), 3) := by decide +kernel
theorem dX5_takeWord_79 : decode cX5_takeWord 79 = .ok (.aload_n 0, 1) := by decide +kernel
theorem dX5_takeWord_80 : decode cX5_takeWord 80 = .ok (.getfield 25, 3) := by decide +kernel
theorem dX5_takeWord_83 : decode cX5_takeWord 83 = .ok (.aload_n 0, 1) := by decide +kernel
theorem dX5_takeWord_84 : decode cX5_takeWord 84 = .ok (.getfield 133, 3) := by decide +kernel
theorem dX5_takeWord_87 : decode cX5_takeWord 87 = .ok (.isub, 1) := by decide +kernel
theorem dX5_takeWord_88 : decode cX5_takeWord 88 = .ok (.bipush 6, 2) := by decide +kernel
theorem dX5_takeWord_90 : decode cX5_takeWord 90 = .ok (.if_icmp .le 11, 3) := by decide +kernel
theorem dX5_takeWord_93 : decode cX5_takeWord 93 = .ok (.aload_n 0, 1) := by decide +kernel
theorem dX5_takeWord_94 : decode cX5_takeWord 94 = .ok (.iconst 5, 1) := by decide +kernel
theorem dX5_takeWord_95 : decode cX5_takeWord 95 = .ok (.putfield 39, 3) := by decide +kernel
theorem dX5_takeWord_98 : decode cX5_takeWord 98 = .ok (.goto 22, 3) := by decide +kernel
theorem dX5_takeWord_101 : decode cX5_takeWord 101 = .ok (.aload_n 0, 1) := by decide +kernel
theorem dX5_takeWord_102 : decode cX5_takeWord 102 = .ok (.aload_n 0, 1) := by decide +kernel
theorem dX5_takeWord_103 : decode cX5_takeWord 103 = .ok (.getfield 68, 3) := by decide +kernel
theorem dX5_takeWord_106 : decode cX5_takeWord 106 = .ok (.invokestatic 147, 3) := by decide +kernel
theorem dX5_takeWord_109 : decode cX5_takeWord 109 = .ok (.ifCond .eq 7, 3) := by decide +kernel
theorem dX5_takeWord_112 : decode cX5_takeWord 112 = .ok (.iconst 2, 1) := by decide +kernel
theorem dX5_takeWord_113 : decode cX5_takeWord 113 = .ok (.goto 4, 3) := by decide +kernel
theorem dX5_takeWord_116 : decode cX5_takeWord 116 = .ok (.iconst 1, 1) := by decide +kernel
theorem dX5_takeWord_117 : decode cX5_takeWord 117 = .ok (.putfield 39, 3) := by decide +kernel
theorem dX5_takeWord_120 : decode cX5_takeWord 120 = .ok (.return_, 1) := by decide +kernel
def fX5_takeWord_79  (a0 : Nat) (h : hp_T) : Option hp_T := if ((h.1 a0 5) - (h.1 a0 6)) ≤ (6 : Int32) then (fx_b2 (fX5_isKeyword (h.1 a0 8) h) fun (r106 : Int32) (h106 : hp_T) => if r106 = 0 then (fx_let (hp_sI h106 a0 7 (1 : Int32)) fun (h117 : hp_T) => some h117) else (fx_let (hp_sI h106 a0 7 (2 : Int32)) fun (h117 : hp_T) => some h117)) else (fx_let (hp_sI h a0 7 (5 : Int32)) fun (h95 : hp_T) => some h95)
set_option maxRecDepth 100000 in
set_option maxHeartbeats 4000000 in
theorem bX5_takeWord_79 {l : Launch} {G : xr_G} {K : xr_K} {h1 : hp_T} (C : xr_C G K cX5_takeWord RX5 1 (xr_R 1 20) none (some (xr_Qv G h1)))  (a0 : Nat) (ta0 : hp_sh a0 = (5, 0)) (h : hp_T) (hF : fX5_takeWord_79 a0 h = some h1) : xr_j l G K 1 h [(0, .ref (G.2.2.1 a0))] 79 [] := by
  unfold fX5_takeWord_79 at hF
  refine xr_aload_n C 0 dX5_takeWord_79 rfl rfl ?_
  refine xr_geti C flX5_25 rfl dX5_takeWord_80 ta0 ?_
  refine xr_aload_n C 0 dX5_takeWord_83 rfl rfl ?_
  refine xr_geti C flX5_133 rfl dX5_takeWord_84 ta0 ?_
  refine xr_isub C dX5_takeWord_87 ?_
  refine xr_bipush (v := 6) C dX5_takeWord_88 (by decide) ?_
  refine xr_icmp_le C 101 dX5_takeWord_90 (by decide) (fun c90 => ?_) (fun c90 => ?_)
  · have hF := fx_pos hF c90
    refine xr_aload_n C 0 dX5_takeWord_101 rfl rfl ?_
    refine xr_aload_n C 0 dX5_takeWord_102 rfl rfl ?_
    refine xr_geti C flX5_68 rfl dX5_takeWord_103 ta0 ?_
    obtain ⟨r106, h106, e106, hF⟩ := fx_b2E hF
    refine xr_callSi C mvX5_147 [.int (h.1 a0 8)] [.ref (G.2.2.1 a0)] (mX5_isKeyword l G (h.1 a0 8)  h h106 r106 e106) rfl ⟨rfl, rfl, (Nat.le_of_ble_eq_true rfl), (Nat.le_of_ble_eq_true rfl)⟩ rfl (Nat.le_of_ble_eq_true rfl) dX5_takeWord_106 ?_
    refine xr_if_eq C 116 dX5_takeWord_109 (by decide) (fun c109 => ?_) (fun c109 => ?_)
    · have hF := fx_pos hF c109
      refine xr_iconst (v := 1) C dX5_takeWord_116 (by decide) ?_
      refine xr_puti C fpX5_39 rfl rfl rfl dX5_takeWord_117 ta0 (fun h117 e117 => ?_)
      have hF := fx_letE hF h117 e117
      cases hF
      exact xr_vret C dX5_takeWord_120
    · have hF := fx_neg hF c109
      refine xr_iconst (v := 2) C dX5_takeWord_112 (by decide) ?_
      refine xr_goto C 117 dX5_takeWord_113 (by decide) ?_
      refine xr_puti C fpX5_39 rfl rfl rfl dX5_takeWord_117 ta0 (fun h117 e117 => ?_)
      have hF := fx_letE hF h117 e117
      cases hF
      exact xr_vret C dX5_takeWord_120
  · have hF := fx_neg hF c90
    refine xr_aload_n C 0 dX5_takeWord_93 rfl rfl ?_
    refine xr_iconst (v := 5) C dX5_takeWord_94 (by decide) ?_
    refine xr_puti C fpX5_39 rfl rfl rfl dX5_takeWord_95 ta0 (fun h95 e95 => ?_)
    have hF := fx_letE hF h95 e95
    refine xr_goto C 120 dX5_takeWord_98 (by decide) ?_
    cases hF
    exact xr_vret C dX5_takeWord_120
def fX5_takeWord_66 (k0 : Nat → hp_T → Option hp_T) (a0 : Nat) (h : hp_T) : Option hp_T := fx_let (hp_sI h a0 5 ((h.1 a0 5) + (1 : Int32))) fun (h73 : hp_T) => k0 a0 h73
set_option maxRecDepth 100000 in
set_option maxHeartbeats 4000000 in
theorem bX5_takeWord_66 {l : Launch} {G : xr_G} {K : xr_K} {h1 : hp_T} (C : xr_C G K cX5_takeWord RX5 1 (xr_R 1 20) none (some (xr_Qv G h1))) (k0 : Nat → hp_T → Option hp_T) (j0 : ∀ (a0 : Nat) (ta0 : hp_sh a0 = (5, 0)) (h : hp_T), k0 a0 h = some h1 → xr_j l G K 1 h [(0, .ref (G.2.2.1 a0))] 0 []) (a0 : Nat) (ta0 : hp_sh a0 = (5, 0)) (h : hp_T) (hF : fX5_takeWord_66 k0 a0 h = some h1) : xr_j l G K 1 h [(0, .ref (G.2.2.1 a0))] 66 [] := by
  unfold fX5_takeWord_66 at hF
  refine xr_aload_n C 0 dX5_takeWord_66 rfl rfl ?_
  refine xr_dup C dX5_takeWord_67 rfl ?_
  refine xr_geti C flX5_25 rfl dX5_takeWord_68 ta0 ?_
  refine xr_iconst (v := 1) C dX5_takeWord_71 (by decide) ?_
  refine xr_iadd C dX5_takeWord_72 ?_
  refine xr_puti C fpX5_25 rfl rfl rfl dX5_takeWord_73 ta0 (fun h73 e73 => ?_)
  have hF := fx_letE hF h73 e73
  refine xr_goto C 0 dX5_takeWord_76 (by decide) ?_
  exact j0 a0 ta0 h73 hF
def fX5_takeWord_0  : Nat → Nat → hp_T → Option hp_T
  | 0, _, _ => none
  | n + 1, a0, h => if (h.1 a0 4) ≤ (h.1 a0 5) then (fX5_takeWord_79 a0 h) else (fx_g (fx_in (h.1 a0 5) 900) (fx_b2 (fX5_isLetter (h.1 (h.2.2 a0 0) (fx_ix (h.1 a0 5))) h) fun (r20 : Int32) (h20 : hp_T) => if r20 = 0 then (fX5_takeWord_79 a0 h20) else (if (6 : Int32) ≤ ((h20.1 a0 5) - (h20.1 a0 6)) then (fX5_takeWord_66 (fX5_takeWord_0 n) a0 h20) else (fx_g (fx_in (h20.1 a0 5) 900) (fx_let (hp_sI h20 a0 8 (((((h20.1 a0 8) * (32 : Int32)) + (h20.1 (h20.2.2 a0 0) (fx_ix (h20.1 a0 5)))) - (97 : Int32)) + (1 : Int32))) fun (h63 : hp_T) => fX5_takeWord_66 (fX5_takeWord_0 n) a0 h63)))))
set_option maxRecDepth 100000 in
set_option maxHeartbeats 4000000 in
theorem bX5_takeWord_0 {l : Launch} {G : xr_G} {K : xr_K} {h1 : hp_T} (C : xr_C G K cX5_takeWord RX5 1 (xr_R 1 20) none (some (xr_Qv G h1)))  : ∀ (n : Nat) (a0 : Nat) (ta0 : hp_sh a0 = (5, 0)) (h : hp_T), fX5_takeWord_0 n a0 h = some h1 → xr_j l G K 1 h [(0, .ref (G.2.2.1 a0))] 0 [] := by
  intro n
  induction n with
  | zero =>
    intro a0 ta0 h hF
    cases hF
  | succ n ih =>
    intro a0 ta0 h hF
    rw [fX5_takeWord_0] at hF
    refine xr_aload_n C 0 dX5_takeWord_0 rfl rfl ?_
    refine xr_geti C flX5_25 rfl dX5_takeWord_1 ta0 ?_
    refine xr_aload_n C 0 dX5_takeWord_4 rfl rfl ?_
    refine xr_geti C flX5_22 rfl dX5_takeWord_5 ta0 ?_
    refine xr_icmp_ge C 79 dX5_takeWord_8 (by decide) (fun c8 => ?_) (fun c8 => ?_)
    · have hF := fx_pos hF c8
      exact bX5_takeWord_79 C   a0 ta0 h hF
    · have hF := fx_neg hF c8
      refine xr_aload_n C 0 dX5_takeWord_11 rfl rfl ?_
      refine xr_getr C flX5_9 rfl (by decide) dX5_takeWord_12 ta0 (fun t12 => ?_)
      refine xr_aload_n C 0 dX5_takeWord_15 rfl rfl ?_
      refine xr_geti C flX5_25 rfl dX5_takeWord_16 ta0 ?_
      obtain ⟨g19, hF⟩ := fx_gE hF
      refine xr_iald C dX5_takeWord_19 t12 g19 ?_
      obtain ⟨r20, h20, e20, hF⟩ := fx_b2E hF
      refine xr_callSi C mvX5_135 [.int (h.1 (h.2.2 a0 0) (fx_ix (h.1 a0 5)))] [] (mX5_isLetter l G (h.1 (h.2.2 a0 0) (fx_ix (h.1 a0 5)))  h h20 r20 e20) rfl ⟨rfl, rfl, (Nat.le_of_ble_eq_true rfl), (Nat.le_of_ble_eq_true rfl)⟩ rfl (Nat.le_of_ble_eq_true rfl) dX5_takeWord_20 ?_
      refine xr_if_eq C 79 dX5_takeWord_23 (by decide) (fun c23 => ?_) (fun c23 => ?_)
      · have hF := fx_pos hF c23
        exact bX5_takeWord_79 C   a0 ta0 h20 hF
      · have hF := fx_neg hF c23
        refine xr_aload_n C 0 dX5_takeWord_26 rfl rfl ?_
        refine xr_geti C flX5_25 rfl dX5_takeWord_27 ta0 ?_
        refine xr_aload_n C 0 dX5_takeWord_30 rfl rfl ?_
        refine xr_geti C flX5_133 rfl dX5_takeWord_31 ta0 ?_
        refine xr_isub C dX5_takeWord_34 ?_
        refine xr_bipush (v := 6) C dX5_takeWord_35 (by decide) ?_
        refine xr_icmp_ge C 66 dX5_takeWord_37 (by decide) (fun c37 => ?_) (fun c37 => ?_)
        · have hF := fx_pos hF c37
          exact bX5_takeWord_66 C (fX5_takeWord_0 n) (fun a0 ta0 h hF => ih a0 ta0 h hF)  a0 ta0 h20 hF
        · have hF := fx_neg hF c37
          refine xr_aload_n C 0 dX5_takeWord_40 rfl rfl ?_
          refine xr_aload_n C 0 dX5_takeWord_41 rfl rfl ?_
          refine xr_geti C flX5_68 rfl dX5_takeWord_42 ta0 ?_
          refine xr_bipush (v := 32) C dX5_takeWord_45 (by decide) ?_
          refine xr_imul C dX5_takeWord_47 ?_
          refine xr_aload_n C 0 dX5_takeWord_48 rfl rfl ?_
          refine xr_getr C flX5_9 rfl (by decide) dX5_takeWord_49 ta0 (fun t49 => ?_)
          refine xr_aload_n C 0 dX5_takeWord_52 rfl rfl ?_
          refine xr_geti C flX5_25 rfl dX5_takeWord_53 ta0 ?_
          obtain ⟨g56, hF⟩ := fx_gE hF
          refine xr_iald C dX5_takeWord_56 t49 g56 ?_
          refine xr_iadd C dX5_takeWord_57 ?_
          refine xr_bipush (v := 97) C dX5_takeWord_58 (by decide) ?_
          refine xr_isub C dX5_takeWord_60 ?_
          refine xr_iconst (v := 1) C dX5_takeWord_61 (by decide) ?_
          refine xr_iadd C dX5_takeWord_62 ?_
          refine xr_puti C fpX5_68 rfl rfl rfl dX5_takeWord_63 ta0 (fun h63 e63 => ?_)
          have hF := fx_letE hF h63 e63
          exact bX5_takeWord_66 C (fX5_takeWord_0 n) (fun a0 ta0 h hF => ih a0 ta0 h hF)  a0 ta0 h63 hF
def fX5_takeWord (a0 : Nat) (h : hp_T) : Option hp_T := fX5_takeWord_0 fx_N a0 h
set_option maxRecDepth 100000 in
set_option maxHeartbeats 4000000 in
theorem mX5_takeWord (l : Launch) (G : xr_G) (a0 : Nat) (ta0 : hp_sh a0 = (5, 0)) (h h1 : hp_T) (hF : fX5_takeWord a0 h = some h1) : xr_M l G yX5_takeWord cX5_takeWord 1 (xr_R 1 20) none [.ref (G.2.2.1 a0)] h (xr_Qv G h1) := by
  refine xr_start rfl (Nat.le_of_ble_eq_true rfl) (fun K C => ?_)
  show xr_j l G K 1 h [(0, .ref (G.2.2.1 a0))] 0 []
  unfold fX5_takeWord at hF
  exact bX5_takeWord_0 C  fx_N a0 ta0 h hF
theorem dX5_isDigit_0 : decode cX5_isDigit 0 = .ok (.iload_n 0, 1) := by decide +kernel
theorem dX5_isDigit_1 : decode cX5_isDigit 1 = .ok (.bipush 48, 2) := by decide +kernel
theorem dX5_isDigit_3 : decode cX5_isDigit 3 = .ok (.if_icmp .lt 13, 3) := by decide +kernel
theorem dX5_isDigit_6 : decode cX5_isDigit 6 = .ok (.iload_n 0, 1) := by decide +kernel
theorem dX5_isDigit_7 : decode cX5_isDigit 7 = .ok (.bipush 57, 2) := by decide +kernel
theorem dX5_isDigit_9 : decode cX5_isDigit 9 = .ok (.if_icmp .gt 7, 3) := by decide +kernel
theorem dX5_isDigit_12 : decode cX5_isDigit 12 = .ok (.iconst 1, 1) := by decide +kernel
theorem dX5_isDigit_13 : decode cX5_isDigit 13 = .ok (.goto 4, 3) := by decide +kernel
theorem dX5_isDigit_16 : decode cX5_isDigit 16 = .ok (.iconst 0, 1) := by decide +kernel
theorem dX5_isDigit_17 : decode cX5_isDigit 17 = .ok (.ireturn, 1) := by decide +kernel
def fX5_isDigit (a0 : Int32) (h : hp_T) : Option (Int32 × hp_T) := if a0 < (48 : Int32) then (some ((0 : Int32), h)) else (if (57 : Int32) < a0 then (some ((0 : Int32), h)) else (some ((1 : Int32), h)))
set_option maxRecDepth 100000 in
set_option maxHeartbeats 4000000 in
theorem mX5_isDigit (l : Launch) (G : xr_G) (a0 : Int32)  (h h1 : hp_T) (r : Int32) (hF : fX5_isDigit a0 h = some (r, h1)) : xr_M l G yX5_isDigit cX5_isDigit 1 (xr_R 0 0) (some .boolean) [.int a0] h (xr_Qi G r h1) := by
  refine xr_start rfl (Nat.le_of_ble_eq_true rfl) (fun K C => ?_)
  show xr_j l G K 1 h [(0, .int a0)] 0 []
  unfold fX5_isDigit at hF
  refine xr_iload_n C 0 dX5_isDigit_0 rfl rfl ?_
  refine xr_bipush (v := 48) C dX5_isDigit_1 (by decide) ?_
  refine xr_icmp_lt C 16 dX5_isDigit_3 (by decide) (fun c3 => ?_) (fun c3 => ?_)
  · have hF := fx_pos hF c3
    refine xr_iconst (v := 0) C dX5_isDigit_16 (by decide) ?_
    cases hF
    exact xr_zret C rfl dX5_isDigit_17
  · have hF := fx_neg hF c3
    refine xr_iload_n C 0 dX5_isDigit_6 rfl rfl ?_
    refine xr_bipush (v := 57) C dX5_isDigit_7 (by decide) ?_
    refine xr_icmp_gt C 16 dX5_isDigit_9 (by decide) (fun c9 => ?_) (fun c9 => ?_)
    · have hF := fx_pos hF c9
      refine xr_iconst (v := 0) C dX5_isDigit_16 (by decide) ?_
      cases hF
      exact xr_zret C rfl dX5_isDigit_17
    · have hF := fx_neg hF c9
      refine xr_iconst (v := 1) C dX5_isDigit_12 (by decide) ?_
      refine xr_goto C 17 dX5_isDigit_13 (by decide) ?_
      cases hF
      exact xr_zret C rfl dX5_isDigit_17
theorem dX5_takeNumber_0 : decode cX5_takeNumber 0 = .ok (.aload_n 0, 1) := by decide +kernel
theorem dX5_takeNumber_1 : decode cX5_takeNumber 1 = .ok (.iconst 3, 1) := by decide +kernel
theorem dX5_takeNumber_2 : decode cX5_takeNumber 2 = .ok (.putfield 39, 3) := by decide +kernel
theorem dX5_takeNumber_5 : decode cX5_takeNumber 5 = .ok (.aload_n 0, 1) := by decide +kernel
theorem dX5_takeNumber_6 : decode cX5_takeNumber 6 = .ok (.getfield 25, 3) := by decide +kernel
theorem dX5_takeNumber_9 : decode cX5_takeNumber 9 = .ok (.aload_n 0, 1) := by decide +kernel
theorem dX5_takeNumber_10 : decode cX5_takeNumber 10 = .ok (.getfield 22, 3) := by decide +kernel
theorem dX5_takeNumber_13 : decode cX5_takeNumber 13 = .ok (.if_icmp .ge 61, 3) := by decide +kernel
theorem dX5_takeNumber_16 : decode cX5_takeNumber 16 = .ok (.aload_n 0, 1) := by decide +kernel
theorem dX5_takeNumber_17 : decode cX5_takeNumber 17 = .ok (.getfield 9, 3) := by decide +kernel
theorem dX5_takeNumber_20 : decode cX5_takeNumber 20 = .ok (.aload_n 0, 1) := by decide +kernel
theorem dX5_takeNumber_21 : decode cX5_takeNumber 21 = .ok (.getfield 25, 3) := by decide +kernel
theorem dX5_takeNumber_24 : decode cX5_takeNumber 24 = .ok (.iaload, 1) := by decide +kernel
theorem dX5_takeNumber_25 : decode cX5_takeNumber 25 = .ok (.invokestatic 141, 3) := by decide +kernel
theorem dX5_takeNumber_28 : decode cX5_takeNumber 28 = .ok (.ifCond .eq 46, 3) := by decide +kernel
theorem dX5_takeNumber_31 : decode cX5_takeNumber 31 = .ok (.aload_n 0, 1) := by decide +kernel
theorem dX5_takeNumber_32 : decode cX5_takeNumber 32 = .ok (.sipush 1000, 3) := by decide +kernel
theorem dX5_takeNumber_35 : decode cX5_takeNumber 35 = .ok (.aload_n 0, 1) := by decide +kernel
theorem dX5_takeNumber_36 : decode cX5_takeNumber 36 = .ok (.getfield 68, 3) := by decide +kernel
theorem dX5_takeNumber_39 : decode cX5_takeNumber 39 = .ok (.bipush 10, 2) := by decide +kernel
theorem dX5_takeNumber_41 : decode cX5_takeNumber 41 = .ok (.imul, 1) := by decide +kernel
theorem dX5_takeNumber_42 : decode cX5_takeNumber 42 = .ok (.aload_n 0, 1) := by decide +kernel
theorem dX5_takeNumber_43 : decode cX5_takeNumber 43 = .ok (.getfield 9, 3) := by decide +kernel
theorem dX5_takeNumber_46 : decode cX5_takeNumber 46 = .ok (.aload_n 0, 1) := by decide +kernel
theorem dX5_takeNumber_47 : decode cX5_takeNumber 47 = .ok (.getfield 25, 3) := by decide +kernel
theorem dX5_takeNumber_50 : decode cX5_takeNumber 50 = .ok (.iaload, 1) := by decide +kernel
theorem dX5_takeNumber_51 : decode cX5_takeNumber 51 = .ok (.iadd, 1) := by decide +kernel
theorem dX5_takeNumber_52 : decode cX5_takeNumber 52 = .ok (.bipush 48, 2) := by decide +kernel
theorem dX5_takeNumber_54 : decode cX5_takeNumber 54 = .ok (.isub, 1) := by decide +kernel
theorem dX5_takeNumber_55 : decode cX5_takeNumber 55 = .ok (.invokestatic 150, 3) := by decide +kernel
theorem dX5_takeNumber_58 : decode cX5_takeNumber 58 = .ok (.putfield 68, 3) := by decide +kernel
theorem dX5_takeNumber_61 : decode cX5_takeNumber 61 = .ok (.aload_n 0, 1) := by decide +kernel
theorem dX5_takeNumber_62 : decode cX5_takeNumber 62 = .ok (.dup, 1) := by decide +kernel
theorem dX5_takeNumber_63 : decode cX5_takeNumber 63 = .ok (.getfield 25, 3) := by decide +kernel
theorem dX5_takeNumber_66 : decode cX5_takeNumber 66 = .ok (.iconst 1, 1) := by decide +kernel
theorem dX5_takeNumber_67 : decode cX5_takeNumber 67 = .ok (.iadd, 1) := by decide +kernel
theorem dX5_takeNumber_68 : decode cX5_takeNumber 68 = .ok (.putfield 25, 3) := by decide +kernel
theorem dX5_takeNumber_71 : decode cX5_takeNumber 71 = .ok (.goto (-66), 3) := by decide +kernel
theorem dX5_takeNumber_74 : decode cX5_takeNumber 74 = .ok (.return_, 1) := by decide +kernel
def fX5_takeNumber_5  : Nat → Nat → hp_T → Option hp_T
  | 0, _, _ => none
  | n + 1, a0, h => if (h.1 a0 4) ≤ (h.1 a0 5) then (some h) else (fx_g (fx_in (h.1 a0 5) 900) (fx_b2 (fX5_isDigit (h.1 (h.2.2 a0 0) (fx_ix (h.1 a0 5))) h) fun (r25 : Int32) (h25 : hp_T) => if r25 = 0 then (some h25) else (fx_g (fx_in (h25.1 a0 5) 900) (fx_let (hp_sI h25 a0 8 (fx_min (1000 : Int32) ((((h25.1 a0 8) * (10 : Int32)) + (h25.1 (h25.2.2 a0 0) (fx_ix (h25.1 a0 5)))) - (48 : Int32)))) fun (h58 : hp_T) => fx_let (hp_sI h58 a0 5 ((h58.1 a0 5) + (1 : Int32))) fun (h68 : hp_T) => fX5_takeNumber_5 n a0 h68))))
set_option maxRecDepth 100000 in
set_option maxHeartbeats 4000000 in
theorem bX5_takeNumber_5 {l : Launch} {G : xr_G} {K : xr_K} {h1 : hp_T} (C : xr_C G K cX5_takeNumber RX5 1 (xr_R 1 60) none (some (xr_Qv G h1)))  : ∀ (n : Nat) (a0 : Nat) (ta0 : hp_sh a0 = (5, 0)) (h : hp_T), fX5_takeNumber_5 n a0 h = some h1 → xr_j l G K 1 h [(0, .ref (G.2.2.1 a0))] 5 [] := by
  intro n
  induction n with
  | zero =>
    intro a0 ta0 h hF
    cases hF
  | succ n ih =>
    intro a0 ta0 h hF
    rw [fX5_takeNumber_5] at hF
    refine xr_aload_n C 0 dX5_takeNumber_5 rfl rfl ?_
    refine xr_geti C flX5_25 rfl dX5_takeNumber_6 ta0 ?_
    refine xr_aload_n C 0 dX5_takeNumber_9 rfl rfl ?_
    refine xr_geti C flX5_22 rfl dX5_takeNumber_10 ta0 ?_
    refine xr_icmp_ge C 74 dX5_takeNumber_13 (by decide) (fun c13 => ?_) (fun c13 => ?_)
    · have hF := fx_pos hF c13
      cases hF
      exact xr_vret C dX5_takeNumber_74
    · have hF := fx_neg hF c13
      refine xr_aload_n C 0 dX5_takeNumber_16 rfl rfl ?_
      refine xr_getr C flX5_9 rfl (by decide) dX5_takeNumber_17 ta0 (fun t17 => ?_)
      refine xr_aload_n C 0 dX5_takeNumber_20 rfl rfl ?_
      refine xr_geti C flX5_25 rfl dX5_takeNumber_21 ta0 ?_
      obtain ⟨g24, hF⟩ := fx_gE hF
      refine xr_iald C dX5_takeNumber_24 t17 g24 ?_
      obtain ⟨r25, h25, e25, hF⟩ := fx_b2E hF
      refine xr_callSi C mvX5_141 [.int (h.1 (h.2.2 a0 0) (fx_ix (h.1 a0 5)))] [] (mX5_isDigit l G (h.1 (h.2.2 a0 0) (fx_ix (h.1 a0 5)))  h h25 r25 e25) rfl ⟨rfl, rfl, (Nat.le_of_ble_eq_true rfl), (Nat.le_of_ble_eq_true rfl)⟩ rfl (Nat.le_of_ble_eq_true rfl) dX5_takeNumber_25 ?_
      refine xr_if_eq C 74 dX5_takeNumber_28 (by decide) (fun c28 => ?_) (fun c28 => ?_)
      · have hF := fx_pos hF c28
        cases hF
        exact xr_vret C dX5_takeNumber_74
      · have hF := fx_neg hF c28
        refine xr_aload_n C 0 dX5_takeNumber_31 rfl rfl ?_
        refine xr_sipush (v := 1000) C dX5_takeNumber_32 (by decide) ?_
        refine xr_aload_n C 0 dX5_takeNumber_35 rfl rfl ?_
        refine xr_geti C flX5_68 rfl dX5_takeNumber_36 ta0 ?_
        refine xr_bipush (v := 10) C dX5_takeNumber_39 (by decide) ?_
        refine xr_imul C dX5_takeNumber_41 ?_
        refine xr_aload_n C 0 dX5_takeNumber_42 rfl rfl ?_
        refine xr_getr C flX5_9 rfl (by decide) dX5_takeNumber_43 ta0 (fun t43 => ?_)
        refine xr_aload_n C 0 dX5_takeNumber_46 rfl rfl ?_
        refine xr_geti C flX5_25 rfl dX5_takeNumber_47 ta0 ?_
        obtain ⟨g50, hF⟩ := fx_gE hF
        refine xr_iald C dX5_takeNumber_50 t43 g50 ?_
        refine xr_iadd C dX5_takeNumber_51 ?_
        refine xr_bipush (v := 48) C dX5_takeNumber_52 (by decide) ?_
        refine xr_isub C dX5_takeNumber_54 ?_
        refine xr_mmin C mmX5_150 (Nat.le_of_ble_eq_true rfl) (Nat.le_of_ble_eq_true rfl) dX5_takeNumber_55 ?_
        refine xr_puti C fpX5_68 rfl rfl rfl dX5_takeNumber_58 ta0 (fun h58 e58 => ?_)
        have hF := fx_letE hF h58 e58
        refine xr_aload_n C 0 dX5_takeNumber_61 rfl rfl ?_
        refine xr_dup C dX5_takeNumber_62 rfl ?_
        refine xr_geti C flX5_25 rfl dX5_takeNumber_63 ta0 ?_
        refine xr_iconst (v := 1) C dX5_takeNumber_66 (by decide) ?_
        refine xr_iadd C dX5_takeNumber_67 ?_
        refine xr_puti C fpX5_25 rfl rfl rfl dX5_takeNumber_68 ta0 (fun h68 e68 => ?_)
        have hF := fx_letE hF h68 e68
        refine xr_goto C 5 dX5_takeNumber_71 (by decide) ?_
        exact ih a0 ta0 h68 hF
def fX5_takeNumber (a0 : Nat) (h : hp_T) : Option hp_T := fx_let (hp_sI h a0 7 (3 : Int32)) fun (h2 : hp_T) => fX5_takeNumber_5 fx_N a0 h2
set_option maxRecDepth 100000 in
set_option maxHeartbeats 4000000 in
theorem mX5_takeNumber (l : Launch) (G : xr_G) (a0 : Nat) (ta0 : hp_sh a0 = (5, 0)) (h h1 : hp_T) (hF : fX5_takeNumber a0 h = some h1) : xr_M l G yX5_takeNumber cX5_takeNumber 1 (xr_R 1 60) none [.ref (G.2.2.1 a0)] h (xr_Qv G h1) := by
  refine xr_start rfl (Nat.le_of_ble_eq_true rfl) (fun K C => ?_)
  show xr_j l G K 1 h [(0, .ref (G.2.2.1 a0))] 0 []
  unfold fX5_takeNumber at hF
  refine xr_aload_n C 0 dX5_takeNumber_0 rfl rfl ?_
  refine xr_iconst (v := 3) C dX5_takeNumber_1 (by decide) ?_
  refine xr_puti C fpX5_39 rfl rfl rfl dX5_takeNumber_2 ta0 (fun h2 e2 => ?_)
  have hF := fx_letE hF h2 e2
  exact bX5_takeNumber_5 C  fx_N a0 ta0 h2 hF
theorem dX5_advance_0 : decode cX5_advance 0 = .ok (.aload_n 0, 1) := by decide +kernel
theorem dX5_advance_1 : decode cX5_advance 1 = .ok (.getfield 25, 3) := by decide +kernel
theorem dX5_advance_4 : decode cX5_advance 4 = .ok (.aload_n 0, 1) := by decide +kernel
theorem dX5_advance_5 : decode cX5_advance 5 = .ok (.getfield 22, 3) := by decide +kernel
theorem dX5_advance_8 : decode cX5_advance 8 = .ok (.if_icmp .ge 44, 3) := by decide +kernel
theorem dX5_advance_11 : decode cX5_advance 11 = .ok (.aload_n 0, 1) := by decide +kernel
theorem dX5_advance_12 : decode cX5_advance 12 = .ok (.getfield 9, 3) := by decide +kernel
theorem dX5_advance_15 : decode cX5_advance 15 = .ok (.aload_n 0, 1) := by decide +kernel
theorem dX5_advance_16 : decode cX5_advance 16 = .ok (.getfield 25, 3) := by decide +kernel
theorem dX5_advance_19 : decode cX5_advance 19 = .ok (.iaload, 1) := by decide +kernel
theorem dX5_advance_20 : decode cX5_advance 20 = .ok (.bipush 10, 2) := by decide +kernel
theorem dX5_advance_22 : decode cX5_advance 22 = .ok (.if_icmp .eq 17, 3) := by decide +kernel
theorem dX5_advance_25 : decode cX5_advance 25 = .ok (.aload_n 0, 1) := by decide +kernel
theorem dX5_advance_26 : decode cX5_advance 26 = .ok (.getfield 9, 3) := by decide +kernel
theorem dX5_advance_29 : decode cX5_advance 29 = .ok (.aload_n 0, 1) := by decide +kernel
theorem dX5_advance_30 : decode cX5_advance 30 = .ok (.getfield 25, 3) := by decide +kernel
theorem dX5_advance_33 : decode cX5_advance 33 = .ok (.iaload, 1) := by decide +kernel
theorem dX5_advance_34 : decode cX5_advance 34 = .ok (.bipush 32, 2) := by decide +kernel
theorem dX5_advance_36 : decode cX5_advance 36 = .ok (.if_icmp .ne 16, 3) := by decide +kernel
theorem dX5_advance_39 : decode cX5_advance 39 = .ok (.aload_n 0, 1) := by decide +kernel
theorem dX5_advance_40 : decode cX5_advance 40 = .ok (.dup, 1) := by decide +kernel
theorem dX5_advance_41 : decode cX5_advance 41 = .ok (.getfield 25, 3) := by decide +kernel
theorem dX5_advance_44 : decode cX5_advance 44 = .ok (.iconst 1, 1) := by decide +kernel
theorem dX5_advance_45 : decode cX5_advance 45 = .ok (.iadd, 1) := by decide +kernel
theorem dX5_advance_46 : decode cX5_advance 46 = .ok (.putfield 25, 3) := by decide +kernel
theorem dX5_advance_49 : decode cX5_advance 49 = .ok (.goto (-49), 3) := by decide +kernel
theorem dX5_advance_52 : decode cX5_advance 52 = .ok (.aload_n 0, 1) := by decide +kernel
theorem dX5_advance_53 : decode cX5_advance 53 = .ok (.aload_n 0, 1) := by decide +kernel
theorem dX5_advance_54 : decode cX5_advance 54 = .ok (.getfield 25, 3) := by decide +kernel
theorem dX5_advance_57 : decode cX5_advance 57 = .ok (.putfield 133, 3) := by decide +kernel
theorem dX5_advance_60 : decode cX5_advance 60 = .ok (.aload_n 0, 1) := by decide +kernel
theorem dX5_advance_61 : decode cX5_advance 61 = .ok (.iconst 0, 1) := by decide +kernel
theorem dX5_advance_62 : decode cX5_advance 62 = .ok (.putfield 68, 3) := by decide +kernel
theorem dX5_advance_65 : decode cX5_advance 65 = .ok (.aload_n 0, 1) := by decide +kernel
theorem dX5_advance_66 : decode cX5_advance 66 = .ok (.getfield 25, 3) := by decide +kernel
theorem dX5_advance_69 : decode cX5_advance 69 = .ok (.aload_n 0, 1) := by decide +kernel
theorem dX5_advance_70 : decode cX5_advance 70 = .ok (.getfield 22, 3) := by decide +kernel
theorem dX5_advance_73 : decode cX5_advance 73 = .ok (.if_icmp .lt 11, 3) := by decide +kernel
theorem dX5_advance_76 : decode cX5_advance 76 = .ok (.aload_n 0, 1) := by decide +kernel
theorem dX5_advance_77 : decode cX5_advance 77 = .ok (.iconst 0, 1) := by decide +kernel
theorem dX5_advance_78 : decode cX5_advance 78 = .ok (.putfield 39, 3) := by decide +kernel
theorem dX5_advance_81 : decode cX5_advance 81 = .ok (.goto 80, 3) := by decide +kernel
theorem dX5_advance_84 : decode cX5_advance 84 = .ok (.aload_n 0, 1) := by decide +kernel
theorem dX5_advance_85 : decode cX5_advance 85 = .ok (.getfield 9, 3) := by decide +kernel
theorem dX5_advance_88 : decode cX5_advance 88 = .ok (.aload_n 0, 1) := by decide +kernel
theorem dX5_advance_89 : decode cX5_advance 89 = .ok (.getfield 25, 3) := by decide +kernel
theorem dX5_advance_92 : decode cX5_advance 92 = .ok (.iaload, 1) := by decide +kernel
theorem dX5_advance_93 : decode cX5_advance 93 = .ok (.invokestatic 135, 3) := by decide +kernel
theorem dX5_advance_96 : decode cX5_advance 96 = .ok (.ifCond .eq 10, 3) := by decide +kernel
theorem dX5_advance_99 : decode cX5_advance 99 = .ok (.aload_n 0, 1) := by decide +kernel
theorem dX5_advance_100 : decode cX5_advance 100 = .ok (.invokevirtual 138, 3) := by decide +kernel
theorem dX5_advance_103 : decode cX5_advance 103 = .ok (.goto 58, 3) := by decide +kernel
theorem dX5_advance_106 : decode cX5_advance 106 = .ok (.aload_n 0, 1) := by decide +kernel
theorem dX5_advance_107 : decode cX5_advance 107 = .ok (.getfield 9, 3) := by decide +kernel
theorem dX5_advance_110 : decode cX5_advance 110 = .ok (.aload_n 0, 1) := by decide +kernel
theorem dX5_advance_111 : decode cX5_advance 111 = .ok (.getfield 25, 3) := by decide +kernel
theorem dX5_advance_114 : decode cX5_advance 114 = .ok (.iaload, 1) := by decide +kernel
theorem dX5_advance_115 : decode cX5_advance 115 = .ok (.invokestatic 141, 3) := by decide +kernel
theorem dX5_advance_118 : decode cX5_advance 118 = .ok (.ifCond .eq 10, 3) := by decide +kernel
theorem dX5_advance_121 : decode cX5_advance 121 = .ok (.aload_n 0, 1) := by decide +kernel
theorem dX5_advance_122 : decode cX5_advance 122 = .ok (.invokevirtual 144, 3) := by decide +kernel
theorem dX5_advance_125 : decode cX5_advance 125 = .ok (.goto 36, 3) := by decide +kernel
theorem dX5_advance_128 : decode cX5_advance 128 = .ok (.aload_n 0, 1) := by decide +kernel
theorem dX5_advance_129 : decode cX5_advance 129 = .ok (.aload_n 0, 1) := by decide +kernel
theorem dX5_advance_130 : decode cX5_advance 130 = .ok (.getfield 9, 3) := by decide +kernel
theorem dX5_advance_133 : decode cX5_advance 133 = .ok (.aload_n 0, 1) := by decide +kernel
theorem dX5_advance_134 : decode cX5_advance 134 = .ok (.getfield 25, 3) := by decide +kernel
theorem dX5_advance_137 : decode cX5_advance 137 = .ok (.iaload, 1) := by decide +kernel
theorem dX5_advance_138 : decode cX5_advance 138 = .ok (.bipush 59, 2) := by decide +kernel
theorem dX5_advance_140 : decode cX5_advance 140 = .ok (.if_icmp .ne 7, 3) := by decide +kernel
theorem dX5_advance_143 : decode cX5_advance 143 = .ok (.iconst 4, 1) := by decide +kernel
theorem dX5_advance_144 : decode cX5_advance 144 = .ok (.goto 4, 3) := by decide +kernel
theorem dX5_advance_147 : decode cX5_advance 147 = .ok (.iconst 5, 1) := by decide +kernel
theorem dX5_advance_148 : decode cX5_advance 148 = .ok (.putfield 39, 3) := by decide +kernel
theorem dX5_advance_151 : decode cX5_advance 151 = .ok (.aload_n 0, 1) := by decide +kernel
theorem dX5_advance_152 : decode cX5_advance 152 = .ok (.dup, 1) := by decide +kernel
theorem dX5_advance_153 : decode cX5_advance 153 = .ok (.getfield 25, 3) := by decide +kernel
theorem dX5_advance_156 : decode cX5_advance 156 = .ok (.iconst 1, 1) := by decide +kernel
theorem dX5_advance_157 : decode cX5_advance 157 = .ok (.iadd, 1) := by decide +kernel
theorem dX5_advance_158 : decode cX5_advance 158 = .ok (.putfield 25, 3) := by decide +kernel
theorem dX5_advance_161 : decode cX5_advance 161 = .ok (.return_, 1) := by decide +kernel
def fX5_advance_148  (a0 : Nat) (s0 : Nat) (s1 : Int32) (h : hp_T) : Option hp_T := fx_let (hp_sI h s0 7 s1) fun (h148 : hp_T) => fx_let (hp_sI h148 a0 5 ((h148.1 a0 5) + (1 : Int32))) fun (h158 : hp_T) => some h158
set_option maxRecDepth 100000 in
set_option maxHeartbeats 4000000 in
theorem bX5_advance_148 {l : Launch} {G : xr_G} {K : xr_K} {h1 : hp_T} (C : xr_C G K cX5_advance RX5 1 (xr_R 2 80) none (some (xr_Qv G h1)))  (a0 : Nat) (s0 : Nat) (s1 : Int32) (ta0 : hp_sh a0 = (5, 0)) (ts0 : hp_sh s0 = (5, 0)) (h : hp_T) (hF : fX5_advance_148 a0 s0 s1 h = some h1) : xr_j l G K 1 h [(0, .ref (G.2.2.1 a0))] 148 [.int s1, .ref (G.2.2.1 s0)] := by
  unfold fX5_advance_148 at hF
  refine xr_puti C fpX5_39 rfl rfl rfl dX5_advance_148 ts0 (fun h148 e148 => ?_)
  have hF := fx_letE hF h148 e148
  refine xr_aload_n C 0 dX5_advance_151 rfl rfl ?_
  refine xr_dup C dX5_advance_152 rfl ?_
  refine xr_geti C flX5_25 rfl dX5_advance_153 ta0 ?_
  refine xr_iconst (v := 1) C dX5_advance_156 (by decide) ?_
  refine xr_iadd C dX5_advance_157 ?_
  refine xr_puti C fpX5_25 rfl rfl rfl dX5_advance_158 ta0 (fun h158 e158 => ?_)
  have hF := fx_letE hF h158 e158
  cases hF
  exact xr_vret C dX5_advance_161
def fX5_advance_52  (a0 : Nat) (h : hp_T) : Option hp_T := fx_let (hp_sI h a0 6 (h.1 a0 5)) fun (h57 : hp_T) => fx_let (hp_sI h57 a0 8 (0 : Int32)) fun (h62 : hp_T) => if (h62.1 a0 5) < (h62.1 a0 4) then (fx_g (fx_in (h62.1 a0 5) 900) (fx_b2 (fX5_isLetter (h62.1 (h62.2.2 a0 0) (fx_ix (h62.1 a0 5))) h62) fun (r93 : Int32) (h93 : hp_T) => if r93 = 0 then (fx_g (fx_in (h93.1 a0 5) 900) (fx_b2 (fX5_isDigit (h93.1 (h93.2.2 a0 0) (fx_ix (h93.1 a0 5))) h93) fun (r115 : Int32) (h115 : hp_T) => if r115 = 0 then (fx_g (fx_in (h115.1 a0 5) 900) (if (h115.1 (h115.2.2 a0 0) (fx_ix (h115.1 a0 5))) = (59 : Int32) then (fX5_advance_148 a0 a0 (4 : Int32) h115) else (fX5_advance_148 a0 a0 (5 : Int32) h115))) else (fx_b1 (fX5_takeNumber a0 h115) fun (h122 : hp_T) => some h122))) else (fx_b1 (fX5_takeWord a0 h93) fun (h100 : hp_T) => some h100))) else (fx_let (hp_sI h62 a0 7 (0 : Int32)) fun (h78 : hp_T) => some h78)
set_option maxRecDepth 100000 in
set_option maxHeartbeats 4000000 in
theorem bX5_advance_52 {l : Launch} {G : xr_G} {K : xr_K} {h1 : hp_T} (C : xr_C G K cX5_advance RX5 1 (xr_R 2 80) none (some (xr_Qv G h1)))  (a0 : Nat) (ta0 : hp_sh a0 = (5, 0)) (h : hp_T) (hF : fX5_advance_52 a0 h = some h1) : xr_j l G K 1 h [(0, .ref (G.2.2.1 a0))] 52 [] := by
  unfold fX5_advance_52 at hF
  refine xr_aload_n C 0 dX5_advance_52 rfl rfl ?_
  refine xr_aload_n C 0 dX5_advance_53 rfl rfl ?_
  refine xr_geti C flX5_25 rfl dX5_advance_54 ta0 ?_
  refine xr_puti C fpX5_133 rfl rfl rfl dX5_advance_57 ta0 (fun h57 e57 => ?_)
  have hF := fx_letE hF h57 e57
  refine xr_aload_n C 0 dX5_advance_60 rfl rfl ?_
  refine xr_iconst (v := 0) C dX5_advance_61 (by decide) ?_
  refine xr_puti C fpX5_68 rfl rfl rfl dX5_advance_62 ta0 (fun h62 e62 => ?_)
  have hF := fx_letE hF h62 e62
  refine xr_aload_n C 0 dX5_advance_65 rfl rfl ?_
  refine xr_geti C flX5_25 rfl dX5_advance_66 ta0 ?_
  refine xr_aload_n C 0 dX5_advance_69 rfl rfl ?_
  refine xr_geti C flX5_22 rfl dX5_advance_70 ta0 ?_
  refine xr_icmp_lt C 84 dX5_advance_73 (by decide) (fun c73 => ?_) (fun c73 => ?_)
  · have hF := fx_pos hF c73
    refine xr_aload_n C 0 dX5_advance_84 rfl rfl ?_
    refine xr_getr C flX5_9 rfl (by decide) dX5_advance_85 ta0 (fun t85 => ?_)
    refine xr_aload_n C 0 dX5_advance_88 rfl rfl ?_
    refine xr_geti C flX5_25 rfl dX5_advance_89 ta0 ?_
    obtain ⟨g92, hF⟩ := fx_gE hF
    refine xr_iald C dX5_advance_92 t85 g92 ?_
    obtain ⟨r93, h93, e93, hF⟩ := fx_b2E hF
    refine xr_callSi C mvX5_135 [.int (h62.1 (h62.2.2 a0 0) (fx_ix (h62.1 a0 5)))] [] (mX5_isLetter l G (h62.1 (h62.2.2 a0 0) (fx_ix (h62.1 a0 5)))  h62 h93 r93 e93) rfl ⟨rfl, rfl, (Nat.le_of_ble_eq_true rfl), (Nat.le_of_ble_eq_true rfl)⟩ rfl (Nat.le_of_ble_eq_true rfl) dX5_advance_93 ?_
    refine xr_if_eq C 106 dX5_advance_96 (by decide) (fun c96 => ?_) (fun c96 => ?_)
    · have hF := fx_pos hF c96
      refine xr_aload_n C 0 dX5_advance_106 rfl rfl ?_
      refine xr_getr C flX5_9 rfl (by decide) dX5_advance_107 ta0 (fun t107 => ?_)
      refine xr_aload_n C 0 dX5_advance_110 rfl rfl ?_
      refine xr_geti C flX5_25 rfl dX5_advance_111 ta0 ?_
      obtain ⟨g114, hF⟩ := fx_gE hF
      refine xr_iald C dX5_advance_114 t107 g114 ?_
      obtain ⟨r115, h115, e115, hF⟩ := fx_b2E hF
      refine xr_callSi C mvX5_141 [.int (h93.1 (h93.2.2 a0 0) (fx_ix (h93.1 a0 5)))] [] (mX5_isDigit l G (h93.1 (h93.2.2 a0 0) (fx_ix (h93.1 a0 5)))  h93 h115 r115 e115) rfl ⟨rfl, rfl, (Nat.le_of_ble_eq_true rfl), (Nat.le_of_ble_eq_true rfl)⟩ rfl (Nat.le_of_ble_eq_true rfl) dX5_advance_115 ?_
      refine xr_if_eq C 128 dX5_advance_118 (by decide) (fun c118 => ?_) (fun c118 => ?_)
      · have hF := fx_pos hF c118
        refine xr_aload_n C 0 dX5_advance_128 rfl rfl ?_
        refine xr_aload_n C 0 dX5_advance_129 rfl rfl ?_
        refine xr_getr C flX5_9 rfl (by decide) dX5_advance_130 ta0 (fun t130 => ?_)
        refine xr_aload_n C 0 dX5_advance_133 rfl rfl ?_
        refine xr_geti C flX5_25 rfl dX5_advance_134 ta0 ?_
        obtain ⟨g137, hF⟩ := fx_gE hF
        refine xr_iald C dX5_advance_137 t130 g137 ?_
        refine xr_bipush (v := 59) C dX5_advance_138 (by decide) ?_
        refine xr_icmp_ne C 147 dX5_advance_140 (by decide) (fun c140 => ?_) (fun c140 => ?_)
        · have hF := fx_neg hF c140
          refine xr_iconst (v := 5) C dX5_advance_147 (by decide) ?_
          exact bX5_advance_148 C   a0 a0 (5 : Int32) ta0 ta0 h115 hF
        · have hF := fx_pos hF c140
          refine xr_iconst (v := 4) C dX5_advance_143 (by decide) ?_
          refine xr_goto C 148 dX5_advance_144 (by decide) ?_
          exact bX5_advance_148 C   a0 a0 (4 : Int32) ta0 ta0 h115 hF
      · have hF := fx_neg hF c118
        refine xr_aload_n C 0 dX5_advance_121 rfl rfl ?_
        obtain ⟨h122, e122, hF⟩ := fx_b1E hF
        refine xr_callVv C mvX5_144 [] [] (mX5_takeNumber l G a0 ta0 h115 h122 e122) ta0 (by decide) vc5 rfl ⟨rfl, rfl, (Nat.le_of_ble_eq_true rfl), (Nat.le_of_ble_eq_true rfl)⟩ rfl (Nat.le_of_ble_eq_true rfl) dX5_advance_122 ?_
        refine xr_goto C 161 dX5_advance_125 (by decide) ?_
        cases hF
        exact xr_vret C dX5_advance_161
    · have hF := fx_neg hF c96
      refine xr_aload_n C 0 dX5_advance_99 rfl rfl ?_
      obtain ⟨h100, e100, hF⟩ := fx_b1E hF
      refine xr_callVv C mvX5_138 [] [] (mX5_takeWord l G a0 ta0 h93 h100 e100) ta0 (by decide) vc5 rfl ⟨rfl, rfl, (Nat.le_of_ble_eq_true rfl), (Nat.le_of_ble_eq_true rfl)⟩ rfl (Nat.le_of_ble_eq_true rfl) dX5_advance_100 ?_
      refine xr_goto C 161 dX5_advance_103 (by decide) ?_
      cases hF
      exact xr_vret C dX5_advance_161
  · have hF := fx_neg hF c73
    refine xr_aload_n C 0 dX5_advance_76 rfl rfl ?_
    refine xr_iconst (v := 0) C dX5_advance_77 (by decide) ?_
    refine xr_puti C fpX5_39 rfl rfl rfl dX5_advance_78 ta0 (fun h78 e78 => ?_)
    have hF := fx_letE hF h78 e78
    refine xr_goto C 161 dX5_advance_81 (by decide) ?_
    cases hF
    exact xr_vret C dX5_advance_161
def fX5_advance_39 (k0 : Nat → hp_T → Option hp_T) (a0 : Nat) (h : hp_T) : Option hp_T := fx_let (hp_sI h a0 5 ((h.1 a0 5) + (1 : Int32))) fun (h46 : hp_T) => k0 a0 h46
set_option maxRecDepth 100000 in
set_option maxHeartbeats 4000000 in
theorem bX5_advance_39 {l : Launch} {G : xr_G} {K : xr_K} {h1 : hp_T} (C : xr_C G K cX5_advance RX5 1 (xr_R 2 80) none (some (xr_Qv G h1))) (k0 : Nat → hp_T → Option hp_T) (j0 : ∀ (a0 : Nat) (ta0 : hp_sh a0 = (5, 0)) (h : hp_T), k0 a0 h = some h1 → xr_j l G K 1 h [(0, .ref (G.2.2.1 a0))] 0 []) (a0 : Nat) (ta0 : hp_sh a0 = (5, 0)) (h : hp_T) (hF : fX5_advance_39 k0 a0 h = some h1) : xr_j l G K 1 h [(0, .ref (G.2.2.1 a0))] 39 [] := by
  unfold fX5_advance_39 at hF
  refine xr_aload_n C 0 dX5_advance_39 rfl rfl ?_
  refine xr_dup C dX5_advance_40 rfl ?_
  refine xr_geti C flX5_25 rfl dX5_advance_41 ta0 ?_
  refine xr_iconst (v := 1) C dX5_advance_44 (by decide) ?_
  refine xr_iadd C dX5_advance_45 ?_
  refine xr_puti C fpX5_25 rfl rfl rfl dX5_advance_46 ta0 (fun h46 e46 => ?_)
  have hF := fx_letE hF h46 e46
  refine xr_goto C 0 dX5_advance_49 (by decide) ?_
  exact j0 a0 ta0 h46 hF
def fX5_advance_0  : Nat → Nat → hp_T → Option hp_T
  | 0, _, _ => none
  | n + 1, a0, h => if (h.1 a0 4) ≤ (h.1 a0 5) then (fX5_advance_52 a0 h) else (fx_g (fx_in (h.1 a0 5) 900) (if (h.1 (h.2.2 a0 0) (fx_ix (h.1 a0 5))) = (10 : Int32) then (fX5_advance_39 (fX5_advance_0 n) a0 h) else (fx_g (fx_in (h.1 a0 5) 900) (if (h.1 (h.2.2 a0 0) (fx_ix (h.1 a0 5))) = (32 : Int32) then (fX5_advance_39 (fX5_advance_0 n) a0 h) else (fX5_advance_52 a0 h)))))
set_option maxRecDepth 100000 in
set_option maxHeartbeats 4000000 in
theorem bX5_advance_0 {l : Launch} {G : xr_G} {K : xr_K} {h1 : hp_T} (C : xr_C G K cX5_advance RX5 1 (xr_R 2 80) none (some (xr_Qv G h1)))  : ∀ (n : Nat) (a0 : Nat) (ta0 : hp_sh a0 = (5, 0)) (h : hp_T), fX5_advance_0 n a0 h = some h1 → xr_j l G K 1 h [(0, .ref (G.2.2.1 a0))] 0 [] := by
  intro n
  induction n with
  | zero =>
    intro a0 ta0 h hF
    cases hF
  | succ n ih =>
    intro a0 ta0 h hF
    rw [fX5_advance_0] at hF
    refine xr_aload_n C 0 dX5_advance_0 rfl rfl ?_
    refine xr_geti C flX5_25 rfl dX5_advance_1 ta0 ?_
    refine xr_aload_n C 0 dX5_advance_4 rfl rfl ?_
    refine xr_geti C flX5_22 rfl dX5_advance_5 ta0 ?_
    refine xr_icmp_ge C 52 dX5_advance_8 (by decide) (fun c8 => ?_) (fun c8 => ?_)
    · have hF := fx_pos hF c8
      exact bX5_advance_52 C   a0 ta0 h hF
    · have hF := fx_neg hF c8
      refine xr_aload_n C 0 dX5_advance_11 rfl rfl ?_
      refine xr_getr C flX5_9 rfl (by decide) dX5_advance_12 ta0 (fun t12 => ?_)
      refine xr_aload_n C 0 dX5_advance_15 rfl rfl ?_
      refine xr_geti C flX5_25 rfl dX5_advance_16 ta0 ?_
      obtain ⟨g19, hF⟩ := fx_gE hF
      refine xr_iald C dX5_advance_19 t12 g19 ?_
      refine xr_bipush (v := 10) C dX5_advance_20 (by decide) ?_
      refine xr_icmp_eq C 39 dX5_advance_22 (by decide) (fun c22 => ?_) (fun c22 => ?_)
      · have hF := fx_pos hF c22
        exact bX5_advance_39 C (fX5_advance_0 n) (fun a0 ta0 h hF => ih a0 ta0 h hF)  a0 ta0 h hF
      · have hF := fx_neg hF c22
        refine xr_aload_n C 0 dX5_advance_25 rfl rfl ?_
        refine xr_getr C flX5_9 rfl (by decide) dX5_advance_26 ta0 (fun t26 => ?_)
        refine xr_aload_n C 0 dX5_advance_29 rfl rfl ?_
        refine xr_geti C flX5_25 rfl dX5_advance_30 ta0 ?_
        obtain ⟨g33, hF⟩ := fx_gE hF
        refine xr_iald C dX5_advance_33 t26 g33 ?_
        refine xr_bipush (v := 32) C dX5_advance_34 (by decide) ?_
        refine xr_icmp_ne C 52 dX5_advance_36 (by decide) (fun c36 => ?_) (fun c36 => ?_)
        · have hF := fx_neg hF c36
          exact bX5_advance_52 C   a0 ta0 h hF
        · have hF := fx_pos hF c36
          exact bX5_advance_39 C (fX5_advance_0 n) (fun a0 ta0 h hF => ih a0 ta0 h hF)  a0 ta0 h hF
def fX5_advance (a0 : Nat) (h : hp_T) : Option hp_T := fX5_advance_0 fx_N a0 h
set_option maxRecDepth 100000 in
set_option maxHeartbeats 4000000 in
theorem mX5_advance (l : Launch) (G : xr_G) (a0 : Nat) (ta0 : hp_sh a0 = (5, 0)) (h h1 : hp_T) (hF : fX5_advance a0 h = some h1) : xr_M l G yX5_advance cX5_advance 1 (xr_R 2 80) none [.ref (G.2.2.1 a0)] h (xr_Qv G h1) := by
  refine xr_start rfl (Nat.le_of_ble_eq_true rfl) (fun K C => ?_)
  show xr_j l G K 1 h [(0, .ref (G.2.2.1 a0))] 0 []
  unfold fX5_advance at hF
  exact bX5_advance_0 C  fx_N a0 ta0 h hF
theorem dX5_fail_0 : decode cX5_fail 0 = .ok (.aload_n 0, 1) := by decide +kernel
theorem dX5_fail_1 : decode cX5_fail 1 = .ok (.getfield 28, 3) := by decide +kernel
theorem dX5_fail_4 : decode cX5_fail 4 = .ok (.ifCond .ne 16, 3) := by decide +kernel
theorem dX5_fail_7 : decode cX5_fail 7 = .ok (.aload_n 0, 1) := by decide +kernel
theorem dX5_fail_8 : decode cX5_fail 8 = .ok (.iload_n 1, 1) := by decide +kernel
theorem dX5_fail_9 : decode cX5_fail 9 = .ok (.putfield 28, 3) := by decide +kernel
theorem dX5_fail_12 : decode cX5_fail 12 = .ok (.aload_n 0, 1) := by decide +kernel
theorem dX5_fail_13 : decode cX5_fail 13 = .ok (.aload_n 0, 1) := by decide +kernel
theorem dX5_fail_14 : decode cX5_fail 14 = .ok (.getfield 133, 3) := by decide +kernel
theorem dX5_fail_17 : decode cX5_fail 17 = .ok (.putfield 15, 3) := by decide +kernel
theorem dX5_fail_20 : decode cX5_fail 20 = .ok (.return_, 1) := by decide +kernel
def fX5_fail (a0 : Nat) (a1 : Int32) (h : hp_T) : Option hp_T := if (h.1 a0 2) = 0 then (fx_let (hp_sI h a0 2 a1) fun (h9 : hp_T) => fx_let (hp_sI h9 a0 3 (h9.1 a0 6)) fun (h17 : hp_T) => some h17) else (some h)
set_option maxRecDepth 100000 in
set_option maxHeartbeats 4000000 in
theorem mX5_fail (l : Launch) (G : xr_G) (a0 : Nat) (a1 : Int32) (ta0 : hp_sh a0 = (5, 0)) (h h1 : hp_T) (hF : fX5_fail a0 a1 h = some h1) : xr_M l G yX5_fail cX5_fail 2 (xr_R 0 0) none [.ref (G.2.2.1 a0), .int a1] h (xr_Qv G h1) := by
  refine xr_start rfl (Nat.le_of_ble_eq_true rfl) (fun K C => ?_)
  show xr_j l G K 2 h [(0, .ref (G.2.2.1 a0)), (1, .int a1)] 0 []
  unfold fX5_fail at hF
  refine xr_aload_n C 0 dX5_fail_0 rfl rfl ?_
  refine xr_geti C flX5_28 rfl dX5_fail_1 ta0 ?_
  refine xr_if_ne C 20 dX5_fail_4 (by decide) (fun c4 => ?_) (fun c4 => ?_)
  · have hF := fx_neg hF c4
    cases hF
    exact xr_vret C dX5_fail_20
  · have hF := fx_pos hF c4
    refine xr_aload_n C 0 dX5_fail_7 rfl rfl ?_
    refine xr_iload_n C 1 dX5_fail_8 rfl rfl ?_
    refine xr_puti C fpX5_28 rfl rfl rfl dX5_fail_9 ta0 (fun h9 e9 => ?_)
    have hF := fx_letE hF h9 e9
    refine xr_aload_n C 0 dX5_fail_12 rfl rfl ?_
    refine xr_aload_n C 0 dX5_fail_13 rfl rfl ?_
    refine xr_geti C flX5_133 rfl dX5_fail_14 ta0 ?_
    refine xr_puti C fpX5_15 rfl rfl rfl dX5_fail_17 ta0 (fun h17 e17 => ?_)
    have hF := fx_letE hF h17 e17
    cases hF
    exact xr_vret C dX5_fail_20
theorem dX5_numberHere_0 : decode cX5_numberHere 0 = .ok (.aload_n 0, 1) := by decide +kernel
theorem dX5_numberHere_1 : decode cX5_numberHere 1 = .ok (.getfield 39, 3) := by decide +kernel
theorem dX5_numberHere_4 : decode cX5_numberHere 4 = .ok (.iconst 3, 1) := by decide +kernel
theorem dX5_numberHere_5 : decode cX5_numberHere 5 = .ok (.if_icmp .eq 11, 3) := by decide +kernel
theorem dX5_numberHere_8 : decode cX5_numberHere 8 = .ok (.aload_n 0, 1) := by decide +kernel
theorem dX5_numberHere_9 : decode cX5_numberHere 9 = .ok (.iconst 1, 1) := by decide +kernel
theorem dX5_numberHere_10 : decode cX5_numberHere 10 = .ok (.invokevirtual 61, 3) := by decide +kernel
theorem dX5_numberHere_13 : decode cX5_numberHere 13 = .ok (.goto 24, 3) := by decide +kernel
theorem dX5_numberHere_16 : decode cX5_numberHere 16 = .ok (.aload_n 0, 1) := by decide +kernel
theorem dX5_numberHere_17 : decode cX5_numberHere 17 = .ok (.getfield 68, 3) := by decide +kernel
theorem dX5_numberHere_20 : decode cX5_numberHere 20 = .ok (.iload_n 1, 1) := by decide +kernel
theorem dX5_numberHere_21 : decode cX5_numberHere 21 = .ok (.if_icmp .lt 11, 3) := by decide +kernel
theorem dX5_numberHere_24 : decode cX5_numberHere 24 = .ok (.aload_n 0, 1) := by decide +kernel
theorem dX5_numberHere_25 : decode cX5_numberHere 25 = .ok (.getfield 68, 3) := by decide +kernel
theorem dX5_numberHere_28 : decode cX5_numberHere 28 = .ok (.iload_n 2, 1) := by decide +kernel
theorem dX5_numberHere_29 : decode cX5_numberHere 29 = .ok (.if_icmp .le 8, 3) := by decide +kernel
theorem dX5_numberHere_32 : decode cX5_numberHere 32 = .ok (.aload_n 0, 1) := by decide +kernel
theorem dX5_numberHere_33 : decode cX5_numberHere 33 = .ok (.iconst 2, 1) := by decide +kernel
theorem dX5_numberHere_34 : decode cX5_numberHere 34 = .ok (.invokevirtual 61, 3) := by decide +kernel
theorem dX5_numberHere_37 : decode cX5_numberHere 37 = .ok (.aload_n 0, 1) := by decide +kernel
theorem dX5_numberHere_38 : decode cX5_numberHere 38 = .ok (.getfield 68, 3) := by decide +kernel
theorem dX5_numberHere_41 : decode cX5_numberHere 41 = .ok (.ireturn, 1) := by decide +kernel
def fX5_numberHere_32  (a0 : Nat) (h : hp_T) : Option (Int32 × hp_T) := fx_b1 (fX5_fail a0 (2 : Int32) h) fun (h34 : hp_T) => some ((h34.1 a0 8), h34)
set_option maxRecDepth 100000 in
set_option maxHeartbeats 4000000 in
theorem bX5_numberHere_32 {l : Launch} {G : xr_G} {K : xr_K} {r : Int32} {h1 : hp_T} (C : xr_C G K cX5_numberHere RX5 3 (xr_R 1 21) (some .int) (some (xr_Qi G r h1)))  (a0 : Nat) (ta0 : hp_sh a0 = (5, 0)) (h : hp_T) (hF : fX5_numberHere_32 a0 h = some (r, h1)) : xr_j l G K 3 h [(0, .ref (G.2.2.1 a0))] 32 [] := by
  unfold fX5_numberHere_32 at hF
  refine xr_aload_n C 0 dX5_numberHere_32 rfl rfl ?_
  refine xr_iconst (v := 2) C dX5_numberHere_33 (by decide) ?_
  obtain ⟨h34, e34, hF⟩ := fx_b1E hF
  refine xr_callVv C mvX5_61 [.int (2 : Int32)] [] (mX5_fail l G a0 (2 : Int32) ta0 h h34 e34) ta0 (by decide) vc5 rfl ⟨rfl, rfl, (Nat.le_of_ble_eq_true rfl), (Nat.le_of_ble_eq_true rfl)⟩ rfl (Nat.le_of_ble_eq_true rfl) dX5_numberHere_34 ?_
  refine xr_aload_n C 0 dX5_numberHere_37 rfl rfl ?_
  refine xr_geti C flX5_68 rfl dX5_numberHere_38 ta0 ?_
  cases hF
  exact xr_iret C dX5_numberHere_41
def fX5_numberHere (a0 : Nat) (a1 : Int32) (a2 : Int32) (h : hp_T) : Option (Int32 × hp_T) := if (h.1 a0 7) = (3 : Int32) then (if (h.1 a0 8) < a1 then (fX5_numberHere_32 a0 h) else (if (h.1 a0 8) ≤ a2 then (some ((h.1 a0 8), h)) else (fX5_numberHere_32 a0 h))) else (fx_b1 (fX5_fail a0 (1 : Int32) h) fun (h10 : hp_T) => some ((h10.1 a0 8), h10))
set_option maxRecDepth 100000 in
set_option maxHeartbeats 4000000 in
theorem mX5_numberHere (l : Launch) (G : xr_G) (a0 : Nat) (a1 : Int32) (a2 : Int32) (ta0 : hp_sh a0 = (5, 0)) (h h1 : hp_T) (r : Int32) (hF : fX5_numberHere a0 a1 a2 h = some (r, h1)) : xr_M l G yX5_numberHere cX5_numberHere 3 (xr_R 1 21) (some .int) [.ref (G.2.2.1 a0), .int a1, .int a2] h (xr_Qi G r h1) := by
  refine xr_start rfl (Nat.le_of_ble_eq_true rfl) (fun K C => ?_)
  show xr_j l G K 3 h [(0, .ref (G.2.2.1 a0)), (1, .int a1), (2, .int a2)] 0 []
  unfold fX5_numberHere at hF
  refine xr_aload_n C 0 dX5_numberHere_0 rfl rfl ?_
  refine xr_geti C flX5_39 rfl dX5_numberHere_1 ta0 ?_
  refine xr_iconst (v := 3) C dX5_numberHere_4 (by decide) ?_
  refine xr_icmp_eq C 16 dX5_numberHere_5 (by decide) (fun c5 => ?_) (fun c5 => ?_)
  · have hF := fx_pos hF c5
    refine xr_aload_n C 0 dX5_numberHere_16 rfl rfl ?_
    refine xr_geti C flX5_68 rfl dX5_numberHere_17 ta0 ?_
    refine xr_iload_n C 1 dX5_numberHere_20 rfl rfl ?_
    refine xr_icmp_lt C 32 dX5_numberHere_21 (by decide) (fun c21 => ?_) (fun c21 => ?_)
    · have hF := fx_pos hF c21
      refine xr_sub [0] [(0, .ref (G.2.2.1 a0))] rfl ?_
      exact bX5_numberHere_32 C   a0 ta0 h hF
    · have hF := fx_neg hF c21
      refine xr_aload_n C 0 dX5_numberHere_24 rfl rfl ?_
      refine xr_geti C flX5_68 rfl dX5_numberHere_25 ta0 ?_
      refine xr_iload_n C 2 dX5_numberHere_28 rfl rfl ?_
      refine xr_icmp_le C 37 dX5_numberHere_29 (by decide) (fun c29 => ?_) (fun c29 => ?_)
      · have hF := fx_pos hF c29
        refine xr_aload_n C 0 dX5_numberHere_37 rfl rfl ?_
        refine xr_geti C flX5_68 rfl dX5_numberHere_38 ta0 ?_
        cases hF
        exact xr_iret C dX5_numberHere_41
      · have hF := fx_neg hF c29
        refine xr_sub [0] [(0, .ref (G.2.2.1 a0))] rfl ?_
        exact bX5_numberHere_32 C   a0 ta0 h hF
  · have hF := fx_neg hF c5
    refine xr_aload_n C 0 dX5_numberHere_8 rfl rfl ?_
    refine xr_iconst (v := 1) C dX5_numberHere_9 (by decide) ?_
    obtain ⟨h10, e10, hF⟩ := fx_b1E hF
    refine xr_callVv C mvX5_61 [.int (1 : Int32)] [] (mX5_fail l G a0 (1 : Int32) ta0 h h10 e10) ta0 (by decide) vc5 rfl ⟨rfl, rfl, (Nat.le_of_ble_eq_true rfl), (Nat.le_of_ble_eq_true rfl)⟩ rfl (Nat.le_of_ble_eq_true rfl) dX5_numberHere_10 ?_
    refine xr_goto C 37 dX5_numberHere_13 (by decide) ?_
    refine xr_aload_n C 0 dX5_numberHere_37 rfl rfl ?_
    refine xr_geti C flX5_68 rfl dX5_numberHere_38 ta0 ?_
    cases hF
    exact xr_iret C dX5_numberHere_41
theorem dX5_readSetting_0 : decode cX5_readSetting 0 = .ok (.iload_n 1, 1) := by decide +kernel
theorem dX5_readSetting_1 : decode cX5_readSetting 1 = .ok (.iconst (-1), 1) := by decide +kernel
theorem dX5_readSetting_2 : decode cX5_readSetting 2 = .ok (.if_icmp .eq 8, 3) := by decide +kernel
theorem dX5_readSetting_5 : decode cX5_readSetting 5 = .ok (.aload_n 0, 1) := by decide +kernel
theorem dX5_readSetting_6 : decode cX5_readSetting 6 = .ok (.iconst 3, 1) := by decide +kernel
theorem dX5_readSetting_7 : decode cX5_readSetting 7 = .ok (.invokevirtual 61, 3) := by decide +kernel
theorem dX5_readSetting_10 : decode cX5_readSetting 10 = .ok (.aload_n 0, 1) := by decide +kernel
theorem dX5_readSetting_11 : decode cX5_readSetting 11 = .ok (.invokevirtual 36, 3) := by decide +kernel
theorem dX5_readSetting_14 : decode cX5_readSetting 14 = .ok (.aload_n 0, 1) := by decide +kernel
theorem dX5_readSetting_15 : decode cX5_readSetting 15 = .ok (.iload_n 2, 1) := by decide +kernel
theorem dX5_readSetting_16 : decode cX5_readSetting 16 = .ok (.iload_n 3, 1) := by decide +kernel
theorem dX5_readSetting_17 : decode cX5_readSetting 17 = .ok (.invokevirtual 97, 3) := by decide +kernel
theorem dX5_readSetting_20 : decode cX5_readSetting 20 = .ok (.ireturn, 1) := by decide +kernel
def fX5_readSetting_10  (a0 : Nat) (a2 : Int32) (a3 : Int32) (h : hp_T) : Option (Int32 × hp_T) := fx_b1 (fX5_advance a0 h) fun (h11 : hp_T) => fx_b2 (fX5_numberHere a0 a2 a3 h11) fun (r17 : Int32) (h17 : hp_T) => some (r17, h17)
set_option maxRecDepth 100000 in
set_option maxHeartbeats 4000000 in
theorem bX5_readSetting_10 {l : Launch} {G : xr_G} {K : xr_K} {r : Int32} {h1 : hp_T} (C : xr_C G K cX5_readSetting RX5 4 (xr_R 3 100) (some .int) (some (xr_Qi G r h1)))  (a0 : Nat) (a2 : Int32) (a3 : Int32) (ta0 : hp_sh a0 = (5, 0)) (h : hp_T) (hF : fX5_readSetting_10 a0 a2 a3 h = some (r, h1)) : xr_j l G K 4 h [(0, .ref (G.2.2.1 a0)), (2, .int a2), (3, .int a3)] 10 [] := by
  unfold fX5_readSetting_10 at hF
  refine xr_aload_n C 0 dX5_readSetting_10 rfl rfl ?_
  obtain ⟨h11, e11, hF⟩ := fx_b1E hF
  refine xr_callVv C mvX5_36 [] [] (mX5_advance l G a0 ta0 h h11 e11) ta0 (by decide) vc5 rfl ⟨rfl, rfl, (Nat.le_of_ble_eq_true rfl), (Nat.le_of_ble_eq_true rfl)⟩ rfl (Nat.le_of_ble_eq_true rfl) dX5_readSetting_11 ?_
  refine xr_aload_n C 0 dX5_readSetting_14 rfl rfl ?_
  refine xr_iload_n C 1 dX5_readSetting_15 rfl rfl ?_
  refine xr_iload_n C 2 dX5_readSetting_16 rfl rfl ?_
  obtain ⟨r17, h17, e17, hF⟩ := fx_b2E hF
  refine xr_callVi C mvX5_97 [.int a2, .int a3] [] (mX5_numberHere l G a0 a2 a3 ta0 h11 h17 r17 e17) ta0 (by decide) vc5 rfl ⟨rfl, rfl, (Nat.le_of_ble_eq_true rfl), (Nat.le_of_ble_eq_true rfl)⟩ rfl (Nat.le_of_ble_eq_true rfl) dX5_readSetting_17 ?_
  cases hF
  exact xr_iret C dX5_readSetting_20
def fX5_readSetting (a0 : Nat) (a1 : Int32) (a2 : Int32) (a3 : Int32) (h : hp_T) : Option (Int32 × hp_T) := if a1 = (-1 : Int32) then (fX5_readSetting_10 a0 a2 a3 h) else (fx_b1 (fX5_fail a0 (3 : Int32) h) fun (h7 : hp_T) => fX5_readSetting_10 a0 a2 a3 h7)
set_option maxRecDepth 100000 in
set_option maxHeartbeats 4000000 in
theorem mX5_readSetting (l : Launch) (G : xr_G) (a0 : Nat) (a1 : Int32) (a2 : Int32) (a3 : Int32) (ta0 : hp_sh a0 = (5, 0)) (h h1 : hp_T) (r : Int32) (hF : fX5_readSetting a0 a1 a2 a3 h = some (r, h1)) : xr_M l G yX5_readSetting cX5_readSetting 4 (xr_R 3 100) (some .int) [.ref (G.2.2.1 a0), .int a1, .int a2, .int a3] h (xr_Qi G r h1) := by
  refine xr_start rfl (Nat.le_of_ble_eq_true rfl) (fun K C => ?_)
  show xr_j l G K 4 h [(0, .ref (G.2.2.1 a0)), (1, .int a1), (2, .int a2), (3, .int a3)] 0 []
  unfold fX5_readSetting at hF
  refine xr_iload_n C 1 dX5_readSetting_0 rfl rfl ?_
  refine xr_iconst (v := -1) C dX5_readSetting_1 (by decide) ?_
  refine xr_icmp_eq C 10 dX5_readSetting_2 (by decide) (fun c2 => ?_) (fun c2 => ?_)
  · have hF := fx_pos hF c2
    refine xr_sub [0, 2, 3] [(0, .ref (G.2.2.1 a0)), (2, .int a2), (3, .int a3)] rfl ?_
    exact bX5_readSetting_10 C   a0 a2 a3 ta0 h hF
  · have hF := fx_neg hF c2
    refine xr_aload_n C 0 dX5_readSetting_5 rfl rfl ?_
    refine xr_iconst (v := 3) C dX5_readSetting_6 (by decide) ?_
    obtain ⟨h7, e7, hF⟩ := fx_b1E hF
    refine xr_callVv C mvX5_61 [.int (3 : Int32)] [] (mX5_fail l G a0 (3 : Int32) ta0 h h7 e7) ta0 (by decide) vc5 rfl ⟨rfl, rfl, (Nat.le_of_ble_eq_true rfl), (Nat.le_of_ble_eq_true rfl)⟩ rfl (Nat.le_of_ble_eq_true rfl) dX5_readSetting_7 ?_
    refine xr_sub [0, 2, 3] [(0, .ref (G.2.2.1 a0)), (2, .int a2), (3, .int a3)] rfl ?_
    exact bX5_readSetting_10 C   a0 a2 a3 ta0 h7 hF
theorem dX7_find_0 : decode cX7_find 0 = .ok (.iconst 0, 1) := by decide +kernel
theorem dX7_find_1 : decode cX7_find 1 = .ok (.istore_n 2, 1) := by decide +kernel
theorem dX7_find_2 : decode cX7_find 2 = .ok (.iload_n 2, 1) := by decide +kernel
theorem dX7_find_3 : decode cX7_find 3 = .ok (.aload_n 0, 1) := by decide +kernel
theorem dX7_find_4 : decode cX7_find 4 = .ok (.getfield 31, 3) := by decide +kernel
theorem dX7_find_7 : decode cX7_find 7 = .ok (.if_icmp .ge 21, 3) := by decide +kernel
theorem dX7_find_10 : decode cX7_find 10 = .ok (.aload_n 0, 1) := by decide +kernel
theorem dX7_find_11 : decode cX7_find 11 = .ok (.getfield 9, 3) := by decide +kernel
theorem dX7_find_14 : decode cX7_find 14 = .ok (.iload_n 2, 1) := by decide +kernel
theorem dX7_find_15 : decode cX7_find 15 = .ok (.iaload, 1) := by decide +kernel
theorem dX7_find_16 : decode cX7_find 16 = .ok (.iload_n 1, 1) := by decide +kernel
theorem dX7_find_17 : decode cX7_find 17 = .ok (.if_icmp .ne 5, 3) := by decide +kernel
theorem dX7_find_20 : decode cX7_find 20 = .ok (.iload_n 2, 1) := by decide +kernel
theorem dX7_find_21 : decode cX7_find 21 = .ok (.ireturn, 1) := by decide +kernel
theorem dX7_find_22 : decode cX7_find 22 = .ok (.iinc 2 1, 3) := by decide +kernel
theorem dX7_find_25 : decode cX7_find 25 = .ok (.goto (-23), 3) := by decide +kernel
theorem dX7_find_28 : decode cX7_find 28 = .ok (.iconst (-1), 1) := by decide +kernel
theorem dX7_find_29 : decode cX7_find 29 = .ok (.ireturn, 1) := by decide +kernel
def fX7_find_2  : Nat → Nat → Int32 → Int32 → hp_T → Option (Int32 × hp_T)
  | 0, _, _, _, _ => none
  | n + 1, a0, a1, a2, h => if (h.1 a0 5) ≤ a2 then (some ((-1 : Int32), h)) else (fx_g (fx_in a2 12) (if (h.1 (h.2.2 a0 0) (fx_ix a2)) = a1 then (some (a2, h)) else (fx_let (a2 + (1 : Int32)) fun (x22 : Int32) => fX7_find_2 n a0 a1 x22 h)))
set_option maxRecDepth 100000 in
set_option maxHeartbeats 4000000 in
theorem bX7_find_2 {l : Launch} {G : xr_G} {K : xr_K} {r : Int32} {h1 : hp_T} (C : xr_C G K cX7_find RX7 3 (xr_R 0 0) (some .int) (some (xr_Qi G r h1)))  : ∀ (n : Nat) (a0 : Nat) (a1 : Int32) (a2 : Int32) (ta0 : hp_sh a0 = (7, 0)) (h : hp_T), fX7_find_2 n a0 a1 a2 h = some (r, h1) → xr_j l G K 3 h [(0, .ref (G.2.2.1 a0)), (1, .int a1), (2, .int a2)] 2 [] := by
  intro n
  induction n with
  | zero =>
    intro a0 a1 a2 ta0 h hF
    cases hF
  | succ n ih =>
    intro a0 a1 a2 ta0 h hF
    rw [fX7_find_2] at hF
    refine xr_iload_n C 2 dX7_find_2 rfl rfl ?_
    refine xr_aload_n C 0 dX7_find_3 rfl rfl ?_
    refine xr_geti C flX7_31 rfl dX7_find_4 ta0 ?_
    refine xr_icmp_ge C 28 dX7_find_7 (by decide) (fun c7 => ?_) (fun c7 => ?_)
    · have hF := fx_pos hF c7
      refine xr_iconst (v := -1) C dX7_find_28 (by decide) ?_
      cases hF
      exact xr_iret C dX7_find_29
    · have hF := fx_neg hF c7
      refine xr_aload_n C 0 dX7_find_10 rfl rfl ?_
      refine xr_getr C flX7_9 rfl (by decide) dX7_find_11 ta0 (fun t11 => ?_)
      refine xr_iload_n C 2 dX7_find_14 rfl rfl ?_
      obtain ⟨g15, hF⟩ := fx_gE hF
      refine xr_iald C dX7_find_15 t11 g15 ?_
      refine xr_iload_n C 1 dX7_find_16 rfl rfl ?_
      refine xr_icmp_ne C 22 dX7_find_17 (by decide) (fun c17 => ?_) (fun c17 => ?_)
      · have hF := fx_neg hF c17
        obtain ⟨x22, e22⟩ : ∃ y : Int32, y = (a2 + (1 : Int32)) := ⟨_, rfl⟩
        have hF := fx_letE hF x22 e22
        refine xr_iinc C x22 2 [(2, .int x22), (0, .ref (G.2.2.1 a0)), (1, .int a1)] dX7_find_22 rfl (by rw [e22]; rfl) (Nat.le_of_ble_eq_true rfl) rfl ?_
        refine xr_goto C 2 dX7_find_25 (by decide) ?_
        refine xr_sub [1, 2, 0] [(0, .ref (G.2.2.1 a0)), (1, .int a1), (2, .int x22)] rfl ?_
        exact ih a0 a1 x22 ta0 h hF
      · have hF := fx_pos hF c17
        refine xr_iload_n C 2 dX7_find_20 rfl rfl ?_
        cases hF
        exact xr_iret C dX7_find_21
def fX7_find (a0 : Nat) (a1 : Int32) (h : hp_T) : Option (Int32 × hp_T) := fX7_find_2 fx_N a0 a1 (0 : Int32) h
set_option maxRecDepth 100000 in
set_option maxHeartbeats 4000000 in
theorem mX7_find (l : Launch) (G : xr_G) (a0 : Nat) (a1 : Int32) (ta0 : hp_sh a0 = (7, 0)) (h h1 : hp_T) (r : Int32) (hF : fX7_find a0 a1 h = some (r, h1)) : xr_M l G yX7_find cX7_find 3 (xr_R 0 0) (some .int) [.ref (G.2.2.1 a0), .int a1] h (xr_Qi G r h1) := by
  refine xr_start rfl (Nat.le_of_ble_eq_true rfl) (fun K C => ?_)
  show xr_j l G K 3 h [(0, .ref (G.2.2.1 a0)), (1, .int a1)] 0 []
  unfold fX7_find at hF
  refine xr_iconst (v := 0) C dX7_find_0 (by decide) ?_
  refine xr_istore_n C [(2, .int (0 : Int32)), (0, .ref (G.2.2.1 a0)), (1, .int a1)] dX7_find_1 rfl (Nat.le_of_ble_eq_true rfl) rfl ?_
  refine xr_sub [1, 2, 0] [(0, .ref (G.2.2.1 a0)), (1, .int a1), (2, .int (0 : Int32))] rfl ?_
  exact bX7_find_2 C  fx_N a0 a1 (0 : Int32) ta0 h hF
theorem dX7_add_0 : decode cX7_add 0 = .ok (.aload_n 0, 1) := by decide +kernel
theorem dX7_add_1 : decode cX7_add 1 = .ok (.getfield 31, 3) := by decide +kernel
theorem dX7_add_4 : decode cX7_add 4 = .ok (.bipush 12, 2) := by decide +kernel
theorem dX7_add_6 : decode cX7_add 6 = .ok (.if_icmp .ge 54, 3) := by decide +kernel
theorem dX7_add_9 : decode cX7_add 9 = .ok (.aload_n 0, 1) := by decide +kernel
theorem dX7_add_10 : decode cX7_add 10 = .ok (.getfield 9, 3) := by decide +kernel
theorem dX7_add_13 : decode cX7_add 13 = .ok (.aload_n 0, 1) := by decide +kernel
theorem dX7_add_14 : decode cX7_add 14 = .ok (.getfield 31, 3) := by decide +kernel
theorem dX7_add_17 : decode cX7_add 17 = .ok (.iload_n 1, 1) := by decide +kernel
theorem dX7_add_18 : decode cX7_add 18 = .ok (.iastore, 1) := by decide +kernel
theorem dX7_add_19 : decode cX7_add 19 = .ok (.aload_n 0, 1) := by decide +kernel
theorem dX7_add_20 : decode cX7_add 20 = .ok (.getfield 15, 3) := by decide +kernel
theorem dX7_add_23 : decode cX7_add 23 = .ok (.aload_n 0, 1) := by decide +kernel
theorem dX7_add_24 : decode cX7_add 24 = .ok (.getfield 31, 3) := by decide +kernel
theorem dX7_add_27 : decode cX7_add 27 = .ok (.iload_n 2, 1) := by decide +kernel
theorem dX7_add_28 : decode cX7_add 28 = .ok (.iastore, 1) := by decide +kernel
theorem dX7_add_29 : decode cX7_add 29 = .ok (.aload_n 0, 1) := by decide +kernel
theorem dX7_add_30 : decode cX7_add 30 = .ok (.getfield 18, 3) := by decide +kernel
theorem dX7_add_33 : decode cX7_add 33 = .ok (.aload_n 0, 1) := by decide +kernel
theorem dX7_add_34 : decode cX7_add 34 = .ok (.getfield 31, 3) := by decide +kernel
theorem dX7_add_37 : decode cX7_add 37 = .ok (.iload_n 3, 1) := by decide +kernel
theorem dX7_add_38 : decode cX7_add 38 = .ok (.iastore, 1) := by decide +kernel
theorem dX7_add_39 : decode cX7_add 39 = .ok (.aload_n 0, 1) := by decide +kernel
theorem dX7_add_40 : decode cX7_add 40 = .ok (.getfield 21, 3) := by decide +kernel
theorem dX7_add_43 : decode cX7_add 43 = .ok (.aload_n 0, 1) := by decide +kernel
theorem dX7_add_44 : decode cX7_add 44 = .ok (.getfield 31, 3) := by decide +kernel
theorem dX7_add_47 : decode cX7_add 47 = .ok (.iload 4, 2) := by decide +kernel
theorem dX7_add_49 : decode cX7_add 49 = .ok (.iastore, 1) := by decide +kernel
theorem dX7_add_50 : decode cX7_add 50 = .ok (.aload_n 0, 1) := by decide +kernel
theorem dX7_add_51 : decode cX7_add 51 = .ok (.dup, 1) := by decide +kernel
theorem dX7_add_52 : decode cX7_add 52 = .ok (.getfield 31, 3) := by decide +kernel
theorem dX7_add_55 : decode cX7_add 55 = .ok (.iconst 1, 1) := by decide +kernel
theorem dX7_add_56 : decode cX7_add 56 = .ok (.iadd, 1) := by decide +kernel
theorem dX7_add_57 : decode cX7_add 57 = .ok (.putfield 31, 3) := by decide +kernel
theorem dX7_add_60 : decode cX7_add 60 = .ok (.return_, 1) := by decide +kernel
def fX7_add (a0 : Nat) (a1 : Int32) (a2 : Int32) (a3 : Int32) (a4 : Int32) (h : hp_T) : Option hp_T := if (12 : Int32) ≤ (h.1 a0 5) then (some h) else (fx_g (fx_in (h.1 a0 5) 12) (fx_let (hp_sI h (h.2.2 a0 0) (fx_ix (h.1 a0 5)) a1) fun (h18 : hp_T) => fx_g (fx_in (h18.1 a0 5) 12) (fx_let (hp_sI h18 (h18.2.2 a0 1) (fx_ix (h18.1 a0 5)) a2) fun (h28 : hp_T) => fx_g (fx_in (h28.1 a0 5) 12) (fx_let (hp_sI h28 (h28.2.2 a0 2) (fx_ix (h28.1 a0 5)) a3) fun (h38 : hp_T) => fx_g (fx_in (h38.1 a0 5) 12) (fx_let (hp_sI h38 (h38.2.2 a0 3) (fx_ix (h38.1 a0 5)) a4) fun (h49 : hp_T) => fx_let (hp_sI h49 a0 5 ((h49.1 a0 5) + (1 : Int32))) fun (h57 : hp_T) => some h57)))))
set_option maxRecDepth 100000 in
set_option maxHeartbeats 4000000 in
theorem mX7_add (l : Launch) (G : xr_G) (a0 : Nat) (a1 : Int32) (a2 : Int32) (a3 : Int32) (a4 : Int32) (ta0 : hp_sh a0 = (7, 0)) (h h1 : hp_T) (hF : fX7_add a0 a1 a2 a3 a4 h = some h1) : xr_M l G yX7_add cX7_add 5 (xr_R 0 0) none [.ref (G.2.2.1 a0), .int a1, .int a2, .int a3, .int a4] h (xr_Qv G h1) := by
  refine xr_start rfl (Nat.le_of_ble_eq_true rfl) (fun K C => ?_)
  show xr_j l G K 5 h [(0, .ref (G.2.2.1 a0)), (1, .int a1), (2, .int a2), (3, .int a3), (4, .int a4)] 0 []
  unfold fX7_add at hF
  refine xr_aload_n C 0 dX7_add_0 rfl rfl ?_
  refine xr_geti C flX7_31 rfl dX7_add_1 ta0 ?_
  refine xr_bipush (v := 12) C dX7_add_4 (by decide) ?_
  refine xr_icmp_ge C 60 dX7_add_6 (by decide) (fun c6 => ?_) (fun c6 => ?_)
  · have hF := fx_pos hF c6
    cases hF
    exact xr_vret C dX7_add_60
  · have hF := fx_neg hF c6
    refine xr_aload_n C 0 dX7_add_9 rfl rfl ?_
    refine xr_getr C flX7_9 rfl (by decide) dX7_add_10 ta0 (fun t10 => ?_)
    refine xr_aload_n C 0 dX7_add_13 rfl rfl ?_
    refine xr_geti C flX7_31 rfl dX7_add_14 ta0 ?_
    refine xr_iload_n C 1 dX7_add_17 rfl rfl ?_
    obtain ⟨g18, hF⟩ := fx_gE hF
    refine xr_iast C dX7_add_18 t10 g18 (fun h18 e18 => ?_)
    have hF := fx_letE hF h18 e18
    refine xr_aload_n C 0 dX7_add_19 rfl rfl ?_
    refine xr_getr C flX7_15 rfl (by decide) dX7_add_20 ta0 (fun t20 => ?_)
    refine xr_aload_n C 0 dX7_add_23 rfl rfl ?_
    refine xr_geti C flX7_31 rfl dX7_add_24 ta0 ?_
    refine xr_iload_n C 2 dX7_add_27 rfl rfl ?_
    obtain ⟨g28, hF⟩ := fx_gE hF
    refine xr_iast C dX7_add_28 t20 g28 (fun h28 e28 => ?_)
    have hF := fx_letE hF h28 e28
    refine xr_aload_n C 0 dX7_add_29 rfl rfl ?_
    refine xr_getr C flX7_18 rfl (by decide) dX7_add_30 ta0 (fun t30 => ?_)
    refine xr_aload_n C 0 dX7_add_33 rfl rfl ?_
    refine xr_geti C flX7_31 rfl dX7_add_34 ta0 ?_
    refine xr_iload_n C 3 dX7_add_37 rfl rfl ?_
    obtain ⟨g38, hF⟩ := fx_gE hF
    refine xr_iast C dX7_add_38 t30 g38 (fun h38 e38 => ?_)
    have hF := fx_letE hF h38 e38
    refine xr_aload_n C 0 dX7_add_39 rfl rfl ?_
    refine xr_getr C flX7_21 rfl (by decide) dX7_add_40 ta0 (fun t40 => ?_)
    refine xr_aload_n C 0 dX7_add_43 rfl rfl ?_
    refine xr_geti C flX7_31 rfl dX7_add_44 ta0 ?_
    refine xr_iload C 4 dX7_add_47 rfl ?_
    obtain ⟨g49, hF⟩ := fx_gE hF
    refine xr_iast C dX7_add_49 t40 g49 (fun h49 e49 => ?_)
    have hF := fx_letE hF h49 e49
    refine xr_aload_n C 0 dX7_add_50 rfl rfl ?_
    refine xr_dup C dX7_add_51 rfl ?_
    refine xr_geti C flX7_31 rfl dX7_add_52 ta0 ?_
    refine xr_iconst (v := 1) C dX7_add_55 (by decide) ?_
    refine xr_iadd C dX7_add_56 ?_
    refine xr_puti C fpX7_31 rfl rfl rfl dX7_add_57 ta0 (fun h57 e57 => ?_)
    have hF := fx_letE hF h57 e57
    cases hF
    exact xr_vret C dX7_add_60
theorem dX5_readPlayer_0 : decode cX5_readPlayer 0 = .ok (.aload_n 2, 1) := by decide +kernel
theorem dX5_readPlayer_1 : decode cX5_readPlayer 1 = .ok (.getfield 101, 3) := by decide +kernel
theorem dX5_readPlayer_4 : decode cX5_readPlayer 4 = .ok (.bipush 12, 2) := by decide +kernel
theorem dX5_readPlayer_6 : decode cX5_readPlayer 6 = .ok (.if_icmp .lt 8, 3) := by decide +kernel
theorem dX5_readPlayer_9 : decode cX5_readPlayer 9 = .ok (.aload_n 0, 1) := by decide +kernel
theorem dX5_readPlayer_10 : decode cX5_readPlayer 10 = .ok (.iconst 2, 1) := by decide +kernel
theorem dX5_readPlayer_11 : decode cX5_readPlayer 11 = .ok (.invokevirtual 61, 3) := by decide +kernel
theorem dX5_readPlayer_14 : decode cX5_readPlayer 14 = .ok (.aload_n 0, 1) := by decide +kernel
theorem dX5_readPlayer_15 : decode cX5_readPlayer 15 = .ok (.invokevirtual 36, 3) := by decide +kernel
theorem dX5_readPlayer_18 : decode cX5_readPlayer 18 = .ok (.aload_n 0, 1) := by decide +kernel
theorem dX5_readPlayer_19 : decode cX5_readPlayer 19 = .ok (.getfield 68, 3) := by decide +kernel
theorem dX5_readPlayer_22 : decode cX5_readPlayer 22 = .ok (.istore_n 3, 1) := by decide +kernel
theorem dX5_readPlayer_23 : decode cX5_readPlayer 23 = .ok (.aload_n 0, 1) := by decide +kernel
theorem dX5_readPlayer_24 : decode cX5_readPlayer 24 = .ok (.getfield 39, 3) := by decide +kernel
theorem dX5_readPlayer_27 : decode cX5_readPlayer 27 = .ok (.iconst 1, 1) := by decide +kernel
theorem dX5_readPlayer_28 : decode cX5_readPlayer 28 = .ok (.if_icmp .eq 11, 3) := by decide +kernel
theorem dX5_readPlayer_31 : decode cX5_readPlayer 31 = .ok (.aload_n 0, 1) := by decide +kernel
theorem dX5_readPlayer_32 : decode cX5_readPlayer 32 = .ok (.iconst 1, 1) := by decide +kernel
theorem dX5_readPlayer_33 : decode cX5_readPlayer 33 = .ok (.invokevirtual 61, 3) := by decide +kernel
theorem dX5_readPlayer_36 : decode cX5_readPlayer 36 = .ok (.goto 32, 3) := by decide +kernel
theorem dX5_readPlayer_39 : decode cX5_readPlayer 39 = .ok (.aload_n 1, 1) := by decide +kernel
theorem dX5_readPlayer_40 : decode cX5_readPlayer 40 = .ok (.getfield 49, 3) := by decide +kernel
theorem dX5_readPlayer_43 : decode cX5_readPlayer 43 = .ok (.iload_n 3, 1) := by decide +kernel
theorem dX5_readPlayer_44 : decode cX5_readPlayer 44 = .ok (.invokevirtual 102, 3) := by decide +kernel
theorem dX5_readPlayer_47 : decode cX5_readPlayer 47 = .ok (.iconst (-1), 1) := by decide +kernel
theorem dX5_readPlayer_48 : decode cX5_readPlayer 48 = .ok (.if_icmp .ne 15, 3) := by decide +kernel
theorem dX5_readPlayer_51 : decode cX5_readPlayer 51 = .ok (.aload_n 1, 1) := by decide +kernel
theorem dX5_readPlayer_52 : decode cX5_readPlayer 52 = .ok (.getfield 58, 3) := by decide +kernel
theorem dX5_readPlayer_55 : decode cX5_readPlayer 55 = .ok (.iload_n 3, 1) := by decide +kernel
theorem dX5_readPlayer_56 : decode cX5_readPlayer 56 = .ok (.invokevirtual 102, 3) := by decide +kernel
theorem dX5_readPlayer_59 : decode cX5_readPlayer 59 = .ok (.iconst (-1), 1) := by decide +kernel
theorem dX5_readPlayer_60 : decode cX5_readPlayer 60 = .ok (.if_icmp .eq 8, 3) := by decide +kernel
theorem dX5_readPlayer_63 : decode cX5_readPlayer 63 = .ok (.aload_n 0, 1) := by decide +kernel
theorem dX5_readPlayer_64 : decode cX5_readPlayer 64 = .ok (.iconst 3, 1) := by decide +kernel
theorem dX5_readPlayer_65 : decode cX5_readPlayer 65 = .ok (.invokevirtual 61, 3) := by decide +kernel
theorem dX5_readPlayer_68 : decode cX5_readPlayer 68 = .ok (.aload_n 0, 1) := by decide +kernel
theorem dX5_readPlayer_69 : decode cX5_readPlayer 69 = .ok (.invokevirtual 36, 3) := by decide +kernel
theorem dX5_readPlayer_72 : decode cX5_readPlayer 72 = .ok (.aload_n 0, 1) := by decide +kernel
theorem dX5_readPlayer_73 : decode cX5_readPlayer 73 = .ok (.iconst 0, 1) := by decide +kernel
theorem dX5_readPlayer_74 : decode cX5_readPlayer 74 = .ok (.bipush 99, 2) := by decide +kernel
theorem dX5_readPlayer_76 : decode cX5_readPlayer 76 = .ok (.invokevirtual 97, 3) := by decide +kernel
theorem dX5_readPlayer_79 : decode cX5_readPlayer 79 = .ok (.istore 4, 2) := by decide +kernel
theorem dX5_readPlayer_81 : decode cX5_readPlayer 81 = .ok (.aload_n 0, 1) := by decide +kernel
theorem dX5_readPlayer_82 : decode cX5_readPlayer 82 = .ok (.invokevirtual 36, 3) := by decide +kernel
theorem dX5_readPlayer_85 : decode cX5_readPlayer 85 = .ok (.aload_n 0, 1) := by decide +kernel
theorem dX5_readPlayer_86 : decode cX5_readPlayer 86 = .ok (.iconst 0, 1) := by decide +kernel
theorem dX5_readPlayer_87 : decode cX5_readPlayer 87 = .ok (.bipush 99, 2) := by decide +kernel
theorem dX5_readPlayer_89 : decode cX5_readPlayer 89 = .ok (.invokevirtual 97, 3) := by decide +kernel
theorem dX5_readPlayer_92 : decode cX5_readPlayer 92 = .ok (.istore 5, 2) := by decide +kernel
theorem dX5_readPlayer_94 : decode cX5_readPlayer 94 = .ok (.aload_n 0, 1) := by decide +kernel
theorem dX5_readPlayer_95 : decode cX5_readPlayer 95 = .ok (.invokevirtual 36, 3) := by decide +kernel
theorem dX5_readPlayer_98 : decode cX5_readPlayer 98 = .ok (.aload_n 0, 1) := by decide +kernel
theorem dX5_readPlayer_99 : decode cX5_readPlayer 99 = .ok (.iconst 0, 1) := by decide +kernel
theorem dX5_readPlayer_100 : decode cX5_readPlayer 100 = .ok (.bipush 99, 2) := by decide +kernel
theorem dX5_readPlayer_102 : decode cX5_readPlayer 102 = .ok (.invokevirtual 97, 3) := by decide +kernel
theorem dX5_readPlayer_105 : decode cX5_readPlayer 105 = .ok (.istore 6, 2) := by decide +kernel
theorem dX5_readPlayer_107 : decode cX5_readPlayer 107 = .ok (.aload_n 2, 1) := by decide +kernel
theorem dX5_readPlayer_108 : decode cX5_readPlayer 108 = .ok (.iload_n 3, 1) := by decide +kernel
theorem dX5_readPlayer_109 : decode cX5_readPlayer 109 = .ok (.iload 4, 2) := by decide +kernel
theorem dX5_readPlayer_111 : decode cX5_readPlayer 111 = .ok (.iload 5, 2) := by decide +kernel
theorem dX5_readPlayer_113 : decode cX5_readPlayer 113 = .ok (.iload 6, 2) := by decide +kernel
theorem dX5_readPlayer_115 : decode cX5_readPlayer 115 = .ok (.invokevirtual 106, 3) := by decide +kernel
theorem dX5_readPlayer_118 : decode cX5_readPlayer 118 = .ok (.return_, 1) := by decide +kernel
def fX5_readPlayer_68  (a0 : Nat) (a2 : Nat) (a3 : Int32) (h : hp_T) : Option hp_T := fx_b1 (fX5_advance a0 h) fun (h69 : hp_T) => fx_b2 (fX5_numberHere a0 (0 : Int32) (99 : Int32) h69) fun (r76 : Int32) (h76 : hp_T) => fx_b1 (fX5_advance a0 h76) fun (h82 : hp_T) => fx_b2 (fX5_numberHere a0 (0 : Int32) (99 : Int32) h82) fun (r89 : Int32) (h89 : hp_T) => fx_b1 (fX5_advance a0 h89) fun (h95 : hp_T) => fx_b2 (fX5_numberHere a0 (0 : Int32) (99 : Int32) h95) fun (r102 : Int32) (h102 : hp_T) => fx_b1 (fX7_add a2 a3 r76 r89 r102 h102) fun (h115 : hp_T) => some h115
set_option maxRecDepth 100000 in
set_option maxHeartbeats 4000000 in
theorem bX5_readPlayer_68 {l : Launch} {G : xr_G} {K : xr_K} {h1 : hp_T} (C : xr_C G K cX5_readPlayer RX5 7 (xr_R 3 100) none (some (xr_Qv G h1)))  (a0 : Nat) (a2 : Nat) (a3 : Int32) (ta0 : hp_sh a0 = (5, 0)) (ta2 : hp_sh a2 = (7, 0)) (h : hp_T) (hF : fX5_readPlayer_68 a0 a2 a3 h = some h1) : xr_j l G K 7 h [(0, .ref (G.2.2.1 a0)), (2, .ref (G.2.2.1 a2)), (3, .int a3)] 68 [] := by
  unfold fX5_readPlayer_68 at hF
  refine xr_aload_n C 0 dX5_readPlayer_68 rfl rfl ?_
  obtain ⟨h69, e69, hF⟩ := fx_b1E hF
  refine xr_callVv C mvX5_36 [] [] (mX5_advance l G a0 ta0 h h69 e69) ta0 (by decide) vc5 rfl ⟨rfl, rfl, (Nat.le_of_ble_eq_true rfl), (Nat.le_of_ble_eq_true rfl)⟩ rfl (Nat.le_of_ble_eq_true rfl) dX5_readPlayer_69 ?_
  refine xr_aload_n C 0 dX5_readPlayer_72 rfl rfl ?_
  refine xr_iconst (v := 0) C dX5_readPlayer_73 (by decide) ?_
  refine xr_bipush (v := 99) C dX5_readPlayer_74 (by decide) ?_
  obtain ⟨r76, h76, e76, hF⟩ := fx_b2E hF
  refine xr_callVi C mvX5_97 [.int (0 : Int32), .int (99 : Int32)] [] (mX5_numberHere l G a0 (0 : Int32) (99 : Int32) ta0 h69 h76 r76 e76) ta0 (by decide) vc5 rfl ⟨rfl, rfl, (Nat.le_of_ble_eq_true rfl), (Nat.le_of_ble_eq_true rfl)⟩ rfl (Nat.le_of_ble_eq_true rfl) dX5_readPlayer_76 ?_
  refine xr_istore C [(4, .int r76), (0, .ref (G.2.2.1 a0)), (2, .ref (G.2.2.1 a2)), (3, .int a3)] dX5_readPlayer_79 (Nat.le_of_ble_eq_true rfl) rfl ?_
  refine xr_aload_n C 1 dX5_readPlayer_81 rfl rfl ?_
  obtain ⟨h82, e82, hF⟩ := fx_b1E hF
  refine xr_callVv C mvX5_36 [] [] (mX5_advance l G a0 ta0 h76 h82 e82) ta0 (by decide) vc5 rfl ⟨rfl, rfl, (Nat.le_of_ble_eq_true rfl), (Nat.le_of_ble_eq_true rfl)⟩ rfl (Nat.le_of_ble_eq_true rfl) dX5_readPlayer_82 ?_
  refine xr_aload_n C 1 dX5_readPlayer_85 rfl rfl ?_
  refine xr_iconst (v := 0) C dX5_readPlayer_86 (by decide) ?_
  refine xr_bipush (v := 99) C dX5_readPlayer_87 (by decide) ?_
  obtain ⟨r89, h89, e89, hF⟩ := fx_b2E hF
  refine xr_callVi C mvX5_97 [.int (0 : Int32), .int (99 : Int32)] [] (mX5_numberHere l G a0 (0 : Int32) (99 : Int32) ta0 h82 h89 r89 e89) ta0 (by decide) vc5 rfl ⟨rfl, rfl, (Nat.le_of_ble_eq_true rfl), (Nat.le_of_ble_eq_true rfl)⟩ rfl (Nat.le_of_ble_eq_true rfl) dX5_readPlayer_89 ?_
  refine xr_istore C [(5, .int r89), (4, .int r76), (0, .ref (G.2.2.1 a0)), (2, .ref (G.2.2.1 a2)), (3, .int a3)] dX5_readPlayer_92 (Nat.le_of_ble_eq_true rfl) rfl ?_
  refine xr_aload_n C 2 dX5_readPlayer_94 rfl rfl ?_
  obtain ⟨h95, e95, hF⟩ := fx_b1E hF
  refine xr_callVv C mvX5_36 [] [] (mX5_advance l G a0 ta0 h89 h95 e95) ta0 (by decide) vc5 rfl ⟨rfl, rfl, (Nat.le_of_ble_eq_true rfl), (Nat.le_of_ble_eq_true rfl)⟩ rfl (Nat.le_of_ble_eq_true rfl) dX5_readPlayer_95 ?_
  refine xr_aload_n C 2 dX5_readPlayer_98 rfl rfl ?_
  refine xr_iconst (v := 0) C dX5_readPlayer_99 (by decide) ?_
  refine xr_bipush (v := 99) C dX5_readPlayer_100 (by decide) ?_
  obtain ⟨r102, h102, e102, hF⟩ := fx_b2E hF
  refine xr_callVi C mvX5_97 [.int (0 : Int32), .int (99 : Int32)] [] (mX5_numberHere l G a0 (0 : Int32) (99 : Int32) ta0 h95 h102 r102 e102) ta0 (by decide) vc5 rfl ⟨rfl, rfl, (Nat.le_of_ble_eq_true rfl), (Nat.le_of_ble_eq_true rfl)⟩ rfl (Nat.le_of_ble_eq_true rfl) dX5_readPlayer_102 ?_
  refine xr_istore C [(6, .int r102), (5, .int r89), (4, .int r76), (0, .ref (G.2.2.1 a0)), (2, .ref (G.2.2.1 a2)), (3, .int a3)] dX5_readPlayer_105 (Nat.le_of_ble_eq_true rfl) rfl ?_
  refine xr_aload_n C 4 dX5_readPlayer_107 rfl rfl ?_
  refine xr_iload_n C 5 dX5_readPlayer_108 rfl rfl ?_
  refine xr_iload C 2 dX5_readPlayer_109 rfl ?_
  refine xr_iload C 1 dX5_readPlayer_111 rfl ?_
  refine xr_iload C 0 dX5_readPlayer_113 rfl ?_
  obtain ⟨h115, e115, hF⟩ := fx_b1E hF
  refine xr_callVv C mvX5_106 [.int a3, .int r76, .int r89, .int r102] [] (mX7_add l G a2 a3 r76 r89 r102 ta2 h102 h115 e115) ta2 (by decide) vc7 rfl ⟨rfl, rfl, (Nat.le_of_ble_eq_true rfl), (Nat.le_of_ble_eq_true rfl)⟩ rfl (Nat.le_of_ble_eq_true rfl) dX5_readPlayer_115 ?_
  cases hF
  exact xr_vret C dX5_readPlayer_118
def fX5_readPlayer_63  (a0 : Nat) (a2 : Nat) (a3 : Int32) (h : hp_T) : Option hp_T := fx_b1 (fX5_fail a0 (3 : Int32) h) fun (h65 : hp_T) => fX5_readPlayer_68 a0 a2 a3 h65
set_option maxRecDepth 100000 in
set_option maxHeartbeats 4000000 in
theorem bX5_readPlayer_63 {l : Launch} {G : xr_G} {K : xr_K} {h1 : hp_T} (C : xr_C G K cX5_readPlayer RX5 7 (xr_R 3 100) none (some (xr_Qv G h1)))  (a0 : Nat) (a2 : Nat) (a3 : Int32) (ta0 : hp_sh a0 = (5, 0)) (ta2 : hp_sh a2 = (7, 0)) (h : hp_T) (hF : fX5_readPlayer_63 a0 a2 a3 h = some h1) : xr_j l G K 7 h [(0, .ref (G.2.2.1 a0)), (2, .ref (G.2.2.1 a2)), (3, .int a3)] 63 [] := by
  unfold fX5_readPlayer_63 at hF
  refine xr_aload_n C 0 dX5_readPlayer_63 rfl rfl ?_
  refine xr_iconst (v := 3) C dX5_readPlayer_64 (by decide) ?_
  obtain ⟨h65, e65, hF⟩ := fx_b1E hF
  refine xr_callVv C mvX5_61 [.int (3 : Int32)] [] (mX5_fail l G a0 (3 : Int32) ta0 h h65 e65) ta0 (by decide) vc5 rfl ⟨rfl, rfl, (Nat.le_of_ble_eq_true rfl), (Nat.le_of_ble_eq_true rfl)⟩ rfl (Nat.le_of_ble_eq_true rfl) dX5_readPlayer_65 ?_
  exact bX5_readPlayer_68 C   a0 a2 a3 ta0 ta2 h65 hF
def fX5_readPlayer_14  (a0 : Nat) (a1 : Nat) (a2 : Nat) (h : hp_T) : Option hp_T := fx_b1 (fX5_advance a0 h) fun (h15 : hp_T) => fx_let (h15.1 a0 8) fun (x22 : Int32) => if (h15.1 a0 7) = (1 : Int32) then (fx_b2 (fX7_find (h15.2.2 a1 0) x22 h15) fun (r44 : Int32) (h44 : hp_T) => if r44 = (-1 : Int32) then (fx_b2 (fX7_find (h44.2.2 a1 1) x22 h44) fun (r56 : Int32) (h56 : hp_T) => if r56 = (-1 : Int32) then (fX5_readPlayer_68 a0 a2 x22 h56) else (fX5_readPlayer_63 a0 a2 x22 h56)) else (fX5_readPlayer_63 a0 a2 x22 h44)) else (fx_b1 (fX5_fail a0 (1 : Int32) h15) fun (h33 : hp_T) => fX5_readPlayer_68 a0 a2 x22 h33)
set_option maxRecDepth 100000 in
set_option maxHeartbeats 4000000 in
theorem bX5_readPlayer_14 {l : Launch} {G : xr_G} {K : xr_K} {h1 : hp_T} (C : xr_C G K cX5_readPlayer RX5 7 (xr_R 3 100) none (some (xr_Qv G h1)))  (a0 : Nat) (a1 : Nat) (a2 : Nat) (ta0 : hp_sh a0 = (5, 0)) (ta1 : hp_sh a1 = (8, 0)) (ta2 : hp_sh a2 = (7, 0)) (h : hp_T) (hF : fX5_readPlayer_14 a0 a1 a2 h = some h1) : xr_j l G K 7 h [(0, .ref (G.2.2.1 a0)), (1, .ref (G.2.2.1 a1)), (2, .ref (G.2.2.1 a2))] 14 [] := by
  unfold fX5_readPlayer_14 at hF
  refine xr_aload_n C 0 dX5_readPlayer_14 rfl rfl ?_
  obtain ⟨h15, e15, hF⟩ := fx_b1E hF
  refine xr_callVv C mvX5_36 [] [] (mX5_advance l G a0 ta0 h h15 e15) ta0 (by decide) vc5 rfl ⟨rfl, rfl, (Nat.le_of_ble_eq_true rfl), (Nat.le_of_ble_eq_true rfl)⟩ rfl (Nat.le_of_ble_eq_true rfl) dX5_readPlayer_15 ?_
  refine xr_aload_n C 0 dX5_readPlayer_18 rfl rfl ?_
  refine xr_geti C flX5_68 rfl dX5_readPlayer_19 ta0 ?_
  refine xr_topi (fun x22 e22 => ?_)
  have hF := fx_letE hF x22 e22
  refine xr_istore_n C [(3, .int x22), (0, .ref (G.2.2.1 a0)), (1, .ref (G.2.2.1 a1)), (2, .ref (G.2.2.1 a2))] dX5_readPlayer_22 rfl (Nat.le_of_ble_eq_true rfl) rfl ?_
  refine xr_aload_n C 1 dX5_readPlayer_23 rfl rfl ?_
  refine xr_geti C flX5_39 rfl dX5_readPlayer_24 ta0 ?_
  refine xr_iconst (v := 1) C dX5_readPlayer_27 (by decide) ?_
  refine xr_icmp_eq C 39 dX5_readPlayer_28 (by decide) (fun c28 => ?_) (fun c28 => ?_)
  · have hF := fx_pos hF c28
    refine xr_aload_n C 2 dX5_readPlayer_39 rfl rfl ?_
    refine xr_getr C flX5_49 rfl (by decide) dX5_readPlayer_40 ta1 (fun t40 => ?_)
    refine xr_iload_n C 0 dX5_readPlayer_43 rfl rfl ?_
    obtain ⟨r44, h44, e44, hF⟩ := fx_b2E hF
    refine xr_callVi C mvX5_102 [.int x22] [] (mX7_find l G (h15.2.2 a1 0) x22 t40 h15 h44 r44 e44) t40 (by decide) vc7 rfl ⟨rfl, rfl, (Nat.le_of_ble_eq_true rfl), (Nat.le_of_ble_eq_true rfl)⟩ rfl (Nat.le_of_ble_eq_true rfl) dX5_readPlayer_44 ?_
    refine xr_iconst (v := -1) C dX5_readPlayer_47 (by decide) ?_
    refine xr_icmp_ne C 63 dX5_readPlayer_48 (by decide) (fun c48 => ?_) (fun c48 => ?_)
    · have hF := fx_neg hF c48
      refine xr_sub [1, 3, 0] [(0, .ref (G.2.2.1 a0)), (2, .ref (G.2.2.1 a2)), (3, .int x22)] rfl ?_
      exact bX5_readPlayer_63 C   a0 a2 x22 ta0 ta2 h44 hF
    · have hF := fx_pos hF c48
      refine xr_aload_n C 2 dX5_readPlayer_51 rfl rfl ?_
      refine xr_getr C flX5_58 rfl (by decide) dX5_readPlayer_52 ta1 (fun t52 => ?_)
      refine xr_iload_n C 0 dX5_readPlayer_55 rfl rfl ?_
      obtain ⟨r56, h56, e56, hF⟩ := fx_b2E hF
      refine xr_callVi C mvX5_102 [.int x22] [] (mX7_find l G (h44.2.2 a1 1) x22 t52 h44 h56 r56 e56) t52 (by decide) vc7 rfl ⟨rfl, rfl, (Nat.le_of_ble_eq_true rfl), (Nat.le_of_ble_eq_true rfl)⟩ rfl (Nat.le_of_ble_eq_true rfl) dX5_readPlayer_56 ?_
      refine xr_iconst (v := -1) C dX5_readPlayer_59 (by decide) ?_
      refine xr_icmp_eq C 68 dX5_readPlayer_60 (by decide) (fun c60 => ?_) (fun c60 => ?_)
      · have hF := fx_pos hF c60
        refine xr_sub [1, 3, 0] [(0, .ref (G.2.2.1 a0)), (2, .ref (G.2.2.1 a2)), (3, .int x22)] rfl ?_
        exact bX5_readPlayer_68 C   a0 a2 x22 ta0 ta2 h56 hF
      · have hF := fx_neg hF c60
        refine xr_sub [1, 3, 0] [(0, .ref (G.2.2.1 a0)), (2, .ref (G.2.2.1 a2)), (3, .int x22)] rfl ?_
        exact bX5_readPlayer_63 C   a0 a2 x22 ta0 ta2 h56 hF
  · have hF := fx_neg hF c28
    refine xr_aload_n C 1 dX5_readPlayer_31 rfl rfl ?_
    refine xr_iconst (v := 1) C dX5_readPlayer_32 (by decide) ?_
    obtain ⟨h33, e33, hF⟩ := fx_b1E hF
    refine xr_callVv C mvX5_61 [.int (1 : Int32)] [] (mX5_fail l G a0 (1 : Int32) ta0 h15 h33 e33) ta0 (by decide) vc5 rfl ⟨rfl, rfl, (Nat.le_of_ble_eq_true rfl), (Nat.le_of_ble_eq_true rfl)⟩ rfl (Nat.le_of_ble_eq_true rfl) dX5_readPlayer_33 ?_
    refine xr_goto C 68 dX5_readPlayer_36 (by decide) ?_
    refine xr_sub [1, 3, 0] [(0, .ref (G.2.2.1 a0)), (2, .ref (G.2.2.1 a2)), (3, .int x22)] rfl ?_
    exact bX5_readPlayer_68 C   a0 a2 x22 ta0 ta2 h33 hF
def fX5_readPlayer (a0 : Nat) (a1 : Nat) (a2 : Nat) (h : hp_T) : Option hp_T := if (h.1 a2 5) < (12 : Int32) then (fX5_readPlayer_14 a0 a1 a2 h) else (fx_b1 (fX5_fail a0 (2 : Int32) h) fun (h11 : hp_T) => fX5_readPlayer_14 a0 a1 a2 h11)
set_option maxRecDepth 100000 in
set_option maxHeartbeats 4000000 in
theorem mX5_readPlayer (l : Launch) (G : xr_G) (a0 : Nat) (a1 : Nat) (a2 : Nat) (ta0 : hp_sh a0 = (5, 0)) (ta1 : hp_sh a1 = (8, 0)) (ta2 : hp_sh a2 = (7, 0)) (h h1 : hp_T) (hF : fX5_readPlayer a0 a1 a2 h = some h1) : xr_M l G yX5_readPlayer cX5_readPlayer 7 (xr_R 3 100) none [.ref (G.2.2.1 a0), .ref (G.2.2.1 a1), .ref (G.2.2.1 a2)] h (xr_Qv G h1) := by
  refine xr_start rfl (Nat.le_of_ble_eq_true rfl) (fun K C => ?_)
  show xr_j l G K 7 h [(0, .ref (G.2.2.1 a0)), (1, .ref (G.2.2.1 a1)), (2, .ref (G.2.2.1 a2))] 0 []
  unfold fX5_readPlayer at hF
  refine xr_aload_n C 2 dX5_readPlayer_0 rfl rfl ?_
  refine xr_geti C flX5_101 rfl dX5_readPlayer_1 ta2 ?_
  refine xr_bipush (v := 12) C dX5_readPlayer_4 (by decide) ?_
  refine xr_icmp_lt C 14 dX5_readPlayer_6 (by decide) (fun c6 => ?_) (fun c6 => ?_)
  · have hF := fx_pos hF c6
    exact bX5_readPlayer_14 C   a0 a1 a2 ta0 ta1 ta2 h hF
  · have hF := fx_neg hF c6
    refine xr_aload_n C 0 dX5_readPlayer_9 rfl rfl ?_
    refine xr_iconst (v := 2) C dX5_readPlayer_10 (by decide) ?_
    obtain ⟨h11, e11, hF⟩ := fx_b1E hF
    refine xr_callVv C mvX5_61 [.int (2 : Int32)] [] (mX5_fail l G a0 (2 : Int32) ta0 h h11 e11) ta0 (by decide) vc5 rfl ⟨rfl, rfl, (Nat.le_of_ble_eq_true rfl), (Nat.le_of_ble_eq_true rfl)⟩ rfl (Nat.le_of_ble_eq_true rfl) dX5_readPlayer_11 ?_
    exact bX5_readPlayer_14 C   a0 a1 a2 ta0 ta1 ta2 h11 hF
theorem dX7_isStarter_0 : decode cX7_isStarter 0 = .ok (.iconst 0, 1) := by decide +kernel
theorem dX7_isStarter_1 : decode cX7_isStarter 1 = .ok (.istore_n 2, 1) := by decide +kernel
theorem dX7_isStarter_2 : decode cX7_isStarter 2 = .ok (.iload_n 2, 1) := by decide +kernel
theorem dX7_isStarter_3 : decode cX7_isStarter 3 = .ok (.aload_n 0, 1) := by decide +kernel
theorem dX7_isStarter_4 : decode cX7_isStarter 4 = .ok (.getfield 34, 3) := by decide +kernel
theorem dX7_isStarter_7 : decode cX7_isStarter 7 = .ok (.if_icmp .ge 21, 3) := by decide +kernel
theorem dX7_isStarter_10 : decode cX7_isStarter 10 = .ok (.aload_n 0, 1) := by decide +kernel
theorem dX7_isStarter_11 : decode cX7_isStarter 11 = .ok (.getfield 24, 3) := by decide +kernel
theorem dX7_isStarter_14 : decode cX7_isStarter 14 = .ok (.iload_n 2, 1) := by decide +kernel
theorem dX7_isStarter_15 : decode cX7_isStarter 15 = .ok (.iaload, 1) := by decide +kernel
theorem dX7_isStarter_16 : decode cX7_isStarter 16 = .ok (.iload_n 1, 1) := by decide +kernel
theorem dX7_isStarter_17 : decode cX7_isStarter 17 = .ok (.if_icmp .ne 5, 3) := by decide +kernel
theorem dX7_isStarter_20 : decode cX7_isStarter 20 = .ok (.iconst 1, 1) := by decide +kernel
theorem dX7_isStarter_21 : decode cX7_isStarter 21 = .ok (.ireturn, 1) := by decide +kernel
theorem dX7_isStarter_22 : decode cX7_isStarter 22 = .ok (.iinc 2 1, 3) := by decide +kernel
theorem dX7_isStarter_25 : decode cX7_isStarter 25 = .ok (.goto (-23), 3) := by decide +kernel
theorem dX7_isStarter_28 : decode cX7_isStarter 28 = .ok (.iconst 0, 1) := by decide +kernel
theorem dX7_isStarter_29 : decode cX7_isStarter 29 = .ok (.ireturn, 1) := by decide +kernel
def fX7_isStarter_2  : Nat → Nat → Int32 → Int32 → hp_T → Option (Int32 × hp_T)
  | 0, _, _, _, _ => none
  | n + 1, a0, a1, a2, h => if (h.1 a0 6) ≤ a2 then (some ((0 : Int32), h)) else (fx_g (fx_in a2 6) (if (h.1 (h.2.2 a0 4) (fx_ix a2)) = a1 then (some ((1 : Int32), h)) else (fx_let (a2 + (1 : Int32)) fun (x22 : Int32) => fX7_isStarter_2 n a0 a1 x22 h)))
set_option maxRecDepth 100000 in
set_option maxHeartbeats 4000000 in
theorem bX7_isStarter_2 {l : Launch} {G : xr_G} {K : xr_K} {r : Int32} {h1 : hp_T} (C : xr_C G K cX7_isStarter RX7 3 (xr_R 0 0) (some .boolean) (some (xr_Qi G r h1)))  : ∀ (n : Nat) (a0 : Nat) (a1 : Int32) (a2 : Int32) (ta0 : hp_sh a0 = (7, 0)) (h : hp_T), fX7_isStarter_2 n a0 a1 a2 h = some (r, h1) → xr_j l G K 3 h [(0, .ref (G.2.2.1 a0)), (1, .int a1), (2, .int a2)] 2 [] := by
  intro n
  induction n with
  | zero =>
    intro a0 a1 a2 ta0 h hF
    cases hF
  | succ n ih =>
    intro a0 a1 a2 ta0 h hF
    rw [fX7_isStarter_2] at hF
    refine xr_iload_n C 2 dX7_isStarter_2 rfl rfl ?_
    refine xr_aload_n C 0 dX7_isStarter_3 rfl rfl ?_
    refine xr_geti C flX7_34 rfl dX7_isStarter_4 ta0 ?_
    refine xr_icmp_ge C 28 dX7_isStarter_7 (by decide) (fun c7 => ?_) (fun c7 => ?_)
    · have hF := fx_pos hF c7
      refine xr_iconst (v := 0) C dX7_isStarter_28 (by decide) ?_
      cases hF
      exact xr_zret C rfl dX7_isStarter_29
    · have hF := fx_neg hF c7
      refine xr_aload_n C 0 dX7_isStarter_10 rfl rfl ?_
      refine xr_getr C flX7_24 rfl (by decide) dX7_isStarter_11 ta0 (fun t11 => ?_)
      refine xr_iload_n C 2 dX7_isStarter_14 rfl rfl ?_
      obtain ⟨g15, hF⟩ := fx_gE hF
      refine xr_iald C dX7_isStarter_15 t11 g15 ?_
      refine xr_iload_n C 1 dX7_isStarter_16 rfl rfl ?_
      refine xr_icmp_ne C 22 dX7_isStarter_17 (by decide) (fun c17 => ?_) (fun c17 => ?_)
      · have hF := fx_neg hF c17
        obtain ⟨x22, e22⟩ : ∃ y : Int32, y = (a2 + (1 : Int32)) := ⟨_, rfl⟩
        have hF := fx_letE hF x22 e22
        refine xr_iinc C x22 2 [(2, .int x22), (0, .ref (G.2.2.1 a0)), (1, .int a1)] dX7_isStarter_22 rfl (by rw [e22]; rfl) (Nat.le_of_ble_eq_true rfl) rfl ?_
        refine xr_goto C 2 dX7_isStarter_25 (by decide) ?_
        refine xr_sub [1, 2, 0] [(0, .ref (G.2.2.1 a0)), (1, .int a1), (2, .int x22)] rfl ?_
        exact ih a0 a1 x22 ta0 h hF
      · have hF := fx_pos hF c17
        refine xr_iconst (v := 1) C dX7_isStarter_20 (by decide) ?_
        cases hF
        exact xr_zret C rfl dX7_isStarter_21
def fX7_isStarter (a0 : Nat) (a1 : Int32) (h : hp_T) : Option (Int32 × hp_T) := fX7_isStarter_2 fx_N a0 a1 (0 : Int32) h
set_option maxRecDepth 100000 in
set_option maxHeartbeats 4000000 in
theorem mX7_isStarter (l : Launch) (G : xr_G) (a0 : Nat) (a1 : Int32) (ta0 : hp_sh a0 = (7, 0)) (h h1 : hp_T) (r : Int32) (hF : fX7_isStarter a0 a1 h = some (r, h1)) : xr_M l G yX7_isStarter cX7_isStarter 3 (xr_R 0 0) (some .boolean) [.ref (G.2.2.1 a0), .int a1] h (xr_Qi G r h1) := by
  refine xr_start rfl (Nat.le_of_ble_eq_true rfl) (fun K C => ?_)
  show xr_j l G K 3 h [(0, .ref (G.2.2.1 a0)), (1, .int a1)] 0 []
  unfold fX7_isStarter at hF
  refine xr_iconst (v := 0) C dX7_isStarter_0 (by decide) ?_
  refine xr_istore_n C [(2, .int (0 : Int32)), (0, .ref (G.2.2.1 a0)), (1, .int a1)] dX7_isStarter_1 rfl (Nat.le_of_ble_eq_true rfl) rfl ?_
  refine xr_sub [1, 2, 0] [(0, .ref (G.2.2.1 a0)), (1, .int a1), (2, .int (0 : Int32))] rfl ?_
  exact bX7_isStarter_2 C  fx_N a0 a1 (0 : Int32) ta0 h hF
theorem dX5_readFree_0 : decode cX5_readFree 0 = .ok (.aload_n 0, 1) := by decide +kernel
theorem dX5_readFree_1 : decode cX5_readFree 1 = .ok (.invokevirtual 36, 3) := by decide +kernel
theorem dX5_readFree_4 : decode cX5_readFree 4 = .ok (.aload_n 1, 1) := by decide +kernel
theorem dX5_readFree_5 : decode cX5_readFree 5 = .ok (.getfield 49, 3) := by decide +kernel
theorem dX5_readFree_8 : decode cX5_readFree 8 = .ok (.aload_n 0, 1) := by decide +kernel
theorem dX5_readFree_9 : decode cX5_readFree 9 = .ok (.getfield 68, 3) := by decide +kernel
theorem dX5_readFree_12 : decode cX5_readFree 12 = .ok (.invokevirtual 102, 3) := by decide +kernel
theorem dX5_readFree_15 : decode cX5_readFree 15 = .ok (.iconst (-1), 1) := by decide +kernel
theorem dX5_readFree_16 : decode cX5_readFree 16 = .ok (.if_icmp .eq 10, 3) := by decide +kernel
theorem dX5_readFree_19 : decode cX5_readFree 19 = .ok (.aload_n 1, 1) := by decide +kernel
theorem dX5_readFree_20 : decode cX5_readFree 20 = .ok (.getfield 49, 3) := by decide +kernel
theorem dX5_readFree_23 : decode cX5_readFree 23 = .ok (.goto 7, 3) := by decide +kernel
theorem dX5_readFree_26 : decode cX5_readFree 26 = .ok (.aload_n 1, 1) := by decide +kernel
theorem dX5_readFree_27 : decode cX5_readFree 27 = .ok (.getfield 58, 3) := by decide +kernel
theorem dX5_readFree_30 : decode cX5_readFree 30 = .ok (.astore_n 2, 1) := by decide +kernel
theorem dX5_readFree_31 : decode cX5_readFree 31 = .ok (.aload_n 0, 1) := by decide +kernel
theorem dX5_readFree_32 : decode cX5_readFree 32 = .ok (.getfield 39, 3) := by decide +kernel
theorem dX5_readFree_35 : decode cX5_readFree 35 = .ok (.iconst 1, 1) := by decide +kernel
theorem dX5_readFree_36 : decode cX5_readFree 36 = .ok (.if_icmp .ne 14, 3) := by decide +kernel
theorem dX5_readFree_39 : decode cX5_readFree 39 = .ok (.aload_n 2, 1) := by decide +kernel
theorem dX5_readFree_40 : decode cX5_readFree 40 = .ok (.aload_n 0, 1) := by decide +kernel
theorem dX5_readFree_41 : decode cX5_readFree 41 = .ok (.getfield 68, 3) := by decide +kernel
theorem dX5_readFree_44 : decode cX5_readFree 44 = .ok (.invokevirtual 102, 3) := by decide +kernel
theorem dX5_readFree_47 : decode cX5_readFree 47 = .ok (.goto 4, 3) := by decide +kernel
theorem dX5_readFree_50 : decode cX5_readFree 50 = .ok (.iconst (-1), 1) := by decide +kernel
theorem dX5_readFree_51 : decode cX5_readFree 51 = .ok (.istore_n 3, 1) := by decide +kernel
theorem dX5_readFree_52 : decode cX5_readFree 52 = .ok (.iload_n 3, 1) := by decide +kernel
theorem dX5_readFree_53 : decode cX5_readFree 53 = .ok (.iconst (-1), 1) := by decide +kernel
theorem dX5_readFree_54 : decode cX5_readFree 54 = .ok (.if_icmp .ne 11, 3) := by decide +kernel
theorem dX5_readFree_57 : decode cX5_readFree 57 = .ok (.aload_n 0, 1) := by decide +kernel
theorem dX5_readFree_58 : decode cX5_readFree 58 = .ok (.iconst 1, 1) := by decide +kernel
theorem dX5_readFree_59 : decode cX5_readFree 59 = .ok (.invokevirtual 61, 3) := by decide +kernel
theorem dX5_readFree_62 : decode cX5_readFree 62 = .ok (.goto 24, 3) := by decide +kernel
theorem dX5_readFree_65 : decode cX5_readFree 65 = .ok (.aload_n 2, 1) := by decide +kernel
theorem dX5_readFree_66 : decode cX5_readFree 66 = .ok (.getfield 110, 3) := by decide +kernel
theorem dX5_readFree_69 : decode cX5_readFree 69 = .ok (.iconst (-1), 1) := by decide +kernel
theorem dX5_readFree_70 : decode cX5_readFree 70 = .ok (.if_icmp .ne 11, 3) := by decide +kernel
theorem dX5_readFree_73 : decode cX5_readFree 73 = .ok (.aload_n 2, 1) := by decide +kernel
theorem dX5_readFree_74 : decode cX5_readFree 74 = .ok (.iload_n 3, 1) := by decide +kernel
theorem dX5_readFree_75 : decode cX5_readFree 75 = .ok (.invokevirtual 113, 3) := by decide +kernel
theorem dX5_readFree_78 : decode cX5_readFree 78 = .ok (.ifCond .eq 8, 3) := by decide +kernel
theorem dX5_readFree_81 : decode cX5_readFree 81 = .ok (.aload_n 0, 1) := by decide +kernel
theorem dX5_readFree_82 : decode cX5_readFree 82 = .ok (.iconst 3, 1) := by decide +kernel
theorem dX5_readFree_83 : decode cX5_readFree 83 = .ok (.invokevirtual 61, 3) := by decide +kernel
theorem dX5_readFree_86 : decode cX5_readFree 86 = .ok (.aload_n 2, 1) := by decide +kernel
theorem dX5_readFree_87 : decode cX5_readFree 87 = .ok (.iload_n 3, 1) := by decide +kernel
theorem dX5_readFree_88 : decode cX5_readFree 88 = .ok (.putfield 110, 3) := by decide +kernel
theorem dX5_readFree_91 : decode cX5_readFree 91 = .ok (.return_, 1) := by decide +kernel
def fX5_readFree_81  (a0 : Nat) (a2 : Nat) (a3 : Int32) (h : hp_T) : Option hp_T := fx_b1 (fX5_fail a0 (3 : Int32) h) fun (h83 : hp_T) => fx_let (hp_sI h83 a2 7 a3) fun (h88 : hp_T) => some h88
set_option maxRecDepth 100000 in
set_option maxHeartbeats 4000000 in
theorem bX5_readFree_81 {l : Launch} {G : xr_G} {K : xr_K} {h1 : hp_T} (C : xr_C G K cX5_readFree RX5 4 (xr_R 3 100) none (some (xr_Qv G h1)))  (a0 : Nat) (a2 : Nat) (a3 : Int32) (ta0 : hp_sh a0 = (5, 0)) (ta2 : hp_sh a2 = (7, 0)) (h : hp_T) (hF : fX5_readFree_81 a0 a2 a3 h = some h1) : xr_j l G K 4 h [(0, .ref (G.2.2.1 a0)), (2, .ref (G.2.2.1 a2)), (3, .int a3)] 81 [] := by
  unfold fX5_readFree_81 at hF
  refine xr_aload_n C 0 dX5_readFree_81 rfl rfl ?_
  refine xr_iconst (v := 3) C dX5_readFree_82 (by decide) ?_
  obtain ⟨h83, e83, hF⟩ := fx_b1E hF
  refine xr_callVv C mvX5_61 [.int (3 : Int32)] [] (mX5_fail l G a0 (3 : Int32) ta0 h h83 e83) ta0 (by decide) vc5 rfl ⟨rfl, rfl, (Nat.le_of_ble_eq_true rfl), (Nat.le_of_ble_eq_true rfl)⟩ rfl (Nat.le_of_ble_eq_true rfl) dX5_readFree_83 ?_
  refine xr_aload_n C 1 dX5_readFree_86 rfl rfl ?_
  refine xr_iload_n C 2 dX5_readFree_87 rfl rfl ?_
  refine xr_puti C fpX5_110 rfl rfl rfl dX5_readFree_88 ta2 (fun h88 e88 => ?_)
  have hF := fx_letE hF h88 e88
  cases hF
  exact xr_vret C dX5_readFree_91
def fX5_readFree_51  (a0 : Nat) (a2 : Nat) (s0 : Int32) (h : hp_T) : Option hp_T := if s0 = (-1 : Int32) then (fx_b1 (fX5_fail a0 (1 : Int32) h) fun (h59 : hp_T) => fx_let (hp_sI h59 a2 7 s0) fun (h88 : hp_T) => some h88) else (if (h.1 a2 7) = (-1 : Int32) then (fx_b2 (fX7_isStarter a2 s0 h) fun (r75 : Int32) (h75 : hp_T) => if r75 = 0 then (fx_let (hp_sI h75 a2 7 s0) fun (h88 : hp_T) => some h88) else (fX5_readFree_81 a0 a2 s0 h75)) else (fX5_readFree_81 a0 a2 s0 h))
set_option maxRecDepth 100000 in
set_option maxHeartbeats 4000000 in
theorem bX5_readFree_51 {l : Launch} {G : xr_G} {K : xr_K} {h1 : hp_T} (C : xr_C G K cX5_readFree RX5 4 (xr_R 3 100) none (some (xr_Qv G h1)))  (a0 : Nat) (a2 : Nat) (s0 : Int32) (ta0 : hp_sh a0 = (5, 0)) (ta2 : hp_sh a2 = (7, 0)) (h : hp_T) (hF : fX5_readFree_51 a0 a2 s0 h = some h1) : xr_j l G K 4 h [(0, .ref (G.2.2.1 a0)), (2, .ref (G.2.2.1 a2))] 51 [.int s0] := by
  unfold fX5_readFree_51 at hF
  refine xr_istore_n C [(3, .int s0), (0, .ref (G.2.2.1 a0)), (2, .ref (G.2.2.1 a2))] dX5_readFree_51 rfl (Nat.le_of_ble_eq_true rfl) rfl ?_
  refine xr_iload_n C 0 dX5_readFree_52 rfl rfl ?_
  refine xr_iconst (v := -1) C dX5_readFree_53 (by decide) ?_
  refine xr_icmp_ne C 65 dX5_readFree_54 (by decide) (fun c54 => ?_) (fun c54 => ?_)
  · have hF := fx_neg hF c54
    refine xr_aload_n C 2 dX5_readFree_65 rfl rfl ?_
    refine xr_geti C flX5_110 rfl dX5_readFree_66 ta2 ?_
    refine xr_iconst (v := -1) C dX5_readFree_69 (by decide) ?_
    refine xr_icmp_ne C 81 dX5_readFree_70 (by decide) (fun c70 => ?_) (fun c70 => ?_)
    · have hF := fx_neg hF c70
      refine xr_sub [1, 2, 0] [(0, .ref (G.2.2.1 a0)), (2, .ref (G.2.2.1 a2)), (3, .int s0)] rfl ?_
      exact bX5_readFree_81 C   a0 a2 s0 ta0 ta2 h hF
    · have hF := fx_pos hF c70
      refine xr_aload_n C 2 dX5_readFree_73 rfl rfl ?_
      refine xr_iload_n C 0 dX5_readFree_74 rfl rfl ?_
      obtain ⟨r75, h75, e75, hF⟩ := fx_b2E hF
      refine xr_callVi C mvX5_113 [.int s0] [] (mX7_isStarter l G a2 s0 ta2 h h75 r75 e75) ta2 (by decide) vc7 rfl ⟨rfl, rfl, (Nat.le_of_ble_eq_true rfl), (Nat.le_of_ble_eq_true rfl)⟩ rfl (Nat.le_of_ble_eq_true rfl) dX5_readFree_75 ?_
      refine xr_if_eq C 86 dX5_readFree_78 (by decide) (fun c78 => ?_) (fun c78 => ?_)
      · have hF := fx_pos hF c78
        refine xr_aload_n C 2 dX5_readFree_86 rfl rfl ?_
        refine xr_iload_n C 0 dX5_readFree_87 rfl rfl ?_
        refine xr_puti C fpX5_110 rfl rfl rfl dX5_readFree_88 ta2 (fun h88 e88 => ?_)
        have hF := fx_letE hF h88 e88
        cases hF
        exact xr_vret C dX5_readFree_91
      · have hF := fx_neg hF c78
        refine xr_sub [1, 2, 0] [(0, .ref (G.2.2.1 a0)), (2, .ref (G.2.2.1 a2)), (3, .int s0)] rfl ?_
        exact bX5_readFree_81 C   a0 a2 s0 ta0 ta2 h75 hF
  · have hF := fx_pos hF c54
    refine xr_aload_n C 1 dX5_readFree_57 rfl rfl ?_
    refine xr_iconst (v := 1) C dX5_readFree_58 (by decide) ?_
    obtain ⟨h59, e59, hF⟩ := fx_b1E hF
    refine xr_callVv C mvX5_61 [.int (1 : Int32)] [] (mX5_fail l G a0 (1 : Int32) ta0 h h59 e59) ta0 (by decide) vc5 rfl ⟨rfl, rfl, (Nat.le_of_ble_eq_true rfl), (Nat.le_of_ble_eq_true rfl)⟩ rfl (Nat.le_of_ble_eq_true rfl) dX5_readFree_59 ?_
    refine xr_goto C 86 dX5_readFree_62 (by decide) ?_
    refine xr_aload_n C 2 dX5_readFree_86 rfl rfl ?_
    refine xr_iload_n C 0 dX5_readFree_87 rfl rfl ?_
    refine xr_puti C fpX5_110 rfl rfl rfl dX5_readFree_88 ta2 (fun h88 e88 => ?_)
    have hF := fx_letE hF h88 e88
    cases hF
    exact xr_vret C dX5_readFree_91
def fX5_readFree_30  (a0 : Nat) (s0 : Nat) (h : hp_T) : Option hp_T := if (h.1 a0 7) = (1 : Int32) then (fx_b2 (fX7_find s0 (h.1 a0 8) h) fun (r44 : Int32) (h44 : hp_T) => fX5_readFree_51 a0 s0 r44 h44) else (fX5_readFree_51 a0 s0 (-1 : Int32) h)
set_option maxRecDepth 100000 in
set_option maxHeartbeats 4000000 in
theorem bX5_readFree_30 {l : Launch} {G : xr_G} {K : xr_K} {h1 : hp_T} (C : xr_C G K cX5_readFree RX5 4 (xr_R 3 100) none (some (xr_Qv G h1)))  (a0 : Nat) (s0 : Nat) (ta0 : hp_sh a0 = (5, 0)) (ts0 : hp_sh s0 = (7, 0)) (h : hp_T) (hF : fX5_readFree_30 a0 s0 h = some h1) : xr_j l G K 4 h [(0, .ref (G.2.2.1 a0))] 30 [.ref (G.2.2.1 s0)] := by
  unfold fX5_readFree_30 at hF
  refine xr_astore_n C [(2, .ref (G.2.2.1 s0)), (0, .ref (G.2.2.1 a0))] dX5_readFree_30 rfl (Nat.le_of_ble_eq_true rfl) rfl ?_
  refine xr_aload_n C 1 dX5_readFree_31 rfl rfl ?_
  refine xr_geti C flX5_39 rfl dX5_readFree_32 ta0 ?_
  refine xr_iconst (v := 1) C dX5_readFree_35 (by decide) ?_
  refine xr_icmp_ne C 50 dX5_readFree_36 (by decide) (fun c36 => ?_) (fun c36 => ?_)
  · have hF := fx_neg hF c36
    refine xr_iconst (v := -1) C dX5_readFree_50 (by decide) ?_
    refine xr_sub [1, 0] [(0, .ref (G.2.2.1 a0)), (2, .ref (G.2.2.1 s0))] rfl ?_
    exact bX5_readFree_51 C   a0 s0 (-1 : Int32) ta0 ts0 h hF
  · have hF := fx_pos hF c36
    refine xr_aload_n C 0 dX5_readFree_39 rfl rfl ?_
    refine xr_aload_n C 1 dX5_readFree_40 rfl rfl ?_
    refine xr_geti C flX5_68 rfl dX5_readFree_41 ta0 ?_
    obtain ⟨r44, h44, e44, hF⟩ := fx_b2E hF
    refine xr_callVi C mvX5_102 [.int (h.1 a0 8)] [] (mX7_find l G s0 (h.1 a0 8) ts0 h h44 r44 e44) ts0 (by decide) vc7 rfl ⟨rfl, rfl, (Nat.le_of_ble_eq_true rfl), (Nat.le_of_ble_eq_true rfl)⟩ rfl (Nat.le_of_ble_eq_true rfl) dX5_readFree_44 ?_
    refine xr_goto C 51 dX5_readFree_47 (by decide) ?_
    refine xr_sub [1, 0] [(0, .ref (G.2.2.1 a0)), (2, .ref (G.2.2.1 s0))] rfl ?_
    exact bX5_readFree_51 C   a0 s0 r44 ta0 ts0 h44 hF
def fX5_readFree (a0 : Nat) (a1 : Nat) (h : hp_T) : Option hp_T := fx_b1 (fX5_advance a0 h) fun (h1 : hp_T) => fx_b2 (fX7_find (h1.2.2 a1 0) (h1.1 a0 8) h1) fun (r12 : Int32) (h12 : hp_T) => if r12 = (-1 : Int32) then (fX5_readFree_30 a0 (h12.2.2 a1 1) h12) else (fX5_readFree_30 a0 (h12.2.2 a1 0) h12)
set_option maxRecDepth 100000 in
set_option maxHeartbeats 4000000 in
theorem mX5_readFree (l : Launch) (G : xr_G) (a0 : Nat) (a1 : Nat) (ta0 : hp_sh a0 = (5, 0)) (ta1 : hp_sh a1 = (8, 0)) (h h1 : hp_T) (hF : fX5_readFree a0 a1 h = some h1) : xr_M l G yX5_readFree cX5_readFree 4 (xr_R 3 100) none [.ref (G.2.2.1 a0), .ref (G.2.2.1 a1)] h (xr_Qv G h1) := by
  refine xr_start rfl (Nat.le_of_ble_eq_true rfl) (fun K C => ?_)
  show xr_j l G K 4 h [(0, .ref (G.2.2.1 a0)), (1, .ref (G.2.2.1 a1))] 0 []
  unfold fX5_readFree at hF
  refine xr_aload_n C 0 dX5_readFree_0 rfl rfl ?_
  obtain ⟨h1, e1, hF⟩ := fx_b1E hF
  refine xr_callVv C mvX5_36 [] [] (mX5_advance l G a0 ta0 h h1 e1) ta0 (by decide) vc5 rfl ⟨rfl, rfl, (Nat.le_of_ble_eq_true rfl), (Nat.le_of_ble_eq_true rfl)⟩ rfl (Nat.le_of_ble_eq_true rfl) dX5_readFree_1 ?_
  refine xr_aload_n C 1 dX5_readFree_4 rfl rfl ?_
  refine xr_getr C flX5_49 rfl (by decide) dX5_readFree_5 ta1 (fun t5 => ?_)
  refine xr_aload_n C 0 dX5_readFree_8 rfl rfl ?_
  refine xr_geti C flX5_68 rfl dX5_readFree_9 ta0 ?_
  obtain ⟨r12, h12, e12, hF⟩ := fx_b2E hF
  refine xr_callVi C mvX5_102 [.int (h1.1 a0 8)] [] (mX7_find l G (h1.2.2 a1 0) (h1.1 a0 8) t5 h1 h12 r12 e12) t5 (by decide) vc7 rfl ⟨rfl, rfl, (Nat.le_of_ble_eq_true rfl), (Nat.le_of_ble_eq_true rfl)⟩ rfl (Nat.le_of_ble_eq_true rfl) dX5_readFree_12 ?_
  refine xr_iconst (v := -1) C dX5_readFree_15 (by decide) ?_
  refine xr_icmp_eq C 26 dX5_readFree_16 (by decide) (fun c16 => ?_) (fun c16 => ?_)
  · have hF := fx_pos hF c16
    refine xr_aload_n C 1 dX5_readFree_26 rfl rfl ?_
    refine xr_getr C flX5_58 rfl (by decide) dX5_readFree_27 ta1 (fun t27 => ?_)
    refine xr_sub [0] [(0, .ref (G.2.2.1 a0))] rfl ?_
    exact bX5_readFree_30 C   a0 (h12.2.2 a1 1) ta0 t27 h12 hF
  · have hF := fx_neg hF c16
    refine xr_aload_n C 1 dX5_readFree_19 rfl rfl ?_
    refine xr_getr C flX5_49 rfl (by decide) dX5_readFree_20 ta1 (fun t20 => ?_)
    refine xr_goto C 30 dX5_readFree_23 (by decide) ?_
    refine xr_sub [0] [(0, .ref (G.2.2.1 a0))] rfl ?_
    exact bX5_readFree_30 C   a0 (h12.2.2 a1 0) ta0 t20 h12 hF
