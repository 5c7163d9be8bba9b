theorem dX10_weak_0 : decode cX10_weak 0 = .ok (.aload_n 0, 1) := by decide +kernel
theorem dX10_weak_1 : decode cX10_weak 1 = .ok (.iconst 0, 1) := by decide +kernel
theorem dX10_weak_2 : decode cX10_weak 2 = .ok (.putfield 63, 3) := by decide +kernel
theorem dX10_weak_5 : decode cX10_weak 5 = .ok (.aload_n 0, 1) := by decide +kernel
theorem dX10_weak_6 : decode cX10_weak 6 = .ok (.iload_n 1, 1) := by decide +kernel
theorem dX10_weak_7 : decode cX10_weak 7 = .ok (.invokevirtual 180, 3) := by decide +kernel
theorem dX10_weak_10 : decode cX10_weak 10 = .ok (.ifCond .eq 12, 3) := by decide +kernel
theorem dX10_weak_13 : decode cX10_weak 13 = .ok (.iload_n 2, 1) := by decide +kernel
theorem dX10_weak_14 : decode cX10_weak 14 = .ok (.ifCond .lt 8, 3) := by decide +kernel
theorem dX10_weak_17 : decode cX10_weak 17 = .ok (.iload_n 2, 1) := by decide +kernel
theorem dX10_weak_18 : decode cX10_weak 18 = .ok (.iconst 1, 1) := by decide +kernel
theorem dX10_weak_19 : decode cX10_weak 19 = .ok (.if_icmp .le 5, 3) := by decide +kernel
theorem dX10_weak_22 : decode cX10_weak 22 = .ok (.iconst (-1), 1) := by decide +kernel
theorem dX10_weak_23 : decode cX10_weak 23 = .ok (.ireturn, 1) := by decide +kernel
theorem dX10_weak_24 : decode cX10_weak 24 = .ok (.aload_n 0, 1) := by decide +kernel
theorem dX10_weak_25 : decode cX10_weak 25 = .ok (.invokevirtual 262, 3) := by decide +kernel
theorem dX10_weak_28 : decode cX10_weak 28 = .ok (.iconst 0, 1) := by decide +kernel
theorem dX10_weak_29 : decode cX10_weak 29 = .ok (.istore_n 3, 1) := by decide +kernel
theorem dX10_weak_30 : decode cX10_weak 30 = .ok (.iconst (-1), 1) := by decide +kernel
theorem dX10_weak_31 : decode cX10_weak 31 = .ok (.istore 4, 2) := by decide +kernel
theorem dX10_weak_33 : decode cX10_weak 33 = .ok (.iconst 0, 1) := by decide +kernel
theorem dX10_weak_34 : decode cX10_weak 34 = .ok (.istore 5, 2) := by decide +kernel
theorem dX10_weak_36 : decode cX10_weak 36 = .ok (.iload 5, 2) := by decide +kernel
theorem dX10_weak_38 : decode cX10_weak 38 = .ok (.bipush 6, 2) := by decide +kernel
theorem dX10_weak_40 : decode cX10_weak 40 = .ok (.if_icmp .ge 51, 3) := by decide +kernel
theorem dX10_weak_43 : decode cX10_weak 43 = .ok (.iload_n 1, 1) := by decide +kernel
theorem dX10_weak_44 : decode cX10_weak 44 = .ok (.ifCond .ne 14, 3) := by decide +kernel
theorem dX10_weak_47 : decode cX10_weak 47 = .ok (.aload_n 0, 1) := by decide +kernel
theorem dX10_weak_48 : decode cX10_weak 48 = .ok (.iload 5, 2) := by decide +kernel
theorem dX10_weak_50 : decode cX10_weak 50 = .ok (.iconst 0, 1) := by decide +kernel
theorem dX10_weak_51 : decode cX10_weak 51 = .ok (.iconst 1, 1) := by decide +kernel
theorem dX10_weak_52 : decode cX10_weak 52 = .ok (.invokevirtual 256, 3) := by decide +kernel
theorem dX10_weak_55 : decode cX10_weak 55 = .ok (.goto 11, 3) := by decide +kernel
theorem dX10_weak_58 : decode cX10_weak 58 = .ok (.aload_n 0, 1) := by decide +kernel
theorem dX10_weak_59 : decode cX10_weak 59 = .ok (.iconst 0, 1) := by decide +kernel
theorem dX10_weak_60 : decode cX10_weak 60 = .ok (.iload 5, 2) := by decide +kernel
theorem dX10_weak_62 : decode cX10_weak 62 = .ok (.iconst 0, 1) := by decide +kernel
theorem dX10_weak_63 : decode cX10_weak 63 = .ok (.invokevirtual 256, 3) := by decide +kernel
theorem dX10_weak_66 : decode cX10_weak 66 = .ok (.istore 6, 2) := by decide +kernel
theorem dX10_weak_68 : decode cX10_weak 68 = .ok (.iload 6, 2) := by decide +kernel
theorem dX10_weak_70 : decode cX10_weak 70 = .ok (.iload 4, 2) := by decide +kernel
theorem dX10_weak_72 : decode cX10_weak 72 = .ok (.if_icmp .gt 6, 3) := by decide +kernel
theorem dX10_weak_75 : decode cX10_weak 75 = .ok (.goto 10, 3) := by decide +kernel
theorem dX10_weak_78 : decode cX10_weak 78 = .ok (.iload 5, 2) := by decide +kernel
theorem dX10_weak_80 : decode cX10_weak 80 = .ok (.istore_n 3, 1) := by decide +kernel
theorem dX10_weak_81 : decode cX10_weak 81 = .ok (.iload 6, 2) := by decide +kernel
theorem dX10_weak_83 : decode cX10_weak 83 = .ok (.istore 4, 2) := by decide +kernel
theorem dX10_weak_85 : decode cX10_weak 85 = .ok (.iinc 5 1, 3) := by decide +kernel
theorem dX10_weak_88 : decode cX10_weak 88 = .ok (.goto (-52), 3) := by decide +kernel
theorem dX10_weak_91 : decode cX10_weak 91 = .ok (.iload_n 2, 1) := by decide +kernel
theorem dX10_weak_92 : decode cX10_weak 92 = .ok (.ifCond .ne 7, 3) := by decide +kernel
theorem dX10_weak_95 : decode cX10_weak 95 = .ok (.iload_n 3, 1) := by decide +kernel
theorem dX10_weak_96 : decode cX10_weak 96 = .ok (.goto 5, 3) := by decide +kernel
theorem dX10_weak_99 : decode cX10_weak 99 = .ok (.iload 4, 2) := by decide +kernel
theorem dX10_weak_101 : decode cX10_weak 101 = .ok (.ireturn, 1) := by decide +kernel
def fX10_weak_85 (k36 : Nat → Int32 → Int32 → Int32 → Int32 → Int32 → hp_T → Option (Int32 × hp_T)) (a0 : Nat) (a1 : Int32) (a2 : Int32) (a3 : Int32) (a4 : Int32) (a5 : Int32) (h : hp_T) : Option (Int32 × hp_T) := fx_let (a5 + (1 : Int32)) fun (x85 : Int32) => k36 a0 a1 a2 a3 a4 x85 h
set_option maxRecDepth 100000 in
set_option maxHeartbeats 4000000 in
theorem bX10_weak_85 {l : Launch} {G : xr_G} {K : xr_K} {r : Int32} {h1 : hp_T} (C : xr_C G K cX10_weak RX10 7 (xr_R 4 97) (some .int) (some (xr_Qi G r h1))) (k36 : Nat → Int32 → Int32 → Int32 → Int32 → Int32 → hp_T → Option (Int32 × hp_T)) (j36 : ∀ (a0 : Nat) (a1 : Int32) (a2 : Int32) (a3 : Int32) (a4 : Int32) (a5 : Int32) (ta0 : hp_sh a0 = (10, 0)) (h : hp_T), k36 a0 a1 a2 a3 a4 a5 h = some (r, h1) → xr_j l G K 7 h [(0, .ref (G.2.2.1 a0)), (1, .int a1), (2, .int a2), (3, .int a3), (4, .int a4), (5, .int a5)] 36 []) (a0 : Nat) (a1 : Int32) (a2 : Int32) (a3 : Int32) (a4 : Int32) (a5 : Int32) (ta0 : hp_sh a0 = (10, 0)) (h : hp_T) (hF : fX10_weak_85 k36 a0 a1 a2 a3 a4 a5 h = some (r, h1)) : xr_j l G K 7 h [(0, .ref (G.2.2.1 a0)), (1, .int a1), (2, .int a2), (3, .int a3), (4, .int a4), (5, .int a5)] 85 [] := by
  unfold fX10_weak_85 at hF
  obtain ⟨x85, e85⟩ : ∃ y : Int32, y = (a5 + (1 : Int32)) := ⟨_, rfl⟩
  have hF := fx_letE hF x85 e85
  refine xr_iinc C x85 5 [(5, .int x85), (0, .ref (G.2.2.1 a0)), (1, .int a1), (2, .int a2), (3, .int a3), (4, .int a4)] dX10_weak_85 rfl (by rw [e85]; rfl) (Nat.le_of_ble_eq_true rfl) rfl ?_
  refine xr_goto C 36 dX10_weak_88 (by decide) ?_
  refine xr_sub [1, 2, 3, 4, 5, 0] [(0, .ref (G.2.2.1 a0)), (1, .int a1), (2, .int a2), (3, .int a3), (4, .int a4), (5, .int x85)] rfl ?_
  exact j36 a0 a1 a2 a3 a4 x85 ta0 h hF
def fX10_weak_66 (k36 : Nat → Int32 → Int32 → Int32 → Int32 → Int32 → hp_T → Option (Int32 × hp_T)) (a0 : Nat) (a1 : Int32) (a2 : Int32) (a3 : Int32) (a4 : Int32) (a5 : Int32) (s0 : Int32) (h : hp_T) : Option (Int32 × hp_T) := if a4 < s0 then (fX10_weak_85 k36 a0 a1 a2 a5 s0 a5 h) else (fX10_weak_85 k36 a0 a1 a2 a3 a4 a5 h)
set_option maxRecDepth 100000 in
set_option maxHeartbeats 4000000 in
theorem bX10_weak_66 {l : Launch} {G : xr_G} {K : xr_K} {r : Int32} {h1 : hp_T} (C : xr_C G K cX10_weak RX10 7 (xr_R 4 97) (some .int) (some (xr_Qi G r h1))) (k36 : Nat → Int32 → Int32 → Int32 → Int32 → Int32 → hp_T → Option (Int32 × hp_T)) (j36 : ∀ (a0 : Nat) (a1 : Int32) (a2 : Int32) (a3 : Int32) (a4 : Int32) (a5 : Int32) (ta0 : hp_sh a0 = (10, 0)) (h : hp_T), k36 a0 a1 a2 a3 a4 a5 h = some (r, h1) → xr_j l G K 7 h [(0, .ref (G.2.2.1 a0)), (1, .int a1), (2, .int a2), (3, .int a3), (4, .int a4), (5, .int a5)] 36 []) (a0 : Nat) (a1 : Int32) (a2 : Int32) (a3 : Int32) (a4 : Int32) (a5 : Int32) (s0 : Int32) (ta0 : hp_sh a0 = (10, 0)) (h : hp_T) (hF : fX10_weak_66 k36 a0 a1 a2 a3 a4 a5 s0 h = some (r, h1)) : xr_j l G K 7 h [(0, .ref (G.2.2.1 a0)), (1, .int a1), (2, .int a2), (3, .int a3), (4, .int a4), (5, .int a5)] 66 [.int s0] := by
  unfold fX10_weak_66 at hF
  refine xr_istore C [(6, .int s0), (0, .ref (G.2.2.1 a0)), (1, .int a1), (2, .int a2), (3, .int a3), (4, .int a4), (5, .int a5)] dX10_weak_66 (Nat.le_of_ble_eq_true rfl) rfl ?_
  refine xr_iload C 0 dX10_weak_68 rfl ?_
  refine xr_iload C 5 dX10_weak_70 rfl ?_
  refine xr_icmp_gt C 78 dX10_weak_72 (by decide) (fun c72 => ?_) (fun c72 => ?_)
  · have hF := fx_pos hF c72
    refine xr_iload C 6 dX10_weak_78 rfl ?_
    refine xr_istore_n C [(3, .int a5), (6, .int s0), (0, .ref (G.2.2.1 a0)), (1, .int a1), (2, .int a2), (4, .int a4), (5, .int a5)] dX10_weak_80 rfl (Nat.le_of_ble_eq_true rfl) rfl ?_
    refine xr_iload C 1 dX10_weak_81 rfl ?_
    refine xr_istore C [(4, .int s0), (3, .int a5), (6, .int s0), (0, .ref (G.2.2.1 a0)), (1, .int a1), (2, .int a2), (5, .int a5)] dX10_weak_83 (Nat.le_of_ble_eq_true rfl) rfl ?_
    refine xr_sub [3, 4, 5, 1, 0, 6] [(0, .ref (G.2.2.1 a0)), (1, .int a1), (2, .int a2), (3, .int a5), (4, .int s0), (5, .int a5)] rfl ?_
    exact bX10_weak_85 C k36 j36  a0 a1 a2 a5 s0 a5 ta0 h hF
  · have hF := fx_neg hF c72
    refine xr_goto C 85 dX10_weak_75 (by decide) ?_
    refine xr_sub [1, 2, 3, 4, 5, 6] [(0, .ref (G.2.2.1 a0)), (1, .int a1), (2, .int a2), (3, .int a3), (4, .int a4), (5, .int a5)] rfl ?_
    exact bX10_weak_85 C k36 j36  a0 a1 a2 a3 a4 a5 ta0 h hF
def fX10_weak_36  : Nat → Nat → Int32 → Int32 → Int32 → Int32 → Int32 → hp_T → Option (Int32 × hp_T)
  | 0, _, _, _, _, _, _, _ => none
  | n + 1, a0, a1, a2, a3, a4, a5, h => if (6 : Int32) ≤ a5 then (if a2 = 0 then (some (a3, h)) else (some (a4, h))) else (if a1 = 0 then (fx_b2 (fX10_chanceOf a0 a5 (0 : Int32) (1 : Int32) h) fun (r52 : Int32) (h52 : hp_T) => fX10_weak_66 (fX10_weak_36 n) a0 a1 a2 a3 a4 a5 r52 h52) else (fx_b2 (fX10_chanceOf a0 (0 : Int32) a5 (0 : Int32) h) fun (r63 : Int32) (h63 : hp_T) => fX10_weak_66 (fX10_weak_36 n) a0 a1 a2 a3 a4 a5 r63 h63))
set_option maxRecDepth 100000 in
set_option maxHeartbeats 4000000 in
theorem bX10_weak_36 {l : Launch} {G : xr_G} {K : xr_K} {r : Int32} {h1 : hp_T} (C : xr_C G K cX10_weak RX10 7 (xr_R 4 97) (some .int) (some (xr_Qi G r h1)))  : ∀ (n : Nat) (a0 : Nat) (a1 : Int32) (a2 : Int32) (a3 : Int32) (a4 : Int32) (a5 : Int32) (ta0 : hp_sh a0 = (10, 0)) (h : hp_T), fX10_weak_36 n a0 a1 a2 a3 a4 a5 h = some (r, h1) → xr_j l G K 7 h [(0, .ref (G.2.2.1 a0)), (1, .int a1), (2, .int a2), (3, .int a3), (4, .int a4), (5, .int a5)] 36 [] := by
  intro n
  induction n with
  | zero =>
    intro a0 a1 a2 a3 a4 a5 ta0 h hF
    cases hF
  | succ n ih =>
    intro a0 a1 a2 a3 a4 a5 ta0 h hF
    rw [fX10_weak_36] at hF
    refine xr_iload C 5 dX10_weak_36 rfl ?_
    refine xr_bipush (v := 6) C dX10_weak_38 (by decide) ?_
    refine xr_icmp_ge C 91 dX10_weak_40 (by decide) (fun c40 => ?_) (fun c40 => ?_)
    · have hF := fx_pos hF c40
      refine xr_iload_n C 2 dX10_weak_91 rfl rfl ?_
      refine xr_if_ne C 99 dX10_weak_92 (by decide) (fun c92 => ?_) (fun c92 => ?_)
      · have hF := fx_neg hF c92
        refine xr_iload C 4 dX10_weak_99 rfl ?_
        cases hF
        exact xr_iret C dX10_weak_101
      · have hF := fx_pos hF c92
        refine xr_iload_n C 3 dX10_weak_95 rfl rfl ?_
        refine xr_goto C 101 dX10_weak_96 (by decide) ?_
        cases hF
        exact xr_iret C dX10_weak_101
    · have hF := fx_neg hF c40
      refine xr_iload_n C 1 dX10_weak_43 rfl rfl ?_
      refine xr_if_ne C 58 dX10_weak_44 (by decide) (fun c44 => ?_) (fun c44 => ?_)
      · have hF := fx_neg hF c44
        refine xr_aload_n C 0 dX10_weak_58 rfl rfl ?_
        refine xr_iconst (v := 0) C dX10_weak_59 (by decide) ?_
        refine xr_iload C 5 dX10_weak_60 rfl ?_
        refine xr_iconst (v := 0) C dX10_weak_62 (by decide) ?_
        obtain ⟨r63, h63, e63, hF⟩ := fx_b2E hF
        refine xr_callVi C mvX10_256 [.int (0 : Int32), .int a5, .int (0 : Int32)] [] (mX10_chanceOf l G a0 (0 : Int32) a5 (0 : Int32) ta0 h h63 r63 e63) ta0 (by decide) vc10 rfl ⟨rfl, rfl, (Nat.le_of_ble_eq_true rfl), (Nat.le_of_ble_eq_true rfl)⟩ rfl (Nat.le_of_ble_eq_true rfl) dX10_weak_63 ?_
        exact bX10_weak_66 C (fX10_weak_36 n) (fun a0 a1 a2 a3 a4 a5 ta0 h hF => ih a0 a1 a2 a3 a4 a5 ta0 h hF)  a0 a1 a2 a3 a4 a5 r63 ta0 h63 hF
      · have hF := fx_pos hF c44
        refine xr_aload_n C 0 dX10_weak_47 rfl rfl ?_
        refine xr_iload C 5 dX10_weak_48 rfl ?_
        refine xr_iconst (v := 0) C dX10_weak_50 (by decide) ?_
        refine xr_iconst (v := 1) C dX10_weak_51 (by decide) ?_
        obtain ⟨r52, h52, e52, hF⟩ := fx_b2E hF
        refine xr_callVi C mvX10_256 [.int a5, .int (0 : Int32), .int (1 : Int32)] [] (mX10_chanceOf l G a0 a5 (0 : Int32) (1 : Int32) ta0 h h52 r52 e52) ta0 (by decide) vc10 rfl ⟨rfl, rfl, (Nat.le_of_ble_eq_true rfl), (Nat.le_of_ble_eq_true rfl)⟩ rfl (Nat.le_of_ble_eq_true rfl) dX10_weak_52 ?_
        refine xr_goto C 66 dX10_weak_55 (by decide) ?_
        exact bX10_weak_66 C (fX10_weak_36 n) (fun a0 a1 a2 a3 a4 a5 ta0 h hF => ih a0 a1 a2 a3 a4 a5 ta0 h hF)  a0 a1 a2 a3 a4 a5 r52 ta0 h52 hF
def fX10_weak (a0 : Nat) (a1 : Int32) (a2 : Int32) (h : hp_T) : Option (Int32 × hp_T) := fx_let (hp_sI h a0 0 (0 : Int32)) fun (h2 : hp_T) => fx_b2 (fX10_isSide a0 a1 h2) fun (r7 : Int32) (h7 : hp_T) => if r7 = 0 then (some ((-1 : Int32), h7)) else (if a2 < 0 then (some ((-1 : Int32), h7)) else (if a2 ≤ (1 : Int32) then (fx_b1 (fX10_takesLines a0 h7) fun (h25 : hp_T) => fX10_weak_36 fx_N a0 a1 a2 (0 : Int32) (-1 : Int32) (0 : Int32) h25) else (some ((-1 : Int32), h7))))
set_option maxRecDepth 100000 in
set_option maxHeartbeats 4000000 in
theorem mX10_weak (l : Launch) (G : xr_G) (a0 : Nat) (a1 : Int32) (a2 : Int32) (ta0 : hp_sh a0 = (10, 0)) (h h1 : hp_T) (r : Int32) (hF : fX10_weak a0 a1 a2 h = some (r, h1)) : xr_M l G yX10_weak cX10_weak 7 (xr_R 4 97) (some .int) [.ref (G.2.2.1 a0), .int a1, .int a2] h (xr_Qi G r h1) := by
  refine xr_start rfl (Nat.le_of_ble_eq_true rfl) (fun K C => ?_)
  show xr_j l G K 7 h [(0, .ref (G.2.2.1 a0)), (1, .int a1), (2, .int a2)] 0 []
  unfold fX10_weak at hF
  refine xr_aload_n C 0 dX10_weak_0 rfl rfl ?_
  refine xr_iconst (v := 0) C dX10_weak_1 (by decide) ?_
  refine xr_puti C fpX10_63 rfl rfl rfl dX10_weak_2 ta0 (fun h2 e2 => ?_)
  have hF := fx_letE hF h2 e2
  refine xr_aload_n C 0 dX10_weak_5 rfl rfl ?_
  refine xr_iload_n C 1 dX10_weak_6 rfl rfl ?_
  obtain ⟨r7, h7, e7, hF⟩ := fx_b2E hF
  refine xr_callVi C mvX10_180 [.int a1] [] (mX10_isSide l G a0 a1 ta0 h2 h7 r7 e7) ta0 (by decide) vc10 rfl ⟨rfl, rfl, (Nat.le_of_ble_eq_true rfl), (Nat.le_of_ble_eq_true rfl)⟩ rfl (Nat.le_of_ble_eq_true rfl) dX10_weak_7 ?_
  refine xr_if_eq C 22 dX10_weak_10 (by decide) (fun c10 => ?_) (fun c10 => ?_)
  · have hF := fx_pos hF c10
    refine xr_iconst (v := -1) C dX10_weak_22 (by decide) ?_
    cases hF
    exact xr_iret C dX10_weak_23
  · have hF := fx_neg hF c10
    refine xr_iload_n C 2 dX10_weak_13 rfl rfl ?_
    refine xr_if_lt C 22 dX10_weak_14 (by decide) (fun c14 => ?_) (fun c14 => ?_)
    · have hF := fx_pos hF c14
      refine xr_iconst (v := -1) C dX10_weak_22 (by decide) ?_
      cases hF
      exact xr_iret C dX10_weak_23
    · have hF := fx_neg hF c14
      refine xr_iload_n C 2 dX10_weak_17 rfl rfl ?_
      refine xr_iconst (v := 1) C dX10_weak_18 (by decide) ?_
      refine xr_icmp_le C 24 dX10_weak_19 (by decide) (fun c19 => ?_) (fun c19 => ?_)
      · have hF := fx_pos hF c19
        refine xr_aload_n C 0 dX10_weak_24 rfl rfl ?_
        obtain ⟨h25, e25, hF⟩ := fx_b1E hF
        refine xr_callVv C mvX10_262 [] [] (mX10_takesLines l G a0 ta0 h7 h25 e25) ta0 (by decide) vc10 rfl ⟨rfl, rfl, (Nat.le_of_ble_eq_true rfl), (Nat.le_of_ble_eq_true rfl)⟩ rfl (Nat.le_of_ble_eq_true rfl) dX10_weak_25 ?_
        refine xr_iconst (v := 0) C dX10_weak_28 (by decide) ?_
        refine xr_istore_n C [(3, .int (0 : Int32)), (0, .ref (G.2.2.1 a0)), (1, .int a1), (2, .int a2)] dX10_weak_29 rfl (Nat.le_of_ble_eq_true rfl) rfl ?_
        refine xr_iconst (v := -1) C dX10_weak_30 (by decide) ?_
        refine xr_istore C [(4, .int (-1 : Int32)), (3, .int (0 : Int32)), (0, .ref (G.2.2.1 a0)), (1, .int a1), (2, .int a2)] dX10_weak_31 (Nat.le_of_ble_eq_true rfl) rfl ?_
        refine xr_iconst (v := 0) C dX10_weak_33 (by decide) ?_
        refine xr_istore C [(5, .int (0 : Int32)), (4, .int (-1 : Int32)), (3, .int (0 : Int32)), (0, .ref (G.2.2.1 a0)), (1, .int a1), (2, .int a2)] dX10_weak_34 (Nat.le_of_ble_eq_true rfl) rfl ?_
        refine xr_sub [3, 4, 5, 2, 1, 0] [(0, .ref (G.2.2.1 a0)), (1, .int a1), (2, .int a2), (3, .int (0 : Int32)), (4, .int (-1 : Int32)), (5, .int (0 : Int32))] rfl ?_
        exact bX10_weak_36 C  fx_N a0 a1 a2 (0 : Int32) (-1 : Int32) (0 : Int32) ta0 h25 hF
      · have hF := fx_neg hF c19
        refine xr_iconst (v := -1) C dX10_weak_22 (by decide) ?_
        cases hF
        exact xr_iret C dX10_weak_23
theorem dX10_swapped_0 : decode cX10_swapped 0 = .ok (.aload_n 0, 1) := by decide +kernel
theorem dX10_swapped_1 : decode cX10_swapped 1 = .ok (.invokevirtual 283, 3) := by decide +kernel
theorem dX10_swapped_4 : decode cX10_swapped 4 = .ok (.iload_n 1, 1) := by decide +kernel
theorem dX10_swapped_5 : decode cX10_swapped 5 = .ok (.iload_n 2, 1) := by decide +kernel
theorem dX10_swapped_6 : decode cX10_swapped 6 = .ok (.iconst 1, 1) := by decide +kernel
theorem dX10_swapped_7 : decode cX10_swapped 7 = .ok (.isub, 1) := by decide +kernel
theorem dX10_swapped_8 : decode cX10_swapped 8 = .ok (.bipush 6, 2) := by decide +kernel
theorem dX10_swapped_10 : decode cX10_swapped 10 = .ok (.invokestatic 167, 3) := by decide +kernel
theorem dX10_swapped_13 : decode cX10_swapped 13 = .ok (.istore 4, 2) := by decide +kernel
theorem dX10_swapped_15 : decode cX10_swapped 15 = .ok (.iload_n 1, 1) := by decide +kernel
theorem dX10_swapped_16 : decode cX10_swapped 16 = .ok (.iload_n 3, 1) := by decide +kernel
theorem dX10_swapped_17 : decode cX10_swapped 17 = .ok (.iconst 1, 1) := by decide +kernel
theorem dX10_swapped_18 : decode cX10_swapped 18 = .ok (.isub, 1) := by decide +kernel
theorem dX10_swapped_19 : decode cX10_swapped 19 = .ok (.bipush 6, 2) := by decide +kernel
theorem dX10_swapped_21 : decode cX10_swapped 21 = .ok (.invokestatic 167, 3) := by decide +kernel
theorem dX10_swapped_24 : decode cX10_swapped 24 = .ok (.istore 5, 2) := by decide +kernel
theorem dX10_swapped_26 : decode cX10_swapped 26 = .ok (.aload_n 0, 1) := by decide +kernel
theorem dX10_swapped_27 : decode cX10_swapped 27 = .ok (.getfield 45, 3) := by decide +kernel
theorem dX10_swapped_30 : decode cX10_swapped 30 = .ok (.iload 4, 2) := by decide +kernel
theorem dX10_swapped_32 : decode cX10_swapped 32 = .ok (.iaload, 1) := by decide +kernel
theorem dX10_swapped_33 : decode cX10_swapped 33 = .ok (.istore 6, 2) := by decide +kernel
theorem dX10_swapped_35 : decode cX10_swapped 35 = .ok (.aload_n 0, 1) := by decide +kernel
theorem dX10_swapped_36 : decode cX10_swapped 36 = .ok (.getfield 45, 3) := by decide +kernel
theorem dX10_swapped_39 : decode cX10_swapped 39 = .ok (.iload 4, 2) := by decide +kernel
theorem dX10_swapped_41 : decode cX10_swapped 41 = .ok (.aload_n 0, 1) := by decide +kernel
theorem dX10_swapped_42 : decode cX10_swapped 42 = .ok (.getfield 45, 3) := by decide +kernel
theorem dX10_swapped_45 : decode cX10_swapped 45 = .ok (.iload 5, 2) := by decide +kernel
theorem dX10_swapped_47 : decode cX10_swapped 47 = .ok (.iaload, 1) := by decide +kernel
theorem dX10_swapped_48 : decode cX10_swapped 48 = .ok (.iastore, 1) := by decide +kernel
theorem dX10_swapped_49 : decode cX10_swapped 49 = .ok (.aload_n 0, 1) := by decide +kernel
theorem dX10_swapped_50 : decode cX10_swapped 50 = .ok (.getfield 45, 3) := by decide +kernel
theorem dX10_swapped_53 : decode cX10_swapped 53 = .ok (.iload 5, 2) := by decide +kernel
theorem dX10_swapped_55 : decode cX10_swapped 55 = .ok (.iload 6, 2) := by decide +kernel
theorem dX10_swapped_57 : decode cX10_swapped 57 = .ok (.iastore, 1) := by decide +kernel
theorem dX10_swapped_58 : decode cX10_swapped 58 = .ok (.aload_n 0, 1) := by decide +kernel
theorem dX10_swapped_59 : decode cX10_swapped 59 = .ok (.invokevirtual 274, 3) := by decide +kernel
theorem dX10_swapped_62 : decode cX10_swapped 62 = .ok (.aload_n 0, 1) := by decide +kernel
theorem dX10_swapped_63 : decode cX10_swapped 63 = .ok (.iconst 0, 1) := by decide +kernel
theorem dX10_swapped_64 : decode cX10_swapped 64 = .ok (.iconst 0, 1) := by decide +kernel
theorem dX10_swapped_65 : decode cX10_swapped 65 = .ok (.invokevirtual 289, 3) := by decide +kernel
theorem dX10_swapped_68 : decode cX10_swapped 68 = .ok (.ireturn, 1) := by decide +kernel
def fX10_swapped (a0 : Nat) (a1 : Int32) (a2 : Int32) (a3 : Int32) (h : hp_T) : Option (Int32 × hp_T) := fx_b1 (fX10_takesStart a0 h) fun (h1 : hp_T) => fx_b2 (fX10_two a1 (a2 - (1 : Int32)) (6 : Int32) h1) fun (r10 : Int32) (h10 : hp_T) => fx_b2 (fX10_two a1 (a3 - (1 : Int32)) (6 : Int32) h10) fun (r21 : Int32) (h21 : hp_T) => fx_g (fx_in r10 12) (fx_let (h21.1 (h21.2.2 a0 24) (fx_ix r10)) fun (x33 : Int32) => fx_g (fx_in r21 12) (fx_g (fx_in r10 12) (fx_let (hp_sI h21 (h21.2.2 a0 24) (fx_ix r10) (h21.1 (h21.2.2 a0 24) (fx_ix r21))) fun (h48 : hp_T) => fx_g (fx_in r21 12) (fx_let (hp_sI h48 (h48.2.2 a0 24) (fx_ix r21) x33) fun (h57 : hp_T) => fx_b1 (fX10_laysValues a0 h57) fun (h59 : hp_T) => fx_b2 (fX10_tableAt a0 (0 : Int32) (0 : Int32) h59) fun (r65 : Int32) (h65 : hp_T) => some (r65, h65)))))
set_option maxRecDepth 100000 in
set_option maxHeartbeats 4000000 in
theorem mX10_swapped (l : Launch) (G : xr_G) (a0 : Nat) (a1 : Int32) (a2 : Int32) (a3 : Int32) (ta0 : hp_sh a0 = (10, 0)) (h h1 : hp_T) (r : Int32) (hF : fX10_swapped a0 a1 a2 a3 h = some (r, h1)) : xr_M l G yX10_swapped cX10_swapped 7 (xr_R 5 121) (some .int) [.ref (G.2.2.1 a0), .int a1, .int a2, .int a3] h (xr_Qi G r h1) := by
  refine xr_start rfl (Nat.le_of_ble_eq_true rfl) (fun K C => ?_)
  show xr_j l G K 7 h [(0, .ref (G.2.2.1 a0)), (1, .int a1), (2, .int a2), (3, .int a3)] 0 []
  unfold fX10_swapped at hF
  refine xr_aload_n C 0 dX10_swapped_0 rfl rfl ?_
  obtain ⟨h1, e1, hF⟩ := fx_b1E hF
  refine xr_callVv C mvX10_283 [] [] (mX10_takesStart l G a0 ta0 h h1 e1) ta0 (by decide) vc10 rfl ⟨rfl, rfl, (Nat.le_of_ble_eq_true rfl), (Nat.le_of_ble_eq_true rfl)⟩ rfl (Nat.le_of_ble_eq_true rfl) dX10_swapped_1 ?_
  refine xr_iload_n C 1 dX10_swapped_4 rfl rfl ?_
  refine xr_iload_n C 2 dX10_swapped_5 rfl rfl ?_
  refine xr_iconst (v := 1) C dX10_swapped_6 (by decide) ?_
  refine xr_isub C dX10_swapped_7 ?_
  refine xr_bipush (v := 6) C dX10_swapped_8 (by decide) ?_
  obtain ⟨r10, h10, e10, hF⟩ := fx_b2E hF
  refine xr_callSi C mvX10_167 [.int a1, .int (a2 - (1 : Int32)), .int (6 : Int32)] [] (mX10_two l G a1 (a2 - (1 : Int32)) (6 : Int32)  h1 h10 r10 e10) rfl ⟨rfl, rfl, (Nat.le_of_ble_eq_true rfl), (Nat.le_of_ble_eq_true rfl)⟩ rfl (Nat.le_of_ble_eq_true rfl) dX10_swapped_10 ?_
  refine xr_istore C [(4, .int r10), (0, .ref (G.2.2.1 a0)), (1, .int a1), (2, .int a2), (3, .int a3)] dX10_swapped_13 (Nat.le_of_ble_eq_true rfl) rfl ?_
  refine xr_iload_n C 2 dX10_swapped_15 rfl rfl ?_
  refine xr_iload_n C 4 dX10_swapped_16 rfl rfl ?_
  refine xr_iconst (v := 1) C dX10_swapped_17 (by decide) ?_
  refine xr_isub C dX10_swapped_18 ?_
  refine xr_bipush (v := 6) C dX10_swapped_19 (by decide) ?_
  obtain ⟨r21, h21, e21, hF⟩ := fx_b2E hF
  refine xr_callSi C mvX10_167 [.int a1, .int (a3 - (1 : Int32)), .int (6 : Int32)] [] (mX10_two l G a1 (a3 - (1 : Int32)) (6 : Int32)  h10 h21 r21 e21) rfl ⟨rfl, rfl, (Nat.le_of_ble_eq_true rfl), (Nat.le_of_ble_eq_true rfl)⟩ rfl (Nat.le_of_ble_eq_true rfl) dX10_swapped_21 ?_
  refine xr_istore C [(5, .int r21), (4, .int r10), (0, .ref (G.2.2.1 a0)), (1, .int a1), (2, .int a2), (3, .int a3)] dX10_swapped_24 (Nat.le_of_ble_eq_true rfl) rfl ?_
  refine xr_aload_n C 2 dX10_swapped_26 rfl rfl ?_
  refine xr_getr C flX10_45 rfl (by decide) dX10_swapped_27 ta0 (fun t27 => ?_)
  refine xr_iload C 1 dX10_swapped_30 rfl ?_
  obtain ⟨g32, hF⟩ := fx_gE hF
  refine xr_iald C dX10_swapped_32 t27 g32 ?_
  refine xr_topi (fun x33 e33 => ?_)
  have hF := fx_letE hF x33 e33
  refine xr_istore C [(6, .int x33), (5, .int r21), (4, .int r10), (0, .ref (G.2.2.1 a0)), (1, .int a1), (2, .int a2), (3, .int a3)] dX10_swapped_33 (Nat.le_of_ble_eq_true rfl) rfl ?_
  refine xr_aload_n C 3 dX10_swapped_35 rfl rfl ?_
  refine xr_getr C flX10_45 rfl (by decide) dX10_swapped_36 ta0 (fun t36 => ?_)
  refine xr_iload C 2 dX10_swapped_39 rfl ?_
  refine xr_aload_n C 3 dX10_swapped_41 rfl rfl ?_
  refine xr_getr C flX10_45 rfl (by decide) dX10_swapped_42 ta0 (fun t42 => ?_)
  refine xr_iload C 1 dX10_swapped_45 rfl ?_
  obtain ⟨g47, hF⟩ := fx_gE hF
  refine xr_iald C dX10_swapped_47 t42 g47 ?_
  obtain ⟨g48, hF⟩ := fx_gE hF
  refine xr_iast C dX10_swapped_48 t36 g48 (fun h48 e48 => ?_)
  have hF := fx_letE hF h48 e48
  refine xr_aload_n C 3 dX10_swapped_49 rfl rfl ?_
  refine xr_getr C flX10_45 rfl (by decide) dX10_swapped_50 ta0 (fun t50 => ?_)
  refine xr_iload C 1 dX10_swapped_53 rfl ?_
  refine xr_iload C 0 dX10_swapped_55 rfl ?_
  obtain ⟨g57, hF⟩ := fx_gE hF
  refine xr_iast C dX10_swapped_57 t50 g57 (fun h57 e57 => ?_)
  have hF := fx_letE hF h57 e57
  refine xr_aload_n C 3 dX10_swapped_58 rfl rfl ?_
  obtain ⟨h59, e59, hF⟩ := fx_b1E hF
  refine xr_callVv C mvX10_274 [] [] (mX10_laysValues l G a0 ta0 h57 h59 e59) ta0 (by decide) vc10 rfl ⟨rfl, rfl, (Nat.le_of_ble_eq_true rfl), (Nat.le_of_ble_eq_true rfl)⟩ rfl (Nat.le_of_ble_eq_true rfl) dX10_swapped_59 ?_
  refine xr_aload_n C 3 dX10_swapped_62 rfl rfl ?_
  refine xr_iconst (v := 0) C dX10_swapped_63 (by decide) ?_
  refine xr_iconst (v := 0) C dX10_swapped_64 (by decide) ?_
  obtain ⟨r65, h65, e65, hF⟩ := fx_b2E hF
  refine xr_callVi C mvX10_289 [.int (0 : Int32), .int (0 : Int32)] [] (mX10_tableAt l G a0 (0 : Int32) (0 : Int32) ta0 h59 h65 r65 e65) ta0 (by decide) vc10 rfl ⟨rfl, rfl, (Nat.le_of_ble_eq_true rfl), (Nat.le_of_ble_eq_true rfl)⟩ rfl (Nat.le_of_ble_eq_true rfl) dX10_swapped_65 ?_
  cases hF
  exact xr_iret C dX10_swapped_68
theorem dX10_ifSwapped_0 : decode cX10_ifSwapped 0 = .ok (.aload_n 0, 1) := by decide +kernel
theorem dX10_ifSwapped_1 : decode cX10_ifSwapped 1 = .ok (.iconst 0, 1) := by decide +kernel
theorem dX10_ifSwapped_2 : decode cX10_ifSwapped 2 = .ok (.putfield 63, 3) := by decide +kernel
theorem dX10_ifSwapped_5 : decode cX10_ifSwapped 5 = .ok (.aload_n 0, 1) := by decide +kernel
theorem dX10_ifSwapped_6 : decode cX10_ifSwapped 6 = .ok (.iload_n 1, 1) := by decide +kernel
theorem dX10_ifSwapped_7 : decode cX10_ifSwapped 7 = .ok (.invokevirtual 180, 3) := by decide +kernel
theorem dX10_ifSwapped_10 : decode cX10_ifSwapped 10 = .ok (.ifCond .eq 32, 3) := by decide +kernel
theorem dX10_ifSwapped_13 : decode cX10_ifSwapped 13 = .ok (.iload_n 2, 1) := by decide +kernel
theorem dX10_ifSwapped_14 : decode cX10_ifSwapped 14 = .ok (.invokestatic 205, 3) := by decide +kernel
theorem dX10_ifSwapped_17 : decode cX10_ifSwapped 17 = .ok (.ifCond .eq 25, 3) := by decide +kernel
theorem dX10_ifSwapped_20 : decode cX10_ifSwapped 20 = .ok (.iload_n 3, 1) := by decide +kernel
theorem dX10_ifSwapped_21 : decode cX10_ifSwapped 21 = .ok (.invokestatic 205, 3) := by decide +kernel
theorem dX10_ifSwapped_24 : decode cX10_ifSwapped 24 = .ok (.ifCond .eq 18, 3) := by decide +kernel
theorem dX10_ifSwapped_27 : decode cX10_ifSwapped 27 = .ok (.iload_n 2, 1) := by decide +kernel
theorem dX10_ifSwapped_28 : decode cX10_ifSwapped 28 = .ok (.iload_n 3, 1) := by decide +kernel
theorem dX10_ifSwapped_29 : decode cX10_ifSwapped 29 = .ok (.if_icmp .eq 13, 3) := by decide +kernel
theorem dX10_ifSwapped_32 : decode cX10_ifSwapped 32 = .ok (.aload_n 0, 1) := by decide +kernel
theorem dX10_ifSwapped_33 : decode cX10_ifSwapped 33 = .ok (.iload_n 1, 1) := by decide +kernel
theorem dX10_ifSwapped_34 : decode cX10_ifSwapped 34 = .ok (.iload_n 2, 1) := by decide +kernel
theorem dX10_ifSwapped_35 : decode cX10_ifSwapped 35 = .ok (.iload_n 3, 1) := by decide +kernel
theorem dX10_ifSwapped_36 : decode cX10_ifSwapped 36 = .ok (.invokevirtual 330, 3) := by decide +kernel
theorem dX10_ifSwapped_39 : decode cX10_ifSwapped 39 = .ok (.goto 4, 3) := by decide +kernel
theorem dX10_ifSwapped_42 : decode cX10_ifSwapped 42 = .ok (.iconst (-1), 1) := by decide +kernel
theorem dX10_ifSwapped_43 : decode cX10_ifSwapped 43 = .ok (.ireturn, 1) := by decide +kernel
def fX10_ifSwapped (a0 : Nat) (a1 : Int32) (a2 : Int32) (a3 : Int32) (h : hp_T) : Option (Int32 × hp_T) := fx_let (hp_sI h a0 0 (0 : Int32)) fun (h2 : hp_T) => fx_b2 (fX10_isSide a0 a1 h2) fun (r7 : Int32) (h7 : hp_T) => if r7 = 0 then (some ((-1 : Int32), h7)) else (fx_b2 (fX10_isSpot a2 h7) fun (r14 : Int32) (h14 : hp_T) => if r14 = 0 then (some ((-1 : Int32), h14)) else (fx_b2 (fX10_isSpot a3 h14) fun (r21 : Int32) (h21 : hp_T) => if r21 = 0 then (some ((-1 : Int32), h21)) else (if a2 = a3 then (some ((-1 : Int32), h21)) else (fx_b2 (fX10_swapped a0 a1 a2 a3 h21) fun (r36 : Int32) (h36 : hp_T) => some (r36, h36)))))
set_option maxRecDepth 100000 in
set_option maxHeartbeats 4000000 in
theorem mX10_ifSwapped (l : Launch) (G : xr_G) (a0 : Nat) (a1 : Int32) (a2 : Int32) (a3 : Int32) (ta0 : hp_sh a0 = (10, 0)) (h h1 : hp_T) (r : Int32) (hF : fX10_ifSwapped a0 a1 a2 a3 h = some (r, h1)) : xr_M l G yX10_ifSwapped cX10_ifSwapped 4 (xr_R 6 147) (some .int) [.ref (G.2.2.1 a0), .int a1, .int a2, .int a3] h (xr_Qi G r h1) := by
  refine xr_start rfl (Nat.le_of_ble_eq_true rfl) (fun K C => ?_)
  show xr_j l G K 4 h [(0, .ref (G.2.2.1 a0)), (1, .int a1), (2, .int a2), (3, .int a3)] 0 []
  unfold fX10_ifSwapped at hF
  refine xr_aload_n C 0 dX10_ifSwapped_0 rfl rfl ?_
  refine xr_iconst (v := 0) C dX10_ifSwapped_1 (by decide) ?_
  refine xr_puti C fpX10_63 rfl rfl rfl dX10_ifSwapped_2 ta0 (fun h2 e2 => ?_)
  have hF := fx_letE hF h2 e2
  refine xr_aload_n C 0 dX10_ifSwapped_5 rfl rfl ?_
  refine xr_iload_n C 1 dX10_ifSwapped_6 rfl rfl ?_
  obtain ⟨r7, h7, e7, hF⟩ := fx_b2E hF
  refine xr_callVi C mvX10_180 [.int a1] [] (mX10_isSide l G a0 a1 ta0 h2 h7 r7 e7) ta0 (by decide) vc10 rfl ⟨rfl, rfl, (Nat.le_of_ble_eq_true rfl), (Nat.le_of_ble_eq_true rfl)⟩ rfl (Nat.le_of_ble_eq_true rfl) dX10_ifSwapped_7 ?_
  refine xr_if_eq C 42 dX10_ifSwapped_10 (by decide) (fun c10 => ?_) (fun c10 => ?_)
  · have hF := fx_pos hF c10
    refine xr_iconst (v := -1) C dX10_ifSwapped_42 (by decide) ?_
    cases hF
    exact xr_iret C dX10_ifSwapped_43
  · have hF := fx_neg hF c10
    refine xr_iload_n C 2 dX10_ifSwapped_13 rfl rfl ?_
    obtain ⟨r14, h14, e14, hF⟩ := fx_b2E hF
    refine xr_callSi C mvX10_205 [.int a2] [] (mX10_isSpot l G a2  h7 h14 r14 e14) rfl ⟨rfl, rfl, (Nat.le_of_ble_eq_true rfl), (Nat.le_of_ble_eq_true rfl)⟩ rfl (Nat.le_of_ble_eq_true rfl) dX10_ifSwapped_14 ?_
    refine xr_if_eq C 42 dX10_ifSwapped_17 (by decide) (fun c17 => ?_) (fun c17 => ?_)
    · have hF := fx_pos hF c17
      refine xr_iconst (v := -1) C dX10_ifSwapped_42 (by decide) ?_
      cases hF
      exact xr_iret C dX10_ifSwapped_43
    · have hF := fx_neg hF c17
      refine xr_iload_n C 3 dX10_ifSwapped_20 rfl rfl ?_
      obtain ⟨r21, h21, e21, hF⟩ := fx_b2E hF
      refine xr_callSi C mvX10_205 [.int a3] [] (mX10_isSpot l G a3  h14 h21 r21 e21) rfl ⟨rfl, rfl, (Nat.le_of_ble_eq_true rfl), (Nat.le_of_ble_eq_true rfl)⟩ rfl (Nat.le_of_ble_eq_true rfl) dX10_ifSwapped_21 ?_
      refine xr_if_eq C 42 dX10_ifSwapped_24 (by decide) (fun c24 => ?_) (fun c24 => ?_)
      · have hF := fx_pos hF c24
        refine xr_iconst (v := -1) C dX10_ifSwapped_42 (by decide) ?_
        cases hF
        exact xr_iret C dX10_ifSwapped_43
      · have hF := fx_neg hF c24
        refine xr_iload_n C 2 dX10_ifSwapped_27 rfl rfl ?_
        refine xr_iload_n C 3 dX10_ifSwapped_28 rfl rfl ?_
        refine xr_icmp_eq C 42 dX10_ifSwapped_29 (by decide) (fun c29 => ?_) (fun c29 => ?_)
        · have hF := fx_pos hF c29
          refine xr_iconst (v := -1) C dX10_ifSwapped_42 (by decide) ?_
          cases hF
          exact xr_iret C dX10_ifSwapped_43
        · have hF := fx_neg hF c29
          refine xr_aload_n C 0 dX10_ifSwapped_32 rfl rfl ?_
          refine xr_iload_n C 1 dX10_ifSwapped_33 rfl rfl ?_
          refine xr_iload_n C 2 dX10_ifSwapped_34 rfl rfl ?_
          refine xr_iload_n C 3 dX10_ifSwapped_35 rfl rfl ?_
          obtain ⟨r36, h36, e36, hF⟩ := fx_b2E hF
          refine xr_callVi C mvX10_330 [.int a1, .int a2, .int a3] [] (mX10_swapped l G a0 a1 a2 a3 ta0 h21 h36 r36 e36) ta0 (by decide) vc10 rfl ⟨rfl, rfl, (Nat.le_of_ble_eq_true rfl), (Nat.le_of_ble_eq_true rfl)⟩ rfl (Nat.le_of_ble_eq_true rfl) dX10_ifSwapped_36 ?_
          refine xr_goto C 43 dX10_ifSwapped_39 (by decide) ?_
          cases hF
          exact xr_iret C dX10_ifSwapped_43
theorem dX10_bestSwap_0 : decode cX10_bestSwap 0 = .ok (.aload_n 0, 1) := by decide +kernel
theorem dX10_bestSwap_1 : decode cX10_bestSwap 1 = .ok (.iconst 0, 1) := by decide +kernel
theorem dX10_bestSwap_2 : decode cX10_bestSwap 2 = .ok (.putfield 63, 3) := by decide +kernel
theorem dX10_bestSwap_5 : decode cX10_bestSwap 5 = .ok (.aload_n 0, 1) := by decide +kernel
theorem dX10_bestSwap_6 : decode cX10_bestSwap 6 = .ok (.iload_n 1, 1) := by decide +kernel
theorem dX10_bestSwap_7 : decode cX10_bestSwap 7 = .ok (.invokevirtual 180, 3) := by decide +kernel
theorem dX10_bestSwap_10 : decode cX10_bestSwap 10 = .ok (.ifCond .eq 12, 3) := by decide +kernel
theorem dX10_bestSwap_13 : decode cX10_bestSwap 13 = .ok (.iload_n 2, 1) := by decide +kernel
theorem dX10_bestSwap_14 : decode cX10_bestSwap 14 = .ok (.ifCond .lt 8, 3) := by decide +kernel
theorem dX10_bestSwap_17 : decode cX10_bestSwap 17 = .ok (.iload_n 2, 1) := by decide +kernel
theorem dX10_bestSwap_18 : decode cX10_bestSwap 18 = .ok (.iconst 2, 1) := by decide +kernel
theorem dX10_bestSwap_19 : decode cX10_bestSwap 19 = .ok (.if_icmp .le 5, 3) := by decide +kernel
theorem dX10_bestSwap_22 : decode cX10_bestSwap 22 = .ok (.iconst (-1), 1) := by decide +kernel
theorem dX10_bestSwap_23 : decode cX10_bestSwap 23 = .ok (.ireturn, 1) := by decide +kernel
theorem dX10_bestSwap_24 : decode cX10_bestSwap 24 = .ok (.iconst 0, 1) := by decide +kernel
theorem dX10_bestSwap_25 : decode cX10_bestSwap 25 = .ok (.istore_n 3, 1) := by decide +kernel
theorem dX10_bestSwap_26 : decode cX10_bestSwap 26 = .ok (.iconst 0, 1) := by decide +kernel
theorem dX10_bestSwap_27 : decode cX10_bestSwap 27 = .ok (.istore 4, 2) := by decide +kernel
theorem dX10_bestSwap_29 : decode cX10_bestSwap 29 = .ok (.iconst 0, 1) := by decide +kernel
theorem dX10_bestSwap_30 : decode cX10_bestSwap 30 = .ok (.istore 5, 2) := by decide +kernel
theorem dX10_bestSwap_32 : decode cX10_bestSwap 32 = .ok (.iconst 1, 1) := by decide +kernel
theorem dX10_bestSwap_33 : decode cX10_bestSwap 33 = .ok (.istore 6, 2) := by decide +kernel
theorem dX10_bestSwap_35 : decode cX10_bestSwap 35 = .ok (.iload 6, 2) := by decide +kernel
theorem dX10_bestSwap_37 : decode cX10_bestSwap 37 = .ok (.bipush 6, 2) := by decide +kernel
theorem dX10_bestSwap_39 : decode cX10_bestSwap 39 = .ok (.if_icmp .gt 90, 3) := by decide +kernel
theorem dX10_bestSwap_42 : decode cX10_bestSwap 42 = .ok (.iload 6, 2) := by decide +kernel
theorem dX10_bestSwap_44 : decode cX10_bestSwap 44 = .ok (.iconst 1, 1) := by decide +kernel
theorem dX10_bestSwap_45 : decode cX10_bestSwap 45 = .ok (.iadd, 1) := by decide +kernel
theorem dX10_bestSwap_46 : decode cX10_bestSwap 46 = .ok (.istore 7, 2) := by decide +kernel
theorem dX10_bestSwap_48 : decode cX10_bestSwap 48 = .ok (.iload 7, 2) := by decide +kernel
theorem dX10_bestSwap_50 : decode cX10_bestSwap 50 = .ok (.bipush 6, 2) := by decide +kernel
theorem dX10_bestSwap_52 : decode cX10_bestSwap 52 = .ok (.if_icmp .gt 71, 3) := by decide +kernel
theorem dX10_bestSwap_55 : decode cX10_bestSwap 55 = .ok (.aload_n 0, 1) := by decide +kernel
theorem dX10_bestSwap_56 : decode cX10_bestSwap 56 = .ok (.iload_n 1, 1) := by decide +kernel
theorem dX10_bestSwap_57 : decode cX10_bestSwap 57 = .ok (.iload 6, 2) := by decide +kernel
theorem dX10_bestSwap_59 : decode cX10_bestSwap 59 = .ok (.iload 7, 2) := by decide +kernel
theorem dX10_bestSwap_61 : decode cX10_bestSwap 61 = .ok (.invokevirtual 330, 3) := by decide +kernel
theorem dX10_bestSwap_64 : decode cX10_bestSwap 64 = .ok (.istore 8, 2) := by decide +kernel
theorem dX10_bestSwap_66 : decode cX10_bestSwap 66 = .ok (.iload_n 3, 1) := by decide +kernel
theorem dX10_bestSwap_67 : decode cX10_bestSwap 67 = .ok (.ifCond .eq 24, 3) := by decide +kernel
theorem dX10_bestSwap_70 : decode cX10_bestSwap 70 = .ok (.iload_n 1, 1) := by decide +kernel
theorem dX10_bestSwap_71 : decode cX10_bestSwap 71 = .ok (.ifCond .ne 13, 3) := by decide +kernel
theorem dX10_bestSwap_74 : decode cX10_bestSwap 74 = .ok (.iload 8, 2) := by decide +kernel
theorem dX10_bestSwap_76 : decode cX10_bestSwap 76 = .ok (.iload 5, 2) := by decide +kernel
theorem dX10_bestSwap_78 : decode cX10_bestSwap 78 = .ok (.if_icmp .le 17, 3) := by decide +kernel
theorem dX10_bestSwap_81 : decode cX10_bestSwap 81 = .ok (.goto 10, 3) := by decide +kernel
theorem dX10_bestSwap_84 : decode cX10_bestSwap 84 = .ok (.iload 8, 2) := by decide +kernel
theorem dX10_bestSwap_86 : decode cX10_bestSwap 86 = .ok (.iload 5, 2) := by decide +kernel
theorem dX10_bestSwap_88 : decode cX10_bestSwap 88 = .ok (.if_icmp .ge 7, 3) := by decide +kernel
theorem dX10_bestSwap_91 : decode cX10_bestSwap 91 = .ok (.iconst 1, 1) := by decide +kernel
theorem dX10_bestSwap_92 : decode cX10_bestSwap 92 = .ok (.goto 4, 3) := by decide +kernel
theorem dX10_bestSwap_95 : decode cX10_bestSwap 95 = .ok (.iconst 0, 1) := by decide +kernel
theorem dX10_bestSwap_96 : decode cX10_bestSwap 96 = .ok (.istore 9, 2) := by decide +kernel
theorem dX10_bestSwap_98 : decode cX10_bestSwap 98 = .ok (.iload 9, 2) := by decide +kernel
theorem dX10_bestSwap_100 : decode cX10_bestSwap 100 = .ok (.ifCond .ne 6, 3) := by decide +kernel
theorem dX10_bestSwap_103 : decode cX10_bestSwap 103 = .ok (.goto 14, 3) := by decide +kernel
theorem dX10_bestSwap_106 : decode cX10_bestSwap 106 = .ok (.iload 6, 2) := by decide +kernel
theorem dX10_bestSwap_108 : decode cX10_bestSwap 108 = .ok (.istore_n 3, 1) := by decide +kernel
theorem dX10_bestSwap_109 : decode cX10_bestSwap 109 = .ok (.iload 7, 2) := by decide +kernel
theorem dX10_bestSwap_111 : decode cX10_bestSwap 111 = .ok (.istore 4, 2) := by decide +kernel
theorem dX10_bestSwap_113 : decode cX10_bestSwap 113 = .ok (.iload 8, 2) := by decide +kernel
theorem dX10_bestSwap_115 : decode cX10_bestSwap 115 = .ok (.istore 5, 2) := by decide +kernel
theorem dX10_bestSwap_117 : decode cX10_bestSwap 117 = .ok (.iinc 7 1, 3) := by decide +kernel
theorem dX10_bestSwap_120 : decode cX10_bestSwap 120 = .ok (.goto (-72), 3) := by decide +kernel
theorem dX10_bestSwap_123 : decode cX10_bestSwap 123 = .ok (.iinc 6 1, 3) := by decide +kernel
theorem dX10_bestSwap_126 : decode cX10_bestSwap 126 = .ok (.goto (-91), 3) := by decide +kernel
theorem dX10_bestSwap_129 : decode cX10_bestSwap 129 = .ok (.iload_n 2, 1) := by decide +kernel
theorem dX10_bestSwap_130 : decode cX10_bestSwap 130 = .ok (.ifCond .ne 7, 3) := by decide +kernel
theorem dX10_bestSwap_133 : decode cX10_bestSwap 133 = .ok (.iload_n 3, 1) := by decide +kernel
theorem dX10_bestSwap_134 : decode cX10_bestSwap 134 = .ok (.goto 15, 3) := by decide +kernel
theorem dX10_bestSwap_137 : decode cX10_bestSwap 137 = .ok (.iload_n 2, 1) := by decide +kernel
theorem dX10_bestSwap_138 : decode cX10_bestSwap 138 = .ok (.iconst 1, 1) := by decide +kernel
theorem dX10_bestSwap_139 : decode cX10_bestSwap 139 = .ok (.if_icmp .ne 8, 3) := by decide +kernel
theorem dX10_bestSwap_142 : decode cX10_bestSwap 142 = .ok (.iload 4, 2) := by decide +kernel
theorem dX10_bestSwap_144 : decode cX10_bestSwap 144 = .ok (.goto 5, 3) := by decide +kernel
theorem dX10_bestSwap_147 : decode cX10_bestSwap 147 = .ok (.iload 5, 2) := by decide +kernel
theorem dX10_bestSwap_149 : decode cX10_bestSwap 149 = .ok (.ireturn, 1) := by decide +kernel
def fX10_bestSwap_117 (k35 : Nat → Int32 → Int32 → Int32 → Int32 → Int32 → Int32 → hp_T → Option (Int32 × hp_T)) (k48 : Nat → Int32 → Int32 → Int32 → Int32 → Int32 → Int32 → Int32 → hp_T → Option (Int32 × hp_T)) (a0 : Nat) (a1 : Int32) (a2 : Int32) (a3 : Int32) (a4 : Int32) (a5 : Int32) (a6 : Int32) (a7 : Int32) (h : hp_T) : Option (Int32 × hp_T) := fx_let (a7 + (1 : Int32)) fun (x117 : Int32) => k48 a0 a1 a2 a3 a4 a5 a6 x117 h
set_option maxRecDepth 100000 in
set_option maxHeartbeats 4000000 in
theorem bX10_bestSwap_117 {l : Launch} {G : xr_G} {K : xr_K} {r : Int32} {h1 : hp_T} (C : xr_C G K cX10_bestSwap RX10 10 (xr_R 6 147) (some .int) (some (xr_Qi G r h1))) (k35 : Nat → Int32 → Int32 → Int32 → Int32 → Int32 → Int32 → hp_T → Option (Int32 × hp_T)) (j35 : ∀ (a0 : Nat) (a1 : Int32) (a2 : Int32) (a3 : Int32) (a4 : Int32) (a5 : Int32) (a6 : Int32) (ta0 : hp_sh a0 = (10, 0)) (h : hp_T), k35 a0 a1 a2 a3 a4 a5 a6 h = some (r, h1) → xr_j l G K 10 h [(0, .ref (G.2.2.1 a0)), (1, .int a1), (2, .int a2), (3, .int a3), (4, .int a4), (5, .int a5), (6, .int a6)] 35 []) (k48 : Nat → Int32 → Int32 → Int32 → Int32 → Int32 → Int32 → Int32 → hp_T → Option (Int32 × hp_T)) (j48 : ∀ (a0 : Nat) (a1 : Int32) (a2 : Int32) (a3 : Int32) (a4 : Int32) (a5 : Int32) (a6 : Int32) (a7 : Int32) (ta0 : hp_sh a0 = (10, 0)) (h : hp_T), k48 a0 a1 a2 a3 a4 a5 a6 a7 h = some (r, h1) → xr_j l G K 10 h [(0, .ref (G.2.2.1 a0)), (1, .int a1), (2, .int a2), (3, .int a3), (4, .int a4), (5, .int a5), (6, .int a6), (7, .int a7)] 48 []) (a0 : Nat) (a1 : Int32) (a2 : Int32) (a3 : Int32) (a4 : Int32) (a5 : Int32) (a6 : Int32) (a7 : Int32) (ta0 : hp_sh a0 = (10, 0)) (h : hp_T) (hF : fX10_bestSwap_117 k35 k48 a0 a1 a2 a3 a4 a5 a6 a7 h = some (r, h1)) : xr_j l G K 10 h [(0, .ref (G.2.2.1 a0)), (1, .int a1), (2, .int a2), (3, .int a3), (4, .int a4), (5, .int a5), (6, .int a6), (7, .int a7)] 117 [] := by
  unfold fX10_bestSwap_117 at hF
  obtain ⟨x117, e117⟩ : ∃ y : Int32, y = (a7 + (1 : Int32)) := ⟨_, rfl⟩
  have hF := fx_letE hF x117 e117
  refine xr_iinc C x117 7 [(7, .int x117), (0, .ref (G.2.2.1 a0)), (1, .int a1), (2, .int a2), (3, .int a3), (4, .int a4), (5, .int a5), (6, .int a6)] dX10_bestSwap_117 rfl (by rw [e117]; rfl) (Nat.le_of_ble_eq_true rfl) rfl ?_
  refine xr_goto C 48 dX10_bestSwap_120 (by decide) ?_
  refine xr_sub [1, 2, 3, 4, 5, 6, 7, 0] [(0, .ref (G.2.2.1 a0)), (1, .int a1), (2, .int a2), (3, .int a3), (4, .int a4), (5, .int a5), (6, .int a6), (7, .int x117)] rfl ?_
  exact j48 a0 a1 a2 a3 a4 a5 a6 x117 ta0 h hF
def fX10_bestSwap_96 (k35 : Nat → Int32 → Int32 → Int32 → Int32 → Int32 → Int32 → hp_T → Option (Int32 × hp_T)) (k48 : Nat → Int32 → Int32 → Int32 → Int32 → Int32 → Int32 → Int32 → hp_T → Option (Int32 × hp_T)) (a0 : Nat) (a1 : Int32) (a2 : Int32) (a3 : Int32) (a4 : Int32) (a5 : Int32) (a6 : Int32) (a7 : Int32) (a8 : Int32) (s0 : Int32) (h : hp_T) : Option (Int32 × hp_T) := if s0 = 0 then (fX10_bestSwap_117 k35 k48 a0 a1 a2 a3 a4 a5 a6 a7 h) else (fX10_bestSwap_117 k35 k48 a0 a1 a2 a6 a7 a8 a6 a7 h)
set_option maxRecDepth 100000 in
set_option maxHeartbeats 4000000 in
theorem bX10_bestSwap_96 {l : Launch} {G : xr_G} {K : xr_K} {r : Int32} {h1 : hp_T} (C : xr_C G K cX10_bestSwap RX10 10 (xr_R 6 147) (some .int) (some (xr_Qi G r h1))) (k35 : Nat → Int32 → Int32 → Int32 → Int32 → Int32 → Int32 → hp_T → Option (Int32 × hp_T)) (j35 : ∀ (a0 : Nat) (a1 : Int32) (a2 : Int32) (a3 : Int32) (a4 : Int32) (a5 : Int32) (a6 : Int32) (ta0 : hp_sh a0 = (10, 0)) (h : hp_T), k35 a0 a1 a2 a3 a4 a5 a6 h = some (r, h1) → xr_j l G K 10 h [(0, .ref (G.2.2.1 a0)), (1, .int a1), (2, .int a2), (3, .int a3), (4, .int a4), (5, .int a5), (6, .int a6)] 35 []) (k48 : Nat → Int32 → Int32 → Int32 → Int32 → Int32 → Int32 → Int32 → hp_T → Option (Int32 × hp_T)) (j48 : ∀ (a0 : Nat) (a1 : Int32) (a2 : Int32) (a3 : Int32) (a4 : Int32) (a5 : Int32) (a6 : Int32) (a7 : Int32) (ta0 : hp_sh a0 = (10, 0)) (h : hp_T), k48 a0 a1 a2 a3 a4 a5 a6 a7 h = some (r, h1) → xr_j l G K 10 h [(0, .ref (G.2.2.1 a0)), (1, .int a1), (2, .int a2), (3, .int a3), (4, .int a4), (5, .int a5), (6, .int a6), (7, .int a7)] 48 []) (a0 : Nat) (a1 : Int32) (a2 : Int32) (a3 : Int32) (a4 : Int32) (a5 : Int32) (a6 : Int32) (a7 : Int32) (a8 : Int32) (s0 : Int32) (ta0 : hp_sh a0 = (10, 0)) (h : hp_T) (hF : fX10_bestSwap_96 k35 k48 a0 a1 a2 a3 a4 a5 a6 a7 a8 s0 h = some (r, h1)) : xr_j l G K 10 h [(0, .ref (G.2.2.1 a0)), (1, .int a1), (2, .int a2), (3, .int a3), (4, .int a4), (5, .int a5), (6, .int a6), (7, .int a7), (8, .int a8)] 96 [.int s0] := by
  unfold fX10_bestSwap_96 at hF
  refine xr_istore C [(9, .int s0), (0, .ref (G.2.2.1 a0)), (1, .int a1), (2, .int a2), (3, .int a3), (4, .int a4), (5, .int a5), (6, .int a6), (7, .int a7), (8, .int a8)] dX10_bestSwap_96 (Nat.le_of_ble_eq_true rfl) rfl ?_
  refine xr_iload C 0 dX10_bestSwap_98 rfl ?_
  refine xr_if_ne C 106 dX10_bestSwap_100 (by decide) (fun c100 => ?_) (fun c100 => ?_)
  · have hF := fx_neg hF c100
    refine xr_iload C 7 dX10_bestSwap_106 rfl ?_
    refine xr_istore_n C [(3, .int a6), (9, .int s0), (0, .ref (G.2.2.1 a0)), (1, .int a1), (2, .int a2), (4, .int a4), (5, .int a5), (6, .int a6), (7, .int a7), (8, .int a8)] dX10_bestSwap_108 rfl (Nat.le_of_ble_eq_true rfl) rfl ?_
    refine xr_iload C 8 dX10_bestSwap_109 rfl ?_
    refine xr_istore C [(4, .int a7), (3, .int a6), (9, .int s0), (0, .ref (G.2.2.1 a0)), (1, .int a1), (2, .int a2), (5, .int a5), (6, .int a6), (7, .int a7), (8, .int a8)] dX10_bestSwap_111 (Nat.le_of_ble_eq_true rfl) rfl ?_
    refine xr_iload C 9 dX10_bestSwap_113 rfl ?_
    refine xr_istore C [(5, .int a8), (4, .int a7), (3, .int a6), (9, .int s0), (0, .ref (G.2.2.1 a0)), (1, .int a1), (2, .int a2), (6, .int a6), (7, .int a7), (8, .int a8)] dX10_bestSwap_115 (Nat.le_of_ble_eq_true rfl) rfl ?_
    refine xr_sub [4, 5, 6, 2, 1, 0, 7, 8] [(0, .ref (G.2.2.1 a0)), (1, .int a1), (2, .int a2), (3, .int a6), (4, .int a7), (5, .int a8), (6, .int a6), (7, .int a7)] rfl ?_
    exact bX10_bestSwap_117 C k35 j35 k48 j48  a0 a1 a2 a6 a7 a8 a6 a7 ta0 h hF
  · have hF := fx_pos hF c100
    refine xr_goto C 117 dX10_bestSwap_103 (by decide) ?_
    refine xr_sub [1, 2, 3, 4, 5, 6, 7, 8] [(0, .ref (G.2.2.1 a0)), (1, .int a1), (2, .int a2), (3, .int a3), (4, .int a4), (5, .int a5), (6, .int a6), (7, .int a7)] rfl ?_
    exact bX10_bestSwap_117 C k35 j35 k48 j48  a0 a1 a2 a3 a4 a5 a6 a7 ta0 h hF
def fX10_bestSwap_95 (k35 : Nat → Int32 → Int32 → Int32 → Int32 → Int32 → Int32 → hp_T → Option (Int32 × hp_T)) (k48 : Nat → Int32 → Int32 → Int32 → Int32 → Int32 → Int32 → Int32 → hp_T → Option (Int32 × hp_T)) (a0 : Nat) (a1 : Int32) (a2 : Int32) (a3 : Int32) (a4 : Int32) (a5 : Int32) (a6 : Int32) (a7 : Int32) (a8 : Int32) (h : hp_T) : Option (Int32 × hp_T) := fX10_bestSwap_96 k35 k48 a0 a1 a2 a3 a4 a5 a6 a7 a8 (0 : Int32) h
set_option maxRecDepth 100000 in
set_option maxHeartbeats 4000000 in
theorem bX10_bestSwap_95 {l : Launch} {G : xr_G} {K : xr_K} {r : Int32} {h1 : hp_T} (C : xr_C G K cX10_bestSwap RX10 10 (xr_R 6 147) (some .int) (some (xr_Qi G r h1))) (k35 : Nat → Int32 → Int32 → Int32 → Int32 → Int32 → Int32 → hp_T → Option (Int32 × hp_T)) (j35 : ∀ (a0 : Nat) (a1 : Int32) (a2 : Int32) (a3 : Int32) (a4 : Int32) (a5 : Int32) (a6 : Int32) (ta0 : hp_sh a0 = (10, 0)) (h : hp_T), k35 a0 a1 a2 a3 a4 a5 a6 h = some (r, h1) → xr_j l G K 10 h [(0, .ref (G.2.2.1 a0)), (1, .int a1), (2, .int a2), (3, .int a3), (4, .int a4), (5, .int a5), (6, .int a6)] 35 []) (k48 : Nat → Int32 → Int32 → Int32 → Int32 → Int32 → Int32 → Int32 → hp_T → Option (Int32 × hp_T)) (j48 : ∀ (a0 : Nat) (a1 : Int32) (a2 : Int32) (a3 : Int32) (a4 : Int32) (a5 : Int32) (a6 : Int32) (a7 : Int32) (ta0 : hp_sh a0 = (10, 0)) (h : hp_T), k48 a0 a1 a2 a3 a4 a5 a6 a7 h = some (r, h1) → xr_j l G K 10 h [(0, .ref (G.2.2.1 a0)), (1, .int a1), (2, .int a2), (3, .int a3), (4, .int a4), (5, .int a5), (6, .int a6), (7, .int a7)] 48 []) (a0 : Nat) (a1 : Int32) (a2 : Int32) (a3 : Int32) (a4 : Int32) (a5 : Int32) (a6 : Int32) (a7 : Int32) (a8 : Int32) (ta0 : hp_sh a0 = (10, 0)) (h : hp_T) (hF : fX10_bestSwap_95 k35 k48 a0 a1 a2 a3 a4 a5 a6 a7 a8 h = some (r, h1)) : xr_j l G K 10 h [(0, .ref (G.2.2.1 a0)), (1, .int a1), (2, .int a2), (3, .int a3), (4, .int a4), (5, .int a5), (6, .int a6), (7, .int a7), (8, .int a8)] 95 [] := by
  unfold fX10_bestSwap_95 at hF
  refine xr_iconst (v := 0) C dX10_bestSwap_95 (by decide) ?_
  exact bX10_bestSwap_96 C k35 j35 k48 j48  a0 a1 a2 a3 a4 a5 a6 a7 a8 (0 : Int32) ta0 h hF
def fX10_bestSwap_91 (k35 : Nat → Int32 → Int32 → Int32 → Int32 → Int32 → Int32 → hp_T → Option (Int32 × hp_T)) (k48 : Nat → Int32 → Int32 → Int32 → Int32 → Int32 → Int32 → Int32 → hp_T → Option (Int32 × hp_T)) (a0 : Nat) (a1 : Int32) (a2 : Int32) (a3 : Int32) (a4 : Int32) (a5 : Int32) (a6 : Int32) (a7 : Int32) (a8 : Int32) (h : hp_T) : Option (Int32 × hp_T) := fX10_bestSwap_96 k35 k48 a0 a1 a2 a3 a4 a5 a6 a7 a8 (1 : Int32) h
set_option maxRecDepth 100000 in
set_option maxHeartbeats 4000000 in
theorem bX10_bestSwap_91 {l : Launch} {G : xr_G} {K : xr_K} {r : Int32} {h1 : hp_T} (C : xr_C G K cX10_bestSwap RX10 10 (xr_R 6 147) (some .int) (some (xr_Qi G r h1))) (k35 : Nat → Int32 → Int32 → Int32 → Int32 → Int32 → Int32 → hp_T → Option (Int32 × hp_T)) (j35 : ∀ (a0 : Nat) (a1 : Int32) (a2 : Int32) (a3 : Int32) (a4 : Int32) (a5 : Int32) (a6 : Int32) (ta0 : hp_sh a0 = (10, 0)) (h : hp_T), k35 a0 a1 a2 a3 a4 a5 a6 h = some (r, h1) → xr_j l G K 10 h [(0, .ref (G.2.2.1 a0)), (1, .int a1), (2, .int a2), (3, .int a3), (4, .int a4), (5, .int a5), (6, .int a6)] 35 []) (k48 : Nat → Int32 → Int32 → Int32 → Int32 → Int32 → Int32 → Int32 → hp_T → Option (Int32 × hp_T)) (j48 : ∀ (a0 : Nat) (a1 : Int32) (a2 : Int32) (a3 : Int32) (a4 : Int32) (a5 : Int32) (a6 : Int32) (a7 : Int32) (ta0 : hp_sh a0 = (10, 0)) (h : hp_T), k48 a0 a1 a2 a3 a4 a5 a6 a7 h = some (r, h1) → xr_j l G K 10 h [(0, .ref (G.2.2.1 a0)), (1, .int a1), (2, .int a2), (3, .int a3), (4, .int a4), (5, .int a5), (6, .int a6), (7, .int a7)] 48 []) (a0 : Nat) (a1 : Int32) (a2 : Int32) (a3 : Int32) (a4 : Int32) (a5 : Int32) (a6 : Int32) (a7 : Int32) (a8 : Int32) (ta0 : hp_sh a0 = (10, 0)) (h : hp_T) (hF : fX10_bestSwap_91 k35 k48 a0 a1 a2 a3 a4 a5 a6 a7 a8 h = some (r, h1)) : xr_j l G K 10 h [(0, .ref (G.2.2.1 a0)), (1, .int a1), (2, .int a2), (3, .int a3), (4, .int a4), (5, .int a5), (6, .int a6), (7, .int a7), (8, .int a8)] 91 [] := by
  unfold fX10_bestSwap_91 at hF
  refine xr_iconst (v := 1) C dX10_bestSwap_91 (by decide) ?_
  refine xr_goto C 96 dX10_bestSwap_92 (by decide) ?_
  exact bX10_bestSwap_96 C k35 j35 k48 j48  a0 a1 a2 a3 a4 a5 a6 a7 a8 (1 : Int32) ta0 h hF
def fX10_bestSwap_48 (k35 : Nat → Int32 → Int32 → Int32 → Int32 → Int32 → Int32 → hp_T → Option (Int32 × hp_T)) : Nat → Nat → Int32 → Int32 → Int32 → Int32 → Int32 → Int32 → Int32 → hp_T → Option (Int32 × hp_T)
  | 0, _, _, _, _, _, _, _, _, _ => none
  | n + 1, a0, a1, a2, a3, a4, a5, a6, a7, h => if (6 : Int32) < a7 then (fx_let (a6 + (1 : Int32)) fun (x123 : Int32) => k35 a0 a1 a2 a3 a4 a5 x123 h) else (fx_b2 (fX10_swapped a0 a1 a6 a7 h) fun (r61 : Int32) (h61 : hp_T) => if a3 = 0 then (fX10_bestSwap_91 k35 (fX10_bestSwap_48 k35 n) a0 a1 a2 a3 a4 a5 a6 a7 r61 h61) else (if a1 = 0 then (if r61 ≤ a5 then (fX10_bestSwap_95 k35 (fX10_bestSwap_48 k35 n) a0 a1 a2 a3 a4 a5 a6 a7 r61 h61) else (fX10_bestSwap_91 k35 (fX10_bestSwap_48 k35 n) a0 a1 a2 a3 a4 a5 a6 a7 r61 h61)) else (if a5 ≤ r61 then (fX10_bestSwap_95 k35 (fX10_bestSwap_48 k35 n) a0 a1 a2 a3 a4 a5 a6 a7 r61 h61) else (fX10_bestSwap_91 k35 (fX10_bestSwap_48 k35 n) a0 a1 a2 a3 a4 a5 a6 a7 r61 h61))))
set_option maxRecDepth 100000 in
set_option maxHeartbeats 4000000 in
theorem bX10_bestSwap_48 {l : Launch} {G : xr_G} {K : xr_K} {r : Int32} {h1 : hp_T} (C : xr_C G K cX10_bestSwap RX10 10 (xr_R 6 147) (some .int) (some (xr_Qi G r h1))) (k35 : Nat → Int32 → Int32 → Int32 → Int32 → Int32 → Int32 → hp_T → Option (Int32 × hp_T)) (j35 : ∀ (a0 : Nat) (a1 : Int32) (a2 : Int32) (a3 : Int32) (a4 : Int32) (a5 : Int32) (a6 : Int32) (ta0 : hp_sh a0 = (10, 0)) (h : hp_T), k35 a0 a1 a2 a3 a4 a5 a6 h = some (r, h1) → xr_j l G K 10 h [(0, .ref (G.2.2.1 a0)), (1, .int a1), (2, .int a2), (3, .int a3), (4, .int a4), (5, .int a5), (6, .int a6)] 35 []) : ∀ (n : Nat) (a0 : Nat) (a1 : Int32) (a2 : Int32) (a3 : Int32) (a4 : Int32) (a5 : Int32) (a6 : Int32) (a7 : Int32) (ta0 : hp_sh a0 = (10, 0)) (h : hp_T), fX10_bestSwap_48 k35 n a0 a1 a2 a3 a4 a5 a6 a7 h = some (r, h1) → xr_j l G K 10 h [(0, .ref (G.2.2.1 a0)), (1, .int a1), (2, .int a2), (3, .int a3), (4, .int a4), (5, .int a5), (6, .int a6), (7, .int a7)] 48 [] := by
  intro n
  induction n with
  | zero =>
    intro a0 a1 a2 a3 a4 a5 a6 a7 ta0 h hF
    cases hF
  | succ n ih =>
    intro a0 a1 a2 a3 a4 a5 a6 a7 ta0 h hF
    rw [fX10_bestSwap_48] at hF
    refine xr_iload C 7 dX10_bestSwap_48 rfl ?_
    refine xr_bipush (v := 6) C dX10_bestSwap_50 (by decide) ?_
    refine xr_icmp_gt C 123 dX10_bestSwap_52 (by decide) (fun c52 => ?_) (fun c52 => ?_)
    · have hF := fx_pos hF c52
      obtain ⟨x123, e123⟩ : ∃ y : Int32, y = (a6 + (1 : Int32)) := ⟨_, rfl⟩
      have hF := fx_letE hF x123 e123
      refine xr_iinc C x123 6 [(6, .int x123), (0, .ref (G.2.2.1 a0)), (1, .int a1), (2, .int a2), (3, .int a3), (4, .int a4), (5, .int a5), (7, .int a7)] dX10_bestSwap_123 rfl (by rw [e123]; rfl) (Nat.le_of_ble_eq_true rfl) rfl ?_
      refine xr_goto C 35 dX10_bestSwap_126 (by decide) ?_
      refine xr_sub [1, 2, 3, 4, 5, 6, 0] [(0, .ref (G.2.2.1 a0)), (1, .int a1), (2, .int a2), (3, .int a3), (4, .int a4), (5, .int a5), (6, .int x123)] rfl ?_
      exact j35 a0 a1 a2 a3 a4 a5 x123 ta0 h hF
    · have hF := fx_neg hF c52
      refine xr_aload_n C 0 dX10_bestSwap_55 rfl rfl ?_
      refine xr_iload_n C 1 dX10_bestSwap_56 rfl rfl ?_
      refine xr_iload C 6 dX10_bestSwap_57 rfl ?_
      refine xr_iload C 7 dX10_bestSwap_59 rfl ?_
      obtain ⟨r61, h61, e61, hF⟩ := fx_b2E hF
      refine xr_callVi C mvX10_330 [.int a1, .int a6, .int a7] [] (mX10_swapped l G a0 a1 a6 a7 ta0 h h61 r61 e61) ta0 (by decide) vc10 rfl ⟨rfl, rfl, (Nat.le_of_ble_eq_true rfl), (Nat.le_of_ble_eq_true rfl)⟩ rfl (Nat.le_of_ble_eq_true rfl) dX10_bestSwap_61 ?_
      refine xr_istore C [(8, .int r61), (0, .ref (G.2.2.1 a0)), (1, .int a1), (2, .int a2), (3, .int a3), (4, .int a4), (5, .int a5), (6, .int a6), (7, .int a7)] dX10_bestSwap_64 (Nat.le_of_ble_eq_true rfl) rfl ?_
      refine xr_iload_n C 4 dX10_bestSwap_66 rfl rfl ?_
      refine xr_if_eq C 91 dX10_bestSwap_67 (by decide) (fun c67 => ?_) (fun c67 => ?_)
      · have hF := fx_pos hF c67
        refine xr_sub [1, 2, 3, 4, 5, 6, 7, 8, 0] [(0, .ref (G.2.2.1 a0)), (1, .int a1), (2, .int a2), (3, .int a3), (4, .int a4), (5, .int a5), (6, .int a6), (7, .int a7), (8, .int r61)] rfl ?_
        exact bX10_bestSwap_91 C k35 j35 (fX10_bestSwap_48 k35 n) (fun a0 a1 a2 a3 a4 a5 a6 a7 ta0 h hF => ih a0 a1 a2 a3 a4 a5 a6 a7 ta0 h hF)  a0 a1 a2 a3 a4 a5 a6 a7 r61 ta0 h61 hF
      · have hF := fx_neg hF c67
        refine xr_iload_n C 2 dX10_bestSwap_70 rfl rfl ?_
        refine xr_if_ne C 84 dX10_bestSwap_71 (by decide) (fun c71 => ?_) (fun c71 => ?_)
        · have hF := fx_neg hF c71
          refine xr_iload C 0 dX10_bestSwap_84 rfl ?_
          refine xr_iload C 6 dX10_bestSwap_86 rfl ?_
          refine xr_icmp_ge C 95 dX10_bestSwap_88 (by decide) (fun c88 => ?_) (fun c88 => ?_)
          · have hF := fx_pos hF c88
            refine xr_sub [1, 2, 3, 4, 5, 6, 7, 8, 0] [(0, .ref (G.2.2.1 a0)), (1, .int a1), (2, .int a2), (3, .int a3), (4, .int a4), (5, .int a5), (6, .int a6), (7, .int a7), (8, .int r61)] rfl ?_
            exact bX10_bestSwap_95 C k35 j35 (fX10_bestSwap_48 k35 n) (fun a0 a1 a2 a3 a4 a5 a6 a7 ta0 h hF => ih a0 a1 a2 a3 a4 a5 a6 a7 ta0 h hF)  a0 a1 a2 a3 a4 a5 a6 a7 r61 ta0 h61 hF
          · have hF := fx_neg hF c88
            refine xr_sub [1, 2, 3, 4, 5, 6, 7, 8, 0] [(0, .ref (G.2.2.1 a0)), (1, .int a1), (2, .int a2), (3, .int a3), (4, .int a4), (5, .int a5), (6, .int a6), (7, .int a7), (8, .int r61)] rfl ?_
            exact bX10_bestSwap_91 C k35 j35 (fX10_bestSwap_48 k35 n) (fun a0 a1 a2 a3 a4 a5 a6 a7 ta0 h hF => ih a0 a1 a2 a3 a4 a5 a6 a7 ta0 h hF)  a0 a1 a2 a3 a4 a5 a6 a7 r61 ta0 h61 hF
        · have hF := fx_pos hF c71
          refine xr_iload C 0 dX10_bestSwap_74 rfl ?_
          refine xr_iload C 6 dX10_bestSwap_76 rfl ?_
          refine xr_icmp_le C 95 dX10_bestSwap_78 (by decide) (fun c78 => ?_) (fun c78 => ?_)
          · have hF := fx_pos hF c78
            refine xr_sub [1, 2, 3, 4, 5, 6, 7, 8, 0] [(0, .ref (G.2.2.1 a0)), (1, .int a1), (2, .int a2), (3, .int a3), (4, .int a4), (5, .int a5), (6, .int a6), (7, .int a7), (8, .int r61)] rfl ?_
            exact bX10_bestSwap_95 C k35 j35 (fX10_bestSwap_48 k35 n) (fun a0 a1 a2 a3 a4 a5 a6 a7 ta0 h hF => ih a0 a1 a2 a3 a4 a5 a6 a7 ta0 h hF)  a0 a1 a2 a3 a4 a5 a6 a7 r61 ta0 h61 hF
          · have hF := fx_neg hF c78
            refine xr_goto C 91 dX10_bestSwap_81 (by decide) ?_
            refine xr_sub [1, 2, 3, 4, 5, 6, 7, 8, 0] [(0, .ref (G.2.2.1 a0)), (1, .int a1), (2, .int a2), (3, .int a3), (4, .int a4), (5, .int a5), (6, .int a6), (7, .int a7), (8, .int r61)] rfl ?_
            exact bX10_bestSwap_91 C k35 j35 (fX10_bestSwap_48 k35 n) (fun a0 a1 a2 a3 a4 a5 a6 a7 ta0 h hF => ih a0 a1 a2 a3 a4 a5 a6 a7 ta0 h hF)  a0 a1 a2 a3 a4 a5 a6 a7 r61 ta0 h61 hF
def fX10_bestSwap_35  : Nat → Nat → Int32 → Int32 → Int32 → Int32 → Int32 → Int32 → hp_T → Option (Int32 × hp_T)
  | 0, _, _, _, _, _, _, _, _ => none
  | n + 1, a0, a1, a2, a3, a4, a5, a6, h => if (6 : Int32) < a6 then (if a2 = 0 then (some (a3, h)) else (if a2 = (1 : Int32) then (some (a4, h)) else (some (a5, h)))) else (fx_let (a6 + (1 : Int32)) fun (x46 : Int32) => fX10_bestSwap_48 (fX10_bestSwap_35 n) fx_N a0 a1 a2 a3 a4 a5 a6 x46 h)
set_option maxRecDepth 100000 in
set_option maxHeartbeats 4000000 in
theorem bX10_bestSwap_35 {l : Launch} {G : xr_G} {K : xr_K} {r : Int32} {h1 : hp_T} (C : xr_C G K cX10_bestSwap RX10 10 (xr_R 6 147) (some .int) (some (xr_Qi G r h1)))  : ∀ (n : Nat) (a0 : Nat) (a1 : Int32) (a2 : Int32) (a3 : Int32) (a4 : Int32) (a5 : Int32) (a6 : Int32) (ta0 : hp_sh a0 = (10, 0)) (h : hp_T), fX10_bestSwap_35 n a0 a1 a2 a3 a4 a5 a6 h = some (r, h1) → xr_j l G K 10 h [(0, .ref (G.2.2.1 a0)), (1, .int a1), (2, .int a2), (3, .int a3), (4, .int a4), (5, .int a5), (6, .int a6)] 35 [] := by
  intro n
  induction n with
  | zero =>
    intro a0 a1 a2 a3 a4 a5 a6 ta0 h hF
    cases hF
  | succ n ih =>
    intro a0 a1 a2 a3 a4 a5 a6 ta0 h hF
    rw [fX10_bestSwap_35] at hF
    refine xr_iload C 6 dX10_bestSwap_35 rfl ?_
    refine xr_bipush (v := 6) C dX10_bestSwap_37 (by decide) ?_
    refine xr_icmp_gt C 129 dX10_bestSwap_39 (by decide) (fun c39 => ?_) (fun c39 => ?_)
    · have hF := fx_pos hF c39
      refine xr_iload_n C 2 dX10_bestSwap_129 rfl rfl ?_
      refine xr_if_ne C 137 dX10_bestSwap_130 (by decide) (fun c130 => ?_) (fun c130 => ?_)
      · have hF := fx_neg hF c130
        refine xr_iload_n C 2 dX10_bestSwap_137 rfl rfl ?_
        refine xr_iconst (v := 1) C dX10_bestSwap_138 (by decide) ?_
        refine xr_icmp_ne C 147 dX10_bestSwap_139 (by decide) (fun c139 => ?_) (fun c139 => ?_)
        · have hF := fx_neg hF c139
          refine xr_iload C 5 dX10_bestSwap_147 rfl ?_
          cases hF
          exact xr_iret C dX10_bestSwap_149
        · have hF := fx_pos hF c139
          refine xr_iload C 4 dX10_bestSwap_142 rfl ?_
          refine xr_goto C 149 dX10_bestSwap_144 (by decide) ?_
          cases hF
          exact xr_iret C dX10_bestSwap_149
      · have hF := fx_pos hF c130
        refine xr_iload_n C 3 dX10_bestSwap_133 rfl rfl ?_
        refine xr_goto C 149 dX10_bestSwap_134 (by decide) ?_
        cases hF
        exact xr_iret C dX10_bestSwap_149
    · have hF := fx_neg hF c39
      refine xr_iload C 6 dX10_bestSwap_42 rfl ?_
      refine xr_iconst (v := 1) C dX10_bestSwap_44 (by decide) ?_
      refine xr_iadd C dX10_bestSwap_45 ?_
      refine xr_topi (fun x46 e46 => ?_)
      have hF := fx_letE hF x46 e46
      refine xr_istore C [(7, .int x46), (0, .ref (G.2.2.1 a0)), (1, .int a1), (2, .int a2), (3, .int a3), (4, .int a4), (5, .int a5), (6, .int a6)] dX10_bestSwap_46 (Nat.le_of_ble_eq_true rfl) rfl ?_
      refine xr_sub [1, 2, 3, 4, 5, 6, 7, 0] [(0, .ref (G.2.2.1 a0)), (1, .int a1), (2, .int a2), (3, .int a3), (4, .int a4), (5, .int a5), (6, .int a6), (7, .int x46)] rfl ?_
      exact bX10_bestSwap_48 C (fX10_bestSwap_35 n) (fun a0 a1 a2 a3 a4 a5 a6 ta0 h hF => ih a0 a1 a2 a3 a4 a5 a6 ta0 h hF) fx_N a0 a1 a2 a3 a4 a5 a6 x46 ta0 h hF
def fX10_bestSwap (a0 : Nat) (a1 : Int32) (a2 : Int32) (h : hp_T) : Option (Int32 × hp_T) := fx_let (hp_sI h a0 0 (0 : Int32)) fun (h2 : hp_T) => fx_b2 (fX10_isSide a0 a1 h2) fun (r7 : Int32) (h7 : hp_T) => if r7 = 0 then (some ((-1 : Int32), h7)) else (if a2 < 0 then (some ((-1 : Int32), h7)) else (if a2 ≤ (2 : Int32) then (fX10_bestSwap_35 fx_N a0 a1 a2 (0 : Int32) (0 : Int32) (0 : Int32) (1 : Int32) h7) else (some ((-1 : Int32), h7))))
set_option maxRecDepth 100000 in
set_option maxHeartbeats 4000000 in
theorem mX10_bestSwap (l : Launch) (G : xr_G) (a0 : Nat) (a1 : Int32) (a2 : Int32) (ta0 : hp_sh a0 = (10, 0)) (h h1 : hp_T) (r : Int32) (hF : fX10_bestSwap a0 a1 a2 h = some (r, h1)) : xr_M l G yX10_bestSwap cX10_bestSwap 10 (xr_R 6 147) (some .int) [.ref (G.2.2.1 a0), .int a1, .int a2] h (xr_Qi G r h1) := by
  refine xr_start rfl (Nat.le_of_ble_eq_true rfl) (fun K C => ?_)
  show xr_j l G K 10 h [(0, .ref (G.2.2.1 a0)), (1, .int a1), (2, .int a2)] 0 []
  unfold fX10_bestSwap at hF
  refine xr_aload_n C 0 dX10_bestSwap_0 rfl rfl ?_
  refine xr_iconst (v := 0) C dX10_bestSwap_1 (by decide) ?_
  refine xr_puti C fpX10_63 rfl rfl rfl dX10_bestSwap_2 ta0 (fun h2 e2 => ?_)
  have hF := fx_letE hF h2 e2
  refine xr_aload_n C 0 dX10_bestSwap_5 rfl rfl ?_
  refine xr_iload_n C 1 dX10_bestSwap_6 rfl rfl ?_
  obtain ⟨r7, h7, e7, hF⟩ := fx_b2E hF
  refine xr_callVi C mvX10_180 [.int a1] [] (mX10_isSide l G a0 a1 ta0 h2 h7 r7 e7) ta0 (by decide) vc10 rfl ⟨rfl, rfl, (Nat.le_of_ble_eq_true rfl), (Nat.le_of_ble_eq_true rfl)⟩ rfl (Nat.le_of_ble_eq_true rfl) dX10_bestSwap_7 ?_
  refine xr_if_eq C 22 dX10_bestSwap_10 (by decide) (fun c10 => ?_) (fun c10 => ?_)
  · have hF := fx_pos hF c10
    refine xr_iconst (v := -1) C dX10_bestSwap_22 (by decide) ?_
    cases hF
    exact xr_iret C dX10_bestSwap_23
  · have hF := fx_neg hF c10
    refine xr_iload_n C 2 dX10_bestSwap_13 rfl rfl ?_
    refine xr_if_lt C 22 dX10_bestSwap_14 (by decide) (fun c14 => ?_) (fun c14 => ?_)
    · have hF := fx_pos hF c14
      refine xr_iconst (v := -1) C dX10_bestSwap_22 (by decide) ?_
      cases hF
      exact xr_iret C dX10_bestSwap_23
    · have hF := fx_neg hF c14
      refine xr_iload_n C 2 dX10_bestSwap_17 rfl rfl ?_
      refine xr_iconst (v := 2) C dX10_bestSwap_18 (by decide) ?_
      refine xr_icmp_le C 24 dX10_bestSwap_19 (by decide) (fun c19 => ?_) (fun c19 => ?_)
      · have hF := fx_pos hF c19
        refine xr_iconst (v := 0) C dX10_bestSwap_24 (by decide) ?_
        refine xr_istore_n C [(3, .int (0 : Int32)), (0, .ref (G.2.2.1 a0)), (1, .int a1), (2, .int a2)] dX10_bestSwap_25 rfl (Nat.le_of_ble_eq_true rfl) rfl ?_
        refine xr_iconst (v := 0) C dX10_bestSwap_26 (by decide) ?_
        refine xr_istore C [(4, .int (0 : Int32)), (3, .int (0 : Int32)), (0, .ref (G.2.2.1 a0)), (1, .int a1), (2, .int a2)] dX10_bestSwap_27 (Nat.le_of_ble_eq_true rfl) rfl ?_
        refine xr_iconst (v := 0) C dX10_bestSwap_29 (by decide) ?_
        refine xr_istore C [(5, .int (0 : Int32)), (4, .int (0 : Int32)), (3, .int (0 : Int32)), (0, .ref (G.2.2.1 a0)), (1, .int a1), (2, .int a2)] dX10_bestSwap_30 (Nat.le_of_ble_eq_true rfl) rfl ?_
        refine xr_iconst (v := 1) C dX10_bestSwap_32 (by decide) ?_
        refine xr_istore C [(6, .int (1 : Int32)), (5, .int (0 : Int32)), (4, .int (0 : Int32)), (3, .int (0 : Int32)), (0, .ref (G.2.2.1 a0)), (1, .int a1), (2, .int a2)] dX10_bestSwap_33 (Nat.le_of_ble_eq_true rfl) rfl ?_
        refine xr_sub [4, 5, 6, 3, 2, 1, 0] [(0, .ref (G.2.2.1 a0)), (1, .int a1), (2, .int a2), (3, .int (0 : Int32)), (4, .int (0 : Int32)), (5, .int (0 : Int32)), (6, .int (1 : Int32))] rfl ?_
        exact bX10_bestSwap_35 C  fx_N a0 a1 a2 (0 : Int32) (0 : Int32) (0 : Int32) (1 : Int32) ta0 h7 hF
      · have hF := fx_neg hF c19
        refine xr_iconst (v := -1) C dX10_bestSwap_22 (by decide) ?_
        cases hF
        exact xr_iret C dX10_bestSwap_23
theorem dX10_sumOf_0 : decode cX10_sumOf 0 = .ok (.aload_n 0, 1) := by decide +kernel
theorem dX10_sumOf_1 : decode cX10_sumOf 1 = .ok (.iload_n 1, 1) := by decide +kernel
theorem dX10_sumOf_2 : decode cX10_sumOf 2 = .ok (.iload_n 2, 1) := by decide +kernel
theorem dX10_sumOf_3 : decode cX10_sumOf 3 = .ok (.iconst 0, 1) := by decide +kernel
theorem dX10_sumOf_4 : decode cX10_sumOf 4 = .ok (.invokevirtual 196, 3) := by decide +kernel
theorem dX10_sumOf_7 : decode cX10_sumOf 7 = .ok (.aload_n 0, 1) := by decide +kernel
theorem dX10_sumOf_8 : decode cX10_sumOf 8 = .ok (.iload_n 1, 1) := by decide +kernel
theorem dX10_sumOf_9 : decode cX10_sumOf 9 = .ok (.iload_n 2, 1) := by decide +kernel
theorem dX10_sumOf_10 : decode cX10_sumOf 10 = .ok (.iconst 1, 1) := by decide +kernel
theorem dX10_sumOf_11 : decode cX10_sumOf 11 = .ok (.invokevirtual 196, 3) := by decide +kernel
theorem dX10_sumOf_14 : decode cX10_sumOf 14 = .ok (.iadd, 1) := by decide +kernel
theorem dX10_sumOf_15 : decode cX10_sumOf 15 = .ok (.aload_n 0, 1) := by decide +kernel
theorem dX10_sumOf_16 : decode cX10_sumOf 16 = .ok (.iload_n 1, 1) := by decide +kernel
theorem dX10_sumOf_17 : decode cX10_sumOf 17 = .ok (.iload_n 2, 1) := by decide +kernel
theorem dX10_sumOf_18 : decode cX10_sumOf 18 = .ok (.iconst 2, 1) := by decide +kernel
theorem dX10_sumOf_19 : decode cX10_sumOf 19 = .ok (.invokevirtual 196, 3) := by decide +kernel
theorem dX10_sumOf_22 : decode cX10_sumOf 22 = .ok (.iadd, 1) := by decide +kernel
theorem dX10_sumOf_23 : decode cX10_sumOf 23 = .ok (.ireturn, 1) := by decide +kernel
def fX10_sumOf (a0 : Nat) (a1 : Int32) (a2 : Int32) (h : hp_T) : Option (Int32 × hp_T) := fx_b2 (fX10_skill a0 a1 a2 (0 : Int32) h) fun (r4 : Int32) (h4 : hp_T) => fx_b2 (fX10_skill a0 a1 a2 (1 : Int32) h4) fun (r11 : Int32) (h11 : hp_T) => fx_b2 (fX10_skill a0 a1 a2 (2 : Int32) h11) fun (r19 : Int32) (h19 : hp_T) => some (((r4 + r11) + r19), h19)
set_option maxRecDepth 100000 in
set_option maxHeartbeats 4000000 in
theorem mX10_sumOf (l : Launch) (G : xr_G) (a0 : Nat) (a1 : Int32) (a2 : Int32) (ta0 : hp_sh a0 = (10, 0)) (h h1 : hp_T) (r : Int32) (hF : fX10_sumOf a0 a1 a2 h = some (r, h1)) : xr_M l G yX10_sumOf cX10_sumOf 3 (xr_R 2 45) (some .int) [.ref (G.2.2.1 a0), .int a1, .int a2] h (xr_Qi G r h1) := by
  refine xr_start rfl (Nat.le_of_ble_eq_true rfl) (fun K C => ?_)
  show xr_j l G K 3 h [(0, .ref (G.2.2.1 a0)), (1, .int a1), (2, .int a2)] 0 []
  unfold fX10_sumOf at hF
  refine xr_aload_n C 0 dX10_sumOf_0 rfl rfl ?_
  refine xr_iload_n C 1 dX10_sumOf_1 rfl rfl ?_
  refine xr_iload_n C 2 dX10_sumOf_2 rfl rfl ?_
  refine xr_iconst (v := 0) C dX10_sumOf_3 (by decide) ?_
  obtain ⟨r4, h4, e4, hF⟩ := fx_b2E hF
  refine xr_callVi C mvX10_196 [.int a1, .int a2, .int (0 : Int32)] [] (mX10_skill l G a0 a1 a2 (0 : Int32) ta0 h h4 r4 e4) ta0 (by decide) vc10 rfl ⟨rfl, rfl, (Nat.le_of_ble_eq_true rfl), (Nat.le_of_ble_eq_true rfl)⟩ rfl (Nat.le_of_ble_eq_true rfl) dX10_sumOf_4 ?_
  refine xr_aload_n C 0 dX10_sumOf_7 rfl rfl ?_
  refine xr_iload_n C 1 dX10_sumOf_8 rfl rfl ?_
  refine xr_iload_n C 2 dX10_sumOf_9 rfl rfl ?_
  refine xr_iconst (v := 1) C dX10_sumOf_10 (by decide) ?_
  obtain ⟨r11, h11, e11, hF⟩ := fx_b2E hF
  refine xr_callVi C mvX10_196 [.int a1, .int a2, .int (1 : Int32)] [.int r4] (mX10_skill l G a0 a1 a2 (1 : Int32) ta0 h4 h11 r11 e11) ta0 (by decide) vc10 rfl ⟨rfl, rfl, (Nat.le_of_ble_eq_true rfl), (Nat.le_of_ble_eq_true rfl)⟩ rfl (Nat.le_of_ble_eq_true rfl) dX10_sumOf_11 ?_
  refine xr_iadd C dX10_sumOf_14 ?_
  refine xr_aload_n C 0 dX10_sumOf_15 rfl rfl ?_
  refine xr_iload_n C 1 dX10_sumOf_16 rfl rfl ?_
  refine xr_iload_n C 2 dX10_sumOf_17 rfl rfl ?_
  refine xr_iconst (v := 2) C dX10_sumOf_18 (by decide) ?_
  obtain ⟨r19, h19, e19, hF⟩ := fx_b2E hF
  refine xr_callVi C mvX10_196 [.int a1, .int a2, .int (2 : Int32)] [.int (r4 + r11)] (mX10_skill l G a0 a1 a2 (2 : Int32) ta0 h11 h19 r19 e19) ta0 (by decide) vc10 rfl ⟨rfl, rfl, (Nat.le_of_ble_eq_true rfl), (Nat.le_of_ble_eq_true rfl)⟩ rfl (Nat.le_of_ble_eq_true rfl) dX10_sumOf_19 ?_
  refine xr_iadd C dX10_sumOf_22 ?_
  cases hF
  exact xr_iret C dX10_sumOf_23
theorem dX10_ranked_0 : decode cX10_ranked 0 = .ok (.aload_n 0, 1) := by decide +kernel
theorem dX10_ranked_1 : decode cX10_ranked 1 = .ok (.iconst 0, 1) := by decide +kernel
theorem dX10_ranked_2 : decode cX10_ranked 2 = .ok (.putfield 63, 3) := by decide +kernel
theorem dX10_ranked_5 : decode cX10_ranked 5 = .ok (.aload_n 0, 1) := by decide +kernel
theorem dX10_ranked_6 : decode cX10_ranked 6 = .ok (.iload_n 1, 1) := by decide +kernel
theorem dX10_ranked_7 : decode cX10_ranked 7 = .ok (.invokevirtual 180, 3) := by decide +kernel
theorem dX10_ranked_10 : decode cX10_ranked 10 = .ok (.ifCond .eq 7, 3) := by decide +kernel
theorem dX10_ranked_13 : decode cX10_ranked 13 = .ok (.iload_n 2, 1) := by decide +kernel
theorem dX10_ranked_14 : decode cX10_ranked 14 = .ok (.ifCond .ge 5, 3) := by decide +kernel
theorem dX10_ranked_17 : decode cX10_ranked 17 = .ok (.iconst (-1), 1) := by decide +kernel
theorem dX10_ranked_18 : decode cX10_ranked 18 = .ok (.ireturn, 1) := by decide +kernel
theorem dX10_ranked_19 : decode cX10_ranked 19 = .ok (.iconst 0, 1) := by decide +kernel
theorem dX10_ranked_20 : decode cX10_ranked 20 = .ok (.istore_n 3, 1) := by decide +kernel
theorem dX10_ranked_21 : decode cX10_ranked 21 = .ok (.iload_n 3, 1) := by decide +kernel
theorem dX10_ranked_22 : decode cX10_ranked 22 = .ok (.aload_n 0, 1) := by decide +kernel
theorem dX10_ranked_23 : decode cX10_ranked 23 = .ok (.getfield 13, 3) := by decide +kernel
theorem dX10_ranked_26 : decode cX10_ranked 26 = .ok (.iconst 5, 1) := by decide +kernel
theorem dX10_ranked_27 : decode cX10_ranked 27 = .ok (.iload_n 1, 1) := by decide +kernel
theorem dX10_ranked_28 : decode cX10_ranked 28 = .ok (.iadd, 1) := by decide +kernel
theorem dX10_ranked_29 : decode cX10_ranked 29 = .ok (.iaload, 1) := by decide +kernel
theorem dX10_ranked_30 : decode cX10_ranked 30 = .ok (.if_icmp .ge 90, 3) := by decide +kernel
theorem dX10_ranked_33 : decode cX10_ranked 33 = .ok (.iconst 0, 1) := by decide +kernel
theorem dX10_ranked_34 : decode cX10_ranked 34 = .ok (.istore 4, 2) := by decide +kernel
theorem dX10_ranked_36 : decode cX10_ranked 36 = .ok (.iconst 0, 1) := by decide +kernel
theorem dX10_ranked_37 : decode cX10_ranked 37 = .ok (.istore 5, 2) := by decide +kernel
theorem dX10_ranked_39 : decode cX10_ranked 39 = .ok (.iload 5, 2) := by decide +kernel
theorem dX10_ranked_41 : decode cX10_ranked 41 = .ok (.aload_n 0, 1) := by decide +kernel
theorem dX10_ranked_42 : decode cX10_ranked 42 = .ok (.getfield 13, 3) := by decide +kernel
theorem dX10_ranked_45 : decode cX10_ranked 45 = .ok (.iconst 5, 1) := by decide +kernel
theorem dX10_ranked_46 : decode cX10_ranked 46 = .ok (.iload_n 1, 1) := by decide +kernel
theorem dX10_ranked_47 : decode cX10_ranked 47 = .ok (.iadd, 1) := by decide +kernel
theorem dX10_ranked_48 : decode cX10_ranked 48 = .ok (.iaload, 1) := by decide +kernel
theorem dX10_ranked_49 : decode cX10_ranked 49 = .ok (.if_icmp .ge 57, 3) := by decide +kernel
theorem dX10_ranked_52 : decode cX10_ranked 52 = .ok (.iload 4, 2) := by decide +kernel
theorem dX10_ranked_54 : decode cX10_ranked 54 = .ok (.aload_n 0, 1) := by decide +kernel
theorem dX10_ranked_55 : decode cX10_ranked 55 = .ok (.iload_n 1, 1) := by decide +kernel
theorem dX10_ranked_56 : decode cX10_ranked 56 = .ok (.iload 5, 2) := by decide +kernel
theorem dX10_ranked_58 : decode cX10_ranked 58 = .ok (.invokevirtual 333, 3) := by decide +kernel
theorem dX10_ranked_61 : decode cX10_ranked 61 = .ok (.aload_n 0, 1) := by decide +kernel
theorem dX10_ranked_62 : decode cX10_ranked 62 = .ok (.iload_n 1, 1) := by decide +kernel
theorem dX10_ranked_63 : decode cX10_ranked 63 = .ok (.iload_n 3, 1) := by decide +kernel
theorem dX10_ranked_64 : decode cX10_ranked 64 = .ok (.invokevirtual 333, 3) := by decide +kernel
theorem dX10_ranked_67 : decode cX10_ranked 67 = .ok (.if_icmp .gt 25, 3) := by decide +kernel
theorem dX10_ranked_70 : decode cX10_ranked 70 = .ok (.aload_n 0, 1) := by decide +kernel
theorem dX10_ranked_71 : decode cX10_ranked 71 = .ok (.iload_n 1, 1) := by decide +kernel
theorem dX10_ranked_72 : decode cX10_ranked 72 = .ok (.iload 5, 2) := by decide +kernel
theorem dX10_ranked_74 : decode cX10_ranked 74 = .ok (.invokevirtual 333, 3) := by decide +kernel
theorem dX10_ranked_77 : decode cX10_ranked 77 = .ok (.aload_n 0, 1) := by decide +kernel
theorem dX10_ranked_78 : decode cX10_ranked 78 = .ok (.iload_n 1, 1) := by decide +kernel
theorem dX10_ranked_79 : decode cX10_ranked 79 = .ok (.iload_n 3, 1) := by decide +kernel
theorem dX10_ranked_80 : decode cX10_ranked 80 = .ok (.invokevirtual 333, 3) := by decide +kernel
theorem dX10_ranked_83 : decode cX10_ranked 83 = .ok (.if_icmp .ne 13, 3) := by decide +kernel
theorem dX10_ranked_86 : decode cX10_ranked 86 = .ok (.iload 5, 2) := by decide +kernel
theorem dX10_ranked_88 : decode cX10_ranked 88 = .ok (.iload_n 3, 1) := by decide +kernel
theorem dX10_ranked_89 : decode cX10_ranked 89 = .ok (.if_icmp .ge 7, 3) := by decide +kernel
theorem dX10_ranked_92 : decode cX10_ranked 92 = .ok (.iconst 1, 1) := by decide +kernel
theorem dX10_ranked_93 : decode cX10_ranked 93 = .ok (.goto 4, 3) := by decide +kernel
theorem dX10_ranked_96 : decode cX10_ranked 96 = .ok (.iconst 0, 1) := by decide +kernel
theorem dX10_ranked_97 : decode cX10_ranked 97 = .ok (.iadd, 1) := by decide +kernel
theorem dX10_ranked_98 : decode cX10_ranked 98 = .ok (.istore 4, 2) := by decide +kernel
theorem dX10_ranked_100 : decode cX10_ranked 100 = .ok (.iinc 5 1, 3) := by decide +kernel
theorem dX10_ranked_103 : decode cX10_ranked 103 = .ok (.goto (-64), 3) := by decide +kernel
theorem dX10_ranked_106 : decode cX10_ranked 106 = .ok (.iload 4, 2) := by decide +kernel
theorem dX10_ranked_108 : decode cX10_ranked 108 = .ok (.iload_n 2, 1) := by decide +kernel
theorem dX10_ranked_109 : decode cX10_ranked 109 = .ok (.if_icmp .ne 5, 3) := by decide +kernel
theorem dX10_ranked_112 : decode cX10_ranked 112 = .ok (.iload_n 3, 1) := by decide +kernel
theorem dX10_ranked_113 : decode cX10_ranked 113 = .ok (.ireturn, 1) := by decide +kernel
theorem dX10_ranked_114 : decode cX10_ranked 114 = .ok (.iinc 3 1, 3) := by decide +kernel
theorem dX10_ranked_117 : decode cX10_ranked 117 = .ok (.goto (-96), 3) := by decide +kernel
theorem dX10_ranked_120 : decode cX10_ranked 120 = .ok (.bipush (-2), 2) := by decide +kernel
theorem dX10_ranked_122 : decode cX10_ranked 122 = .ok (.ireturn, 1) := by decide +kernel
def fX10_ranked_97 (k21 : Nat → Int32 → Int32 → Int32 → hp_T → Option (Int32 × hp_T)) (k39 : Nat → Int32 → Int32 → Int32 → Int32 → Int32 → hp_T → Option (Int32 × hp_T)) (a0 : Nat) (a1 : Int32) (a2 : Int32) (a3 : Int32) (a5 : Int32) (s0 : Int32) (s1 : Int32) (h : hp_T) : Option (Int32 × hp_T) := fx_let (s0 + s1) fun (x98 : Int32) => fx_let (a5 + (1 : Int32)) fun (x100 : Int32) => k39 a0 a1 a2 a3 x98 x100 h
set_option maxRecDepth 100000 in
set_option maxHeartbeats 4000000 in
theorem bX10_ranked_97 {l : Launch} {G : xr_G} {K : xr_K} {r : Int32} {h1 : hp_T} (C : xr_C G K cX10_ranked RX10 6 (xr_R 3 67) (some .int) (some (xr_Qi G r h1))) (k21 : Nat → Int32 → Int32 → Int32 → hp_T → Option (Int32 × hp_T)) (j21 : ∀ (a0 : Nat) (a1 : Int32) (a2 : Int32) (a3 : Int32) (ta0 : hp_sh a0 = (10, 0)) (h : hp_T), k21 a0 a1 a2 a3 h = some (r, h1) → xr_j l G K 6 h [(0, .ref (G.2.2.1 a0)), (1, .int a1), (2, .int a2), (3, .int a3)] 21 []) (k39 : Nat → Int32 → Int32 → Int32 → Int32 → Int32 → hp_T → Option (Int32 × hp_T)) (j39 : ∀ (a0 : Nat) (a1 : Int32) (a2 : Int32) (a3 : Int32) (a4 : Int32) (a5 : Int32) (ta0 : hp_sh a0 = (10, 0)) (h : hp_T), k39 a0 a1 a2 a3 a4 a5 h = some (r, h1) → xr_j l G K 6 h [(0, .ref (G.2.2.1 a0)), (1, .int a1), (2, .int a2), (3, .int a3), (4, .int a4), (5, .int a5)] 39 []) (a0 : Nat) (a1 : Int32) (a2 : Int32) (a3 : Int32) (a5 : Int32) (s0 : Int32) (s1 : Int32) (ta0 : hp_sh a0 = (10, 0)) (h : hp_T) (hF : fX10_ranked_97 k21 k39 a0 a1 a2 a3 a5 s0 s1 h = some (r, h1)) : xr_j l G K 6 h [(0, .ref (G.2.2.1 a0)), (1, .int a1), (2, .int a2), (3, .int a3), (5, .int a5)] 97 [.int s1, .int s0] := by
  unfold fX10_ranked_97 at hF
  refine xr_iadd C dX10_ranked_97 ?_
  refine xr_topi (fun x98 e98 => ?_)
  have hF := fx_letE hF x98 e98
  refine xr_istore C [(4, .int x98), (0, .ref (G.2.2.1 a0)), (1, .int a1), (2, .int a2), (3, .int a3), (5, .int a5)] dX10_ranked_98 (Nat.le_of_ble_eq_true rfl) rfl ?_
  obtain ⟨x100, e100⟩ : ∃ y : Int32, y = (a5 + (1 : Int32)) := ⟨_, rfl⟩
  have hF := fx_letE hF x100 e100
  refine xr_iinc C x100 5 [(5, .int x100), (4, .int x98), (0, .ref (G.2.2.1 a0)), (1, .int a1), (2, .int a2), (3, .int a3)] dX10_ranked_100 rfl (by rw [e100]; rfl) (Nat.le_of_ble_eq_true rfl) rfl ?_
  refine xr_goto C 39 dX10_ranked_103 (by decide) ?_
  refine xr_sub [2, 3, 4, 5, 1, 0] [(0, .ref (G.2.2.1 a0)), (1, .int a1), (2, .int a2), (3, .int a3), (4, .int x98), (5, .int x100)] rfl ?_
  exact j39 a0 a1 a2 a3 x98 x100 ta0 h hF
def fX10_ranked_96 (k21 : Nat → Int32 → Int32 → Int32 → hp_T → Option (Int32 × hp_T)) (k39 : Nat → Int32 → Int32 → Int32 → Int32 → Int32 → hp_T → Option (Int32 × hp_T)) (a0 : Nat) (a1 : Int32) (a2 : Int32) (a3 : Int32) (a5 : Int32) (s0 : Int32) (h : hp_T) : Option (Int32 × hp_T) := fX10_ranked_97 k21 k39 a0 a1 a2 a3 a5 s0 (0 : Int32) h
set_option maxRecDepth 100000 in
set_option maxHeartbeats 4000000 in
theorem bX10_ranked_96 {l : Launch} {G : xr_G} {K : xr_K} {r : Int32} {h1 : hp_T} (C : xr_C G K cX10_ranked RX10 6 (xr_R 3 67) (some .int) (some (xr_Qi G r h1))) (k21 : Nat → Int32 → Int32 → Int32 → hp_T → Option (Int32 × hp_T)) (j21 : ∀ (a0 : Nat) (a1 : Int32) (a2 : Int32) (a3 : Int32) (ta0 : hp_sh a0 = (10, 0)) (h : hp_T), k21 a0 a1 a2 a3 h = some (r, h1) → xr_j l G K 6 h [(0, .ref (G.2.2.1 a0)), (1, .int a1), (2, .int a2), (3, .int a3)] 21 []) (k39 : Nat → Int32 → Int32 → Int32 → Int32 → Int32 → hp_T → Option (Int32 × hp_T)) (j39 : ∀ (a0 : Nat) (a1 : Int32) (a2 : Int32) (a3 : Int32) (a4 : Int32) (a5 : Int32) (ta0 : hp_sh a0 = (10, 0)) (h : hp_T), k39 a0 a1 a2 a3 a4 a5 h = some (r, h1) → xr_j l G K 6 h [(0, .ref (G.2.2.1 a0)), (1, .int a1), (2, .int a2), (3, .int a3), (4, .int a4), (5, .int a5)] 39 []) (a0 : Nat) (a1 : Int32) (a2 : Int32) (a3 : Int32) (a5 : Int32) (s0 : Int32) (ta0 : hp_sh a0 = (10, 0)) (h : hp_T) (hF : fX10_ranked_96 k21 k39 a0 a1 a2 a3 a5 s0 h = some (r, h1)) : xr_j l G K 6 h [(0, .ref (G.2.2.1 a0)), (1, .int a1), (2, .int a2), (3, .int a3), (5, .int a5)] 96 [.int s0] := by
  unfold fX10_ranked_96 at hF
  refine xr_iconst (v := 0) C dX10_ranked_96 (by decide) ?_
  exact bX10_ranked_97 C k21 j21 k39 j39  a0 a1 a2 a3 a5 s0 (0 : Int32) ta0 h hF
def fX10_ranked_92 (k21 : Nat → Int32 → Int32 → Int32 → hp_T → Option (Int32 × hp_T)) (k39 : Nat → Int32 → Int32 → Int32 → Int32 → Int32 → hp_T → Option (Int32 × hp_T)) (a0 : Nat) (a1 : Int32) (a2 : Int32) (a3 : Int32) (a5 : Int32) (s0 : Int32) (h : hp_T) : Option (Int32 × hp_T) := fX10_ranked_97 k21 k39 a0 a1 a2 a3 a5 s0 (1 : Int32) h
set_option maxRecDepth 100000 in
set_option maxHeartbeats 4000000 in
theorem bX10_ranked_92 {l : Launch} {G : xr_G} {K : xr_K} {r : Int32} {h1 : hp_T} (C : xr_C G K cX10_ranked RX10 6 (xr_R 3 67) (some .int) (some (xr_Qi G r h1))) (k21 : Nat → Int32 → Int32 → Int32 → hp_T → Option (Int32 × hp_T)) (j21 : ∀ (a0 : Nat) (a1 : Int32) (a2 : Int32) (a3 : Int32) (ta0 : hp_sh a0 = (10, 0)) (h : hp_T), k21 a0 a1 a2 a3 h = some (r, h1) → xr_j l G K 6 h [(0, .ref (G.2.2.1 a0)), (1, .int a1), (2, .int a2), (3, .int a3)] 21 []) (k39 : Nat → Int32 → Int32 → Int32 → Int32 → Int32 → hp_T → Option (Int32 × hp_T)) (j39 : ∀ (a0 : Nat) (a1 : Int32) (a2 : Int32) (a3 : Int32) (a4 : Int32) (a5 : Int32) (ta0 : hp_sh a0 = (10, 0)) (h : hp_T), k39 a0 a1 a2 a3 a4 a5 h = some (r, h1) → xr_j l G K 6 h [(0, .ref (G.2.2.1 a0)), (1, .int a1), (2, .int a2), (3, .int a3), (4, .int a4), (5, .int a5)] 39 []) (a0 : Nat) (a1 : Int32) (a2 : Int32) (a3 : Int32) (a5 : Int32) (s0 : Int32) (ta0 : hp_sh a0 = (10, 0)) (h : hp_T) (hF : fX10_ranked_92 k21 k39 a0 a1 a2 a3 a5 s0 h = some (r, h1)) : xr_j l G K 6 h [(0, .ref (G.2.2.1 a0)), (1, .int a1), (2, .int a2), (3, .int a3), (5, .int a5)] 92 [.int s0] := by
  unfold fX10_ranked_92 at hF
  refine xr_iconst (v := 1) C dX10_ranked_92 (by decide) ?_
  refine xr_goto C 97 dX10_ranked_93 (by decide) ?_
  exact bX10_ranked_97 C k21 j21 k39 j39  a0 a1 a2 a3 a5 s0 (1 : Int32) ta0 h hF
def fX10_ranked_39 (k21 : Nat → Int32 → Int32 → Int32 → hp_T → Option (Int32 × hp_T)) : Nat → Nat → Int32 → Int32 → Int32 → Int32 → Int32 → hp_T → Option (Int32 × hp_T)
  | 0, _, _, _, _, _, _, _ => none
  | n + 1, a0, a1, a2, a3, a4, a5, h => fx_g (fx_in ((5 : Int32) + a1) 117) (if (h.1 (h.2.2 a0 3) (fx_ix ((5 : Int32) + a1))) ≤ a5 then (if a4 = a2 then (some (a3, h)) else (fx_let (a3 + (1 : Int32)) fun (x114 : Int32) => k21 a0 a1 a2 x114 h)) else (fx_b2 (fX10_sumOf a0 a1 a5 h) fun (r58 : Int32) (h58 : hp_T) => fx_b2 (fX10_sumOf a0 a1 a3 h58) fun (r64 : Int32) (h64 : hp_T) => if r64 < r58 then (fX10_ranked_92 k21 (fX10_ranked_39 k21 n) a0 a1 a2 a3 a5 a4 h64) else (fx_b2 (fX10_sumOf a0 a1 a5 h64) fun (r74 : Int32) (h74 : hp_T) => fx_b2 (fX10_sumOf a0 a1 a3 h74) fun (r80 : Int32) (h80 : hp_T) => if r74 = r80 then (if a3 ≤ a5 then (fX10_ranked_96 k21 (fX10_ranked_39 k21 n) a0 a1 a2 a3 a5 a4 h80) else (fX10_ranked_92 k21 (fX10_ranked_39 k21 n) a0 a1 a2 a3 a5 a4 h80)) else (fX10_ranked_96 k21 (fX10_ranked_39 k21 n) a0 a1 a2 a3 a5 a4 h80))))
set_option maxRecDepth 100000 in
set_option maxHeartbeats 4000000 in
theorem bX10_ranked_39 {l : Launch} {G : xr_G} {K : xr_K} {r : Int32} {h1 : hp_T} (C : xr_C G K cX10_ranked RX10 6 (xr_R 3 67) (some .int) (some (xr_Qi G r h1))) (k21 : Nat → Int32 → Int32 → Int32 → hp_T → Option (Int32 × hp_T)) (j21 : ∀ (a0 : Nat) (a1 : Int32) (a2 : Int32) (a3 : Int32) (ta0 : hp_sh a0 = (10, 0)) (h : hp_T), k21 a0 a1 a2 a3 h = some (r, h1) → xr_j l G K 6 h [(0, .ref (G.2.2.1 a0)), (1, .int a1), (2, .int a2), (3, .int a3)] 21 []) : ∀ (n : Nat) (a0 : Nat) (a1 : Int32) (a2 : Int32) (a3 : Int32) (a4 : Int32) (a5 : Int32) (ta0 : hp_sh a0 = (10, 0)) (h : hp_T), fX10_ranked_39 k21 n a0 a1 a2 a3 a4 a5 h = some (r, h1) → xr_j l G K 6 h [(0, .ref (G.2.2.1 a0)), (1, .int a1), (2, .int a2), (3, .int a3), (4, .int a4), (5, .int a5)] 39 [] := by
  intro n
  induction n with
  | zero =>
    intro a0 a1 a2 a3 a4 a5 ta0 h hF
    cases hF
  | succ n ih =>
    intro a0 a1 a2 a3 a4 a5 ta0 h hF
    rw [fX10_ranked_39] at hF
    refine xr_iload C 5 dX10_ranked_39 rfl ?_
    refine xr_aload_n C 0 dX10_ranked_41 rfl rfl ?_
    refine xr_getr C flX10_13 rfl (by decide) dX10_ranked_42 ta0 (fun t42 => ?_)
    refine xr_iconst (v := 5) C dX10_ranked_45 (by decide) ?_
    refine xr_iload_n C 1 dX10_ranked_46 rfl rfl ?_
    refine xr_iadd C dX10_ranked_47 ?_
    obtain ⟨g48, hF⟩ := fx_gE hF
    refine xr_iald C dX10_ranked_48 t42 g48 ?_
    refine xr_icmp_ge C 106 dX10_ranked_49 (by decide) (fun c49 => ?_) (fun c49 => ?_)
    · have hF := fx_pos hF c49
      refine xr_iload C 4 dX10_ranked_106 rfl ?_
      refine xr_iload_n C 2 dX10_ranked_108 rfl rfl ?_
      refine xr_icmp_ne C 114 dX10_ranked_109 (by decide) (fun c109 => ?_) (fun c109 => ?_)
      · have hF := fx_neg hF c109
        obtain ⟨x114, e114⟩ : ∃ y : Int32, y = (a3 + (1 : Int32)) := ⟨_, rfl⟩
        have hF := fx_letE hF x114 e114
        refine xr_iinc C x114 3 [(3, .int x114), (0, .ref (G.2.2.1 a0)), (1, .int a1), (2, .int a2), (4, .int a4), (5, .int a5)] dX10_ranked_114 rfl (by rw [e114]; rfl) (Nat.le_of_ble_eq_true rfl) rfl ?_
        refine xr_goto C 21 dX10_ranked_117 (by decide) ?_
        refine xr_sub [1, 2, 3, 0] [(0, .ref (G.2.2.1 a0)), (1, .int a1), (2, .int a2), (3, .int x114)] rfl ?_
        exact j21 a0 a1 a2 x114 ta0 h hF
      · have hF := fx_pos hF c109
        refine xr_iload_n C 3 dX10_ranked_112 rfl rfl ?_
        cases hF
        exact xr_iret C dX10_ranked_113
    · have hF := fx_neg hF c49
      refine xr_iload C 4 dX10_ranked_52 rfl ?_
      refine xr_aload_n C 0 dX10_ranked_54 rfl rfl ?_
      refine xr_iload_n C 1 dX10_ranked_55 rfl rfl ?_
      refine xr_iload C 5 dX10_ranked_56 rfl ?_
      obtain ⟨r58, h58, e58, hF⟩ := fx_b2E hF
      refine xr_callVi C mvX10_333 [.int a1, .int a5] [.int a4] (mX10_sumOf l G a0 a1 a5 ta0 h h58 r58 e58) ta0 (by decide) vc10 rfl ⟨rfl, rfl, (Nat.le_of_ble_eq_true rfl), (Nat.le_of_ble_eq_true rfl)⟩ rfl (Nat.le_of_ble_eq_true rfl) dX10_ranked_58 ?_
      refine xr_aload_n C 0 dX10_ranked_61 rfl rfl ?_
      refine xr_iload_n C 1 dX10_ranked_62 rfl rfl ?_
      refine xr_iload_n C 3 dX10_ranked_63 rfl rfl ?_
      obtain ⟨r64, h64, e64, hF⟩ := fx_b2E hF
      refine xr_callVi C mvX10_333 [.int a1, .int a3] [.int r58, .int a4] (mX10_sumOf l G a0 a1 a3 ta0 h58 h64 r64 e64) ta0 (by decide) vc10 rfl ⟨rfl, rfl, (Nat.le_of_ble_eq_true rfl), (Nat.le_of_ble_eq_true rfl)⟩ rfl (Nat.le_of_ble_eq_true rfl) dX10_ranked_64 ?_
      refine xr_icmp_gt C 92 dX10_ranked_67 (by decide) (fun c67 => ?_) (fun c67 => ?_)
      · have hF := fx_pos hF c67
        refine xr_sub [0, 1, 2, 3, 5] [(0, .ref (G.2.2.1 a0)), (1, .int a1), (2, .int a2), (3, .int a3), (5, .int a5)] rfl ?_
        exact bX10_ranked_92 C k21 j21 (fX10_ranked_39 k21 n) (fun a0 a1 a2 a3 a4 a5 ta0 h hF => ih a0 a1 a2 a3 a4 a5 ta0 h hF)  a0 a1 a2 a3 a5 a4 ta0 h64 hF
      · have hF := fx_neg hF c67
        refine xr_aload_n C 0 dX10_ranked_70 rfl rfl ?_
        refine xr_iload_n C 1 dX10_ranked_71 rfl rfl ?_
        refine xr_iload C 5 dX10_ranked_72 rfl ?_
        obtain ⟨r74, h74, e74, hF⟩ := fx_b2E hF
        refine xr_callVi C mvX10_333 [.int a1, .int a5] [.int a4] (mX10_sumOf l G a0 a1 a5 ta0 h64 h74 r74 e74) ta0 (by decide) vc10 rfl ⟨rfl, rfl, (Nat.le_of_ble_eq_true rfl), (Nat.le_of_ble_eq_true rfl)⟩ rfl (Nat.le_of_ble_eq_true rfl) dX10_ranked_74 ?_
        refine xr_aload_n C 0 dX10_ranked_77 rfl rfl ?_
        refine xr_iload_n C 1 dX10_ranked_78 rfl rfl ?_
        refine xr_iload_n C 3 dX10_ranked_79 rfl rfl ?_
        obtain ⟨r80, h80, e80, hF⟩ := fx_b2E hF
        refine xr_callVi C mvX10_333 [.int a1, .int a3] [.int r74, .int a4] (mX10_sumOf l G a0 a1 a3 ta0 h74 h80 r80 e80) ta0 (by decide) vc10 rfl ⟨rfl, rfl, (Nat.le_of_ble_eq_true rfl), (Nat.le_of_ble_eq_true rfl)⟩ rfl (Nat.le_of_ble_eq_true rfl) dX10_ranked_80 ?_
        refine xr_icmp_ne C 96 dX10_ranked_83 (by decide) (fun c83 => ?_) (fun c83 => ?_)
        · have hF := fx_neg hF c83
          refine xr_sub [0, 1, 2, 3, 5] [(0, .ref (G.2.2.1 a0)), (1, .int a1), (2, .int a2), (3, .int a3), (5, .int a5)] rfl ?_
          exact bX10_ranked_96 C k21 j21 (fX10_ranked_39 k21 n) (fun a0 a1 a2 a3 a4 a5 ta0 h hF => ih a0 a1 a2 a3 a4 a5 ta0 h hF)  a0 a1 a2 a3 a5 a4 ta0 h80 hF
        · have hF := fx_pos hF c83
          refine xr_iload C 5 dX10_ranked_86 rfl ?_
          refine xr_iload_n C 3 dX10_ranked_88 rfl rfl ?_
          refine xr_icmp_ge C 96 dX10_ranked_89 (by decide) (fun c89 => ?_) (fun c89 => ?_)
          · have hF := fx_pos hF c89
            refine xr_sub [0, 1, 2, 3, 5] [(0, .ref (G.2.2.1 a0)), (1, .int a1), (2, .int a2), (3, .int a3), (5, .int a5)] rfl ?_
            exact bX10_ranked_96 C k21 j21 (fX10_ranked_39 k21 n) (fun a0 a1 a2 a3 a4 a5 ta0 h hF => ih a0 a1 a2 a3 a4 a5 ta0 h hF)  a0 a1 a2 a3 a5 a4 ta0 h80 hF
          · have hF := fx_neg hF c89
            refine xr_sub [0, 1, 2, 3, 5] [(0, .ref (G.2.2.1 a0)), (1, .int a1), (2, .int a2), (3, .int a3), (5, .int a5)] rfl ?_
            exact bX10_ranked_92 C k21 j21 (fX10_ranked_39 k21 n) (fun a0 a1 a2 a3 a4 a5 ta0 h hF => ih a0 a1 a2 a3 a4 a5 ta0 h hF)  a0 a1 a2 a3 a5 a4 ta0 h80 hF
def fX10_ranked_21  : Nat → Nat → Int32 → Int32 → Int32 → hp_T → Option (Int32 × hp_T)
  | 0, _, _, _, _, _ => none
  | n + 1, a0, a1, a2, a3, h => fx_g (fx_in ((5 : Int32) + a1) 117) (if (h.1 (h.2.2 a0 3) (fx_ix ((5 : Int32) + a1))) ≤ a3 then (some ((-2 : Int32), h)) else (fX10_ranked_39 (fX10_ranked_21 n) fx_N a0 a1 a2 a3 (0 : Int32) (0 : Int32) h))
set_option maxRecDepth 100000 in
set_option maxHeartbeats 4000000 in
theorem bX10_ranked_21 {l : Launch} {G : xr_G} {K : xr_K} {r : Int32} {h1 : hp_T} (C : xr_C G K cX10_ranked RX10 6 (xr_R 3 67) (some .int) (some (xr_Qi G r h1)))  : ∀ (n : Nat) (a0 : Nat) (a1 : Int32) (a2 : Int32) (a3 : Int32) (ta0 : hp_sh a0 = (10, 0)) (h : hp_T), fX10_ranked_21 n a0 a1 a2 a3 h = some (r, h1) → xr_j l G K 6 h [(0, .ref (G.2.2.1 a0)), (1, .int a1), (2, .int a2), (3, .int a3)] 21 [] := by
  intro n
  induction n with
  | zero =>
    intro a0 a1 a2 a3 ta0 h hF
    cases hF
  | succ n ih =>
    intro a0 a1 a2 a3 ta0 h hF
    rw [fX10_ranked_21] at hF
    refine xr_iload_n C 3 dX10_ranked_21 rfl rfl ?_
    refine xr_aload_n C 0 dX10_ranked_22 rfl rfl ?_
    refine xr_getr C flX10_13 rfl (by decide) dX10_ranked_23 ta0 (fun t23 => ?_)
    refine xr_iconst (v := 5) C dX10_ranked_26 (by decide) ?_
    refine xr_iload_n C 1 dX10_ranked_27 rfl rfl ?_
    refine xr_iadd C dX10_ranked_28 ?_
    obtain ⟨g29, hF⟩ := fx_gE hF
    refine xr_iald C dX10_ranked_29 t23 g29 ?_
    refine xr_icmp_ge C 120 dX10_ranked_30 (by decide) (fun c30 => ?_) (fun c30 => ?_)
    · have hF := fx_pos hF c30
      refine xr_bipush (v := -2) C dX10_ranked_120 (by decide) ?_
      cases hF
      exact xr_iret C dX10_ranked_122
    · have hF := fx_neg hF c30
      refine xr_iconst (v := 0) C dX10_ranked_33 (by decide) ?_
      refine xr_istore C [(4, .int (0 : Int32)), (0, .ref (G.2.2.1 a0)), (1, .int a1), (2, .int a2), (3, .int a3)] dX10_ranked_34 (Nat.le_of_ble_eq_true rfl) rfl ?_
      refine xr_iconst (v := 0) C dX10_ranked_36 (by decide) ?_
      refine xr_istore C [(5, .int (0 : Int32)), (4, .int (0 : Int32)), (0, .ref (G.2.2.1 a0)), (1, .int a1), (2, .int a2), (3, .int a3)] dX10_ranked_37 (Nat.le_of_ble_eq_true rfl) rfl ?_
      refine xr_sub [2, 3, 4, 5, 1, 0] [(0, .ref (G.2.2.1 a0)), (1, .int a1), (2, .int a2), (3, .int a3), (4, .int (0 : Int32)), (5, .int (0 : Int32))] rfl ?_
      exact bX10_ranked_39 C (fX10_ranked_21 n) (fun a0 a1 a2 a3 ta0 h hF => ih a0 a1 a2 a3 ta0 h hF) fx_N a0 a1 a2 a3 (0 : Int32) (0 : Int32) ta0 h hF
def fX10_ranked (a0 : Nat) (a1 : Int32) (a2 : Int32) (h : hp_T) : Option (Int32 × hp_T) := fx_let (hp_sI h a0 0 (0 : Int32)) fun (h2 : hp_T) => fx_b2 (fX10_isSide a0 a1 h2) fun (r7 : Int32) (h7 : hp_T) => if r7 = 0 then (some ((-1 : Int32), h7)) else (if 0 ≤ a2 then (fX10_ranked_21 fx_N a0 a1 a2 (0 : Int32) h7) else (some ((-1 : Int32), h7)))
set_option maxRecDepth 100000 in
set_option maxHeartbeats 4000000 in
theorem mX10_ranked (l : Launch) (G : xr_G) (a0 : Nat) (a1 : Int32) (a2 : Int32) (ta0 : hp_sh a0 = (10, 0)) (h h1 : hp_T) (r : Int32) (hF : fX10_ranked a0 a1 a2 h = some (r, h1)) : xr_M l G yX10_ranked cX10_ranked 6 (xr_R 3 67) (some .int) [.ref (G.2.2.1 a0), .int a1, .int a2] h (xr_Qi G r h1) := by
  refine xr_start rfl (Nat.le_of_ble_eq_true rfl) (fun K C => ?_)
  show xr_j l G K 6 h [(0, .ref (G.2.2.1 a0)), (1, .int a1), (2, .int a2)] 0 []
  unfold fX10_ranked at hF
  refine xr_aload_n C 0 dX10_ranked_0 rfl rfl ?_
  refine xr_iconst (v := 0) C dX10_ranked_1 (by decide) ?_
  refine xr_puti C fpX10_63 rfl rfl rfl dX10_ranked_2 ta0 (fun h2 e2 => ?_)
  have hF := fx_letE hF h2 e2
  refine xr_aload_n C 0 dX10_ranked_5 rfl rfl ?_
  refine xr_iload_n C 1 dX10_ranked_6 rfl rfl ?_
  obtain ⟨r7, h7, e7, hF⟩ := fx_b2E hF
  refine xr_callVi C mvX10_180 [.int a1] [] (mX10_isSide l G a0 a1 ta0 h2 h7 r7 e7) ta0 (by decide) vc10 rfl ⟨rfl, rfl, (Nat.le_of_ble_eq_true rfl), (Nat.le_of_ble_eq_true rfl)⟩ rfl (Nat.le_of_ble_eq_true rfl) dX10_ranked_7 ?_
  refine xr_if_eq C 17 dX10_ranked_10 (by decide) (fun c10 => ?_) (fun c10 => ?_)
  · have hF := fx_pos hF c10
    refine xr_iconst (v := -1) C dX10_ranked_17 (by decide) ?_
    cases hF
    exact xr_iret C dX10_ranked_18
  · have hF := fx_neg hF c10
    refine xr_iload_n C 2 dX10_ranked_13 rfl rfl ?_
    refine xr_if_ge C 19 dX10_ranked_14 (by decide) (fun c14 => ?_) (fun c14 => ?_)
    · have hF := fx_pos hF c14
      refine xr_iconst (v := 0) C dX10_ranked_19 (by decide) ?_
      refine xr_istore_n C [(3, .int (0 : Int32)), (0, .ref (G.2.2.1 a0)), (1, .int a1), (2, .int a2)] dX10_ranked_20 rfl (Nat.le_of_ble_eq_true rfl) rfl ?_
      refine xr_sub [1, 2, 3, 0] [(0, .ref (G.2.2.1 a0)), (1, .int a1), (2, .int a2), (3, .int (0 : Int32))] rfl ?_
      exact bX10_ranked_21 C  fx_N a0 a1 a2 (0 : Int32) ta0 h7 hF
    · have hF := fx_neg hF c14
      refine xr_iconst (v := -1) C dX10_ranked_17 (by decide) ?_
      cases hF
      exact xr_iret C dX10_ranked_18
theorem dX10_named_0 : decode cX10_named 0 = .ok (.aload_n 0, 1) := by decide +kernel
theorem dX10_named_1 : decode cX10_named 1 = .ok (.iconst 0, 1) := by decide +kernel
theorem dX10_named_2 : decode cX10_named 2 = .ok (.putfield 63, 3) := by decide +kernel
theorem dX10_named_5 : decode cX10_named 5 = .ok (.aload_n 0, 1) := by decide +kernel
theorem dX10_named_6 : decode cX10_named 6 = .ok (.iload_n 1, 1) := by decide +kernel
theorem dX10_named_7 : decode cX10_named 7 = .ok (.invokevirtual 180, 3) := by decide +kernel
theorem dX10_named_10 : decode cX10_named 10 = .ok (.ifCond .ne 5, 3) := by decide +kernel
theorem dX10_named_13 : decode cX10_named 13 = .ok (.iconst (-1), 1) := by decide +kernel
theorem dX10_named_14 : decode cX10_named 14 = .ok (.ireturn, 1) := by decide +kernel
theorem dX10_named_15 : decode cX10_named 15 = .ok (.iconst 0, 1) := by decide +kernel
theorem dX10_named_16 : decode cX10_named 16 = .ok (.istore_n 3, 1) := by decide +kernel
theorem dX10_named_17 : decode cX10_named 17 = .ok (.iload_n 3, 1) := by decide +kernel
theorem dX10_named_18 : decode cX10_named 18 = .ok (.aload_n 0, 1) := by decide +kernel
theorem dX10_named_19 : decode cX10_named 19 = .ok (.getfield 13, 3) := by decide +kernel
theorem dX10_named_22 : decode cX10_named 22 = .ok (.iconst 5, 1) := by decide +kernel
theorem dX10_named_23 : decode cX10_named 23 = .ok (.iload_n 1, 1) := by decide +kernel
theorem dX10_named_24 : decode cX10_named 24 = .ok (.iadd, 1) := by decide +kernel
theorem dX10_named_25 : decode cX10_named 25 = .ok (.iaload, 1) := by decide +kernel
theorem dX10_named_26 : decode cX10_named 26 = .ok (.if_icmp .ge 27, 3) := by decide +kernel
theorem dX10_named_29 : decode cX10_named 29 = .ok (.aload_n 0, 1) := by decide +kernel
theorem dX10_named_30 : decode cX10_named 30 = .ok (.getfield 22, 3) := by decide +kernel
theorem dX10_named_33 : decode cX10_named 33 = .ok (.iload_n 1, 1) := by decide +kernel
theorem dX10_named_34 : decode cX10_named 34 = .ok (.iload_n 3, 1) := by decide +kernel
theorem dX10_named_35 : decode cX10_named 35 = .ok (.bipush 12, 2) := by decide +kernel
theorem dX10_named_37 : decode cX10_named 37 = .ok (.invokestatic 167, 3) := by decide +kernel
theorem dX10_named_40 : decode cX10_named 40 = .ok (.iaload, 1) := by decide +kernel
theorem dX10_named_41 : decode cX10_named 41 = .ok (.iload_n 2, 1) := by decide +kernel
theorem dX10_named_42 : decode cX10_named 42 = .ok (.if_icmp .ne 5, 3) := by decide +kernel
theorem dX10_named_45 : decode cX10_named 45 = .ok (.iload_n 3, 1) := by decide +kernel
theorem dX10_named_46 : decode cX10_named 46 = .ok (.ireturn, 1) := by decide +kernel
theorem dX10_named_47 : decode cX10_named 47 = .ok (.iinc 3 1, 3) := by decide +kernel
theorem dX10_named_50 : decode cX10_named 50 = .ok (.goto (-33), 3) := by decide +kernel
theorem dX10_named_53 : decode cX10_named 53 = .ok (.bipush (-2), 2) := by decide +kernel
theorem dX10_named_55 : decode cX10_named 55 = .ok (.ireturn, 1) := by decide +kernel
def fX10_named_17  : Nat → Nat → Int32 → Int32 → Int32 → hp_T → Option (Int32 × hp_T)
  | 0, _, _, _, _, _ => none
  | n + 1, a0, a1, a2, a3, h => fx_g (fx_in ((5 : Int32) + a1) 117) (if (h.1 (h.2.2 a0 3) (fx_ix ((5 : Int32) + a1))) ≤ a3 then (some ((-2 : Int32), h)) else (fx_b2 (fX10_two a1 a3 (12 : Int32) h) fun (r37 : Int32) (h37 : hp_T) => fx_g (fx_in r37 24) (if (h37.1 (h.2.2 a0 6) (fx_ix r37)) = a2 then (some (a3, h37)) else (fx_let (a3 + (1 : Int32)) fun (x47 : Int32) => fX10_named_17 n a0 a1 a2 x47 h37))))
set_option maxRecDepth 100000 in
set_option maxHeartbeats 4000000 in
theorem bX10_named_17 {l : Launch} {G : xr_G} {K : xr_K} {r : Int32} {h1 : hp_T} (C : xr_C G K cX10_named RX10 4 (xr_R 1 22) (some .int) (some (xr_Qi G r h1)))  : ∀ (n : Nat) (a0 : Nat) (a1 : Int32) (a2 : Int32) (a3 : Int32) (ta0 : hp_sh a0 = (10, 0)) (h : hp_T), fX10_named_17 n a0 a1 a2 a3 h = some (r, h1) → xr_j l G K 4 h [(0, .ref (G.2.2.1 a0)), (1, .int a1), (2, .int a2), (3, .int a3)] 17 [] := by
  intro n
  induction n with
  | zero =>
    intro a0 a1 a2 a3 ta0 h hF
    cases hF
  | succ n ih =>
    intro a0 a1 a2 a3 ta0 h hF
    rw [fX10_named_17] at hF
    refine xr_iload_n C 3 dX10_named_17 rfl rfl ?_
    refine xr_aload_n C 0 dX10_named_18 rfl rfl ?_
    refine xr_getr C flX10_13 rfl (by decide) dX10_named_19 ta0 (fun t19 => ?_)
    refine xr_iconst (v := 5) C dX10_named_22 (by decide) ?_
    refine xr_iload_n C 1 dX10_named_23 rfl rfl ?_
    refine xr_iadd C dX10_named_24 ?_
    obtain ⟨g25, hF⟩ := fx_gE hF
    refine xr_iald C dX10_named_25 t19 g25 ?_
    refine xr_icmp_ge C 53 dX10_named_26 (by decide) (fun c26 => ?_) (fun c26 => ?_)
    · have hF := fx_pos hF c26
      refine xr_bipush (v := -2) C dX10_named_53 (by decide) ?_
      cases hF
      exact xr_iret C dX10_named_55
    · have hF := fx_neg hF c26
      refine xr_aload_n C 0 dX10_named_29 rfl rfl ?_
      refine xr_getr C flX10_22 rfl (by decide) dX10_named_30 ta0 (fun t30 => ?_)
      refine xr_iload_n C 1 dX10_named_33 rfl rfl ?_
      refine xr_iload_n C 3 dX10_named_34 rfl rfl ?_
      refine xr_bipush (v := 12) C dX10_named_35 (by decide) ?_
      obtain ⟨r37, h37, e37, hF⟩ := fx_b2E hF
      refine xr_callSi C mvX10_167 [.int a1, .int a3, .int (12 : Int32)] [.ref (G.2.2.1 (h.2.2 a0 6))] (mX10_two l G a1 a3 (12 : Int32)  h h37 r37 e37) rfl ⟨rfl, rfl, (Nat.le_of_ble_eq_true rfl), (Nat.le_of_ble_eq_true rfl)⟩ rfl (Nat.le_of_ble_eq_true rfl) dX10_named_37 ?_
      obtain ⟨g40, hF⟩ := fx_gE hF
      refine xr_iald C dX10_named_40 t30 g40 ?_
      refine xr_iload_n C 2 dX10_named_41 rfl rfl ?_
      refine xr_icmp_ne C 47 dX10_named_42 (by decide) (fun c42 => ?_) (fun c42 => ?_)
      · have hF := fx_neg hF c42
        obtain ⟨x47, e47⟩ : ∃ y : Int32, y = (a3 + (1 : Int32)) := ⟨_, rfl⟩
        have hF := fx_letE hF x47 e47
        refine xr_iinc C x47 3 [(3, .int x47), (0, .ref (G.2.2.1 a0)), (1, .int a1), (2, .int a2)] dX10_named_47 rfl (by rw [e47]; rfl) (Nat.le_of_ble_eq_true rfl) rfl ?_
        refine xr_goto C 17 dX10_named_50 (by decide) ?_
        refine xr_sub [1, 2, 3, 0] [(0, .ref (G.2.2.1 a0)), (1, .int a1), (2, .int a2), (3, .int x47)] rfl ?_
        exact ih a0 a1 a2 x47 ta0 h37 hF
      · have hF := fx_pos hF c42
        refine xr_iload_n C 3 dX10_named_45 rfl rfl ?_
        cases hF
        exact xr_iret C dX10_named_46
def fX10_named (a0 : Nat) (a1 : Int32) (a2 : Int32) (h : hp_T) : Option (Int32 × hp_T) := fx_let (hp_sI h a0 0 (0 : Int32)) fun (h2 : hp_T) => fx_b2 (fX10_isSide a0 a1 h2) fun (r7 : Int32) (h7 : hp_T) => if r7 = 0 then (some ((-1 : Int32), h7)) else (fX10_named_17 fx_N a0 a1 a2 (0 : Int32) h7)
set_option maxRecDepth 100000 in
set_option maxHeartbeats 4000000 in
theorem mX10_named (l : Launch) (G : xr_G) (a0 : Nat) (a1 : Int32) (a2 : Int32) (ta0 : hp_sh a0 = (10, 0)) (h h1 : hp_T) (r : Int32) (hF : fX10_named a0 a1 a2 h = some (r, h1)) : xr_M l G yX10_named cX10_named 4 (xr_R 1 22) (some .int) [.ref (G.2.2.1 a0), .int a1, .int a2] h (xr_Qi G r h1) := by
  refine xr_start rfl (Nat.le_of_ble_eq_true rfl) (fun K C => ?_)
  show xr_j l G K 4 h [(0, .ref (G.2.2.1 a0)), (1, .int a1), (2, .int a2)] 0 []
  unfold fX10_named at hF
  refine xr_aload_n C 0 dX10_named_0 rfl rfl ?_
  refine xr_iconst (v := 0) C dX10_named_1 (by decide) ?_
  refine xr_puti C fpX10_63 rfl rfl rfl dX10_named_2 ta0 (fun h2 e2 => ?_)
  have hF := fx_letE hF h2 e2
  refine xr_aload_n C 0 dX10_named_5 rfl rfl ?_
  refine xr_iload_n C 1 dX10_named_6 rfl rfl ?_
  obtain ⟨r7, h7, e7, hF⟩ := fx_b2E hF
  refine xr_callVi C mvX10_180 [.int a1] [] (mX10_isSide l G a0 a1 ta0 h2 h7 r7 e7) ta0 (by decide) vc10 rfl ⟨rfl, rfl, (Nat.le_of_ble_eq_true rfl), (Nat.le_of_ble_eq_true rfl)⟩ rfl (Nat.le_of_ble_eq_true rfl) dX10_named_7 ?_
  refine xr_if_ne C 15 dX10_named_10 (by decide) (fun c10 => ?_) (fun c10 => ?_)
  · have hF := fx_neg hF c10
    refine xr_iconst (v := 0) C dX10_named_15 (by decide) ?_
    refine xr_istore_n C [(3, .int (0 : Int32)), (0, .ref (G.2.2.1 a0)), (1, .int a1), (2, .int a2)] dX10_named_16 rfl (Nat.le_of_ble_eq_true rfl) rfl ?_
    refine xr_sub [1, 2, 3, 0] [(0, .ref (G.2.2.1 a0)), (1, .int a1), (2, .int a2), (3, .int (0 : Int32))] rfl ?_
    exact bX10_named_17 C  fx_N a0 a1 a2 (0 : Int32) ta0 h7 hF
  · have hF := fx_pos hF c10
    refine xr_iconst (v := -1) C dX10_named_13 (by decide) ?_
    cases hF
    exact xr_iret C dX10_named_14
theorem dX10_isOwn_0 : decode cX10_isOwn 0 = .ok (.aload_n 0, 1) := by decide +kernel
theorem dX10_isOwn_1 : decode cX10_isOwn 1 = .ok (.getfield 42, 3) := by decide +kernel
theorem dX10_isOwn_4 : decode cX10_isOwn 4 = .ok (.iconst 3, 1) := by decide +kernel
theorem dX10_isOwn_5 : decode cX10_isOwn 5 = .ok (.iload_n 1, 1) := by decide +kernel
theorem dX10_isOwn_6 : decode cX10_isOwn 6 = .ok (.imul, 1) := by decide +kernel
theorem dX10_isOwn_7 : decode cX10_isOwn 7 = .ok (.iaload, 1) := by decide +kernel
theorem dX10_isOwn_8 : decode cX10_isOwn 8 = .ok (.aload_n 0, 1) := by decide +kernel
theorem dX10_isOwn_9 : decode cX10_isOwn 9 = .ok (.getfield 42, 3) := by decide +kernel
theorem dX10_isOwn_12 : decode cX10_isOwn 12 = .ok (.iconst 3, 1) := by decide +kernel
theorem dX10_isOwn_13 : decode cX10_isOwn 13 = .ok (.iload_n 1, 1) := by decide +kernel
theorem dX10_isOwn_14 : decode cX10_isOwn 14 = .ok (.imul, 1) := by decide +kernel
theorem dX10_isOwn_15 : decode cX10_isOwn 15 = .ok (.iconst 1, 1) := by decide +kernel
theorem dX10_isOwn_16 : decode cX10_isOwn 16 = .ok (.iadd, 1) := by decide +kernel
theorem dX10_isOwn_17 : decode cX10_isOwn 17 = .ok (.iaload, 1) := by decide +kernel
theorem dX10_isOwn_18 : decode cX10_isOwn 18 = .ok (.if_icmp .ne 7, 3) := by decide +kernel
theorem dX10_isOwn_21 : decode cX10_isOwn 21 = .ok (.iconst 1, 1) := by decide +kernel
theorem dX10_isOwn_22 : decode cX10_isOwn 22 = .ok (.goto 4, 3) := by decide +kernel
theorem dX10_isOwn_25 : decode cX10_isOwn 25 = .ok (.iconst 0, 1) := by decide +kernel
theorem dX10_isOwn_26 : decode cX10_isOwn 26 = .ok (.ireturn, 1) := by decide +kernel
def fX10_isOwn (a0 : Nat) (a1 : Int32) (h : hp_T) : Option (Int32 × hp_T) := fx_g (fx_in ((3 : Int32) * a1) 150) (fx_g (fx_in (((3 : Int32) * a1) + (1 : Int32)) 150) (if (h.1 (h.2.2 a0 23) (fx_ix ((3 : Int32) * a1))) = (h.1 (h.2.2 a0 23) (fx_ix (((3 : Int32) * a1) + (1 : Int32)))) then (some ((1 : Int32), h)) else (some ((0 : Int32), h))))
set_option maxRecDepth 100000 in
set_option maxHeartbeats 4000000 in
theorem mX10_isOwn (l : Launch) (G : xr_G) (a0 : Nat) (a1 : Int32) (ta0 : hp_sh a0 = (10, 0)) (h h1 : hp_T) (r : Int32) (hF : fX10_isOwn a0 a1 h = some (r, h1)) : xr_M l G yX10_isOwn cX10_isOwn 2 (xr_R 0 0) (some .boolean) [.ref (G.2.2.1 a0), .int a1] h (xr_Qi G r h1) := by
  refine xr_start rfl (Nat.le_of_ble_eq_true rfl) (fun K C => ?_)
  show xr_j l G K 2 h [(0, .ref (G.2.2.1 a0)), (1, .int a1)] 0 []
  unfold fX10_isOwn at hF
  refine xr_aload_n C 0 dX10_isOwn_0 rfl rfl ?_
  refine xr_getr C flX10_42 rfl (by decide) dX10_isOwn_1 ta0 (fun t1 => ?_)
  refine xr_iconst (v := 3) C dX10_isOwn_4 (by decide) ?_
  refine xr_iload_n C 1 dX10_isOwn_5 rfl rfl ?_
  refine xr_imul C dX10_isOwn_6 ?_
  obtain ⟨g7, hF⟩ := fx_gE hF
  refine xr_iald C dX10_isOwn_7 t1 g7 ?_
  refine xr_aload_n C 0 dX10_isOwn_8 rfl rfl ?_
  refine xr_getr C flX10_42 rfl (by decide) dX10_isOwn_9 ta0 (fun t9 => ?_)
  refine xr_iconst (v := 3) C dX10_isOwn_12 (by decide) ?_
  refine xr_iload_n C 1 dX10_isOwn_13 rfl rfl ?_
  refine xr_imul C dX10_isOwn_14 ?_
  refine xr_iconst (v := 1) C dX10_isOwn_15 (by decide) ?_
  refine xr_iadd C dX10_isOwn_16 ?_
  obtain ⟨g17, hF⟩ := fx_gE hF
  refine xr_iald C dX10_isOwn_17 t9 g17 ?_
  refine xr_icmp_ne C 25 dX10_isOwn_18 (by decide) (fun c18 => ?_) (fun c18 => ?_)
  · have hF := fx_neg hF c18
    refine xr_iconst (v := 0) C dX10_isOwn_25 (by decide) ?_
    cases hF
    exact xr_zret C rfl dX10_isOwn_26
  · have hF := fx_pos hF c18
    refine xr_iconst (v := 1) C dX10_isOwn_21 (by decide) ?_
    refine xr_goto C 26 dX10_isOwn_22 (by decide) ?_
    cases hF
    exact xr_zret C rfl dX10_isOwn_26
theorem dX10_goesOnRun_0 : decode cX10_goesOnRun 0 = .ok (.iload_n 1, 1) := by decide +kernel
theorem dX10_goesOnRun_1 : decode cX10_goesOnRun 1 = .ok (.ifCond .le 63, 3) := by decide +kernel
theorem dX10_goesOnRun_4 : decode cX10_goesOnRun 4 = .ok (.aload_n 0, 1) := by decide +kernel
theorem dX10_goesOnRun_5 : decode cX10_goesOnRun 5 = .ok (.iload_n 1, 1) := by decide +kernel
theorem dX10_goesOnRun_6 : decode cX10_goesOnRun 6 = .ok (.iconst 1, 1) := by decide +kernel
theorem dX10_goesOnRun_7 : decode cX10_goesOnRun 7 = .ok (.isub, 1) := by decide +kernel
theorem dX10_goesOnRun_8 : decode cX10_goesOnRun 8 = .ok (.invokevirtual 336, 3) := by decide +kernel
theorem dX10_goesOnRun_11 : decode cX10_goesOnRun 11 = .ok (.ifCond .eq 53, 3) := by decide +kernel
theorem dX10_goesOnRun_14 : decode cX10_goesOnRun 14 = .ok (.aload_n 0, 1) := by decide +kernel
theorem dX10_goesOnRun_15 : decode cX10_goesOnRun 15 = .ok (.getfield 42, 3) := by decide +kernel
theorem dX10_goesOnRun_18 : decode cX10_goesOnRun 18 = .ok (.iconst 3, 1) := by decide +kernel
theorem dX10_goesOnRun_19 : decode cX10_goesOnRun 19 = .ok (.iload_n 1, 1) := by decide +kernel
theorem dX10_goesOnRun_20 : decode cX10_goesOnRun 20 = .ok (.imul, 1) := by decide +kernel
theorem dX10_goesOnRun_21 : decode cX10_goesOnRun 21 = .ok (.iconst 1, 1) := by decide +kernel
theorem dX10_goesOnRun_22 : decode cX10_goesOnRun 22 = .ok (.iadd, 1) := by decide +kernel
theorem dX10_goesOnRun_23 : decode cX10_goesOnRun 23 = .ok (.iaload, 1) := by decide +kernel
theorem dX10_goesOnRun_24 : decode cX10_goesOnRun 24 = .ok (.aload_n 0, 1) := by decide +kernel
theorem dX10_goesOnRun_25 : decode cX10_goesOnRun 25 = .ok (.getfield 42, 3) := by decide +kernel
theorem dX10_goesOnRun_28 : decode cX10_goesOnRun 28 = .ok (.iconst 3, 1) := by decide +kernel
theorem dX10_goesOnRun_29 : decode cX10_goesOnRun 29 = .ok (.iload_n 1, 1) := by decide +kernel
theorem dX10_goesOnRun_30 : decode cX10_goesOnRun 30 = .ok (.imul, 1) := by decide +kernel
theorem dX10_goesOnRun_31 : decode cX10_goesOnRun 31 = .ok (.iconst 2, 1) := by decide +kernel
theorem dX10_goesOnRun_32 : decode cX10_goesOnRun 32 = .ok (.isub, 1) := by decide +kernel
theorem dX10_goesOnRun_33 : decode cX10_goesOnRun 33 = .ok (.iaload, 1) := by decide +kernel
theorem dX10_goesOnRun_34 : decode cX10_goesOnRun 34 = .ok (.if_icmp .ne 30, 3) := by decide +kernel
theorem dX10_goesOnRun_37 : decode cX10_goesOnRun 37 = .ok (.aload_n 0, 1) := by decide +kernel
theorem dX10_goesOnRun_38 : decode cX10_goesOnRun 38 = .ok (.getfield 42, 3) := by decide +kernel
theorem dX10_goesOnRun_41 : decode cX10_goesOnRun 41 = .ok (.iconst 3, 1) := by decide +kernel
theorem dX10_goesOnRun_42 : decode cX10_goesOnRun 42 = .ok (.iload_n 1, 1) := by decide +kernel
theorem dX10_goesOnRun_43 : decode cX10_goesOnRun 43 = .ok (.imul, 1) := by decide +kernel
theorem dX10_goesOnRun_44 : decode cX10_goesOnRun 44 = .ok (.iconst 2, 1) := by decide +kernel
theorem dX10_goesOnRun_45 : decode cX10_goesOnRun 45 = .ok (.iadd, 1) := by decide +kernel
theorem dX10_goesOnRun_46 : decode cX10_goesOnRun 46 = .ok (.iaload, 1) := by decide +kernel
theorem dX10_goesOnRun_47 : decode cX10_goesOnRun 47 = .ok (.aload_n 0, 1) := by decide +kernel
theorem dX10_goesOnRun_48 : decode cX10_goesOnRun 48 = .ok (.getfield 42, 3) := by decide +kernel
theorem dX10_goesOnRun_51 : decode cX10_goesOnRun 51 = .ok (.iconst 3, 1) := by decide +kernel
theorem dX10_goesOnRun_52 : decode cX10_goesOnRun 52 = .ok (.iload_n 1, 1) := by decide +kernel
theorem dX10_goesOnRun_53 : decode cX10_goesOnRun 53 = .ok (.imul, 1) := by decide +kernel
theorem dX10_goesOnRun_54 : decode cX10_goesOnRun 54 = .ok (.iconst 1, 1) := by decide +kernel
theorem dX10_goesOnRun_55 : decode cX10_goesOnRun 55 = .ok (.isub, 1) := by decide +kernel
theorem dX10_goesOnRun_56 : decode cX10_goesOnRun 56 = .ok (.iaload, 1) := by decide +kernel
theorem dX10_goesOnRun_57 : decode cX10_goesOnRun 57 = .ok (.if_icmp .ne 7, 3) := by decide +kernel
theorem dX10_goesOnRun_60 : decode cX10_goesOnRun 60 = .ok (.iconst 1, 1) := by decide +kernel
theorem dX10_goesOnRun_61 : decode cX10_goesOnRun 61 = .ok (.goto 4, 3) := by decide +kernel
theorem dX10_goesOnRun_64 : decode cX10_goesOnRun 64 = .ok (.iconst 0, 1) := by decide +kernel
theorem dX10_goesOnRun_65 : decode cX10_goesOnRun 65 = .ok (.ireturn, 1) := by decide +kernel
def fX10_goesOnRun (a0 : Nat) (a1 : Int32) (h : hp_T) : Option (Int32 × hp_T) := if a1 ≤ 0 then (some ((0 : Int32), h)) else (fx_b2 (fX10_isOwn a0 (a1 - (1 : Int32)) h) fun (r8 : Int32) (h8 : hp_T) => if r8 = 0 then (some ((0 : Int32), h8)) else (fx_g (fx_in (((3 : Int32) * a1) + (1 : Int32)) 150) (fx_g (fx_in (((3 : Int32) * a1) - (2 : Int32)) 150) (if (h8.1 (h8.2.2 a0 23) (fx_ix (((3 : Int32) * a1) + (1 : Int32)))) = (h8.1 (h8.2.2 a0 23) (fx_ix (((3 : Int32) * a1) - (2 : Int32)))) then (fx_g (fx_in (((3 : Int32) * a1) + (2 : Int32)) 150) (fx_g (fx_in (((3 : Int32) * a1) - (1 : Int32)) 150) (if (h8.1 (h8.2.2 a0 23) (fx_ix (((3 : Int32) * a1) + (2 : Int32)))) = (h8.1 (h8.2.2 a0 23) (fx_ix (((3 : Int32) * a1) - (1 : Int32)))) then (some ((1 : Int32), h8)) else (some ((0 : Int32), h8))))) else (some ((0 : Int32), h8))))))
set_option maxRecDepth 100000 in
set_option maxHeartbeats 4000000 in
theorem mX10_goesOnRun (l : Launch) (G : xr_G) (a0 : Nat) (a1 : Int32) (ta0 : hp_sh a0 = (10, 0)) (h h1 : hp_T) (r : Int32) (hF : fX10_goesOnRun a0 a1 h = some (r, h1)) : xr_M l G yX10_goesOnRun cX10_goesOnRun 2 (xr_R 1 21) (some .boolean) [.ref (G.2.2.1 a0), .int a1] h (xr_Qi G r h1) := by
  refine xr_start rfl (Nat.le_of_ble_eq_true rfl) (fun K C => ?_)
  show xr_j l G K 2 h [(0, .ref (G.2.2.1 a0)), (1, .int a1)] 0 []
  unfold fX10_goesOnRun at hF
  refine xr_iload_n C 1 dX10_goesOnRun_0 rfl rfl ?_
  refine xr_if_le C 64 dX10_goesOnRun_1 (by decide) (fun c1 => ?_) (fun c1 => ?_)
  · have hF := fx_pos hF c1
    refine xr_iconst (v := 0) C dX10_goesOnRun_64 (by decide) ?_
    cases hF
    exact xr_zret C rfl dX10_goesOnRun_65
  · have hF := fx_neg hF c1
    refine xr_aload_n C 0 dX10_goesOnRun_4 rfl rfl ?_
    refine xr_iload_n C 1 dX10_goesOnRun_5 rfl rfl ?_
    refine xr_iconst (v := 1) C dX10_goesOnRun_6 (by decide) ?_
    refine xr_isub C dX10_goesOnRun_7 ?_
    obtain ⟨r8, h8, e8, hF⟩ := fx_b2E hF
    refine xr_callVi C mvX10_336 [.int (a1 - (1 : Int32))] [] (mX10_isOwn l G a0 (a1 - (1 : Int32)) ta0 h h8 r8 e8) ta0 (by decide) vc10 rfl ⟨rfl, rfl, (Nat.le_of_ble_eq_true rfl), (Nat.le_of_ble_eq_true rfl)⟩ rfl (Nat.le_of_ble_eq_true rfl) dX10_goesOnRun_8 ?_
    refine xr_if_eq C 64 dX10_goesOnRun_11 (by decide) (fun c11 => ?_) (fun c11 => ?_)
    · have hF := fx_pos hF c11
      refine xr_iconst (v := 0) C dX10_goesOnRun_64 (by decide) ?_
      cases hF
      exact xr_zret C rfl dX10_goesOnRun_65
    · have hF := fx_neg hF c11
      refine xr_aload_n C 0 dX10_goesOnRun_14 rfl rfl ?_
      refine xr_getr C flX10_42 rfl (by decide) dX10_goesOnRun_15 ta0 (fun t15 => ?_)
      refine xr_iconst (v := 3) C dX10_goesOnRun_18 (by decide) ?_
      refine xr_iload_n C 1 dX10_goesOnRun_19 rfl rfl ?_
      refine xr_imul C dX10_goesOnRun_20 ?_
      refine xr_iconst (v := 1) C dX10_goesOnRun_21 (by decide) ?_
      refine xr_iadd C dX10_goesOnRun_22 ?_
      obtain ⟨g23, hF⟩ := fx_gE hF
      refine xr_iald C dX10_goesOnRun_23 t15 g23 ?_
      refine xr_aload_n C 0 dX10_goesOnRun_24 rfl rfl ?_
      refine xr_getr C flX10_42 rfl (by decide) dX10_goesOnRun_25 ta0 (fun t25 => ?_)
      refine xr_iconst (v := 3) C dX10_goesOnRun_28 (by decide) ?_
      refine xr_iload_n C 1 dX10_goesOnRun_29 rfl rfl ?_
      refine xr_imul C dX10_goesOnRun_30 ?_
      refine xr_iconst (v := 2) C dX10_goesOnRun_31 (by decide) ?_
      refine xr_isub C dX10_goesOnRun_32 ?_
      obtain ⟨g33, hF⟩ := fx_gE hF
      refine xr_iald C dX10_goesOnRun_33 t25 g33 ?_
      refine xr_icmp_ne C 64 dX10_goesOnRun_34 (by decide) (fun c34 => ?_) (fun c34 => ?_)
      · have hF := fx_neg hF c34
        refine xr_iconst (v := 0) C dX10_goesOnRun_64 (by decide) ?_
        cases hF
        exact xr_zret C rfl dX10_goesOnRun_65
      · have hF := fx_pos hF c34
        refine xr_aload_n C 0 dX10_goesOnRun_37 rfl rfl ?_
        refine xr_getr C flX10_42 rfl (by decide) dX10_goesOnRun_38 ta0 (fun t38 => ?_)
        refine xr_iconst (v := 3) C dX10_goesOnRun_41 (by decide) ?_
        refine xr_iload_n C 1 dX10_goesOnRun_42 rfl rfl ?_
        refine xr_imul C dX10_goesOnRun_43 ?_
        refine xr_iconst (v := 2) C dX10_goesOnRun_44 (by decide) ?_
        refine xr_iadd C dX10_goesOnRun_45 ?_
        obtain ⟨g46, hF⟩ := fx_gE hF
        refine xr_iald C dX10_goesOnRun_46 t38 g46 ?_
        refine xr_aload_n C 0 dX10_goesOnRun_47 rfl rfl ?_
        refine xr_getr C flX10_42 rfl (by decide) dX10_goesOnRun_48 ta0 (fun t48 => ?_)
        refine xr_iconst (v := 3) C dX10_goesOnRun_51 (by decide) ?_
        refine xr_iload_n C 1 dX10_goesOnRun_52 rfl rfl ?_
        refine xr_imul C dX10_goesOnRun_53 ?_
        refine xr_iconst (v := 1) C dX10_goesOnRun_54 (by decide) ?_
        refine xr_isub C dX10_goesOnRun_55 ?_
        obtain ⟨g56, hF⟩ := fx_gE hF
        refine xr_iald C dX10_goesOnRun_56 t48 g56 ?_
        refine xr_icmp_ne C 64 dX10_goesOnRun_57 (by decide) (fun c57 => ?_) (fun c57 => ?_)
        · have hF := fx_neg hF c57
          refine xr_iconst (v := 0) C dX10_goesOnRun_64 (by decide) ?_
          cases hF
          exact xr_zret C rfl dX10_goesOnRun_65
        · have hF := fx_pos hF c57
          refine xr_iconst (v := 1) C dX10_goesOnRun_60 (by decide) ?_
          refine xr_goto C 65 dX10_goesOnRun_61 (by decide) ?_
          cases hF
          exact xr_zret C rfl dX10_goesOnRun_65
theorem dX10_runNow_0 : decode cX10_runNow 0 = .ok (.iconst 0, 1) := by decide +kernel
theorem dX10_runNow_1 : decode cX10_runNow 1 = .ok (.istore_n 1, 1) := by decide +kernel
theorem dX10_runNow_2 : decode cX10_runNow 2 = .ok (.aload_n 0, 1) := by decide +kernel
theorem dX10_runNow_3 : decode cX10_runNow 3 = .ok (.getfield 36, 3) := by decide +kernel
theorem dX10_runNow_6 : decode cX10_runNow 6 = .ok (.bipush 119, 2) := by decide +kernel
theorem dX10_runNow_8 : decode cX10_runNow 8 = .ok (.iaload, 1) := by decide +kernel
theorem dX10_runNow_9 : decode cX10_runNow 9 = .ok (.iconst 1, 1) := by decide +kernel
theorem dX10_runNow_10 : decode cX10_runNow 10 = .ok (.isub, 1) := by decide +kernel
theorem dX10_runNow_11 : decode cX10_runNow 11 = .ok (.istore_n 2, 1) := by decide +kernel
theorem dX10_runNow_12 : decode cX10_runNow 12 = .ok (.iload_n 2, 1) := by decide +kernel
theorem dX10_runNow_13 : decode cX10_runNow 13 = .ok (.ifCond .lt 75, 3) := by decide +kernel
theorem dX10_runNow_16 : decode cX10_runNow 16 = .ok (.aload_n 0, 1) := by decide +kernel
theorem dX10_runNow_17 : decode cX10_runNow 17 = .ok (.iload_n 2, 1) := by decide +kernel
theorem dX10_runNow_18 : decode cX10_runNow 18 = .ok (.invokevirtual 336, 3) := by decide +kernel
theorem dX10_runNow_21 : decode cX10_runNow 21 = .ok (.ifCond .eq 50, 3) := by decide +kernel
theorem dX10_runNow_24 : decode cX10_runNow 24 = .ok (.aload_n 0, 1) := by decide +kernel
theorem dX10_runNow_25 : decode cX10_runNow 25 = .ok (.getfield 42, 3) := by decide +kernel
theorem dX10_runNow_28 : decode cX10_runNow 28 = .ok (.iconst 3, 1) := by decide +kernel
theorem dX10_runNow_29 : decode cX10_runNow 29 = .ok (.iload_n 2, 1) := by decide +kernel
theorem dX10_runNow_30 : decode cX10_runNow 30 = .ok (.imul, 1) := by decide +kernel
theorem dX10_runNow_31 : decode cX10_runNow 31 = .ok (.iconst 1, 1) := by decide +kernel
theorem dX10_runNow_32 : decode cX10_runNow 32 = .ok (.iadd, 1) := by decide +kernel
theorem dX10_runNow_33 : decode cX10_runNow 33 = .ok (.iaload, 1) := by decide +kernel
theorem dX10_runNow_34 : decode cX10_runNow 34 = .ok (.aload_n 0, 1) := by decide +kernel
theorem dX10_runNow_35 : decode cX10_runNow 35 = .ok (.getfield 36, 3) := by decide +kernel
theorem dX10_runNow_38 : decode cX10_runNow 38 = .ok (.iconst 2, 1) := by decide +kernel
theorem dX10_runNow_39 : decode cX10_runNow 39 = .ok (.iaload, 1) := by decide +kernel
theorem dX10_runNow_40 : decode cX10_runNow 40 = .ok (.if_icmp .ne 31, 3) := by decide +kernel
theorem dX10_runNow_43 : decode cX10_runNow 43 = .ok (.aload_n 0, 1) := by decide +kernel
theorem dX10_runNow_44 : decode cX10_runNow 44 = .ok (.getfield 42, 3) := by decide +kernel
theorem dX10_runNow_47 : decode cX10_runNow 47 = .ok (.iconst 3, 1) := by decide +kernel
theorem dX10_runNow_48 : decode cX10_runNow 48 = .ok (.iload_n 2, 1) := by decide +kernel
theorem dX10_runNow_49 : decode cX10_runNow 49 = .ok (.imul, 1) := by decide +kernel
theorem dX10_runNow_50 : decode cX10_runNow 50 = .ok (.iconst 2, 1) := by decide +kernel
theorem dX10_runNow_51 : decode cX10_runNow 51 = .ok (.iadd, 1) := by decide +kernel
theorem dX10_runNow_52 : decode cX10_runNow 52 = .ok (.iaload, 1) := by decide +kernel
theorem dX10_runNow_53 : decode cX10_runNow 53 = .ok (.aload_n 0, 1) := by decide +kernel
theorem dX10_runNow_54 : decode cX10_runNow 54 = .ok (.aload_n 0, 1) := by decide +kernel
theorem dX10_runNow_55 : decode cX10_runNow 55 = .ok (.getfield 36, 3) := by decide +kernel
theorem dX10_runNow_58 : decode cX10_runNow 58 = .ok (.iconst 2, 1) := by decide +kernel
theorem dX10_runNow_59 : decode cX10_runNow 59 = .ok (.iaload, 1) := by decide +kernel
theorem dX10_runNow_60 : decode cX10_runNow 60 = .ok (.iconst 1, 1) := by decide +kernel
theorem dX10_runNow_61 : decode cX10_runNow 61 = .ok (.invokevirtual 183, 3) := by decide +kernel
theorem dX10_runNow_64 : decode cX10_runNow 64 = .ok (.if_icmp .ne 7, 3) := by decide +kernel
theorem dX10_runNow_67 : decode cX10_runNow 67 = .ok (.iconst 1, 1) := by decide +kernel
theorem dX10_runNow_68 : decode cX10_runNow 68 = .ok (.goto 4, 3) := by decide +kernel
theorem dX10_runNow_71 : decode cX10_runNow 71 = .ok (.iconst 0, 1) := by decide +kernel
theorem dX10_runNow_72 : decode cX10_runNow 72 = .ok (.istore_n 3, 1) := by decide +kernel
theorem dX10_runNow_73 : decode cX10_runNow 73 = .ok (.iload_n 3, 1) := by decide +kernel
theorem dX10_runNow_74 : decode cX10_runNow 74 = .ok (.ifCond .ne 5, 3) := by decide +kernel
theorem dX10_runNow_77 : decode cX10_runNow 77 = .ok (.iload_n 1, 1) := by decide +kernel
theorem dX10_runNow_78 : decode cX10_runNow 78 = .ok (.ireturn, 1) := by decide +kernel
theorem dX10_runNow_79 : decode cX10_runNow 79 = .ok (.iinc 1 1, 3) := by decide +kernel
theorem dX10_runNow_82 : decode cX10_runNow 82 = .ok (.iinc 2 (-1), 3) := by decide +kernel
theorem dX10_runNow_85 : decode cX10_runNow 85 = .ok (.goto (-73), 3) := by decide +kernel
theorem dX10_runNow_88 : decode cX10_runNow 88 = .ok (.iload_n 1, 1) := by decide +kernel
theorem dX10_runNow_89 : decode cX10_runNow 89 = .ok (.ireturn, 1) := by decide +kernel
def fX10_runNow_72 (k12 : Nat → Int32 → Int32 → hp_T → Option (Int32 × hp_T)) (a0 : Nat) (a1 : Int32) (a2 : Int32) (s0 : Int32) (h : hp_T) : Option (Int32 × hp_T) := if s0 = 0 then (some (a1, h)) else (fx_let (a1 + (1 : Int32)) fun (x79 : Int32) => fx_let (a2 + (-1 : Int32)) fun (x82 : Int32) => k12 a0 x79 x82 h)
set_option maxRecDepth 100000 in
set_option maxHeartbeats 4000000 in
theorem bX10_runNow_72 {l : Launch} {G : xr_G} {K : xr_K} {r : Int32} {h1 : hp_T} (C : xr_C G K cX10_runNow RX10 4 (xr_R 2 44) (some .int) (some (xr_Qi G r h1))) (k12 : Nat → Int32 → Int32 → hp_T → Option (Int32 × hp_T)) (j12 : ∀ (a0 : Nat) (a1 : Int32) (a2 : Int32) (ta0 : hp_sh a0 = (10, 0)) (h : hp_T), k12 a0 a1 a2 h = some (r, h1) → xr_j l G K 4 h [(0, .ref (G.2.2.1 a0)), (1, .int a1), (2, .int a2)] 12 []) (a0 : Nat) (a1 : Int32) (a2 : Int32) (s0 : Int32) (ta0 : hp_sh a0 = (10, 0)) (h : hp_T) (hF : fX10_runNow_72 k12 a0 a1 a2 s0 h = some (r, h1)) : xr_j l G K 4 h [(0, .ref (G.2.2.1 a0)), (1, .int a1), (2, .int a2)] 72 [.int s0] := by
  unfold fX10_runNow_72 at hF
  refine xr_istore_n C [(3, .int s0), (0, .ref (G.2.2.1 a0)), (1, .int a1), (2, .int a2)] dX10_runNow_72 rfl (Nat.le_of_ble_eq_true rfl) rfl ?_
  refine xr_iload_n C 0 dX10_runNow_73 rfl rfl ?_
  refine xr_if_ne C 79 dX10_runNow_74 (by decide) (fun c74 => ?_) (fun c74 => ?_)
  · have hF := fx_neg hF c74
    obtain ⟨x79, e79⟩ : ∃ y : Int32, y = (a1 + (1 : Int32)) := ⟨_, rfl⟩
    have hF := fx_letE hF x79 e79
    refine xr_iinc C x79 2 [(1, .int x79), (3, .int s0), (0, .ref (G.2.2.1 a0)), (2, .int a2)] dX10_runNow_79 rfl (by rw [e79]; rfl) (Nat.le_of_ble_eq_true rfl) rfl ?_
    obtain ⟨x82, e82⟩ : ∃ y : Int32, y = (a2 + (-1 : Int32)) := ⟨_, rfl⟩
    have hF := fx_letE hF x82 e82
    refine xr_iinc C x82 3 [(2, .int x82), (1, .int x79), (3, .int s0), (0, .ref (G.2.2.1 a0))] dX10_runNow_82 rfl (by rw [e82]; rfl) (Nat.le_of_ble_eq_true rfl) rfl ?_
    refine xr_goto C 12 dX10_runNow_85 (by decide) ?_
    refine xr_sub [3, 1, 0] [(0, .ref (G.2.2.1 a0)), (1, .int x79), (2, .int x82)] rfl ?_
    exact j12 a0 x79 x82 ta0 h hF
  · have hF := fx_pos hF c74
    refine xr_iload_n C 2 dX10_runNow_77 rfl rfl ?_
    cases hF
    exact xr_iret C dX10_runNow_78
def fX10_runNow_71 (k12 : Nat → Int32 → Int32 → hp_T → Option (Int32 × hp_T)) (a0 : Nat) (a1 : Int32) (a2 : Int32) (h : hp_T) : Option (Int32 × hp_T) := fX10_runNow_72 k12 a0 a1 a2 (0 : Int32) h
set_option maxRecDepth 100000 in
set_option maxHeartbeats 4000000 in
theorem bX10_runNow_71 {l : Launch} {G : xr_G} {K : xr_K} {r : Int32} {h1 : hp_T} (C : xr_C G K cX10_runNow RX10 4 (xr_R 2 44) (some .int) (some (xr_Qi G r h1))) (k12 : Nat → Int32 → Int32 → hp_T → Option (Int32 × hp_T)) (j12 : ∀ (a0 : Nat) (a1 : Int32) (a2 : Int32) (ta0 : hp_sh a0 = (10, 0)) (h : hp_T), k12 a0 a1 a2 h = some (r, h1) → xr_j l G K 4 h [(0, .ref (G.2.2.1 a0)), (1, .int a1), (2, .int a2)] 12 []) (a0 : Nat) (a1 : Int32) (a2 : Int32) (ta0 : hp_sh a0 = (10, 0)) (h : hp_T) (hF : fX10_runNow_71 k12 a0 a1 a2 h = some (r, h1)) : xr_j l G K 4 h [(0, .ref (G.2.2.1 a0)), (1, .int a1), (2, .int a2)] 71 [] := by
  unfold fX10_runNow_71 at hF
  refine xr_iconst (v := 0) C dX10_runNow_71 (by decide) ?_
  exact bX10_runNow_72 C k12 j12  a0 a1 a2 (0 : Int32) ta0 h hF
def fX10_runNow_12  : Nat → Nat → Int32 → Int32 → hp_T → Option (Int32 × hp_T)
  | 0, _, _, _, _ => none
  | n + 1, a0, a1, a2, h => if a2 < 0 then (some (a1, h)) else (fx_b2 (fX10_isOwn a0 a2 h) fun (r18 : Int32) (h18 : hp_T) => if r18 = 0 then (fX10_runNow_71 (fX10_runNow_12 n) a0 a1 a2 h18) else (fx_g (fx_in (((3 : Int32) * a2) + (1 : Int32)) 150) (if (h18.1 (h18.2.2 a0 23) (fx_ix (((3 : Int32) * a2) + (1 : Int32)))) = (h18.1 (h18.2.2 a0 20) (fx_ix (2 : Int32))) then (fx_g (fx_in (((3 : Int32) * a2) + (2 : Int32)) 150) (fx_b2 (fX10_court a0 (h18.1 (h18.2.2 a0 20) (fx_ix (2 : Int32))) (1 : Int32) h18) fun (r61 : Int32) (h61 : hp_T) => if (h18.1 (h18.2.2 a0 23) (fx_ix (((3 : Int32) * a2) + (2 : Int32)))) = r61 then (fX10_runNow_72 (fX10_runNow_12 n) a0 a1 a2 (1 : Int32) h61) else (fX10_runNow_71 (fX10_runNow_12 n) a0 a1 a2 h61))) else (fX10_runNow_71 (fX10_runNow_12 n) a0 a1 a2 h18))))
set_option maxRecDepth 100000 in
set_option maxHeartbeats 4000000 in
theorem bX10_runNow_12 {l : Launch} {G : xr_G} {K : xr_K} {r : Int32} {h1 : hp_T} (C : xr_C G K cX10_runNow RX10 4 (xr_R 2 44) (some .int) (some (xr_Qi G r h1)))  : ∀ (n : Nat) (a0 : Nat) (a1 : Int32) (a2 : Int32) (ta0 : hp_sh a0 = (10, 0)) (h : hp_T), fX10_runNow_12 n a0 a1 a2 h = some (r, h1) → xr_j l G K 4 h [(0, .ref (G.2.2.1 a0)), (1, .int a1), (2, .int a2)] 12 [] := by
  intro n
  induction n with
  | zero =>
    intro a0 a1 a2 ta0 h hF
    cases hF
  | succ n ih =>
    intro a0 a1 a2 ta0 h hF
    rw [fX10_runNow_12] at hF
    refine xr_iload_n C 2 dX10_runNow_12 rfl rfl ?_
    refine xr_if_lt C 88 dX10_runNow_13 (by decide) (fun c13 => ?_) (fun c13 => ?_)
    · have hF := fx_pos hF c13
      refine xr_iload_n C 1 dX10_runNow_88 rfl rfl ?_
      cases hF
      exact xr_iret C dX10_runNow_89
    · have hF := fx_neg hF c13
      refine xr_aload_n C 0 dX10_runNow_16 rfl rfl ?_
      refine xr_iload_n C 2 dX10_runNow_17 rfl rfl ?_
      obtain ⟨r18, h18, e18, hF⟩ := fx_b2E hF
      refine xr_callVi C mvX10_336 [.int a2] [] (mX10_isOwn l G a0 a2 ta0 h h18 r18 e18) ta0 (by decide) vc10 rfl ⟨rfl, rfl, (Nat.le_of_ble_eq_true rfl), (Nat.le_of_ble_eq_true rfl)⟩ rfl (Nat.le_of_ble_eq_true rfl) dX10_runNow_18 ?_
      refine xr_if_eq C 71 dX10_runNow_21 (by decide) (fun c21 => ?_) (fun c21 => ?_)
      · have hF := fx_pos hF c21
        exact bX10_runNow_71 C (fX10_runNow_12 n) (fun a0 a1 a2 ta0 h hF => ih a0 a1 a2 ta0 h hF)  a0 a1 a2 ta0 h18 hF
      · have hF := fx_neg hF c21
        refine xr_aload_n C 0 dX10_runNow_24 rfl rfl ?_
        refine xr_getr C flX10_42 rfl (by decide) dX10_runNow_25 ta0 (fun t25 => ?_)
        refine xr_iconst (v := 3) C dX10_runNow_28 (by decide) ?_
        refine xr_iload_n C 2 dX10_runNow_29 rfl rfl ?_
        refine xr_imul C dX10_runNow_30 ?_
        refine xr_iconst (v := 1) C dX10_runNow_31 (by decide) ?_
        refine xr_iadd C dX10_runNow_32 ?_
        obtain ⟨g33, hF⟩ := fx_gE hF
        refine xr_iald C dX10_runNow_33 t25 g33 ?_
        refine xr_aload_n C 0 dX10_runNow_34 rfl rfl ?_
        refine xr_getr C flX10_36 rfl (by decide) dX10_runNow_35 ta0 (fun t35 => ?_)
        refine xr_iconst (v := 2) C dX10_runNow_38 (by decide) ?_
        refine xr_iald C dX10_runNow_39 t35 (by decide) ?_
        refine xr_icmp_ne C 71 dX10_runNow_40 (by decide) (fun c40 => ?_) (fun c40 => ?_)
        · have hF := fx_neg hF c40
          exact bX10_runNow_71 C (fX10_runNow_12 n) (fun a0 a1 a2 ta0 h hF => ih a0 a1 a2 ta0 h hF)  a0 a1 a2 ta0 h18 hF
        · have hF := fx_pos hF c40
          refine xr_aload_n C 0 dX10_runNow_43 rfl rfl ?_
          refine xr_getr C flX10_42 rfl (by decide) dX10_runNow_44 ta0 (fun t44 => ?_)
          refine xr_iconst (v := 3) C dX10_runNow_47 (by decide) ?_
          refine xr_iload_n C 2 dX10_runNow_48 rfl rfl ?_
          refine xr_imul C dX10_runNow_49 ?_
          refine xr_iconst (v := 2) C dX10_runNow_50 (by decide) ?_
          refine xr_iadd C dX10_runNow_51 ?_
          obtain ⟨g52, hF⟩ := fx_gE hF
          refine xr_iald C dX10_runNow_52 t44 g52 ?_
          refine xr_aload_n C 0 dX10_runNow_53 rfl rfl ?_
          refine xr_aload_n C 0 dX10_runNow_54 rfl rfl ?_
          refine xr_getr C flX10_36 rfl (by decide) dX10_runNow_55 ta0 (fun t55 => ?_)
          refine xr_iconst (v := 2) C dX10_runNow_58 (by decide) ?_
          refine xr_iald C dX10_runNow_59 t55 (by decide) ?_
          refine xr_iconst (v := 1) C dX10_runNow_60 (by decide) ?_
          obtain ⟨r61, h61, e61, hF⟩ := fx_b2E hF
          refine xr_callVi C mvX10_183 [.int (h18.1 (h18.2.2 a0 20) (fx_ix (2 : Int32))), .int (1 : Int32)] [.int (h18.1 (h18.2.2 a0 23) (fx_ix (((3 : Int32) * a2) + (2 : Int32))))] (mX10_court l G a0 (h18.1 (h18.2.2 a0 20) (fx_ix (2 : Int32))) (1 : Int32) ta0 h18 h61 r61 e61) ta0 (by decide) vc10 rfl ⟨rfl, rfl, (Nat.le_of_ble_eq_true rfl), (Nat.le_of_ble_eq_true rfl)⟩ rfl (Nat.le_of_ble_eq_true rfl) dX10_runNow_61 ?_
          refine xr_icmp_ne C 71 dX10_runNow_64 (by decide) (fun c64 => ?_) (fun c64 => ?_)
          · have hF := fx_neg hF c64
            exact bX10_runNow_71 C (fX10_runNow_12 n) (fun a0 a1 a2 ta0 h hF => ih a0 a1 a2 ta0 h hF)  a0 a1 a2 ta0 h61 hF
          · have hF := fx_pos hF c64
            refine xr_iconst (v := 1) C dX10_runNow_67 (by decide) ?_
            refine xr_goto C 72 dX10_runNow_68 (by decide) ?_
            exact bX10_runNow_72 C (fX10_runNow_12 n) (fun a0 a1 a2 ta0 h hF => ih a0 a1 a2 ta0 h hF)  a0 a1 a2 (1 : Int32) ta0 h61 hF
def fX10_runNow (a0 : Nat) (h : hp_T) : Option (Int32 × hp_T) := fx_let ((h.1 (h.2.2 a0 20) (fx_ix (119 : Int32))) - (1 : Int32)) fun (x11 : Int32) => fX10_runNow_12 fx_N a0 (0 : Int32) x11 h
set_option maxRecDepth 100000 in
set_option maxHeartbeats 4000000 in
theorem mX10_runNow (l : Launch) (G : xr_G) (a0 : Nat) (ta0 : hp_sh a0 = (10, 0)) (h h1 : hp_T) (r : Int32) (hF : fX10_runNow a0 h = some (r, h1)) : xr_M l G yX10_runNow cX10_runNow 4 (xr_R 2 44) (some .int) [.ref (G.2.2.1 a0)] h (xr_Qi G r h1) := by
  refine xr_start rfl (Nat.le_of_ble_eq_true rfl) (fun K C => ?_)
  show xr_j l G K 4 h [(0, .ref (G.2.2.1 a0))] 0 []
  unfold fX10_runNow at hF
  refine xr_iconst (v := 0) C dX10_runNow_0 (by decide) ?_
  refine xr_istore_n C [(1, .int (0 : Int32)), (0, .ref (G.2.2.1 a0))] dX10_runNow_1 rfl (Nat.le_of_ble_eq_true rfl) rfl ?_
  refine xr_aload_n C 1 dX10_runNow_2 rfl rfl ?_
  refine xr_getr C flX10_36 rfl (by decide) dX10_runNow_3 ta0 (fun t3 => ?_)
  refine xr_bipush (v := 119) C dX10_runNow_6 (by decide) ?_
  refine xr_iald C dX10_runNow_8 t3 (by decide) ?_
  refine xr_iconst (v := 1) C dX10_runNow_9 (by decide) ?_
  refine xr_isub C dX10_runNow_10 ?_
  refine xr_topi (fun x11 e11 => ?_)
  have hF := fx_letE hF x11 e11
  refine xr_istore_n C [(2, .int x11), (1, .int (0 : Int32)), (0, .ref (G.2.2.1 a0))] dX10_runNow_11 rfl (Nat.le_of_ble_eq_true rfl) rfl ?_
  refine xr_sub [2, 1, 0] [(0, .ref (G.2.2.1 a0)), (1, .int (0 : Int32)), (2, .int x11)] rfl ?_
  exact bX10_runNow_12 C  fx_N a0 (0 : Int32) x11 ta0 h hF
theorem dX10_run_0 : decode cX10_run 0 = .ok (.aload_n 0, 1) := by decide +kernel
theorem dX10_run_1 : decode cX10_run 1 = .ok (.iconst 0, 1) := by decide +kernel
theorem dX10_run_2 : decode cX10_run 2 = .ok (.putfield 63, 3) := by decide +kernel
theorem dX10_run_5 : decode cX10_run 5 = .ok (.aload_n 0, 1) := by decide +kernel
theorem dX10_run_6 : decode cX10_run 6 = .ok (.getfield 59, 3) := by decide +kernel
theorem dX10_run_9 : decode cX10_run 9 = .ok (.ifCond .eq 12, 3) := by decide +kernel
theorem dX10_run_12 : decode cX10_run 12 = .ok (.iload_n 1, 1) := by decide +kernel
theorem dX10_run_13 : decode cX10_run 13 = .ok (.ifCond .lt 8, 3) := by decide +kernel
theorem dX10_run_16 : decode cX10_run 16 = .ok (.iload_n 1, 1) := by decide +kernel
theorem dX10_run_17 : decode cX10_run 17 = .ok (.iconst 4, 1) := by decide +kernel
theorem dX10_run_18 : decode cX10_run 18 = .ok (.if_icmp .le 5, 3) := by decide +kernel
theorem dX10_run_21 : decode cX10_run 21 = .ok (.iconst (-1), 1) := by decide +kernel
theorem dX10_run_22 : decode cX10_run 22 = .ok (.ireturn, 1) := by decide +kernel
theorem dX10_run_23 : decode cX10_run 23 = .ok (.iload_n 1, 1) := by decide +kernel
theorem dX10_run_24 : decode cX10_run 24 = .ok (.ifCond .ne 8, 3) := by decide +kernel
theorem dX10_run_27 : decode cX10_run 27 = .ok (.aload_n 0, 1) := by decide +kernel
theorem dX10_run_28 : decode cX10_run 28 = .ok (.invokevirtual 339, 3) := by decide +kernel
theorem dX10_run_31 : decode cX10_run 31 = .ok (.ireturn, 1) := by decide +kernel
theorem dX10_run_32 : decode cX10_run 32 = .ok (.iload_n 1, 1) := by decide +kernel
theorem dX10_run_33 : decode cX10_run 33 = .ok (.iconst 1, 1) := by decide +kernel
theorem dX10_run_34 : decode cX10_run 34 = .ok (.if_icmp .ne 15, 3) := by decide +kernel
theorem dX10_run_37 : decode cX10_run 37 = .ok (.aload_n 0, 1) := by decide +kernel
theorem dX10_run_38 : decode cX10_run 38 = .ok (.aload_n 0, 1) := by decide +kernel
theorem dX10_run_39 : decode cX10_run 39 = .ok (.getfield 36, 3) := by decide +kernel
theorem dX10_run_42 : decode cX10_run 42 = .ok (.iconst 2, 1) := by decide +kernel
theorem dX10_run_43 : decode cX10_run 43 = .ok (.iaload, 1) := by decide +kernel
theorem dX10_run_44 : decode cX10_run 44 = .ok (.iconst 1, 1) := by decide +kernel
theorem dX10_run_45 : decode cX10_run 45 = .ok (.invokevirtual 183, 3) := by decide +kernel
theorem dX10_run_48 : decode cX10_run 48 = .ok (.ireturn, 1) := by decide +kernel
theorem dX10_run_49 : decode cX10_run 49 = .ok (.iconst 0, 1) := by decide +kernel
theorem dX10_run_50 : decode cX10_run 50 = .ok (.istore_n 2, 1) := by decide +kernel
theorem dX10_run_51 : decode cX10_run 51 = .ok (.bipush (-2), 2) := by decide +kernel
theorem dX10_run_53 : decode cX10_run 53 = .ok (.istore_n 3, 1) := by decide +kernel
theorem dX10_run_54 : decode cX10_run 54 = .ok (.iconst 0, 1) := by decide +kernel
theorem dX10_run_55 : decode cX10_run 55 = .ok (.istore 4, 2) := by decide +kernel
theorem dX10_run_57 : decode cX10_run 57 = .ok (.iconst 0, 1) := by decide +kernel
theorem dX10_run_58 : decode cX10_run 58 = .ok (.istore 5, 2) := by decide +kernel
theorem dX10_run_60 : decode cX10_run 60 = .ok (.iload 5, 2) := by decide +kernel
theorem dX10_run_62 : decode cX10_run 62 = .ok (.aload_n 0, 1) := by decide +kernel
theorem dX10_run_63 : decode cX10_run 63 = .ok (.getfield 36, 3) := by decide +kernel
theorem dX10_run_66 : decode cX10_run 66 = .ok (.bipush 119, 2) := by decide +kernel
theorem dX10_run_68 : decode cX10_run 68 = .ok (.iaload, 1) := by decide +kernel
theorem dX10_run_69 : decode cX10_run 69 = .ok (.if_icmp .ge 56, 3) := by decide +kernel
theorem dX10_run_72 : decode cX10_run 72 = .ok (.aload_n 0, 1) := by decide +kernel
theorem dX10_run_73 : decode cX10_run 73 = .ok (.iload 5, 2) := by decide +kernel
theorem dX10_run_75 : decode cX10_run 75 = .ok (.invokevirtual 336, 3) := by decide +kernel
theorem dX10_run_78 : decode cX10_run 78 = .ok (.ifCond .ne 7, 3) := by decide +kernel
theorem dX10_run_81 : decode cX10_run 81 = .ok (.iconst 0, 1) := by decide +kernel
theorem dX10_run_82 : decode cX10_run 82 = .ok (.goto 20, 3) := by decide +kernel
theorem dX10_run_85 : decode cX10_run 85 = .ok (.aload_n 0, 1) := by decide +kernel
theorem dX10_run_86 : decode cX10_run 86 = .ok (.iload 5, 2) := by decide +kernel
theorem dX10_run_88 : decode cX10_run 88 = .ok (.invokevirtual 342, 3) := by decide +kernel
theorem dX10_run_91 : decode cX10_run 91 = .ok (.ifCond .eq 10, 3) := by decide +kernel
theorem dX10_run_94 : decode cX10_run 94 = .ok (.iload 4, 2) := by decide +kernel
theorem dX10_run_96 : decode cX10_run 96 = .ok (.iconst 1, 1) := by decide +kernel
theorem dX10_run_97 : decode cX10_run 97 = .ok (.iadd, 1) := by decide +kernel
theorem dX10_run_98 : decode cX10_run 98 = .ok (.goto 4, 3) := by decide +kernel
theorem dX10_run_101 : decode cX10_run 101 = .ok (.iconst 1, 1) := by decide +kernel
theorem dX10_run_102 : decode cX10_run 102 = .ok (.istore 4, 2) := by decide +kernel
theorem dX10_run_104 : decode cX10_run 104 = .ok (.iload 4, 2) := by decide +kernel
theorem dX10_run_106 : decode cX10_run 106 = .ok (.iload_n 2, 1) := by decide +kernel
theorem dX10_run_107 : decode cX10_run 107 = .ok (.if_icmp .gt 6, 3) := by decide +kernel
theorem dX10_run_110 : decode cX10_run 110 = .ok (.goto 9, 3) := by decide +kernel
theorem dX10_run_113 : decode cX10_run 113 = .ok (.iload 4, 2) := by decide +kernel
theorem dX10_run_115 : decode cX10_run 115 = .ok (.istore_n 2, 1) := by decide +kernel
theorem dX10_run_116 : decode cX10_run 116 = .ok (.iload 5, 2) := by decide +kernel
theorem dX10_run_118 : decode cX10_run 118 = .ok (.istore_n 3, 1) := by decide +kernel
theorem dX10_run_119 : decode cX10_run 119 = .ok (.iinc 5 1, 3) := by decide +kernel
theorem dX10_run_122 : decode cX10_run 122 = .ok (.goto (-62), 3) := by decide +kernel
theorem dX10_run_125 : decode cX10_run 125 = .ok (.iload_n 1, 1) := by decide +kernel
theorem dX10_run_126 : decode cX10_run 126 = .ok (.iconst 2, 1) := by decide +kernel
theorem dX10_run_127 : decode cX10_run 127 = .ok (.if_icmp .ne 5, 3) := by decide +kernel
theorem dX10_run_130 : decode cX10_run 130 = .ok (.iload_n 2, 1) := by decide +kernel
theorem dX10_run_131 : decode cX10_run 131 = .ok (.ireturn, 1) := by decide +kernel
theorem dX10_run_132 : decode cX10_run 132 = .ok (.iload_n 3, 1) := by decide +kernel
theorem dX10_run_133 : decode cX10_run 133 = .ok (.bipush (-2), 2) := by decide +kernel
theorem dX10_run_135 : decode cX10_run 135 = .ok (.if_icmp .ne 8, 3) := by decide +kernel
theorem dX10_run_138 : decode cX10_run 138 = .ok (.bipush (-2), 2) := by decide +kernel
theorem dX10_run_140 : decode cX10_run 140 = .ok (.goto 31, 3) := by decide +kernel
theorem dX10_run_143 : decode cX10_run 143 = .ok (.iload_n 1, 1) := by decide +kernel
theorem dX10_run_144 : decode cX10_run 144 = .ok (.iconst 3, 1) := by decide +kernel
theorem dX10_run_145 : decode cX10_run 145 = .ok (.if_icmp .ne 16, 3) := by decide +kernel
theorem dX10_run_148 : decode cX10_run 148 = .ok (.aload_n 0, 1) := by decide +kernel
theorem dX10_run_149 : decode cX10_run 149 = .ok (.getfield 42, 3) := by decide +kernel
theorem dX10_run_152 : decode cX10_run 152 = .ok (.iconst 3, 1) := by decide +kernel
theorem dX10_run_153 : decode cX10_run 153 = .ok (.iload_n 3, 1) := by decide +kernel
theorem dX10_run_154 : decode cX10_run 154 = .ok (.imul, 1) := by decide +kernel
theorem dX10_run_155 : decode cX10_run 155 = .ok (.iconst 2, 1) := by decide +kernel
theorem dX10_run_156 : decode cX10_run 156 = .ok (.iadd, 1) := by decide +kernel
theorem dX10_run_157 : decode cX10_run 157 = .ok (.iaload, 1) := by decide +kernel
theorem dX10_run_158 : decode cX10_run 158 = .ok (.goto 13, 3) := by decide +kernel
theorem dX10_run_161 : decode cX10_run 161 = .ok (.aload_n 0, 1) := by decide +kernel
theorem dX10_run_162 : decode cX10_run 162 = .ok (.getfield 42, 3) := by decide +kernel
theorem dX10_run_165 : decode cX10_run 165 = .ok (.iconst 3, 1) := by decide +kernel
theorem dX10_run_166 : decode cX10_run 166 = .ok (.iload_n 3, 1) := by decide +kernel
theorem dX10_run_167 : decode cX10_run 167 = .ok (.imul, 1) := by decide +kernel
theorem dX10_run_168 : decode cX10_run 168 = .ok (.iconst 1, 1) := by decide +kernel
theorem dX10_run_169 : decode cX10_run 169 = .ok (.iadd, 1) := by decide +kernel
theorem dX10_run_170 : decode cX10_run 170 = .ok (.iaload, 1) := by decide +kernel
theorem dX10_run_171 : decode cX10_run 171 = .ok (.ireturn, 1) := by decide +kernel
def fX10_run_119 (k60 : Nat → Int32 → Int32 → Int32 → Int32 → Int32 → hp_T → Option (Int32 × hp_T)) (a0 : Nat) (a1 : Int32) (a2 : Int32) (a3 : Int32) (a4 : Int32) (a5 : Int32) (h : hp_T) : Option (Int32 × hp_T) := fx_let (a5 + (1 : Int32)) fun (x119 : Int32) => k60 a0 a1 a2 a3 a4 x119 h
set_option maxRecDepth 100000 in
set_option maxHeartbeats 4000000 in
theorem bX10_run_119 {l : Launch} {G : xr_G} {K : xr_K} {r : Int32} {h1 : hp_T} (C : xr_C G K cX10_run RX10 6 (xr_R 3 67) (some .int) (some (xr_Qi G r h1))) (k60 : Nat → Int32 → Int32 → Int32 → Int32 → Int32 → hp_T → Option (Int32 × hp_T)) (j60 : ∀ (a0 : Nat) (a1 : Int32) (a2 : Int32) (a3 : Int32) (a4 : Int32) (a5 : Int32) (ta0 : hp_sh a0 = (10, 0)) (h : hp_T), k60 a0 a1 a2 a3 a4 a5 h = some (r, h1) → xr_j l G K 6 h [(0, .ref (G.2.2.1 a0)), (1, .int a1), (2, .int a2), (3, .int a3), (4, .int a4), (5, .int a5)] 60 []) (a0 : Nat) (a1 : Int32) (a2 : Int32) (a3 : Int32) (a4 : Int32) (a5 : Int32) (ta0 : hp_sh a0 = (10, 0)) (h : hp_T) (hF : fX10_run_119 k60 a0 a1 a2 a3 a4 a5 h = some (r, h1)) : xr_j l G K 6 h [(0, .ref (G.2.2.1 a0)), (1, .int a1), (2, .int a2), (3, .int a3), (4, .int a4), (5, .int a5)] 119 [] := by
  unfold fX10_run_119 at hF
  obtain ⟨x119, e119⟩ : ∃ y : Int32, y = (a5 + (1 : Int32)) := ⟨_, rfl⟩
  have hF := fx_letE hF x119 e119
  refine xr_iinc C x119 5 [(5, .int x119), (0, .ref (G.2.2.1 a0)), (1, .int a1), (2, .int a2), (3, .int a3), (4, .int a4)] dX10_run_119 rfl (by rw [e119]; rfl) (Nat.le_of_ble_eq_true rfl) rfl ?_
  refine xr_goto C 60 dX10_run_122 (by decide) ?_
  refine xr_sub [1, 2, 3, 4, 5, 0] [(0, .ref (G.2.2.1 a0)), (1, .int a1), (2, .int a2), (3, .int a3), (4, .int a4), (5, .int x119)] rfl ?_
  exact j60 a0 a1 a2 a3 a4 x119 ta0 h hF
def fX10_run_102 (k60 : Nat → Int32 → Int32 → Int32 → Int32 → Int32 → hp_T → Option (Int32 × hp_T)) (a0 : Nat) (a1 : Int32) (a2 : Int32) (a3 : Int32) (a5 : Int32) (s0 : Int32) (h : hp_T) : Option (Int32 × hp_T) := if a2 < s0 then (fX10_run_119 k60 a0 a1 s0 a5 s0 a5 h) else (fX10_run_119 k60 a0 a1 a2 a3 s0 a5 h)
set_option maxRecDepth 100000 in
set_option maxHeartbeats 4000000 in
theorem bX10_run_102 {l : Launch} {G : xr_G} {K : xr_K} {r : Int32} {h1 : hp_T} (C : xr_C G K cX10_run RX10 6 (xr_R 3 67) (some .int) (some (xr_Qi G r h1))) (k60 : Nat → Int32 → Int32 → Int32 → Int32 → Int32 → hp_T → Option (Int32 × hp_T)) (j60 : ∀ (a0 : Nat) (a1 : Int32) (a2 : Int32) (a3 : Int32) (a4 : Int32) (a5 : Int32) (ta0 : hp_sh a0 = (10, 0)) (h : hp_T), k60 a0 a1 a2 a3 a4 a5 h = some (r, h1) → xr_j l G K 6 h [(0, .ref (G.2.2.1 a0)), (1, .int a1), (2, .int a2), (3, .int a3), (4, .int a4), (5, .int a5)] 60 []) (a0 : Nat) (a1 : Int32) (a2 : Int32) (a3 : Int32) (a5 : Int32) (s0 : Int32) (ta0 : hp_sh a0 = (10, 0)) (h : hp_T) (hF : fX10_run_102 k60 a0 a1 a2 a3 a5 s0 h = some (r, h1)) : xr_j l G K 6 h [(0, .ref (G.2.2.1 a0)), (1, .int a1), (2, .int a2), (3, .int a3), (5, .int a5)] 102 [.int s0] := by
  unfold fX10_run_102 at hF
  refine xr_istore C [(4, .int s0), (0, .ref (G.2.2.1 a0)), (1, .int a1), (2, .int a2), (3, .int a3), (5, .int a5)] dX10_run_102 (Nat.le_of_ble_eq_true rfl) rfl ?_
  refine xr_iload C 0 dX10_run_104 rfl ?_
  refine xr_iload_n C 3 dX10_run_106 rfl rfl ?_
  refine xr_icmp_gt C 113 dX10_run_107 (by decide) (fun c107 => ?_) (fun c107 => ?_)
  · have hF := fx_pos hF c107
    refine xr_iload C 0 dX10_run_113 rfl ?_
    refine xr_istore_n C [(2, .int s0), (4, .int s0), (0, .ref (G.2.2.1 a0)), (1, .int a1), (3, .int a3), (5, .int a5)] dX10_run_115 rfl (Nat.le_of_ble_eq_true rfl) rfl ?_
    refine xr_iload C 5 dX10_run_116 rfl ?_
    refine xr_istore_n C [(3, .int a5), (2, .int s0), (4, .int s0), (0, .ref (G.2.2.1 a0)), (1, .int a1), (5, .int a5)] dX10_run_118 rfl (Nat.le_of_ble_eq_true rfl) rfl ?_
    refine xr_sub [3, 4, 1, 0, 2, 5] [(0, .ref (G.2.2.1 a0)), (1, .int a1), (2, .int s0), (3, .int a5), (4, .int s0), (5, .int a5)] rfl ?_
    exact bX10_run_119 C k60 j60  a0 a1 s0 a5 s0 a5 ta0 h hF
  · have hF := fx_neg hF c107
    refine xr_goto C 119 dX10_run_110 (by decide) ?_
    refine xr_sub [1, 2, 3, 4, 0, 5] [(0, .ref (G.2.2.1 a0)), (1, .int a1), (2, .int a2), (3, .int a3), (4, .int s0), (5, .int a5)] rfl ?_
    exact bX10_run_119 C k60 j60  a0 a1 a2 a3 s0 a5 ta0 h hF
def fX10_run_60  : Nat → Nat → Int32 → Int32 → Int32 → Int32 → Int32 → hp_T → Option (Int32 × hp_T)
  | 0, _, _, _, _, _, _, _ => none
  | n + 1, a0, a1, a2, a3, a4, a5, h => if (h.1 (h.2.2 a0 20) (fx_ix (119 : Int32))) ≤ a5 then (if a1 = (2 : Int32) then (some (a2, h)) else (if a3 = (-2 : Int32) then (some ((-2 : Int32), h)) else (if a1 = (3 : Int32) then (fx_g (fx_in (((3 : Int32) * a3) + (2 : Int32)) 150) (some ((h.1 (h.2.2 a0 23) (fx_ix (((3 : Int32) * a3) + (2 : Int32)))), h))) else (fx_g (fx_in (((3 : Int32) * a3) + (1 : Int32)) 150) (some ((h.1 (h.2.2 a0 23) (fx_ix (((3 : Int32) * a3) + (1 : Int32)))), h)))))) else (fx_b2 (fX10_isOwn a0 a5 h) fun (r75 : Int32) (h75 : hp_T) => if r75 = 0 then (fX10_run_102 (fX10_run_60 n) a0 a1 a2 a3 a5 (0 : Int32) h75) else (fx_b2 (fX10_goesOnRun a0 a5 h75) fun (r88 : Int32) (h88 : hp_T) => if r88 = 0 then (fX10_run_102 (fX10_run_60 n) a0 a1 a2 a3 a5 (1 : Int32) h88) else (fX10_run_102 (fX10_run_60 n) a0 a1 a2 a3 a5 (a4 + (1 : Int32)) h88)))
set_option maxRecDepth 100000 in
set_option maxHeartbeats 4000000 in
theorem bX10_run_60 {l : Launch} {G : xr_G} {K : xr_K} {r : Int32} {h1 : hp_T} (C : xr_C G K cX10_run RX10 6 (xr_R 3 67) (some .int) (some (xr_Qi G r h1)))  : ∀ (n : Nat) (a0 : Nat) (a1 : Int32) (a2 : Int32) (a3 : Int32) (a4 : Int32) (a5 : Int32) (ta0 : hp_sh a0 = (10, 0)) (h : hp_T), fX10_run_60 n a0 a1 a2 a3 a4 a5 h = some (r, h1) → xr_j l G K 6 h [(0, .ref (G.2.2.1 a0)), (1, .int a1), (2, .int a2), (3, .int a3), (4, .int a4), (5, .int a5)] 60 [] := by
  intro n
  induction n with
  | zero =>
    intro a0 a1 a2 a3 a4 a5 ta0 h hF
    cases hF
  | succ n ih =>
    intro a0 a1 a2 a3 a4 a5 ta0 h hF
    rw [fX10_run_60] at hF
    refine xr_iload C 5 dX10_run_60 rfl ?_
    refine xr_aload_n C 0 dX10_run_62 rfl rfl ?_
    refine xr_getr C flX10_36 rfl (by decide) dX10_run_63 ta0 (fun t63 => ?_)
    refine xr_bipush (v := 119) C dX10_run_66 (by decide) ?_
    refine xr_iald C dX10_run_68 t63 (by decide) ?_
    refine xr_icmp_ge C 125 dX10_run_69 (by decide) (fun c69 => ?_) (fun c69 => ?_)
    · have hF := fx_pos hF c69
      refine xr_iload_n C 1 dX10_run_125 rfl rfl ?_
      refine xr_iconst (v := 2) C dX10_run_126 (by decide) ?_
      refine xr_icmp_ne C 132 dX10_run_127 (by decide) (fun c127 => ?_) (fun c127 => ?_)
      · have hF := fx_neg hF c127
        refine xr_iload_n C 3 dX10_run_132 rfl rfl ?_
        refine xr_bipush (v := -2) C dX10_run_133 (by decide) ?_
        refine xr_icmp_ne C 143 dX10_run_135 (by decide) (fun c135 => ?_) (fun c135 => ?_)
        · have hF := fx_neg hF c135
          refine xr_iload_n C 1 dX10_run_143 rfl rfl ?_
          refine xr_iconst (v := 3) C dX10_run_144 (by decide) ?_
          refine xr_icmp_ne C 161 dX10_run_145 (by decide) (fun c145 => ?_) (fun c145 => ?_)
          · have hF := fx_neg hF c145
            refine xr_aload_n C 0 dX10_run_161 rfl rfl ?_
            refine xr_getr C flX10_42 rfl (by decide) dX10_run_162 ta0 (fun t162 => ?_)
            refine xr_iconst (v := 3) C dX10_run_165 (by decide) ?_
            refine xr_iload_n C 3 dX10_run_166 rfl rfl ?_
            refine xr_imul C dX10_run_167 ?_
            refine xr_iconst (v := 1) C dX10_run_168 (by decide) ?_
            refine xr_iadd C dX10_run_169 ?_
            obtain ⟨g170, hF⟩ := fx_gE hF
            refine xr_iald C dX10_run_170 t162 g170 ?_
            cases hF
            exact xr_iret C dX10_run_171
          · have hF := fx_pos hF c145
            refine xr_aload_n C 0 dX10_run_148 rfl rfl ?_
            refine xr_getr C flX10_42 rfl (by decide) dX10_run_149 ta0 (fun t149 => ?_)
            refine xr_iconst (v := 3) C dX10_run_152 (by decide) ?_
            refine xr_iload_n C 3 dX10_run_153 rfl rfl ?_
            refine xr_imul C dX10_run_154 ?_
            refine xr_iconst (v := 2) C dX10_run_155 (by decide) ?_
            refine xr_iadd C dX10_run_156 ?_
            obtain ⟨g157, hF⟩ := fx_gE hF
            refine xr_iald C dX10_run_157 t149 g157 ?_
            refine xr_goto C 171 dX10_run_158 (by decide) ?_
            cases hF
            exact xr_iret C dX10_run_171
        · have hF := fx_pos hF c135
          refine xr_bipush (v := -2) C dX10_run_138 (by decide) ?_
          refine xr_goto C 171 dX10_run_140 (by decide) ?_
          cases hF
          exact xr_iret C dX10_run_171
      · have hF := fx_pos hF c127
        refine xr_iload_n C 2 dX10_run_130 rfl rfl ?_
        cases hF
        exact xr_iret C dX10_run_131
    · have hF := fx_neg hF c69
      refine xr_aload_n C 0 dX10_run_72 rfl rfl ?_
      refine xr_iload C 5 dX10_run_73 rfl ?_
      obtain ⟨r75, h75, e75, hF⟩ := fx_b2E hF
      refine xr_callVi C mvX10_336 [.int a5] [] (mX10_isOwn l G a0 a5 ta0 h h75 r75 e75) ta0 (by decide) vc10 rfl ⟨rfl, rfl, (Nat.le_of_ble_eq_true rfl), (Nat.le_of_ble_eq_true rfl)⟩ rfl (Nat.le_of_ble_eq_true rfl) dX10_run_75 ?_
      refine xr_if_ne C 85 dX10_run_78 (by decide) (fun c78 => ?_) (fun c78 => ?_)
      · have hF := fx_neg hF c78
        refine xr_aload_n C 0 dX10_run_85 rfl rfl ?_
        refine xr_iload C 5 dX10_run_86 rfl ?_
        obtain ⟨r88, h88, e88, hF⟩ := fx_b2E hF
        refine xr_callVi C mvX10_342 [.int a5] [] (mX10_goesOnRun l G a0 a5 ta0 h75 h88 r88 e88) ta0 (by decide) vc10 rfl ⟨rfl, rfl, (Nat.le_of_ble_eq_true rfl), (Nat.le_of_ble_eq_true rfl)⟩ rfl (Nat.le_of_ble_eq_true rfl) dX10_run_88 ?_
        refine xr_if_eq C 101 dX10_run_91 (by decide) (fun c91 => ?_) (fun c91 => ?_)
        · have hF := fx_pos hF c91
          refine xr_iconst (v := 1) C dX10_run_101 (by decide) ?_
          refine xr_sub [0, 1, 2, 3, 5] [(0, .ref (G.2.2.1 a0)), (1, .int a1), (2, .int a2), (3, .int a3), (5, .int a5)] rfl ?_
          exact bX10_run_102 C (fX10_run_60 n) (fun a0 a1 a2 a3 a4 a5 ta0 h hF => ih a0 a1 a2 a3 a4 a5 ta0 h hF)  a0 a1 a2 a3 a5 (1 : Int32) ta0 h88 hF
        · have hF := fx_neg hF c91
          refine xr_iload C 4 dX10_run_94 rfl ?_
          refine xr_iconst (v := 1) C dX10_run_96 (by decide) ?_
          refine xr_iadd C dX10_run_97 ?_
          refine xr_goto C 102 dX10_run_98 (by decide) ?_
          refine xr_sub [0, 1, 2, 3, 5] [(0, .ref (G.2.2.1 a0)), (1, .int a1), (2, .int a2), (3, .int a3), (5, .int a5)] rfl ?_
          exact bX10_run_102 C (fX10_run_60 n) (fun a0 a1 a2 a3 a4 a5 ta0 h hF => ih a0 a1 a2 a3 a4 a5 ta0 h hF)  a0 a1 a2 a3 a5 (a4 + (1 : Int32)) ta0 h88 hF
      · have hF := fx_pos hF c78
        refine xr_iconst (v := 0) C dX10_run_81 (by decide) ?_
        refine xr_goto C 102 dX10_run_82 (by decide) ?_
        refine xr_sub [0, 1, 2, 3, 5] [(0, .ref (G.2.2.1 a0)), (1, .int a1), (2, .int a2), (3, .int a3), (5, .int a5)] rfl ?_
        exact bX10_run_102 C (fX10_run_60 n) (fun a0 a1 a2 a3 a4 a5 ta0 h hF => ih a0 a1 a2 a3 a4 a5 ta0 h hF)  a0 a1 a2 a3 a5 (0 : Int32) ta0 h75 hF
def fX10_run (a0 : Nat) (a1 : Int32) (h : hp_T) : Option (Int32 × hp_T) := fx_let (hp_sI h a0 0 (0 : Int32)) fun (h2 : hp_T) => if (h2.1 a0 7) = 0 then (some ((-1 : Int32), h2)) else (if a1 < 0 then (some ((-1 : Int32), h2)) else (if a1 ≤ (4 : Int32) then (if a1 = 0 then (fx_b2 (fX10_runNow a0 h2) fun (r28 : Int32) (h28 : hp_T) => some (r28, h28)) else (if a1 = (1 : Int32) then (fx_b2 (fX10_court a0 (h2.1 (h2.2.2 a0 20) (fx_ix (2 : Int32))) (1 : Int32) h2) fun (r45 : Int32) (h45 : hp_T) => some (r45, h45)) else (fX10_run_60 fx_N a0 a1 (0 : Int32) (-2 : Int32) (0 : Int32) (0 : Int32) h2))) else (some ((-1 : Int32), h2))))
set_option maxRecDepth 100000 in
set_option maxHeartbeats 4000000 in
theorem mX10_run (l : Launch) (G : xr_G) (a0 : Nat) (a1 : Int32) (ta0 : hp_sh a0 = (10, 0)) (h h1 : hp_T) (r : Int32) (hF : fX10_run a0 a1 h = some (r, h1)) : xr_M l G yX10_run cX10_run 6 (xr_R 3 67) (some .int) [.ref (G.2.2.1 a0), .int a1] h (xr_Qi G r h1) := by
  refine xr_start rfl (Nat.le_of_ble_eq_true rfl) (fun K C => ?_)
  show xr_j l G K 6 h [(0, .ref (G.2.2.1 a0)), (1, .int a1)] 0 []
  unfold fX10_run at hF
  refine xr_aload_n C 0 dX10_run_0 rfl rfl ?_
  refine xr_iconst (v := 0) C dX10_run_1 (by decide) ?_
  refine xr_puti C fpX10_63 rfl rfl rfl dX10_run_2 ta0 (fun h2 e2 => ?_)
  have hF := fx_letE hF h2 e2
  refine xr_aload_n C 0 dX10_run_5 rfl rfl ?_
  refine xr_geti C flX10_59 rfl dX10_run_6 ta0 ?_
  refine xr_if_eq C 21 dX10_run_9 (by decide) (fun c9 => ?_) (fun c9 => ?_)
  · have hF := fx_pos hF c9
    refine xr_iconst (v := -1) C dX10_run_21 (by decide) ?_
    cases hF
    exact xr_iret C dX10_run_22
  · have hF := fx_neg hF c9
    refine xr_iload_n C 1 dX10_run_12 rfl rfl ?_
    refine xr_if_lt C 21 dX10_run_13 (by decide) (fun c13 => ?_) (fun c13 => ?_)
    · have hF := fx_pos hF c13
      refine xr_iconst (v := -1) C dX10_run_21 (by decide) ?_
      cases hF
      exact xr_iret C dX10_run_22
    · have hF := fx_neg hF c13
      refine xr_iload_n C 1 dX10_run_16 rfl rfl ?_
      refine xr_iconst (v := 4) C dX10_run_17 (by decide) ?_
      refine xr_icmp_le C 23 dX10_run_18 (by decide) (fun c18 => ?_) (fun c18 => ?_)
      · have hF := fx_pos hF c18
        refine xr_iload_n C 1 dX10_run_23 rfl rfl ?_
        refine xr_if_ne C 32 dX10_run_24 (by decide) (fun c24 => ?_) (fun c24 => ?_)
        · have hF := fx_neg hF c24
          refine xr_iload_n C 1 dX10_run_32 rfl rfl ?_
          refine xr_iconst (v := 1) C dX10_run_33 (by decide) ?_
          refine xr_icmp_ne C 49 dX10_run_34 (by decide) (fun c34 => ?_) (fun c34 => ?_)
          · have hF := fx_neg hF c34
            refine xr_iconst (v := 0) C dX10_run_49 (by decide) ?_
            refine xr_istore_n C [(2, .int (0 : Int32)), (0, .ref (G.2.2.1 a0)), (1, .int a1)] dX10_run_50 rfl (Nat.le_of_ble_eq_true rfl) rfl ?_
            refine xr_bipush (v := -2) C dX10_run_51 (by decide) ?_
            refine xr_istore_n C [(3, .int (-2 : Int32)), (2, .int (0 : Int32)), (0, .ref (G.2.2.1 a0)), (1, .int a1)] dX10_run_53 rfl (Nat.le_of_ble_eq_true rfl) rfl ?_
            refine xr_iconst (v := 0) C dX10_run_54 (by decide) ?_
            refine xr_istore C [(4, .int (0 : Int32)), (3, .int (-2 : Int32)), (2, .int (0 : Int32)), (0, .ref (G.2.2.1 a0)), (1, .int a1)] dX10_run_55 (Nat.le_of_ble_eq_true rfl) rfl ?_
            refine xr_iconst (v := 0) C dX10_run_57 (by decide) ?_
            refine xr_istore C [(5, .int (0 : Int32)), (4, .int (0 : Int32)), (3, .int (-2 : Int32)), (2, .int (0 : Int32)), (0, .ref (G.2.2.1 a0)), (1, .int a1)] dX10_run_58 (Nat.le_of_ble_eq_true rfl) rfl ?_
            refine xr_sub [4, 5, 3, 2, 1, 0] [(0, .ref (G.2.2.1 a0)), (1, .int a1), (2, .int (0 : Int32)), (3, .int (-2 : Int32)), (4, .int (0 : Int32)), (5, .int (0 : Int32))] rfl ?_
            exact bX10_run_60 C  fx_N a0 a1 (0 : Int32) (-2 : Int32) (0 : Int32) (0 : Int32) ta0 h2 hF
          · have hF := fx_pos hF c34
            refine xr_aload_n C 0 dX10_run_37 rfl rfl ?_
            refine xr_aload_n C 0 dX10_run_38 rfl rfl ?_
            refine xr_getr C flX10_36 rfl (by decide) dX10_run_39 ta0 (fun t39 => ?_)
            refine xr_iconst (v := 2) C dX10_run_42 (by decide) ?_
            refine xr_iald C dX10_run_43 t39 (by decide) ?_
            refine xr_iconst (v := 1) C dX10_run_44 (by decide) ?_
            obtain ⟨r45, h45, e45, hF⟩ := fx_b2E hF
            refine xr_callVi C mvX10_183 [.int (h2.1 (h2.2.2 a0 20) (fx_ix (2 : Int32))), .int (1 : Int32)] [] (mX10_court l G a0 (h2.1 (h2.2.2 a0 20) (fx_ix (2 : Int32))) (1 : Int32) ta0 h2 h45 r45 e45) ta0 (by decide) vc10 rfl ⟨rfl, rfl, (Nat.le_of_ble_eq_true rfl), (Nat.le_of_ble_eq_true rfl)⟩ rfl (Nat.le_of_ble_eq_true rfl) dX10_run_45 ?_
            cases hF
            exact xr_iret C dX10_run_48
        · have hF := fx_pos hF c24
          refine xr_aload_n C 0 dX10_run_27 rfl rfl ?_
          obtain ⟨r28, h28, e28, hF⟩ := fx_b2E hF
          refine xr_callVi C mvX10_339 [] [] (mX10_runNow l G a0 ta0 h2 h28 r28 e28) ta0 (by decide) vc10 rfl ⟨rfl, rfl, (Nat.le_of_ble_eq_true rfl), (Nat.le_of_ble_eq_true rfl)⟩ rfl (Nat.le_of_ble_eq_true rfl) dX10_run_28 ?_
          cases hF
          exact xr_iret C dX10_run_31
      · have hF := fx_neg hF c18
        refine xr_iconst (v := -1) C dX10_run_21 (by decide) ?_
        cases hF
        exact xr_iret C dX10_run_22
theorem dX10_was_0 : decode cX10_was 0 = .ok (.aload_n 0, 1) := by decide +kernel
theorem dX10_was_1 : decode cX10_was 1 = .ok (.iconst 0, 1) := by decide +kernel
theorem dX10_was_2 : decode cX10_was 2 = .ok (.putfield 63, 3) := by decide +kernel
theorem dX10_was_5 : decode cX10_was 5 = .ok (.aload_n 0, 1) := by decide +kernel
theorem dX10_was_6 : decode cX10_was 6 = .ok (.getfield 59, 3) := by decide +kernel
theorem dX10_was_9 : decode cX10_was 9 = .ok (.ifCond .eq 16, 3) := by decide +kernel
theorem dX10_was_12 : decode cX10_was 12 = .ok (.iload_n 1, 1) := by decide +kernel
theorem dX10_was_13 : decode cX10_was 13 = .ok (.ifCond .lt 12, 3) := by decide +kernel
theorem dX10_was_16 : decode cX10_was 16 = .ok (.iload_n 2, 1) := by decide +kernel
theorem dX10_was_17 : decode cX10_was 17 = .ok (.ifCond .lt 8, 3) := by decide +kernel
theorem dX10_was_20 : decode cX10_was 20 = .ok (.iload_n 2, 1) := by decide +kernel
theorem dX10_was_21 : decode cX10_was 21 = .ok (.iconst 2, 1) := by decide +kernel
theorem dX10_was_22 : decode cX10_was 22 = .ok (.if_icmp .le 5, 3) := by decide +kernel
theorem dX10_was_25 : decode cX10_was 25 = .ok (.iconst (-1), 1) := by decide +kernel
theorem dX10_was_26 : decode cX10_was 26 = .ok (.ireturn, 1) := by decide +kernel
theorem dX10_was_27 : decode cX10_was 27 = .ok (.iload_n 1, 1) := by decide +kernel
theorem dX10_was_28 : decode cX10_was 28 = .ok (.aload_n 0, 1) := by decide +kernel
theorem dX10_was_29 : decode cX10_was 29 = .ok (.getfield 36, 3) := by decide +kernel
theorem dX10_was_32 : decode cX10_was 32 = .ok (.bipush 119, 2) := by decide +kernel
theorem dX10_was_34 : decode cX10_was 34 = .ok (.iaload, 1) := by decide +kernel
theorem dX10_was_35 : decode cX10_was 35 = .ok (.if_icmp .ge 16, 3) := by decide +kernel
theorem dX10_was_38 : decode cX10_was 38 = .ok (.aload_n 0, 1) := by decide +kernel
theorem dX10_was_39 : decode cX10_was 39 = .ok (.getfield 42, 3) := by decide +kernel
theorem dX10_was_42 : decode cX10_was 42 = .ok (.iconst 3, 1) := by decide +kernel
theorem dX10_was_43 : decode cX10_was 43 = .ok (.iload_n 1, 1) := by decide +kernel
theorem dX10_was_44 : decode cX10_was 44 = .ok (.imul, 1) := by decide +kernel
theorem dX10_was_45 : decode cX10_was 45 = .ok (.iload_n 2, 1) := by decide +kernel
theorem dX10_was_46 : decode cX10_was 46 = .ok (.iadd, 1) := by decide +kernel
theorem dX10_was_47 : decode cX10_was 47 = .ok (.iaload, 1) := by decide +kernel
theorem dX10_was_48 : decode cX10_was 48 = .ok (.goto 5, 3) := by decide +kernel
theorem dX10_was_51 : decode cX10_was 51 = .ok (.bipush (-2), 2) := by decide +kernel
theorem dX10_was_53 : decode cX10_was 53 = .ok (.ireturn, 1) := by decide +kernel
def fX10_was (a0 : Nat) (a1 : Int32) (a2 : Int32) (h : hp_T) : Option (Int32 × hp_T) := fx_let (hp_sI h a0 0 (0 : Int32)) fun (h2 : hp_T) => if (h2.1 a0 7) = 0 then (some ((-1 : Int32), h2)) else (if a1 < 0 then (some ((-1 : Int32), h2)) else (if a2 < 0 then (some ((-1 : Int32), h2)) else (if a2 ≤ (2 : Int32) then (if (h2.1 (h2.2.2 a0 20) (fx_ix (119 : Int32))) ≤ a1 then (some ((-2 : Int32), h2)) else (fx_g (fx_in (((3 : Int32) * a1) + a2) 150) (some ((h2.1 (h2.2.2 a0 23) (fx_ix (((3 : Int32) * a1) + a2))), h2)))) else (some ((-1 : Int32), h2)))))
set_option maxRecDepth 100000 in
set_option maxHeartbeats 4000000 in
theorem mX10_was (l : Launch) (G : xr_G) (a0 : Nat) (a1 : Int32) (a2 : Int32) (ta0 : hp_sh a0 = (10, 0)) (h h1 : hp_T) (r : Int32) (hF : fX10_was a0 a1 a2 h = some (r, h1)) : xr_M l G yX10_was cX10_was 3 (xr_R 0 0) (some .int) [.ref (G.2.2.1 a0), .int a1, .int a2] h (xr_Qi G r h1) := by
  refine xr_start rfl (Nat.le_of_ble_eq_true rfl) (fun K C => ?_)
  show xr_j l G K 3 h [(0, .ref (G.2.2.1 a0)), (1, .int a1), (2, .int a2)] 0 []
  unfold fX10_was at hF
  refine xr_aload_n C 0 dX10_was_0 rfl rfl ?_
  refine xr_iconst (v := 0) C dX10_was_1 (by decide) ?_
  refine xr_puti C fpX10_63 rfl rfl rfl dX10_was_2 ta0 (fun h2 e2 => ?_)
  have hF := fx_letE hF h2 e2
  refine xr_aload_n C 0 dX10_was_5 rfl rfl ?_
  refine xr_geti C flX10_59 rfl dX10_was_6 ta0 ?_
  refine xr_if_eq C 25 dX10_was_9 (by decide) (fun c9 => ?_) (fun c9 => ?_)
  · have hF := fx_pos hF c9
    refine xr_iconst (v := -1) C dX10_was_25 (by decide) ?_
    cases hF
    exact xr_iret C dX10_was_26
  · have hF := fx_neg hF c9
    refine xr_iload_n C 1 dX10_was_12 rfl rfl ?_
    refine xr_if_lt C 25 dX10_was_13 (by decide) (fun c13 => ?_) (fun c13 => ?_)
    · have hF := fx_pos hF c13
      refine xr_iconst (v := -1) C dX10_was_25 (by decide) ?_
      cases hF
      exact xr_iret C dX10_was_26
    · have hF := fx_neg hF c13
      refine xr_iload_n C 2 dX10_was_16 rfl rfl ?_
      refine xr_if_lt C 25 dX10_was_17 (by decide) (fun c17 => ?_) (fun c17 => ?_)
      · have hF := fx_pos hF c17
        refine xr_iconst (v := -1) C dX10_was_25 (by decide) ?_
        cases hF
        exact xr_iret C dX10_was_26
      · have hF := fx_neg hF c17
        refine xr_iload_n C 2 dX10_was_20 rfl rfl ?_
        refine xr_iconst (v := 2) C dX10_was_21 (by decide) ?_
        refine xr_icmp_le C 27 dX10_was_22 (by decide) (fun c22 => ?_) (fun c22 => ?_)
        · have hF := fx_pos hF c22
          refine xr_iload_n C 1 dX10_was_27 rfl rfl ?_
          refine xr_aload_n C 0 dX10_was_28 rfl rfl ?_
          refine xr_getr C flX10_36 rfl (by decide) dX10_was_29 ta0 (fun t29 => ?_)
          refine xr_bipush (v := 119) C dX10_was_32 (by decide) ?_
          refine xr_iald C dX10_was_34 t29 (by decide) ?_
          refine xr_icmp_ge C 51 dX10_was_35 (by decide) (fun c35 => ?_) (fun c35 => ?_)
          · have hF := fx_pos hF c35
            refine xr_bipush (v := -2) C dX10_was_51 (by decide) ?_
            cases hF
            exact xr_iret C dX10_was_53
          · have hF := fx_neg hF c35
            refine xr_aload_n C 0 dX10_was_38 rfl rfl ?_
            refine xr_getr C flX10_42 rfl (by decide) dX10_was_39 ta0 (fun t39 => ?_)
            refine xr_iconst (v := 3) C dX10_was_42 (by decide) ?_
            refine xr_iload_n C 1 dX10_was_43 rfl rfl ?_
            refine xr_imul C dX10_was_44 ?_
            refine xr_iload_n C 2 dX10_was_45 rfl rfl ?_
            refine xr_iadd C dX10_was_46 ?_
            obtain ⟨g47, hF⟩ := fx_gE hF
            refine xr_iald C dX10_was_47 t39 g47 ?_
            refine xr_goto C 53 dX10_was_48 (by decide) ?_
            cases hF
            exact xr_iret C dX10_was_53
        · have hF := fx_neg hF c22
          refine xr_iconst (v := -1) C dX10_was_25 (by decide) ?_
          cases hF
          exact xr_iret C dX10_was_26
theorem dX10_till_0 : decode cX10_till 0 = .ok (.aload_n 0, 1) := by decide +kernel
theorem dX10_till_1 : decode cX10_till 1 = .ok (.iconst 0, 1) := by decide +kernel
theorem dX10_till_2 : decode cX10_till 2 = .ok (.putfield 63, 3) := by decide +kernel
theorem dX10_till_5 : decode cX10_till 5 = .ok (.aload_n 0, 1) := by decide +kernel
theorem dX10_till_6 : decode cX10_till 6 = .ok (.iload_n 1, 1) := by decide +kernel
theorem dX10_till_7 : decode cX10_till 7 = .ok (.iload_n 2, 1) := by decide +kernel
theorem dX10_till_8 : decode cX10_till 8 = .ok (.invokevirtual 193, 3) := by decide +kernel
theorem dX10_till_11 : decode cX10_till 11 = .ok (.ifCond .eq 10, 3) := by decide +kernel
theorem dX10_till_14 : decode cX10_till 14 = .ok (.iload_n 3, 1) := by decide +kernel
theorem dX10_till_15 : decode cX10_till 15 = .ok (.invokestatic 205, 3) := by decide +kernel
theorem dX10_till_18 : decode cX10_till 18 = .ok (.ifCond .ne 5, 3) := by decide +kernel
theorem dX10_till_21 : decode cX10_till 21 = .ok (.iconst (-1), 1) := by decide +kernel
theorem dX10_till_22 : decode cX10_till 22 = .ok (.ireturn, 1) := by decide +kernel
theorem dX10_till_23 : decode cX10_till 23 = .ok (.aload_n 0, 1) := by decide +kernel
theorem dX10_till_24 : decode cX10_till 24 = .ok (.iload_n 1, 1) := by decide +kernel
theorem dX10_till_25 : decode cX10_till 25 = .ok (.iload_n 2, 1) := by decide +kernel
theorem dX10_till_26 : decode cX10_till 26 = .ok (.invokevirtual 310, 3) := by decide +kernel
theorem dX10_till_29 : decode cX10_till 29 = .ok (.istore 4, 2) := by decide +kernel
theorem dX10_till_31 : decode cX10_till 31 = .ok (.iload 4, 2) := by decide +kernel
theorem dX10_till_33 : decode cX10_till 33 = .ok (.ifCond .ne 8, 3) := by decide +kernel
theorem dX10_till_36 : decode cX10_till 36 = .ok (.bipush (-2), 2) := by decide +kernel
theorem dX10_till_38 : decode cX10_till 38 = .ok (.goto 13, 3) := by decide +kernel
theorem dX10_till_41 : decode cX10_till 41 = .ok (.iload 4, 2) := by decide +kernel
theorem dX10_till_43 : decode cX10_till 43 = .ok (.iload_n 3, 1) := by decide +kernel
theorem dX10_till_44 : decode cX10_till 44 = .ok (.isub, 1) := by decide +kernel
theorem dX10_till_45 : decode cX10_till 45 = .ok (.bipush 6, 2) := by decide +kernel
theorem dX10_till_47 : decode cX10_till 47 = .ok (.iadd, 1) := by decide +kernel
theorem dX10_till_48 : decode cX10_till 48 = .ok (.bipush 6, 2) := by decide +kernel
theorem dX10_till_50 : decode cX10_till 50 = .ok (.irem, 1) := by decide +kernel
theorem dX10_till_51 : decode cX10_till 51 = .ok (.ireturn, 1) := by decide +kernel
def fX10_till (a0 : Nat) (a1 : Int32) (a2 : Int32) (a3 : Int32) (h : hp_T) : Option (Int32 × hp_T) := fx_let (hp_sI h a0 0 (0 : Int32)) fun (h2 : hp_T) => fx_b2 (fX10_isPlayer a0 a1 a2 h2) fun (r8 : Int32) (h8 : hp_T) => if r8 = 0 then (some ((-1 : Int32), h8)) else (fx_b2 (fX10_isSpot a3 h8) fun (r15 : Int32) (h15 : hp_T) => if r15 = 0 then (some ((-1 : Int32), h15)) else (fx_b2 (fX10_linedAt a0 a1 a2 h15) fun (r26 : Int32) (h26 : hp_T) => if r26 = 0 then (some ((-2 : Int32), h26)) else (some ((fx_rem ((r26 - a3) + (6 : Int32)) (6 : Int32)), h26))))
set_option maxRecDepth 100000 in
set_option maxHeartbeats 4000000 in
theorem mX10_till (l : Launch) (G : xr_G) (a0 : Nat) (a1 : Int32) (a2 : Int32) (a3 : Int32) (ta0 : hp_sh a0 = (10, 0)) (h h1 : hp_T) (r : Int32) (hF : fX10_till a0 a1 a2 a3 h = some (r, h1)) : xr_M l G yX10_till cX10_till 5 (xr_R 4 90) (some .int) [.ref (G.2.2.1 a0), .int a1, .int a2, .int a3] h (xr_Qi G r h1) := by
  refine xr_start rfl (Nat.le_of_ble_eq_true rfl) (fun K C => ?_)
  show xr_j l G K 5 h [(0, .ref (G.2.2.1 a0)), (1, .int a1), (2, .int a2), (3, .int a3)] 0 []
  unfold fX10_till at hF
  refine xr_aload_n C 0 dX10_till_0 rfl rfl ?_
  refine xr_iconst (v := 0) C dX10_till_1 (by decide) ?_
  refine xr_puti C fpX10_63 rfl rfl rfl dX10_till_2 ta0 (fun h2 e2 => ?_)
  have hF := fx_letE hF h2 e2
  refine xr_aload_n C 0 dX10_till_5 rfl rfl ?_
  refine xr_iload_n C 1 dX10_till_6 rfl rfl ?_
  refine xr_iload_n C 2 dX10_till_7 rfl rfl ?_
  obtain ⟨r8, h8, e8, hF⟩ := fx_b2E hF
  refine xr_callVi C mvX10_193 [.int a1, .int a2] [] (mX10_isPlayer l G a0 a1 a2 ta0 h2 h8 r8 e8) ta0 (by decide) vc10 rfl ⟨rfl, rfl, (Nat.le_of_ble_eq_true rfl), (Nat.le_of_ble_eq_true rfl)⟩ rfl (Nat.le_of_ble_eq_true rfl) dX10_till_8 ?_
  refine xr_if_eq C 21 dX10_till_11 (by decide) (fun c11 => ?_) (fun c11 => ?_)
  · have hF := fx_pos hF c11
    refine xr_iconst (v := -1) C dX10_till_21 (by decide) ?_
    cases hF
    exact xr_iret C dX10_till_22
  · have hF := fx_neg hF c11
    refine xr_iload_n C 3 dX10_till_14 rfl rfl ?_
    obtain ⟨r15, h15, e15, hF⟩ := fx_b2E hF
    refine xr_callSi C mvX10_205 [.int a3] [] (mX10_isSpot l G a3  h8 h15 r15 e15) rfl ⟨rfl, rfl, (Nat.le_of_ble_eq_true rfl), (Nat.le_of_ble_eq_true rfl)⟩ rfl (Nat.le_of_ble_eq_true rfl) dX10_till_15 ?_
    refine xr_if_ne C 23 dX10_till_18 (by decide) (fun c18 => ?_) (fun c18 => ?_)
    · have hF := fx_neg hF c18
      refine xr_aload_n C 0 dX10_till_23 rfl rfl ?_
      refine xr_iload_n C 1 dX10_till_24 rfl rfl ?_
      refine xr_iload_n C 2 dX10_till_25 rfl rfl ?_
      obtain ⟨r26, h26, e26, hF⟩ := fx_b2E hF
      refine xr_callVi C mvX10_310 [.int a1, .int a2] [] (mX10_linedAt l G a0 a1 a2 ta0 h15 h26 r26 e26) ta0 (by decide) vc10 rfl ⟨rfl, rfl, (Nat.le_of_ble_eq_true rfl), (Nat.le_of_ble_eq_true rfl)⟩ rfl (Nat.le_of_ble_eq_true rfl) dX10_till_26 ?_
      refine xr_istore C [(4, .int r26), (0, .ref (G.2.2.1 a0)), (1, .int a1), (2, .int a2), (3, .int a3)] dX10_till_29 (Nat.le_of_ble_eq_true rfl) rfl ?_
      refine xr_iload C 0 dX10_till_31 rfl ?_
      refine xr_if_ne C 41 dX10_till_33 (by decide) (fun c33 => ?_) (fun c33 => ?_)
      · have hF := fx_neg hF c33
        refine xr_iload C 0 dX10_till_41 rfl ?_
        refine xr_iload_n C 4 dX10_till_43 rfl rfl ?_
        refine xr_isub C dX10_till_44 ?_
        refine xr_bipush (v := 6) C dX10_till_45 (by decide) ?_
        refine xr_iadd C dX10_till_47 ?_
        refine xr_bipush (v := 6) C dX10_till_48 (by decide) ?_
        refine xr_irem C dX10_till_50 (by decide) ?_
        cases hF
        exact xr_iret C dX10_till_51
      · have hF := fx_pos hF c33
        refine xr_bipush (v := -2) C dX10_till_36 (by decide) ?_
        refine xr_goto C 51 dX10_till_38 (by decide) ?_
        cases hF
        exact xr_iret C dX10_till_51
    · have hF := fx_pos hF c18
      refine xr_iconst (v := -1) C dX10_till_21 (by decide) ?_
      cases hF
      exact xr_iret C dX10_till_22
theorem dX10_count_0 : decode cX10_count 0 = .ok (.aload_n 0, 1) := by decide +kernel
theorem dX10_count_1 : decode cX10_count 1 = .ok (.iconst 0, 1) := by decide +kernel
theorem dX10_count_2 : decode cX10_count 2 = .ok (.putfield 63, 3) := by decide +kernel
theorem dX10_count_5 : decode cX10_count 5 = .ok (.iload_n 1, 1) := by decide +kernel
theorem dX10_count_6 : decode cX10_count 6 = .ok (.bipush 7, 2) := by decide +kernel
theorem dX10_count_8 : decode cX10_count 8 = .ok (.if_icmp .ne 8, 3) := by decide +kernel
theorem dX10_count_11 : decode cX10_count 11 = .ok (.aload_n 0, 1) := by decide +kernel
theorem dX10_count_12 : decode cX10_count 12 = .ok (.getfield 66, 3) := by decide +kernel
theorem dX10_count_15 : decode cX10_count 15 = .ok (.ireturn, 1) := by decide +kernel
theorem dX10_count_16 : decode cX10_count 16 = .ok (.aload_n 0, 1) := by decide +kernel
theorem dX10_count_17 : decode cX10_count 17 = .ok (.getfield 59, 3) := by decide +kernel
theorem dX10_count_20 : decode cX10_count 20 = .ok (.ifCond .eq 13, 3) := by decide +kernel
theorem dX10_count_23 : decode cX10_count 23 = .ok (.iload_n 1, 1) := by decide +kernel
theorem dX10_count_24 : decode cX10_count 24 = .ok (.ifCond .lt 9, 3) := by decide +kernel
theorem dX10_count_27 : decode cX10_count 27 = .ok (.iload_n 1, 1) := by decide +kernel
theorem dX10_count_28 : decode cX10_count 28 = .ok (.bipush 6, 2) := by decide +kernel
theorem dX10_count_30 : decode cX10_count 30 = .ok (.if_icmp .le 5, 3) := by decide +kernel
theorem dX10_count_33 : decode cX10_count 33 = .ok (.iconst (-1), 1) := by decide +kernel
theorem dX10_count_34 : decode cX10_count 34 = .ok (.ireturn, 1) := by decide +kernel
theorem dX10_count_35 : decode cX10_count 35 = .ok (.iload_n 1, 1) := by decide +kernel
theorem dX10_count_36 : decode cX10_count 36 = .ok (.tableswitch 79 0 5 #[40, 47, 54, 61, 68, 68], 40) := by decide +kernel
theorem dX10_count_76 : decode cX10_count 76 = .ok (.aload_n 0, 1) := by decide +kernel
theorem dX10_count_77 : decode cX10_count 77 = .ok (.getfield 13, 3) := by decide +kernel
theorem dX10_count_80 : decode cX10_count 80 = .ok (.iconst 4, 1) := by decide +kernel
theorem dX10_count_81 : decode cX10_count 81 = .ok (.iaload, 1) := by decide +kernel
theorem dX10_count_82 : decode cX10_count 82 = .ok (.ireturn, 1) := by decide +kernel
theorem dX10_count_83 : decode cX10_count 83 = .ok (.aload_n 0, 1) := by decide +kernel
theorem dX10_count_84 : decode cX10_count 84 = .ok (.getfield 13, 3) := by decide +kernel
theorem dX10_count_87 : decode cX10_count 87 = .ok (.iconst 0, 1) := by decide +kernel
theorem dX10_count_88 : decode cX10_count 88 = .ok (.iaload, 1) := by decide +kernel
theorem dX10_count_89 : decode cX10_count 89 = .ok (.ireturn, 1) := by decide +kernel
theorem dX10_count_90 : decode cX10_count 90 = .ok (.aload_n 0, 1) := by decide +kernel
theorem dX10_count_91 : decode cX10_count 91 = .ok (.getfield 13, 3) := by decide +kernel
theorem dX10_count_94 : decode cX10_count 94 = .ok (.iconst 1, 1) := by decide +kernel
theorem dX10_count_95 : decode cX10_count 95 = .ok (.iaload, 1) := by decide +kernel
theorem dX10_count_96 : decode cX10_count 96 = .ok (.ireturn, 1) := by decide +kernel
theorem dX10_count_97 : decode cX10_count 97 = .ok (.aload_n 0, 1) := by decide +kernel
theorem dX10_count_98 : decode cX10_count 98 = .ok (.getfield 13, 3) := by decide +kernel
theorem dX10_count_101 : decode cX10_count 101 = .ok (.iconst 2, 1) := by decide +kernel
theorem dX10_count_102 : decode cX10_count 102 = .ok (.iaload, 1) := by decide +kernel
theorem dX10_count_103 : decode cX10_count 103 = .ok (.ireturn, 1) := by decide +kernel
theorem dX10_count_104 : decode cX10_count 104 = .ok (.aload_n 0, 1) := by decide +kernel
theorem dX10_count_105 : decode cX10_count 105 = .ok (.getfield 13, 3) := by decide +kernel
theorem dX10_count_108 : decode cX10_count 108 = .ok (.iconst 5, 1) := by decide +kernel
theorem dX10_count_109 : decode cX10_count 109 = .ok (.iload_n 1, 1) := by decide +kernel
theorem dX10_count_110 : decode cX10_count 110 = .ok (.iadd, 1) := by decide +kernel
theorem dX10_count_111 : decode cX10_count 111 = .ok (.iconst 4, 1) := by decide +kernel
theorem dX10_count_112 : decode cX10_count 112 = .ok (.isub, 1) := by decide +kernel
theorem dX10_count_113 : decode cX10_count 113 = .ok (.iaload, 1) := by decide +kernel
theorem dX10_count_114 : decode cX10_count 114 = .ok (.ireturn, 1) := by decide +kernel
theorem dX10_count_115 : decode cX10_count 115 = .ok (.aload_n 0, 1) := by decide +kernel
theorem dX10_count_116 : decode cX10_count 116 = .ok (.getfield 174, 3) := by decide +kernel
theorem dX10_count_119 : decode cX10_count 119 = .ok (.ireturn, 1) := by decide +kernel
def fX10_count_104  (a0 : Nat) (a1 : Int32) (h : hp_T) : Option (Int32 × hp_T) := fx_g (fx_in (((5 : Int32) + a1) - (4 : Int32)) 117) (some ((h.1 (h.2.2 a0 3) (fx_ix (((5 : Int32) + a1) - (4 : Int32)))), h))
set_option maxRecDepth 100000 in
set_option maxHeartbeats 4000000 in
theorem bX10_count_104 {l : Launch} {G : xr_G} {K : xr_K} {r : Int32} {h1 : hp_T} (C : xr_C G K cX10_count RX10 2 (xr_R 0 0) (some .int) (some (xr_Qi G r h1)))  (a0 : Nat) (a1 : Int32) (ta0 : hp_sh a0 = (10, 0)) (h : hp_T) (hF : fX10_count_104 a0 a1 h = some (r, h1)) : xr_j l G K 2 h [(0, .ref (G.2.2.1 a0)), (1, .int a1)] 104 [] := by
  unfold fX10_count_104 at hF
  refine xr_aload_n C 0 dX10_count_104 rfl rfl ?_
  refine xr_getr C flX10_13 rfl (by decide) dX10_count_105 ta0 (fun t105 => ?_)
  refine xr_iconst (v := 5) C dX10_count_108 (by decide) ?_
  refine xr_iload_n C 1 dX10_count_109 rfl rfl ?_
  refine xr_iadd C dX10_count_110 ?_
  refine xr_iconst (v := 4) C dX10_count_111 (by decide) ?_
  refine xr_isub C dX10_count_112 ?_
  obtain ⟨g113, hF⟩ := fx_gE hF
  refine xr_iald C dX10_count_113 t105 g113 ?_
  cases hF
  exact xr_iret C dX10_count_114
def fX10_count (a0 : Nat) (a1 : Int32) (h : hp_T) : Option (Int32 × hp_T) := fx_let (hp_sI h a0 0 (0 : Int32)) fun (h2 : hp_T) => if a1 = (7 : Int32) then (some ((h2.1 a0 2), h2)) else (if (h2.1 a0 7) = 0 then (some ((-1 : Int32), h2)) else (if a1 < 0 then (some ((-1 : Int32), h2)) else (if a1 ≤ (6 : Int32) then (if a1 = 0 then (some ((h2.1 (h2.2.2 a0 3) (fx_ix (4 : Int32))), h2)) else if a1 = 1 then (some ((h2.1 (h2.2.2 a0 3) (fx_ix (0 : Int32))), h2)) else if a1 = 2 then (some ((h2.1 (h2.2.2 a0 3) (fx_ix (1 : Int32))), h2)) else if a1 = 3 then (some ((h2.1 (h2.2.2 a0 3) (fx_ix (2 : Int32))), h2)) else if a1 = 4 then (fX10_count_104 a0 a1 h2) else if a1 = 5 then (fX10_count_104 a0 a1 h2) else (some ((h2.1 a0 22), h2))) else (some ((-1 : Int32), h2)))))
set_option maxRecDepth 100000 in
set_option maxHeartbeats 4000000 in
theorem mX10_count (l : Launch) (G : xr_G) (a0 : Nat) (a1 : Int32) (ta0 : hp_sh a0 = (10, 0)) (h h1 : hp_T) (r : Int32) (hF : fX10_count a0 a1 h = some (r, h1)) : xr_M l G yX10_count cX10_count 2 (xr_R 0 0) (some .int) [.ref (G.2.2.1 a0), .int a1] h (xr_Qi G r h1) := by
  refine xr_start rfl (Nat.le_of_ble_eq_true rfl) (fun K C => ?_)
  show xr_j l G K 2 h [(0, .ref (G.2.2.1 a0)), (1, .int a1)] 0 []
  unfold fX10_count at hF
  refine xr_aload_n C 0 dX10_count_0 rfl rfl ?_
  refine xr_iconst (v := 0) C dX10_count_1 (by decide) ?_
  refine xr_puti C fpX10_63 rfl rfl rfl dX10_count_2 ta0 (fun h2 e2 => ?_)
  have hF := fx_letE hF h2 e2
  refine xr_iload_n C 1 dX10_count_5 rfl rfl ?_
  refine xr_bipush (v := 7) C dX10_count_6 (by decide) ?_
  refine xr_icmp_ne C 16 dX10_count_8 (by decide) (fun c8 => ?_) (fun c8 => ?_)
  · have hF := fx_neg hF c8
    refine xr_aload_n C 0 dX10_count_16 rfl rfl ?_
    refine xr_geti C flX10_59 rfl dX10_count_17 ta0 ?_
    refine xr_if_eq C 33 dX10_count_20 (by decide) (fun c20 => ?_) (fun c20 => ?_)
    · have hF := fx_pos hF c20
      refine xr_iconst (v := -1) C dX10_count_33 (by decide) ?_
      cases hF
      exact xr_iret C dX10_count_34
    · have hF := fx_neg hF c20
      refine xr_iload_n C 1 dX10_count_23 rfl rfl ?_
      refine xr_if_lt C 33 dX10_count_24 (by decide) (fun c24 => ?_) (fun c24 => ?_)
      · have hF := fx_pos hF c24
        refine xr_iconst (v := -1) C dX10_count_33 (by decide) ?_
        cases hF
        exact xr_iret C dX10_count_34
      · have hF := fx_neg hF c24
        refine xr_iload_n C 1 dX10_count_27 rfl rfl ?_
        refine xr_bipush (v := 6) C dX10_count_28 (by decide) ?_
        refine xr_icmp_le C 35 dX10_count_30 (by decide) (fun c30 => ?_) (fun c30 => ?_)
        · have hF := fx_pos hF c30
          refine xr_iload_n C 1 dX10_count_35 rfl rfl ?_
          by_cases c36_0 : a1 = 0
          · have hF := fx_pos hF c36_0
            refine xr_tableIn C 76 dX10_count_36 (by rw [c36_0]; decide) (by rw [c36_0]; decide) (by rw [c36_0]; first | done | rfl) (by decide) ?_
            refine xr_aload_n C 0 dX10_count_76 rfl rfl ?_
            refine xr_getr C flX10_13 rfl (by decide) dX10_count_77 ta0 (fun t77 => ?_)
            refine xr_iconst (v := 4) C dX10_count_80 (by decide) ?_
            refine xr_iald C dX10_count_81 t77 (by decide) ?_
            cases hF
            exact xr_iret C dX10_count_82
          have hF := fx_neg hF c36_0
          by_cases c36_1 : a1 = 1
          · have hF := fx_pos hF c36_1
            refine xr_tableIn C 83 dX10_count_36 (by rw [c36_1]; decide) (by rw [c36_1]; decide) (by rw [c36_1]; first | done | rfl) (by decide) ?_
            refine xr_aload_n C 0 dX10_count_83 rfl rfl ?_
            refine xr_getr C flX10_13 rfl (by decide) dX10_count_84 ta0 (fun t84 => ?_)
            refine xr_iconst (v := 0) C dX10_count_87 (by decide) ?_
            refine xr_iald C dX10_count_88 t84 (by decide) ?_
            cases hF
            exact xr_iret C dX10_count_89
          have hF := fx_neg hF c36_1
          by_cases c36_2 : a1 = 2
          · have hF := fx_pos hF c36_2
            refine xr_tableIn C 90 dX10_count_36 (by rw [c36_2]; decide) (by rw [c36_2]; decide) (by rw [c36_2]; first | done | rfl) (by decide) ?_
            refine xr_aload_n C 0 dX10_count_90 rfl rfl ?_
            refine xr_getr C flX10_13 rfl (by decide) dX10_count_91 ta0 (fun t91 => ?_)
            refine xr_iconst (v := 1) C dX10_count_94 (by decide) ?_
            refine xr_iald C dX10_count_95 t91 (by decide) ?_
            cases hF
            exact xr_iret C dX10_count_96
          have hF := fx_neg hF c36_2
          by_cases c36_3 : a1 = 3
          · have hF := fx_pos hF c36_3
            refine xr_tableIn C 97 dX10_count_36 (by rw [c36_3]; decide) (by rw [c36_3]; decide) (by rw [c36_3]; first | done | rfl) (by decide) ?_
            refine xr_aload_n C 0 dX10_count_97 rfl rfl ?_
            refine xr_getr C flX10_13 rfl (by decide) dX10_count_98 ta0 (fun t98 => ?_)
            refine xr_iconst (v := 2) C dX10_count_101 (by decide) ?_
            refine xr_iald C dX10_count_102 t98 (by decide) ?_
            cases hF
            exact xr_iret C dX10_count_103
          have hF := fx_neg hF c36_3
          by_cases c36_4 : a1 = 4
          · have hF := fx_pos hF c36_4
            refine xr_tableIn C 104 dX10_count_36 (by rw [c36_4]; decide) (by rw [c36_4]; decide) (by rw [c36_4]; first | done | rfl) (by decide) ?_
            exact bX10_count_104 C   a0 a1 ta0 h2 hF
          have hF := fx_neg hF c36_4
          by_cases c36_5 : a1 = 5
          · have hF := fx_pos hF c36_5
            refine xr_tableIn C 104 dX10_count_36 (by rw [c36_5]; decide) (by rw [c36_5]; decide) (by rw [c36_5]; first | done | rfl) (by decide) ?_
            exact bX10_count_104 C   a0 a1 ta0 h2 hF
          have hF := fx_neg hF c36_5
          refine xr_tableOut C 115 dX10_count_36 (fx_out6 c36_0 c36_1 c36_2 c36_3 c36_4 c36_5) (by decide) ?_
          refine xr_aload_n C 0 dX10_count_115 rfl rfl ?_
          refine xr_geti C flX10_174 rfl dX10_count_116 ta0 ?_
          cases hF
          exact xr_iret C dX10_count_119
        · have hF := fx_neg hF c30
          refine xr_iconst (v := -1) C dX10_count_33 (by decide) ?_
          cases hF
          exact xr_iret C dX10_count_34
  · have hF := fx_pos hF c8
    refine xr_aload_n C 0 dX10_count_11 rfl rfl ?_
    refine xr_geti C flX10_66 rfl dX10_count_12 ta0 ?_
    cases hF
    exact xr_iret C dX10_count_15
