theorem dJ7_fill_d0a16_0 : decode cJ7_fill_d0a16 0 = .ok (.iconst 0, 1) := by decide +kernel
theorem dJ7_fill_d0a16_1 : decode cJ7_fill_d0a16 1 = .ok (.istore_n 3, 1) := by decide +kernel
theorem dJ7_fill_d0a16_2 : decode cJ7_fill_d0a16 2 = .ok (.aload_n 0, 1) := by decide +kernel
theorem dJ7_fill_d0a16_3 : decode cJ7_fill_d0a16 3 = .ok (.arraylength, 1) := by decide +kernel
theorem dJ7_fill_d0a16_4 : decode cJ7_fill_d0a16 4 = .ok (.istore 4, 2) := by decide +kernel
theorem dJ7_fill_d0a16_6 : decode cJ7_fill_d0a16 6 = .ok (.iload_n 3, 1) := by decide +kernel
theorem dJ7_fill_d0a16_7 : decode cJ7_fill_d0a16 7 = .ok (.iload 4, 2) := by decide +kernel
theorem dJ7_fill_d0a16_9 : decode cJ7_fill_d0a16 9 = .ok (.if_icmp .ge 13, 3) := by decide +kernel
theorem dJ7_fill_d0a16_12 : decode cJ7_fill_d0a16 12 = .ok (.aload_n 0, 1) := by decide +kernel
theorem dJ7_fill_d0a16_13 : decode cJ7_fill_d0a16 13 = .ok (.iload_n 3, 1) := by decide +kernel
theorem dJ7_fill_d0a16_14 : decode cJ7_fill_d0a16 14 = .ok (.lload_n 1, 1) := by decide +kernel
theorem dJ7_fill_d0a16_15 : decode cJ7_fill_d0a16 15 = .ok (.lastore, 1) := by decide +kernel
theorem dJ7_fill_d0a16_16 : decode cJ7_fill_d0a16 16 = .ok (.iinc 3 1, 3) := by decide +kernel
theorem dJ7_fill_d0a16_19 : decode cJ7_fill_d0a16 19 = .ok (.goto (-13), 3) := by decide +kernel
theorem dJ7_fill_d0a16_22 : decode cJ7_fill_d0a16 22 = .ok (.return_, 1) := by decide +kernel
theorem dJ7_fill_53178_0 : decode cJ7_fill_53178 0 = .ok (.iconst 0, 1) := by decide +kernel
theorem dJ7_fill_53178_1 : decode cJ7_fill_53178 1 = .ok (.istore_n 2, 1) := by decide +kernel
theorem dJ7_fill_53178_2 : decode cJ7_fill_53178 2 = .ok (.aload_n 0, 1) := by decide +kernel
theorem dJ7_fill_53178_3 : decode cJ7_fill_53178 3 = .ok (.arraylength, 1) := by decide +kernel
theorem dJ7_fill_53178_4 : decode cJ7_fill_53178 4 = .ok (.istore_n 3, 1) := by decide +kernel
theorem dJ7_fill_53178_5 : decode cJ7_fill_53178 5 = .ok (.iload_n 2, 1) := by decide +kernel
theorem dJ7_fill_53178_6 : decode cJ7_fill_53178 6 = .ok (.iload_n 3, 1) := by decide +kernel
theorem dJ7_fill_53178_7 : decode cJ7_fill_53178 7 = .ok (.if_icmp .ge 13, 3) := by decide +kernel
theorem dJ7_fill_53178_10 : decode cJ7_fill_53178 10 = .ok (.aload_n 0, 1) := by decide +kernel
theorem dJ7_fill_53178_11 : decode cJ7_fill_53178 11 = .ok (.iload_n 2, 1) := by decide +kernel
theorem dJ7_fill_53178_12 : decode cJ7_fill_53178 12 = .ok (.iload_n 1, 1) := by decide +kernel
theorem dJ7_fill_53178_13 : decode cJ7_fill_53178 13 = .ok (.iastore, 1) := by decide +kernel
theorem dJ7_fill_53178_14 : decode cJ7_fill_53178 14 = .ok (.iinc 2 1, 3) := by decide +kernel
theorem dJ7_fill_53178_17 : decode cJ7_fill_53178 17 = .ok (.goto (-12), 3) := by decide +kernel
theorem dJ7_fill_53178_20 : decode cJ7_fill_53178 20 = .ok (.return_, 1) := by decide +kernel
theorem dX0_clear_0 : decode cX0_clear 0 = .ok (.aload_n 0, 1) := by decide +kernel
theorem dX0_clear_1 : decode cX0_clear 1 = .ok (.iconst 0, 1) := by decide +kernel
theorem dX0_clear_2 : decode cX0_clear 2 = .ok (.putfield 7, 3) := by decide +kernel
theorem dX0_clear_5 : decode cX0_clear 5 = .ok (.return_, 1) := by decide +kernel
def fX0_clear (a0 : Nat) (h : hp_T) : Option hp_T := fx_let (hp_sI h a0 0 (0 : Int32)) fun (h2 : hp_T) => some h2
set_option maxRecDepth 100000 in
set_option maxHeartbeats 4000000 in
theorem mX0_clear (l : Launch) (G : xr_G) (a0 : Nat) (ta0 : hp_sh a0 = (0, 0)) (h h1 : hp_T) (hF : fX0_clear a0 h = some h1) : xr_M l G yX0_clear cX0_clear 1 (xr_R 0 0) none [.ref (G.2.2.1 a0)] h (xr_Qv G h1) := by
  refine xr_start rfl (Nat.le_of_ble_eq_true rfl) (fun K C => ?_)
  show xr_j l G K 1 h [(0, .ref (G.2.2.1 a0))] 0 []
  unfold fX0_clear at hF
  refine xr_aload_n C 0 dX0_clear_0 rfl rfl ?_
  refine xr_iconst (v := 0) C dX0_clear_1 (by decide) ?_
  refine xr_puti C fpX0_7 rfl rfl rfl dX0_clear_2 ta0 (fun h2 e2 => ?_)
  have hF := fx_letE hF h2 e2
  cases hF
  exact xr_vret C dX0_clear_5
theorem dX0_offer_0 : decode cX0_offer 0 = .ok (.aload_n 0, 1) := by decide +kernel
theorem dX0_offer_1 : decode cX0_offer 1 = .ok (.getfield 7, 3) := by decide +kernel
theorem dX0_offer_4 : decode cX0_offer 4 = .ok (.ifCond .eq 28, 3) := by decide +kernel
theorem dX0_offer_7 : decode cX0_offer 7 = .ok (.iload 4, 2) := by decide +kernel
theorem dX0_offer_9 : decode cX0_offer 9 = .ok (.ifCond .eq 14, 3) := by decide +kernel
theorem dX0_offer_12 : decode cX0_offer 12 = .ok (.iload_n 3, 1) := by decide +kernel
theorem dX0_offer_13 : decode cX0_offer 13 = .ok (.aload_n 0, 1) := by decide +kernel
theorem dX0_offer_14 : decode cX0_offer 14 = .ok (.getfield 13, 3) := by decide +kernel
theorem dX0_offer_17 : decode cX0_offer 17 = .ok (.if_icmp .gt 15, 3) := by decide +kernel
theorem dX0_offer_20 : decode cX0_offer 20 = .ok (.goto 11, 3) := by decide +kernel
theorem dX0_offer_23 : decode cX0_offer 23 = .ok (.iload_n 3, 1) := by decide +kernel
theorem dX0_offer_24 : decode cX0_offer 24 = .ok (.aload_n 0, 1) := by decide +kernel
theorem dX0_offer_25 : decode cX0_offer 25 = .ok (.getfield 13, 3) := by decide +kernel
theorem dX0_offer_28 : decode cX0_offer 28 = .ok (.if_icmp .lt 4, 3) := by decide +kernel
theorem dX0_offer_31 : decode cX0_offer 31 = .ok (.return_, 1) := by decide +kernel
theorem dX0_offer_32 : decode cX0_offer 32 = .ok (.aload_n 0, 1) := by decide +kernel
theorem dX0_offer_33 : decode cX0_offer 33 = .ok (.iconst 1, 1) := by decide +kernel
theorem dX0_offer_34 : decode cX0_offer 34 = .ok (.putfield 7, 3) := by decide +kernel
theorem dX0_offer_37 : decode cX0_offer 37 = .ok (.aload_n 0, 1) := by decide +kernel
theorem dX0_offer_38 : decode cX0_offer 38 = .ok (.iload_n 1, 1) := by decide +kernel
theorem dX0_offer_39 : decode cX0_offer 39 = .ok (.putfield 17, 3) := by decide +kernel
theorem dX0_offer_42 : decode cX0_offer 42 = .ok (.aload_n 0, 1) := by decide +kernel
theorem dX0_offer_43 : decode cX0_offer 43 = .ok (.iload_n 2, 1) := by decide +kernel
theorem dX0_offer_44 : decode cX0_offer 44 = .ok (.putfield 20, 3) := by decide +kernel
theorem dX0_offer_47 : decode cX0_offer 47 = .ok (.aload_n 0, 1) := by decide +kernel
theorem dX0_offer_48 : decode cX0_offer 48 = .ok (.iload_n 3, 1) := by decide +kernel
theorem dX0_offer_49 : decode cX0_offer 49 = .ok (.putfield 13, 3) := by decide +kernel
theorem dX0_offer_52 : decode cX0_offer 52 = .ok (.return_, 1) := by decide +kernel
def fX0_offer_32  (a0 : Nat) (a1 : Int32) (a2 : Int32) (a3 : Int32) (h : hp_T) : Option hp_T := fx_let (hp_sI h a0 0 (1 : Int32)) fun (h34 : hp_T) => fx_let (hp_sI h34 a0 1 a1) fun (h39 : hp_T) => fx_let (hp_sI h39 a0 2 a2) fun (h44 : hp_T) => fx_let (hp_sI h44 a0 3 a3) fun (h49 : hp_T) => some h49
set_option maxRecDepth 100000 in
set_option maxHeartbeats 4000000 in
theorem bX0_offer_32 {l : Launch} {G : xr_G} {K : xr_K} {h1 : hp_T} (C : xr_C G K cX0_offer RX0 5 (xr_R 0 0) none (some (xr_Qv G h1)))  (a0 : Nat) (a1 : Int32) (a2 : Int32) (a3 : Int32) (ta0 : hp_sh a0 = (0, 0)) (h : hp_T) (hF : fX0_offer_32 a0 a1 a2 a3 h = some h1) : xr_j l G K 5 h [(0, .ref (G.2.2.1 a0)), (1, .int a1), (2, .int a2), (3, .int a3)] 32 [] := by
  unfold fX0_offer_32 at hF
  refine xr_aload_n C 0 dX0_offer_32 rfl rfl ?_
  refine xr_iconst (v := 1) C dX0_offer_33 (by decide) ?_
  refine xr_puti C fpX0_7 rfl rfl rfl dX0_offer_34 ta0 (fun h34 e34 => ?_)
  have hF := fx_letE hF h34 e34
  refine xr_aload_n C 0 dX0_offer_37 rfl rfl ?_
  refine xr_iload_n C 1 dX0_offer_38 rfl rfl ?_
  refine xr_puti C fpX0_17 rfl rfl rfl dX0_offer_39 ta0 (fun h39 e39 => ?_)
  have hF := fx_letE hF h39 e39
  refine xr_aload_n C 0 dX0_offer_42 rfl rfl ?_
  refine xr_iload_n C 2 dX0_offer_43 rfl rfl ?_
  refine xr_puti C fpX0_20 rfl rfl rfl dX0_offer_44 ta0 (fun h44 e44 => ?_)
  have hF := fx_letE hF h44 e44
  refine xr_aload_n C 0 dX0_offer_47 rfl rfl ?_
  refine xr_iload_n C 3 dX0_offer_48 rfl rfl ?_
  refine xr_puti C fpX0_13 rfl rfl rfl dX0_offer_49 ta0 (fun h49 e49 => ?_)
  have hF := fx_letE hF h49 e49
  cases hF
  exact xr_vret C dX0_offer_52
def fX0_offer (a0 : Nat) (a1 : Int32) (a2 : Int32) (a3 : Int32) (a4 : Int32) (h : hp_T) : Option hp_T := if (h.1 a0 0) = 0 then (fX0_offer_32 a0 a1 a2 a3 h) else (if a4 = 0 then (if a3 < (h.1 a0 3) then (fX0_offer_32 a0 a1 a2 a3 h) else (some h)) else (if (h.1 a0 3) < a3 then (fX0_offer_32 a0 a1 a2 a3 h) else (some h)))
set_option maxRecDepth 100000 in
set_option maxHeartbeats 4000000 in
theorem mX0_offer (l : Launch) (G : xr_G) (a0 : Nat) (a1 : Int32) (a2 : Int32) (a3 : Int32) (a4 : Int32) (ta0 : hp_sh a0 = (0, 0)) (h h1 : hp_T) (hF : fX0_offer a0 a1 a2 a3 a4 h = some h1) : xr_M l G yX0_offer cX0_offer 5 (xr_R 0 0) none [.ref (G.2.2.1 a0), .int a1, .int a2, .int a3, .int a4] h (xr_Qv G h1) := by
  refine xr_start rfl (Nat.le_of_ble_eq_true rfl) (fun K C => ?_)
  show xr_j l G K 5 h [(0, .ref (G.2.2.1 a0)), (1, .int a1), (2, .int a2), (3, .int a3), (4, .int a4)] 0 []
  unfold fX0_offer at hF
  refine xr_aload_n C 0 dX0_offer_0 rfl rfl ?_
  refine xr_geti C flX0_7 rfl dX0_offer_1 ta0 ?_
  refine xr_if_eq C 32 dX0_offer_4 (by decide) (fun c4 => ?_) (fun c4 => ?_)
  · have hF := fx_pos hF c4
    refine xr_sub [0, 1, 2, 3] [(0, .ref (G.2.2.1 a0)), (1, .int a1), (2, .int a2), (3, .int a3)] rfl ?_
    exact bX0_offer_32 C   a0 a1 a2 a3 ta0 h hF
  · have hF := fx_neg hF c4
    refine xr_iload C 4 dX0_offer_7 rfl ?_
    refine xr_if_eq C 23 dX0_offer_9 (by decide) (fun c9 => ?_) (fun c9 => ?_)
    · have hF := fx_pos hF c9
      refine xr_iload_n C 3 dX0_offer_23 rfl rfl ?_
      refine xr_aload_n C 0 dX0_offer_24 rfl rfl ?_
      refine xr_geti C flX0_13 rfl dX0_offer_25 ta0 ?_
      refine xr_icmp_lt C 32 dX0_offer_28 (by decide) (fun c28 => ?_) (fun c28 => ?_)
      · have hF := fx_pos hF c28
        refine xr_sub [0, 1, 2, 3] [(0, .ref (G.2.2.1 a0)), (1, .int a1), (2, .int a2), (3, .int a3)] rfl ?_
        exact bX0_offer_32 C   a0 a1 a2 a3 ta0 h hF
      · have hF := fx_neg hF c28
        cases hF
        exact xr_vret C dX0_offer_31
    · have hF := fx_neg hF c9
      refine xr_iload_n C 3 dX0_offer_12 rfl rfl ?_
      refine xr_aload_n C 0 dX0_offer_13 rfl rfl ?_
      refine xr_geti C flX0_13 rfl dX0_offer_14 ta0 ?_
      refine xr_icmp_gt C 32 dX0_offer_17 (by decide) (fun c17 => ?_) (fun c17 => ?_)
      · have hF := fx_pos hF c17
        refine xr_sub [0, 1, 2, 3] [(0, .ref (G.2.2.1 a0)), (1, .int a1), (2, .int a2), (3, .int a3)] rfl ?_
        exact bX0_offer_32 C   a0 a1 a2 a3 ta0 h hF
      · have hF := fx_neg hF c17
        refine xr_goto C 31 dX0_offer_20 (by decide) ?_
        cases hF
        exact xr_vret C dX0_offer_31
theorem dX0_part_0 : decode cX0_part 0 = .ok (.iload_n 1, 1) := by decide +kernel
theorem dX0_part_1 : decode cX0_part 1 = .ok (.ifCond .ne 8, 3) := by decide +kernel
theorem dX0_part_4 : decode cX0_part 4 = .ok (.aload_n 0, 1) := by decide +kernel
theorem dX0_part_5 : decode cX0_part 5 = .ok (.getfield 17, 3) := by decide +kernel
theorem dX0_part_8 : decode cX0_part 8 = .ok (.ireturn, 1) := by decide +kernel
theorem dX0_part_9 : decode cX0_part 9 = .ok (.iload_n 1, 1) := by decide +kernel
theorem dX0_part_10 : decode cX0_part 10 = .ok (.iconst 1, 1) := by decide +kernel
theorem dX0_part_11 : decode cX0_part 11 = .ok (.if_icmp .ne 10, 3) := by decide +kernel
theorem dX0_part_14 : decode cX0_part 14 = .ok (.aload_n 0, 1) := by decide +kernel
theorem dX0_part_15 : decode cX0_part 15 = .ok (.getfield 20, 3) := by decide +kernel
theorem dX0_part_18 : decode cX0_part 18 = .ok (.goto 7, 3) := by decide +kernel
theorem dX0_part_21 : decode cX0_part 21 = .ok (.aload_n 0, 1) := by decide +kernel
theorem dX0_part_22 : decode cX0_part 22 = .ok (.getfield 13, 3) := by decide +kernel
theorem dX0_part_25 : decode cX0_part 25 = .ok (.ireturn, 1) := by decide +kernel
def fX0_part (a0 : Nat) (a1 : Int32) (h : hp_T) : Option (Int32 × hp_T) := if a1 = 0 then (some ((h.1 a0 1), h)) else (if a1 = (1 : Int32) then (some ((h.1 a0 2), h)) else (some ((h.1 a0 3), h)))
set_option maxRecDepth 100000 in
set_option maxHeartbeats 4000000 in
theorem mX0_part (l : Launch) (G : xr_G) (a0 : Nat) (a1 : Int32) (ta0 : hp_sh a0 = (0, 0)) (h h1 : hp_T) (r : Int32) (hF : fX0_part a0 a1 h = some (r, h1)) : xr_M l G yX0_part cX0_part 2 (xr_R 0 0) (some .int) [.ref (G.2.2.1 a0), .int a1] h (xr_Qi G r h1) := by
  refine xr_start rfl (Nat.le_of_ble_eq_true rfl) (fun K C => ?_)
  show xr_j l G K 2 h [(0, .ref (G.2.2.1 a0)), (1, .int a1)] 0 []
  unfold fX0_part at hF
  refine xr_iload_n C 1 dX0_part_0 rfl rfl ?_
  refine xr_if_ne C 9 dX0_part_1 (by decide) (fun c1 => ?_) (fun c1 => ?_)
  · have hF := fx_neg hF c1
    refine xr_iload_n C 1 dX0_part_9 rfl rfl ?_
    refine xr_iconst (v := 1) C dX0_part_10 (by decide) ?_
    refine xr_icmp_ne C 21 dX0_part_11 (by decide) (fun c11 => ?_) (fun c11 => ?_)
    · have hF := fx_neg hF c11
      refine xr_aload_n C 0 dX0_part_21 rfl rfl ?_
      refine xr_geti C flX0_13 rfl dX0_part_22 ta0 ?_
      cases hF
      exact xr_iret C dX0_part_25
    · have hF := fx_pos hF c11
      refine xr_aload_n C 0 dX0_part_14 rfl rfl ?_
      refine xr_geti C flX0_20 rfl dX0_part_15 ta0 ?_
      refine xr_goto C 25 dX0_part_18 (by decide) ?_
      cases hF
      exact xr_iret C dX0_part_25
  · have hF := fx_pos hF c1
    refine xr_aload_n C 0 dX0_part_4 rfl rfl ?_
    refine xr_geti C flX0_17 rfl dX0_part_5 ta0 ?_
    cases hF
    exact xr_iret C dX0_part_8
theorem dX1_team_0 : decode cX1_team 0 = .ok (.iload_n 1, 1) := by decide +kernel
theorem dX1_team_1 : decode cX1_team 1 = .ok (.ifCond .ne 10, 3) := by decide +kernel
theorem dX1_team_4 : decode cX1_team 4 = .ok (.aload_n 0, 1) := by decide +kernel
theorem dX1_team_5 : decode cX1_team 5 = .ok (.getfield 10, 3) := by decide +kernel
theorem dX1_team_8 : decode cX1_team 8 = .ok (.goto 7, 3) := by decide +kernel
theorem dX1_team_11 : decode cX1_team 11 = .ok (.aload_n 0, 1) := by decide +kernel
theorem dX1_team_12 : decode cX1_team 12 = .ok (.getfield 16, 3) := by decide +kernel
theorem dX1_team_15 : decode cX1_team 15 = .ok (.areturn, 1) := by decide +kernel
def fX1_team (a0 : Nat) (a1 : Int32) (h : hp_T) : Option (Nat × hp_T) := if a1 = 0 then (some ((h.2.2 a0 0), h)) else (some ((h.2.2 a0 1), h))
set_option maxRecDepth 100000 in
set_option maxHeartbeats 4000000 in
theorem mX1_team (l : Launch) (G : xr_G) (a0 : Nat) (a1 : Int32) (ta0 : hp_sh a0 = (1, 0)) (h h1 : hp_T) (r : Nat) (hF : fX1_team a0 a1 h = some (r, h1)) : xr_M l G yX1_team cX1_team 2 (xr_R 0 0) (some (.object "CourtSix$Side")) [.ref (G.2.2.1 a0), .int a1] h (xr_Qr G r (6, 0) h1) := by
  refine xr_start rfl (Nat.le_of_ble_eq_true rfl) (fun K C => ?_)
  show xr_j l G K 2 h [(0, .ref (G.2.2.1 a0)), (1, .int a1)] 0 []
  unfold fX1_team at hF
  refine xr_iload_n C 1 dX1_team_0 rfl rfl ?_
  refine xr_if_ne C 11 dX1_team_1 (by decide) (fun c1 => ?_) (fun c1 => ?_)
  · have hF := fx_neg hF c1
    refine xr_aload_n C 0 dX1_team_11 rfl rfl ?_
    refine xr_getr C flX1_16 rfl (by decide) dX1_team_12 ta0 (fun t12 => ?_)
    cases hF
    exact xr_aret C t12 (Or.inl ⟨_, rfl⟩) dX1_team_15
  · have hF := fx_pos hF c1
    refine xr_aload_n C 0 dX1_team_4 rfl rfl ?_
    refine xr_getr C flX1_10 rfl (by decide) dX1_team_5 ta0 (fun t5 => ?_)
    refine xr_goto C 15 dX1_team_8 (by decide) ?_
    cases hF
    exact xr_aret C t5 (Or.inl ⟨_, rfl⟩) dX1_team_15

def fJ7_fill_53178_12_5  : Nat → Nat → Int32 → Int32 → Int32 → hp_T → Option hp_T
  | 0, _, _, _, _, _ => none
  | n + 1, a0, a1, a2, a3, h => if a3 ≤ a2 then (some h) else (fx_g (fx_in a2 12) (fx_let (hp_sI h a0 (fx_ix a2) a1) fun (h13 : hp_T) => fx_let (a2 + (1 : Int32)) fun (x14 : Int32) => fJ7_fill_53178_12_5 n a0 a1 x14 a3 h13))
set_option maxRecDepth 100000 in
set_option maxHeartbeats 4000000 in
theorem bJ7_fill_53178_12_5 {l : Launch} {G : xr_G} {K : xr_K} {h1 : hp_T} (C : xr_C G K cJ7_fill_53178 RJ7 4 (xr_R 0 0) none (some (xr_Qv G h1)))  : ∀ (n : Nat) (a0 : Nat) (a1 : Int32) (a2 : Int32) (a3 : Int32) (ta0 : hp_sh a0 = (20, 12)) (h : hp_T), fJ7_fill_53178_12_5 n a0 a1 a2 a3 h = some h1 → xr_j l G K 4 h [(0, .ref (G.2.2.1 a0)), (1, .int a1), (2, .int a2), (3, .int a3)] 5 [] := by
  intro n
  induction n with
  | zero =>
    intro a0 a1 a2 a3 ta0 h hF
    cases hF
  | succ n ih =>
    intro a0 a1 a2 a3 ta0 h hF
    rw [fJ7_fill_53178_12_5] at hF
    refine xr_iload_n C 2 dJ7_fill_53178_5 rfl rfl ?_
    refine xr_iload_n C 3 dJ7_fill_53178_6 rfl rfl ?_
    refine xr_icmp_ge C 20 dJ7_fill_53178_7 (by decide) (fun c7 => ?_) (fun c7 => ?_)
    · have hF := fx_pos hF c7
      cases hF
      exact xr_vret C dJ7_fill_53178_20
    · have hF := fx_neg hF c7
      refine xr_aload_n C 0 dJ7_fill_53178_10 rfl rfl ?_
      refine xr_iload_n C 2 dJ7_fill_53178_11 rfl rfl ?_
      refine xr_iload_n C 1 dJ7_fill_53178_12 rfl rfl ?_
      obtain ⟨g13, hF⟩ := fx_gE hF
      refine xr_iast C dJ7_fill_53178_13 ta0 g13 (fun h13 e13 => ?_)
      have hF := fx_letE hF h13 e13
      obtain ⟨x14, e14⟩ : ∃ y : Int32, y = (a2 + (1 : Int32)) := ⟨_, rfl⟩
      have hF := fx_letE hF x14 e14
      refine xr_iinc C x14 2 [(2, .int x14), (0, .ref (G.2.2.1 a0)), (1, .int a1), (3, .int a3)] dJ7_fill_53178_14 rfl (by rw [e14]; rfl) (Nat.le_of_ble_eq_true rfl) rfl ?_
      refine xr_goto C 5 dJ7_fill_53178_17 (by decide) ?_
      refine xr_sub [1, 2, 0, 3] [(0, .ref (G.2.2.1 a0)), (1, .int a1), (2, .int x14), (3, .int a3)] rfl ?_
      exact ih a0 a1 x14 a3 ta0 h13 hF
def fJ7_fill_53178_12 (a0 : Nat) (a1 : Int32) (h : hp_T) : Option hp_T := fJ7_fill_53178_12_5 fx_N a0 a1 (0 : Int32) (12 : Int32) h
set_option maxRecDepth 100000 in
set_option maxHeartbeats 4000000 in
theorem mJ7_fill_53178_12 (l : Launch) (G : xr_G) (a0 : Nat) (a1 : Int32) (ta0 : hp_sh a0 = (20, 12)) (h h1 : hp_T) (hF : fJ7_fill_53178_12 a0 a1 h = some h1) : xr_M l G yJ7_fill_53178 cJ7_fill_53178 4 (xr_R 0 0) none [.ref (G.2.2.1 a0), .int a1] h (xr_Qv G h1) := by
  refine xr_start rfl (Nat.le_of_ble_eq_true rfl) (fun K C => ?_)
  show xr_j l G K 4 h [(0, .ref (G.2.2.1 a0)), (1, .int a1)] 0 []
  unfold fJ7_fill_53178_12 at hF
  refine xr_iconst (v := 0) C dJ7_fill_53178_0 (by decide) ?_
  refine xr_istore_n C [(2, .int (0 : Int32)), (0, .ref (G.2.2.1 a0)), (1, .int a1)] dJ7_fill_53178_1 rfl (Nat.le_of_ble_eq_true rfl) rfl ?_
  refine xr_aload_n C 1 dJ7_fill_53178_2 rfl rfl ?_
  refine xr_alen (v := 12) C dJ7_fill_53178_3 ta0 (by decide) ?_
  refine xr_istore_n C [(3, .int (12 : Int32)), (2, .int (0 : Int32)), (0, .ref (G.2.2.1 a0)), (1, .int a1)] dJ7_fill_53178_4 rfl (Nat.le_of_ble_eq_true rfl) rfl ?_
  refine xr_sub [2, 3, 1, 0] [(0, .ref (G.2.2.1 a0)), (1, .int a1), (2, .int (0 : Int32)), (3, .int (12 : Int32))] rfl ?_
  exact bJ7_fill_53178_12_5 C  fx_N a0 a1 (0 : Int32) (12 : Int32) ta0 h hF

def fJ7_fill_53178_312_5  : Nat → Nat → Int32 → Int32 → Int32 → hp_T → Option hp_T
  | 0, _, _, _, _, _ => none
  | n + 1, a0, a1, a2, a3, h => if a3 ≤ a2 then (some h) else (fx_g (fx_in a2 312) (fx_let (hp_sI h a0 (fx_ix a2) a1) fun (h13 : hp_T) => fx_let (a2 + (1 : Int32)) fun (x14 : Int32) => fJ7_fill_53178_312_5 n a0 a1 x14 a3 h13))
set_option maxRecDepth 100000 in
set_option maxHeartbeats 4000000 in
theorem bJ7_fill_53178_312_5 {l : Launch} {G : xr_G} {K : xr_K} {h1 : hp_T} (C : xr_C G K cJ7_fill_53178 RJ7 4 (xr_R 0 0) none (some (xr_Qv G h1)))  : ∀ (n : Nat) (a0 : Nat) (a1 : Int32) (a2 : Int32) (a3 : Int32) (ta0 : hp_sh a0 = (20, 312)) (h : hp_T), fJ7_fill_53178_312_5 n a0 a1 a2 a3 h = some h1 → xr_j l G K 4 h [(0, .ref (G.2.2.1 a0)), (1, .int a1), (2, .int a2), (3, .int a3)] 5 [] := by
  intro n
  induction n with
  | zero =>
    intro a0 a1 a2 a3 ta0 h hF
    cases hF
  | succ n ih =>
    intro a0 a1 a2 a3 ta0 h hF
    rw [fJ7_fill_53178_312_5] at hF
    refine xr_iload_n C 2 dJ7_fill_53178_5 rfl rfl ?_
    refine xr_iload_n C 3 dJ7_fill_53178_6 rfl rfl ?_
    refine xr_icmp_ge C 20 dJ7_fill_53178_7 (by decide) (fun c7 => ?_) (fun c7 => ?_)
    · have hF := fx_pos hF c7
      cases hF
      exact xr_vret C dJ7_fill_53178_20
    · have hF := fx_neg hF c7
      refine xr_aload_n C 0 dJ7_fill_53178_10 rfl rfl ?_
      refine xr_iload_n C 2 dJ7_fill_53178_11 rfl rfl ?_
      refine xr_iload_n C 1 dJ7_fill_53178_12 rfl rfl ?_
      obtain ⟨g13, hF⟩ := fx_gE hF
      refine xr_iast C dJ7_fill_53178_13 ta0 g13 (fun h13 e13 => ?_)
      have hF := fx_letE hF h13 e13
      obtain ⟨x14, e14⟩ : ∃ y : Int32, y = (a2 + (1 : Int32)) := ⟨_, rfl⟩
      have hF := fx_letE hF x14 e14
      refine xr_iinc C x14 2 [(2, .int x14), (0, .ref (G.2.2.1 a0)), (1, .int a1), (3, .int a3)] dJ7_fill_53178_14 rfl (by rw [e14]; rfl) (Nat.le_of_ble_eq_true rfl) rfl ?_
      refine xr_goto C 5 dJ7_fill_53178_17 (by decide) ?_
      refine xr_sub [1, 2, 0, 3] [(0, .ref (G.2.2.1 a0)), (1, .int a1), (2, .int x14), (3, .int a3)] rfl ?_
      exact ih a0 a1 x14 a3 ta0 h13 hF
def fJ7_fill_53178_312 (a0 : Nat) (a1 : Int32) (h : hp_T) : Option hp_T := fJ7_fill_53178_312_5 fx_N a0 a1 (0 : Int32) (312 : Int32) h
set_option maxRecDepth 100000 in
set_option maxHeartbeats 4000000 in
theorem mJ7_fill_53178_312 (l : Launch) (G : xr_G) (a0 : Nat) (a1 : Int32) (ta0 : hp_sh a0 = (20, 312)) (h h1 : hp_T) (hF : fJ7_fill_53178_312 a0 a1 h = some h1) : xr_M l G yJ7_fill_53178 cJ7_fill_53178 4 (xr_R 0 0) none [.ref (G.2.2.1 a0), .int a1] h (xr_Qv G h1) := by
  refine xr_start rfl (Nat.le_of_ble_eq_true rfl) (fun K C => ?_)
  show xr_j l G K 4 h [(0, .ref (G.2.2.1 a0)), (1, .int a1)] 0 []
  unfold fJ7_fill_53178_312 at hF
  refine xr_iconst (v := 0) C dJ7_fill_53178_0 (by decide) ?_
  refine xr_istore_n C [(2, .int (0 : Int32)), (0, .ref (G.2.2.1 a0)), (1, .int a1)] dJ7_fill_53178_1 rfl (Nat.le_of_ble_eq_true rfl) rfl ?_
  refine xr_aload_n C 1 dJ7_fill_53178_2 rfl rfl ?_
  refine xr_alen (v := 312) C dJ7_fill_53178_3 ta0 (by decide) ?_
  refine xr_istore_n C [(3, .int (312 : Int32)), (2, .int (0 : Int32)), (0, .ref (G.2.2.1 a0)), (1, .int a1)] dJ7_fill_53178_4 rfl (Nat.le_of_ble_eq_true rfl) rfl ?_
  refine xr_sub [2, 3, 1, 0] [(0, .ref (G.2.2.1 a0)), (1, .int a1), (2, .int (0 : Int32)), (3, .int (312 : Int32))] rfl ?_
  exact bJ7_fill_53178_312_5 C  fx_N a0 a1 (0 : Int32) (312 : Int32) ta0 h hF
theorem dX6_begin_0 : decode cX6_begin 0 = .ok (.aload_n 1, 1) := by decide +kernel
theorem dX6_begin_1 : decode cX6_begin 1 = .ok (.getfield 24, 3) := by decide +kernel
theorem dX6_begin_4 : decode cX6_begin 4 = .ok (.iconst 0, 1) := by decide +kernel
theorem dX6_begin_5 : decode cX6_begin 5 = .ok (.aload_n 0, 1) := by decide +kernel
theorem dX6_begin_6 : decode cX6_begin 6 = .ok (.getfield 9, 3) := by decide +kernel
theorem dX6_begin_9 : decode cX6_begin 9 = .ok (.iconst 0, 1) := by decide +kernel
theorem dX6_begin_10 : decode cX6_begin 10 = .ok (.bipush 6, 2) := by decide +kernel
theorem dX6_begin_12 : decode cX6_begin 12 = .ok (.invokestatic 29, 3) := by decide +kernel
theorem dX6_begin_15 : decode cX6_begin 15 = .ok (.getstatic 35, 3) := by decide +kernel
theorem dX6_begin_18 : decode cX6_begin 18 = .ok (.iconst 0, 1) := by decide +kernel
theorem dX6_begin_19 : decode cX6_begin 19 = .ok (.aload_n 0, 1) := by decide +kernel
theorem dX6_begin_20 : decode cX6_begin 20 = .ok (.getfield 18, 3) := by decide +kernel
theorem dX6_begin_23 : decode cX6_begin 23 = .ok (.iconst 0, 1) := by decide +kernel
theorem dX6_begin_24 : decode cX6_begin 24 = .ok (.bipush 6, 2) := by decide +kernel
theorem dX6_begin_26 : decode cX6_begin 26 = .ok (.invokestatic 29, 3) := by decide +kernel
theorem dX6_begin_29 : decode cX6_begin 29 = .ok (.getstatic 38, 3) := by decide +kernel
theorem dX6_begin_32 : decode cX6_begin 32 = .ok (.iconst 0, 1) := by decide +kernel
theorem dX6_begin_33 : decode cX6_begin 33 = .ok (.aload_n 0, 1) := by decide +kernel
theorem dX6_begin_34 : decode cX6_begin 34 = .ok (.getfield 21, 3) := by decide +kernel
theorem dX6_begin_37 : decode cX6_begin 37 = .ok (.iconst 0, 1) := by decide +kernel
theorem dX6_begin_38 : decode cX6_begin 38 = .ok (.bipush 6, 2) := by decide +kernel
theorem dX6_begin_40 : decode cX6_begin 40 = .ok (.invokestatic 29, 3) := by decide +kernel
theorem dX6_begin_43 : decode cX6_begin 43 = .ok (.aload_n 0, 1) := by decide +kernel
theorem dX6_begin_44 : decode cX6_begin 44 = .ok (.getfield 15, 3) := by decide +kernel
theorem dX6_begin_47 : decode cX6_begin 47 = .ok (.iconst (-1), 1) := by decide +kernel
theorem dX6_begin_48 : decode cX6_begin 48 = .ok (.invokestatic 41, 3) := by decide +kernel
theorem dX6_begin_51 : decode cX6_begin 51 = .ok (.aload_n 0, 1) := by decide +kernel
theorem dX6_begin_52 : decode cX6_begin 52 = .ok (.iconst 0, 1) := by decide +kernel
theorem dX6_begin_53 : decode cX6_begin 53 = .ok (.putfield 47, 3) := by decide +kernel
theorem dX6_begin_56 : decode cX6_begin 56 = .ok (.aload_n 0, 1) := by decide +kernel
theorem dX6_begin_57 : decode cX6_begin 57 = .ok (.iconst 0, 1) := by decide +kernel
theorem dX6_begin_58 : decode cX6_begin 58 = .ok (.putfield 51, 3) := by decide +kernel
theorem dX6_begin_61 : decode cX6_begin 61 = .ok (.aload_n 0, 1) := by decide +kernel
theorem dX6_begin_62 : decode cX6_begin 62 = .ok (.iload_n 2, 1) := by decide +kernel
theorem dX6_begin_63 : decode cX6_begin 63 = .ok (.putfield 55, 3) := by decide +kernel
theorem dX6_begin_66 : decode cX6_begin 66 = .ok (.aload_n 0, 1) := by decide +kernel
theorem dX6_begin_67 : decode cX6_begin 67 = .ok (.iconst 0, 1) := by decide +kernel
theorem dX6_begin_68 : decode cX6_begin 68 = .ok (.putfield 58, 3) := by decide +kernel
theorem dX6_begin_71 : decode cX6_begin 71 = .ok (.aload_n 0, 1) := by decide +kernel
theorem dX6_begin_72 : decode cX6_begin 72 = .ok (.iconst 0, 1) := by decide +kernel
theorem dX6_begin_73 : decode cX6_begin 73 = .ok (.putfield 61, 3) := by decide +kernel
theorem dX6_begin_76 : decode cX6_begin 76 = .ok (.return_, 1) := by decide +kernel
def fX6_begin (a0 : Nat) (a1 : Nat) (a2 : Int32) (h : hp_T) : Option hp_T := fx_let (hp_wI h (h.2.2 a0 0) (h.1 (h.2.2 a1 4))) fun (h12 : hp_T) => fx_let (hp_wI h12 (h12.2.2 a0 2) (hp_zt 0)) fun (h26 : hp_T) => fx_let (hp_wI h26 (h26.2.2 a0 3) (hp_zt 1)) fun (h40 : hp_T) => fx_b1 (fJ7_fill_53178_12 (h40.2.2 a0 1) (-1 : Int32) h40) fun (h48 : hp_T) => fx_let (hp_sI h48 a0 4 (0 : Int32)) fun (h53 : hp_T) => fx_let (hp_sI h53 a0 5 (0 : Int32)) fun (h58 : hp_T) => fx_let (hp_sI h58 a0 6 a2) fun (h63 : hp_T) => fx_let (hp_sI h63 a0 7 (0 : Int32)) fun (h68 : hp_T) => fx_let (hp_sI h68 a0 8 (0 : Int32)) fun (h73 : hp_T) => some h73
set_option maxRecDepth 100000 in
set_option maxHeartbeats 4000000 in
theorem mX6_begin (l : Launch) (G : xr_G) (a0 : Nat) (a1 : Nat) (a2 : Int32) (ta0 : hp_sh a0 = (6, 0)) (ta1 : hp_sh a1 = (7, 0)) (h h1 : hp_T) (hF : fX6_begin a0 a1 a2 h = some h1) : xr_M l G yX6_begin cX6_begin 3 (xr_R 1 60) none [.ref (G.2.2.1 a0), .ref (G.2.2.1 a1), .int a2] h (xr_Qv G h1) := by
  refine xr_start rfl (Nat.le_of_ble_eq_true rfl) (fun K C => ?_)
  show xr_j l G K 3 h [(0, .ref (G.2.2.1 a0)), (1, .ref (G.2.2.1 a1)), (2, .int a2)] 0 []
  unfold fX6_begin at hF
  refine xr_aload_n C 1 dX6_begin_0 rfl rfl ?_
  refine xr_getr C flX6_24 rfl (by decide) dX6_begin_1 ta1 (fun t1 => ?_)
  refine xr_iconst (v := 0) C dX6_begin_4 (by decide) ?_
  refine xr_aload_n C 0 dX6_begin_5 rfl rfl ?_
  refine xr_getr C flX6_9 rfl (by decide) dX6_begin_6 ta0 (fun t6 => ?_)
  refine xr_iconst (v := 0) C dX6_begin_9 (by decide) ?_
  refine xr_bipush (v := 6) C dX6_begin_10 (by decide) ?_
  refine xr_copy C cpX6_29 rfl (by decide) t1 t6 (Nat.le_of_ble_eq_true rfl) (Nat.le_of_ble_eq_true rfl) dX6_begin_12 (fun h12 e12 => ?_)
  have hF := fx_letE hF h12 e12
  refine xr_getsN C 0 (by decide) gsX6_35 dX6_begin_15 ?_
  refine xr_iconst (v := 0) C dX6_begin_18 (by decide) ?_
  refine xr_aload_n C 0 dX6_begin_19 rfl rfl ?_
  refine xr_getr C flX6_18 rfl (by decide) dX6_begin_20 ta0 (fun t20 => ?_)
  refine xr_iconst (v := 0) C dX6_begin_23 (by decide) ?_
  refine xr_bipush (v := 6) C dX6_begin_24 (by decide) ?_
  refine xr_copyT C cpX6_29 0 (by decide) rfl (by decide) rfl t20 (Nat.le_of_ble_eq_true rfl) (Nat.le_of_ble_eq_true rfl) dX6_begin_26 (fun h26 e26 => ?_)
  have hF := fx_letE hF h26 e26
  refine xr_getsN C 1 (by decide) gsX6_38 dX6_begin_29 ?_
  refine xr_iconst (v := 0) C dX6_begin_32 (by decide) ?_
  refine xr_aload_n C 0 dX6_begin_33 rfl rfl ?_
  refine xr_getr C flX6_21 rfl (by decide) dX6_begin_34 ta0 (fun t34 => ?_)
  refine xr_iconst (v := 0) C dX6_begin_37 (by decide) ?_
  refine xr_bipush (v := 6) C dX6_begin_38 (by decide) ?_
  refine xr_copyT C cpX6_29 1 (by decide) rfl (by decide) rfl t34 (Nat.le_of_ble_eq_true rfl) (Nat.le_of_ble_eq_true rfl) dX6_begin_40 (fun h40 e40 => ?_)
  have hF := fx_letE hF h40 e40
  refine xr_aload_n C 0 dX6_begin_43 rfl rfl ?_
  refine xr_getr C flX6_15 rfl (by decide) dX6_begin_44 ta0 (fun t44 => ?_)
  refine xr_iconst (v := -1) C dX6_begin_47 (by decide) ?_
  obtain ⟨h48, e48, hF⟩ := fx_b1E hF
  refine xr_callSv C mvX6_41 [.ref (G.2.2.1 (h40.2.2 a0 1)), .int (-1 : Int32)] [] (mJ7_fill_53178_12 l G (h40.2.2 a0 1) (-1 : Int32) t44 h40 h48 e48) rfl ⟨rfl, rfl, (Nat.le_of_ble_eq_true rfl), (Nat.le_of_ble_eq_true rfl)⟩ rfl (Nat.le_of_ble_eq_true rfl) dX6_begin_48 ?_
  refine xr_aload_n C 0 dX6_begin_51 rfl rfl ?_
  refine xr_iconst (v := 0) C dX6_begin_52 (by decide) ?_
  refine xr_puti C fpX6_47 rfl rfl rfl dX6_begin_53 ta0 (fun h53 e53 => ?_)
  have hF := fx_letE hF h53 e53
  refine xr_aload_n C 0 dX6_begin_56 rfl rfl ?_
  refine xr_iconst (v := 0) C dX6_begin_57 (by decide) ?_
  refine xr_puti C fpX6_51 rfl rfl rfl dX6_begin_58 ta0 (fun h58 e58 => ?_)
  have hF := fx_letE hF h58 e58
  refine xr_aload_n C 0 dX6_begin_61 rfl rfl ?_
  refine xr_iload_n C 2 dX6_begin_62 rfl rfl ?_
  refine xr_puti C fpX6_55 rfl rfl rfl dX6_begin_63 ta0 (fun h63 e63 => ?_)
  have hF := fx_letE hF h63 e63
  refine xr_aload_n C 0 dX6_begin_66 rfl rfl ?_
  refine xr_iconst (v := 0) C dX6_begin_67 (by decide) ?_
  refine xr_puti C fpX6_58 rfl rfl rfl dX6_begin_68 ta0 (fun h68 e68 => ?_)
  have hF := fx_letE hF h68 e68
  refine xr_aload_n C 0 dX6_begin_71 rfl rfl ?_
  refine xr_iconst (v := 0) C dX6_begin_72 (by decide) ?_
  refine xr_puti C fpX6_61 rfl rfl rfl dX6_begin_73 ta0 (fun h73 e73 => ?_)
  have hF := fx_letE hF h73 e73
  cases hF
  exact xr_vret C dX6_begin_76
theorem dX1_begin_0 : decode cX1_begin 0 = .ok (.aload_n 0, 1) := by decide +kernel
theorem dX1_begin_1 : decode cX1_begin 1 = .ok (.getfield 10, 3) := by decide +kernel
theorem dX1_begin_4 : decode cX1_begin 4 = .ok (.aload_n 1, 1) := by decide +kernel
theorem dX1_begin_5 : decode cX1_begin 5 = .ok (.getfield 19, 3) := by decide +kernel
theorem dX1_begin_8 : decode cX1_begin 8 = .ok (.aload_n 1, 1) := by decide +kernel
theorem dX1_begin_9 : decode cX1_begin 9 = .ok (.getfield 24, 3) := by decide +kernel
theorem dX1_begin_12 : decode cX1_begin 12 = .ok (.invokevirtual 28, 3) := by decide +kernel
theorem dX1_begin_15 : decode cX1_begin 15 = .ok (.aload_n 0, 1) := by decide +kernel
theorem dX1_begin_16 : decode cX1_begin 16 = .ok (.getfield 16, 3) := by decide +kernel
theorem dX1_begin_19 : decode cX1_begin 19 = .ok (.aload_n 1, 1) := by decide +kernel
theorem dX1_begin_20 : decode cX1_begin 20 = .ok (.getfield 32, 3) := by decide +kernel
theorem dX1_begin_23 : decode cX1_begin 23 = .ok (.aload_n 1, 1) := by decide +kernel
theorem dX1_begin_24 : decode cX1_begin 24 = .ok (.getfield 24, 3) := by decide +kernel
theorem dX1_begin_27 : decode cX1_begin 27 = .ok (.invokevirtual 28, 3) := by decide +kernel
theorem dX1_begin_30 : decode cX1_begin 30 = .ok (.aload_n 0, 1) := by decide +kernel
theorem dX1_begin_31 : decode cX1_begin 31 = .ok (.aload_n 1, 1) := by decide +kernel
theorem dX1_begin_32 : decode cX1_begin 32 = .ok (.getfield 34, 3) := by decide +kernel
theorem dX1_begin_35 : decode cX1_begin 35 = .ok (.putfield 37, 3) := by decide +kernel
theorem dX1_begin_38 : decode cX1_begin 38 = .ok (.aload_n 0, 1) := by decide +kernel
theorem dX1_begin_39 : decode cX1_begin 39 = .ok (.iconst 0, 1) := by decide +kernel
theorem dX1_begin_40 : decode cX1_begin 40 = .ok (.putfield 40, 3) := by decide +kernel
theorem dX1_begin_43 : decode cX1_begin 43 = .ok (.return_, 1) := by decide +kernel
def fX1_begin (a0 : Nat) (a1 : Nat) (h : hp_T) : Option hp_T := fx_b1 (fX6_begin (h.2.2 a0 0) (h.2.2 a1 0) (h.1 a1 3) h) fun (h12 : hp_T) => fx_b1 (fX6_begin (h12.2.2 a0 1) (h12.2.2 a1 1) (h12.1 a1 3) h12) fun (h27 : hp_T) => fx_let (hp_sI h27 a0 2 (h27.1 a1 5)) fun (h35 : hp_T) => fx_let (hp_sI h35 a0 3 (0 : Int32)) fun (h40 : hp_T) => some h40
set_option maxRecDepth 100000 in
set_option maxHeartbeats 4000000 in
theorem mX1_begin (l : Launch) (G : xr_G) (a0 : Nat) (a1 : Nat) (ta0 : hp_sh a0 = (1, 0)) (ta1 : hp_sh a1 = (8, 0)) (h h1 : hp_T) (hF : fX1_begin a0 a1 h = some h1) : xr_M l G yX1_begin cX1_begin 2 (xr_R 2 82) none [.ref (G.2.2.1 a0), .ref (G.2.2.1 a1)] h (xr_Qv G h1) := by
  refine xr_start rfl (Nat.le_of_ble_eq_true rfl) (fun K C => ?_)
  show xr_j l G K 2 h [(0, .ref (G.2.2.1 a0)), (1, .ref (G.2.2.1 a1))] 0 []
  unfold fX1_begin at hF
  refine xr_aload_n C 0 dX1_begin_0 rfl rfl ?_
  refine xr_getr C flX1_10 rfl (by decide) dX1_begin_1 ta0 (fun t1 => ?_)
  refine xr_aload_n C 1 dX1_begin_4 rfl rfl ?_
  refine xr_getr C flX1_19 rfl (by decide) dX1_begin_5 ta1 (fun t5 => ?_)
  refine xr_aload_n C 1 dX1_begin_8 rfl rfl ?_
  refine xr_geti C flX1_24 rfl dX1_begin_9 ta1 ?_
  obtain ⟨h12, e12, hF⟩ := fx_b1E hF
  refine xr_callVv C mvX1_28 [.ref (G.2.2.1 (h.2.2 a1 0)), .int (h.1 a1 3)] [] (mX6_begin l G (h.2.2 a0 0) (h.2.2 a1 0) (h.1 a1 3) t1 t5 h h12 e12) t1 (by decide) vc6 rfl ⟨rfl, rfl, (Nat.le_of_ble_eq_true rfl), (Nat.le_of_ble_eq_true rfl)⟩ rfl (Nat.le_of_ble_eq_true rfl) dX1_begin_12 ?_
  refine xr_aload_n C 0 dX1_begin_15 rfl rfl ?_
  refine xr_getr C flX1_16 rfl (by decide) dX1_begin_16 ta0 (fun t16 => ?_)
  refine xr_aload_n C 1 dX1_begin_19 rfl rfl ?_
  refine xr_getr C flX1_32 rfl (by decide) dX1_begin_20 ta1 (fun t20 => ?_)
  refine xr_aload_n C 1 dX1_begin_23 rfl rfl ?_
  refine xr_geti C flX1_24 rfl dX1_begin_24 ta1 ?_
  obtain ⟨h27, e27, hF⟩ := fx_b1E hF
  refine xr_callVv C mvX1_28 [.ref (G.2.2.1 (h12.2.2 a1 1)), .int (h12.1 a1 3)] [] (mX6_begin l G (h12.2.2 a0 1) (h12.2.2 a1 1) (h12.1 a1 3) t16 t20 h12 h27 e27) t16 (by decide) vc6 rfl ⟨rfl, rfl, (Nat.le_of_ble_eq_true rfl), (Nat.le_of_ble_eq_true rfl)⟩ rfl (Nat.le_of_ble_eq_true rfl) dX1_begin_27 ?_
  refine xr_aload_n C 0 dX1_begin_30 rfl rfl ?_
  refine xr_aload_n C 1 dX1_begin_31 rfl rfl ?_
  refine xr_geti C flX1_34 rfl dX1_begin_32 ta1 ?_
  refine xr_puti C fpX1_37 rfl rfl rfl dX1_begin_35 ta0 (fun h35 e35 => ?_)
  have hF := fx_letE hF h35 e35
  refine xr_aload_n C 0 dX1_begin_38 rfl rfl ?_
  refine xr_iconst (v := 0) C dX1_begin_39 (by decide) ?_
  refine xr_puti C fpX1_40 rfl rfl rfl dX1_begin_40 ta0 (fun h40 e40 => ?_)
  have hF := fx_letE hF h40 e40
  cases hF
  exact xr_vret C dX1_begin_43
theorem dX6_copyFrom_0 : decode cX6_copyFrom 0 = .ok (.aload_n 1, 1) := by decide +kernel
theorem dX6_copyFrom_1 : decode cX6_copyFrom 1 = .ok (.getfield 9, 3) := by decide +kernel
theorem dX6_copyFrom_4 : decode cX6_copyFrom 4 = .ok (.iconst 0, 1) := by decide +kernel
theorem dX6_copyFrom_5 : decode cX6_copyFrom 5 = .ok (.aload_n 0, 1) := by decide +kernel
theorem dX6_copyFrom_6 : decode cX6_copyFrom 6 = .ok (.getfield 9, 3) := by decide +kernel
theorem dX6_copyFrom_9 : decode cX6_copyFrom 9 = .ok (.iconst 0, 1) := by decide +kernel
theorem dX6_copyFrom_10 : decode cX6_copyFrom 10 = .ok (.bipush 6, 2) := by decide +kernel
theorem dX6_copyFrom_12 : decode cX6_copyFrom 12 = .ok (.invokestatic 29, 3) := by decide +kernel
theorem dX6_copyFrom_15 : decode cX6_copyFrom 15 = .ok (.aload_n 1, 1) := by decide +kernel
theorem dX6_copyFrom_16 : decode cX6_copyFrom 16 = .ok (.getfield 15, 3) := by decide +kernel
theorem dX6_copyFrom_19 : decode cX6_copyFrom 19 = .ok (.iconst 0, 1) := by decide +kernel
theorem dX6_copyFrom_20 : decode cX6_copyFrom 20 = .ok (.aload_n 0, 1) := by decide +kernel
theorem dX6_copyFrom_21 : decode cX6_copyFrom 21 = .ok (.getfield 15, 3) := by decide +kernel
theorem dX6_copyFrom_24 : decode cX6_copyFrom 24 = .ok (.iconst 0, 1) := by decide +kernel
theorem dX6_copyFrom_25 : decode cX6_copyFrom 25 = .ok (.bipush 12, 2) := by decide +kernel
theorem dX6_copyFrom_27 : decode cX6_copyFrom 27 = .ok (.invokestatic 29, 3) := by decide +kernel
theorem dX6_copyFrom_30 : decode cX6_copyFrom 30 = .ok (.aload_n 1, 1) := by decide +kernel
theorem dX6_copyFrom_31 : decode cX6_copyFrom 31 = .ok (.getfield 18, 3) := by decide +kernel
theorem dX6_copyFrom_34 : decode cX6_copyFrom 34 = .ok (.iconst 0, 1) := by decide +kernel
theorem dX6_copyFrom_35 : decode cX6_copyFrom 35 = .ok (.aload_n 0, 1) := by decide +kernel
theorem dX6_copyFrom_36 : decode cX6_copyFrom 36 = .ok (.getfield 18, 3) := by decide +kernel
theorem dX6_copyFrom_39 : decode cX6_copyFrom 39 = .ok (.iconst 0, 1) := by decide +kernel
theorem dX6_copyFrom_40 : decode cX6_copyFrom 40 = .ok (.bipush 6, 2) := by decide +kernel
theorem dX6_copyFrom_42 : decode cX6_copyFrom 42 = .ok (.invokestatic 29, 3) := by decide +kernel
theorem dX6_copyFrom_45 : decode cX6_copyFrom 45 = .ok (.aload_n 1, 1) := by decide +kernel
theorem dX6_copyFrom_46 : decode cX6_copyFrom 46 = .ok (.getfield 21, 3) := by decide +kernel
theorem dX6_copyFrom_49 : decode cX6_copyFrom 49 = .ok (.iconst 0, 1) := by decide +kernel
theorem dX6_copyFrom_50 : decode cX6_copyFrom 50 = .ok (.aload_n 0, 1) := by decide +kernel
theorem dX6_copyFrom_51 : decode cX6_copyFrom 51 = .ok (.getfield 21, 3) := by decide +kernel
theorem dX6_copyFrom_54 : decode cX6_copyFrom 54 = .ok (.iconst 0, 1) := by decide +kernel
theorem dX6_copyFrom_55 : decode cX6_copyFrom 55 = .ok (.bipush 6, 2) := by decide +kernel
theorem dX6_copyFrom_57 : decode cX6_copyFrom 57 = .ok (.invokestatic 29, 3) := by decide +kernel
theorem dX6_copyFrom_60 : decode cX6_copyFrom 60 = .ok (.aload_n 0, 1) := by decide +kernel
theorem dX6_copyFrom_61 : decode cX6_copyFrom 61 = .ok (.aload_n 1, 1) := by decide +kernel
theorem dX6_copyFrom_62 : decode cX6_copyFrom 62 = .ok (.getfield 47, 3) := by decide +kernel
theorem dX6_copyFrom_65 : decode cX6_copyFrom 65 = .ok (.putfield 47, 3) := by decide +kernel
theorem dX6_copyFrom_68 : decode cX6_copyFrom 68 = .ok (.aload_n 0, 1) := by decide +kernel
theorem dX6_copyFrom_69 : decode cX6_copyFrom 69 = .ok (.aload_n 1, 1) := by decide +kernel
theorem dX6_copyFrom_70 : decode cX6_copyFrom 70 = .ok (.getfield 51, 3) := by decide +kernel
theorem dX6_copyFrom_73 : decode cX6_copyFrom 73 = .ok (.putfield 51, 3) := by decide +kernel
theorem dX6_copyFrom_76 : decode cX6_copyFrom 76 = .ok (.aload_n 0, 1) := by decide +kernel
theorem dX6_copyFrom_77 : decode cX6_copyFrom 77 = .ok (.aload_n 1, 1) := by decide +kernel
theorem dX6_copyFrom_78 : decode cX6_copyFrom 78 = .ok (.getfield 55, 3) := by decide +kernel
theorem dX6_copyFrom_81 : decode cX6_copyFrom 81 = .ok (.putfield 55, 3) := by decide +kernel
theorem dX6_copyFrom_84 : decode cX6_copyFrom 84 = .ok (.aload_n 0, 1) := by decide +kernel
theorem dX6_copyFrom_85 : decode cX6_copyFrom 85 = .ok (.aload_n 1, 1) := by decide +kernel
theorem dX6_copyFrom_86 : decode cX6_copyFrom 86 = .ok (.getfield 58, 3) := by decide +kernel
theorem dX6_copyFrom_89 : decode cX6_copyFrom 89 = .ok (.putfield 58, 3) := by decide +kernel
theorem dX6_copyFrom_92 : decode cX6_copyFrom 92 = .ok (.aload_n 0, 1) := by decide +kernel
theorem dX6_copyFrom_93 : decode cX6_copyFrom 93 = .ok (.aload_n 1, 1) := by decide +kernel
theorem dX6_copyFrom_94 : decode cX6_copyFrom 94 = .ok (.getfield 61, 3) := by decide +kernel
theorem dX6_copyFrom_97 : decode cX6_copyFrom 97 = .ok (.putfield 61, 3) := by decide +kernel
theorem dX6_copyFrom_100 : decode cX6_copyFrom 100 = .ok (.return_, 1) := by decide +kernel
def fX6_copyFrom (a0 : Nat) (a1 : Nat) (h : hp_T) : Option hp_T := fx_let (hp_wI h (h.2.2 a0 0) (h.1 (h.2.2 a1 0))) fun (h12 : hp_T) => fx_let (hp_wI h12 (h12.2.2 a0 1) (h12.1 (h12.2.2 a1 1))) fun (h27 : hp_T) => fx_let (hp_wI h27 (h27.2.2 a0 2) (h27.1 (h27.2.2 a1 2))) fun (h42 : hp_T) => fx_let (hp_wI h42 (h42.2.2 a0 3) (h42.1 (h42.2.2 a1 3))) fun (h57 : hp_T) => fx_let (hp_sI h57 a0 4 (h57.1 a1 4)) fun (h65 : hp_T) => fx_g ((h65.1 a1 5) = 0 ∨ (h65.1 a1 5) = 1) (fx_let (hp_sI h65 a0 5 (h65.1 a1 5)) fun (h73 : hp_T) => fx_let (hp_sI h73 a0 6 (h73.1 a1 6)) fun (h81 : hp_T) => fx_let (hp_sI h81 a0 7 (h81.1 a1 7)) fun (h89 : hp_T) => fx_let (hp_sI h89 a0 8 (h89.1 a1 8)) fun (h97 : hp_T) => some h97)
set_option maxRecDepth 100000 in
set_option maxHeartbeats 4000000 in
theorem mX6_copyFrom (l : Launch) (G : xr_G) (a0 : Nat) (a1 : Nat) (ta0 : hp_sh a0 = (6, 0)) (ta1 : hp_sh a1 = (6, 0)) (h h1 : hp_T) (hF : fX6_copyFrom a0 a1 h = some h1) : xr_M l G yX6_copyFrom cX6_copyFrom 2 (xr_R 1 60) none [.ref (G.2.2.1 a0), .ref (G.2.2.1 a1)] h (xr_Qv G h1) := by
  refine xr_start rfl (Nat.le_of_ble_eq_true rfl) (fun K C => ?_)
  show xr_j l G K 2 h [(0, .ref (G.2.2.1 a0)), (1, .ref (G.2.2.1 a1))] 0 []
  unfold fX6_copyFrom at hF
  refine xr_aload_n C 1 dX6_copyFrom_0 rfl rfl ?_
  refine xr_getr C flX6_9 rfl (by decide) dX6_copyFrom_1 ta1 (fun t1 => ?_)
  refine xr_iconst (v := 0) C dX6_copyFrom_4 (by decide) ?_
  refine xr_aload_n C 0 dX6_copyFrom_5 rfl rfl ?_
  refine xr_getr C flX6_9 rfl (by decide) dX6_copyFrom_6 ta0 (fun t6 => ?_)
  refine xr_iconst (v := 0) C dX6_copyFrom_9 (by decide) ?_
  refine xr_bipush (v := 6) C dX6_copyFrom_10 (by decide) ?_
  refine xr_copy C cpX6_29 rfl (by decide) t1 t6 (Nat.le_of_ble_eq_true rfl) (Nat.le_of_ble_eq_true rfl) dX6_copyFrom_12 (fun h12 e12 => ?_)
  have hF := fx_letE hF h12 e12
  refine xr_aload_n C 1 dX6_copyFrom_15 rfl rfl ?_
  refine xr_getr C flX6_15 rfl (by decide) dX6_copyFrom_16 ta1 (fun t16 => ?_)
  refine xr_iconst (v := 0) C dX6_copyFrom_19 (by decide) ?_
  refine xr_aload_n C 0 dX6_copyFrom_20 rfl rfl ?_
  refine xr_getr C flX6_15 rfl (by decide) dX6_copyFrom_21 ta0 (fun t21 => ?_)
  refine xr_iconst (v := 0) C dX6_copyFrom_24 (by decide) ?_
  refine xr_bipush (v := 12) C dX6_copyFrom_25 (by decide) ?_
  refine xr_copy C cpX6_29 rfl (by decide) t16 t21 (Nat.le_of_ble_eq_true rfl) (Nat.le_of_ble_eq_true rfl) dX6_copyFrom_27 (fun h27 e27 => ?_)
  have hF := fx_letE hF h27 e27
  refine xr_aload_n C 1 dX6_copyFrom_30 rfl rfl ?_
  refine xr_getr C flX6_18 rfl (by decide) dX6_copyFrom_31 ta1 (fun t31 => ?_)
  refine xr_iconst (v := 0) C dX6_copyFrom_34 (by decide) ?_
  refine xr_aload_n C 0 dX6_copyFrom_35 rfl rfl ?_
  refine xr_getr C flX6_18 rfl (by decide) dX6_copyFrom_36 ta0 (fun t36 => ?_)
  refine xr_iconst (v := 0) C dX6_copyFrom_39 (by decide) ?_
  refine xr_bipush (v := 6) C dX6_copyFrom_40 (by decide) ?_
  refine xr_copy C cpX6_29 rfl (by decide) t31 t36 (Nat.le_of_ble_eq_true rfl) (Nat.le_of_ble_eq_true rfl) dX6_copyFrom_42 (fun h42 e42 => ?_)
  have hF := fx_letE hF h42 e42
  refine xr_aload_n C 1 dX6_copyFrom_45 rfl rfl ?_
  refine xr_getr C flX6_21 rfl (by decide) dX6_copyFrom_46 ta1 (fun t46 => ?_)
  refine xr_iconst (v := 0) C dX6_copyFrom_49 (by decide) ?_
  refine xr_aload_n C 0 dX6_copyFrom_50 rfl rfl ?_
  refine xr_getr C flX6_21 rfl (by decide) dX6_copyFrom_51 ta0 (fun t51 => ?_)
  refine xr_iconst (v := 0) C dX6_copyFrom_54 (by decide) ?_
  refine xr_bipush (v := 6) C dX6_copyFrom_55 (by decide) ?_
  refine xr_copy C cpX6_29 rfl (by decide) t46 t51 (Nat.le_of_ble_eq_true rfl) (Nat.le_of_ble_eq_true rfl) dX6_copyFrom_57 (fun h57 e57 => ?_)
  have hF := fx_letE hF h57 e57
  refine xr_aload_n C 0 dX6_copyFrom_60 rfl rfl ?_
  refine xr_aload_n C 1 dX6_copyFrom_61 rfl rfl ?_
  refine xr_geti C flX6_47 rfl dX6_copyFrom_62 ta1 ?_
  refine xr_puti C fpX6_47 rfl rfl rfl dX6_copyFrom_65 ta0 (fun h65 e65 => ?_)
  have hF := fx_letE hF h65 e65
  refine xr_aload_n C 0 dX6_copyFrom_68 rfl rfl ?_
  refine xr_aload_n C 1 dX6_copyFrom_69 rfl rfl ?_
  refine xr_geti C flX6_51 rfl dX6_copyFrom_70 ta1 ?_
  obtain ⟨g73, hF⟩ := fx_gE hF
  refine xr_puti C fpX6_51 rfl (fx_z1 g73) (fx_z2 g73) dX6_copyFrom_73 ta0 (fun h73 e73 => ?_)
  have hF := fx_letE hF h73 e73
  refine xr_aload_n C 0 dX6_copyFrom_76 rfl rfl ?_
  refine xr_aload_n C 1 dX6_copyFrom_77 rfl rfl ?_
  refine xr_geti C flX6_55 rfl dX6_copyFrom_78 ta1 ?_
  refine xr_puti C fpX6_55 rfl rfl rfl dX6_copyFrom_81 ta0 (fun h81 e81 => ?_)
  have hF := fx_letE hF h81 e81
  refine xr_aload_n C 0 dX6_copyFrom_84 rfl rfl ?_
  refine xr_aload_n C 1 dX6_copyFrom_85 rfl rfl ?_
  refine xr_geti C flX6_58 rfl dX6_copyFrom_86 ta1 ?_
  refine xr_puti C fpX6_58 rfl rfl rfl dX6_copyFrom_89 ta0 (fun h89 e89 => ?_)
  have hF := fx_letE hF h89 e89
  refine xr_aload_n C 0 dX6_copyFrom_92 rfl rfl ?_
  refine xr_aload_n C 1 dX6_copyFrom_93 rfl rfl ?_
  refine xr_geti C flX6_61 rfl dX6_copyFrom_94 ta1 ?_
  refine xr_puti C fpX6_61 rfl rfl rfl dX6_copyFrom_97 ta0 (fun h97 e97 => ?_)
  have hF := fx_letE hF h97 e97
  cases hF
  exact xr_vret C dX6_copyFrom_100
theorem dX1_copyFrom_0 : decode cX1_copyFrom 0 = .ok (.aload_n 0, 1) := by decide +kernel
theorem dX1_copyFrom_1 : decode cX1_copyFrom 1 = .ok (.getfield 10, 3) := by decide +kernel
theorem dX1_copyFrom_4 : decode cX1_copyFrom 4 = .ok (.aload_n 1, 1) := by decide +kernel
theorem dX1_copyFrom_5 : decode cX1_copyFrom 5 = .ok (.getfield 10, 3) := by decide +kernel
theorem dX1_copyFrom_8 : decode cX1_copyFrom 8 = .ok (.invokevirtual 43, 3) := by decide +kernel
theorem dX1_copyFrom_11 : decode cX1_copyFrom 11 = .ok (.aload_n 0, 1) := by decide +kernel
theorem dX1_copyFrom_12 : decode cX1_copyFrom 12 = .ok (.getfield 16, 3) := by decide +kernel
theorem dX1_copyFrom_15 : decode cX1_copyFrom 15 = .ok (.aload_n 1, 1) := by decide +kernel
theorem dX1_copyFrom_16 : decode cX1_copyFrom 16 = .ok (.getfield 16, 3) := by decide +kernel
theorem dX1_copyFrom_19 : decode cX1_copyFrom 19 = .ok (.invokevirtual 43, 3) := by decide +kernel
theorem dX1_copyFrom_22 : decode cX1_copyFrom 22 = .ok (.aload_n 0, 1) := by decide +kernel
theorem dX1_copyFrom_23 : decode cX1_copyFrom 23 = .ok (.aload_n 1, 1) := by decide +kernel
theorem dX1_copyFrom_24 : decode cX1_copyFrom 24 = .ok (.getfield 37, 3) := by decide +kernel
theorem dX1_copyFrom_27 : decode cX1_copyFrom 27 = .ok (.putfield 37, 3) := by decide +kernel
theorem dX1_copyFrom_30 : decode cX1_copyFrom 30 = .ok (.aload_n 0, 1) := by decide +kernel
theorem dX1_copyFrom_31 : decode cX1_copyFrom 31 = .ok (.aload_n 1, 1) := by decide +kernel
theorem dX1_copyFrom_32 : decode cX1_copyFrom 32 = .ok (.getfield 40, 3) := by decide +kernel
theorem dX1_copyFrom_35 : decode cX1_copyFrom 35 = .ok (.putfield 40, 3) := by decide +kernel
theorem dX1_copyFrom_38 : decode cX1_copyFrom 38 = .ok (.return_, 1) := by decide +kernel
def fX1_copyFrom (a0 : Nat) (a1 : Nat) (h : hp_T) : Option hp_T := fx_b1 (fX6_copyFrom (h.2.2 a0 0) (h.2.2 a1 0) h) fun (h8 : hp_T) => fx_b1 (fX6_copyFrom (h8.2.2 a0 1) (h8.2.2 a1 1) h8) fun (h19 : hp_T) => fx_let (hp_sI h19 a0 2 (h19.1 a1 2)) fun (h27 : hp_T) => fx_let (hp_sI h27 a0 3 (h27.1 a1 3)) fun (h35 : hp_T) => some h35
set_option maxRecDepth 100000 in
set_option maxHeartbeats 4000000 in
theorem mX1_copyFrom (l : Launch) (G : xr_G) (a0 : Nat) (a1 : Nat) (ta0 : hp_sh a0 = (1, 0)) (ta1 : hp_sh a1 = (1, 0)) (h h1 : hp_T) (hF : fX1_copyFrom a0 a1 h = some h1) : xr_M l G yX1_copyFrom cX1_copyFrom 2 (xr_R 2 81) none [.ref (G.2.2.1 a0), .ref (G.2.2.1 a1)] h (xr_Qv G h1) := by
  refine xr_start rfl (Nat.le_of_ble_eq_true rfl) (fun K C => ?_)
  show xr_j l G K 2 h [(0, .ref (G.2.2.1 a0)), (1, .ref (G.2.2.1 a1))] 0 []
  unfold fX1_copyFrom at hF
  refine xr_aload_n C 0 dX1_copyFrom_0 rfl rfl ?_
  refine xr_getr C flX1_10 rfl (by decide) dX1_copyFrom_1 ta0 (fun t1 => ?_)
  refine xr_aload_n C 1 dX1_copyFrom_4 rfl rfl ?_
  refine xr_getr C flX1_10 rfl (by decide) dX1_copyFrom_5 ta1 (fun t5 => ?_)
  obtain ⟨h8, e8, hF⟩ := fx_b1E hF
  refine xr_callVv C mvX1_43 [.ref (G.2.2.1 (h.2.2 a1 0))] [] (mX6_copyFrom l G (h.2.2 a0 0) (h.2.2 a1 0) t1 t5 h h8 e8) t1 (by decide) vc6 rfl ⟨rfl, rfl, (Nat.le_of_ble_eq_true rfl), (Nat.le_of_ble_eq_true rfl)⟩ rfl (Nat.le_of_ble_eq_true rfl) dX1_copyFrom_8 ?_
  refine xr_aload_n C 0 dX1_copyFrom_11 rfl rfl ?_
  refine xr_getr C flX1_16 rfl (by decide) dX1_copyFrom_12 ta0 (fun t12 => ?_)
  refine xr_aload_n C 1 dX1_copyFrom_15 rfl rfl ?_
  refine xr_getr C flX1_16 rfl (by decide) dX1_copyFrom_16 ta1 (fun t16 => ?_)
  obtain ⟨h19, e19, hF⟩ := fx_b1E hF
  refine xr_callVv C mvX1_43 [.ref (G.2.2.1 (h8.2.2 a1 1))] [] (mX6_copyFrom l G (h8.2.2 a0 1) (h8.2.2 a1 1) t12 t16 h8 h19 e19) t12 (by decide) vc6 rfl ⟨rfl, rfl, (Nat.le_of_ble_eq_true rfl), (Nat.le_of_ble_eq_true rfl)⟩ rfl (Nat.le_of_ble_eq_true rfl) dX1_copyFrom_19 ?_
  refine xr_aload_n C 0 dX1_copyFrom_22 rfl rfl ?_
  refine xr_aload_n C 1 dX1_copyFrom_23 rfl rfl ?_
  refine xr_geti C flX1_37 rfl dX1_copyFrom_24 ta1 ?_
  refine xr_puti C fpX1_37 rfl rfl rfl dX1_copyFrom_27 ta0 (fun h27 e27 => ?_)
  have hF := fx_letE hF h27 e27
  refine xr_aload_n C 0 dX1_copyFrom_30 rfl rfl ?_
  refine xr_aload_n C 1 dX1_copyFrom_31 rfl rfl ?_
  refine xr_geti C flX1_40 rfl dX1_copyFrom_32 ta1 ?_
  refine xr_puti C fpX1_40 rfl rfl rfl dX1_copyFrom_35 ta0 (fun h35 e35 => ?_)
  have hF := fx_letE hF h35 e35
  cases hF
  exact xr_vret C dX1_copyFrom_38
theorem dX9_spotBehind_0 : decode cX9_spotBehind 0 = .ok (.iload_n 0, 1) := by decide +kernel
theorem dX9_spotBehind_1 : decode cX9_spotBehind 1 = .ok (.iconst 1, 1) := by decide +kernel
theorem dX9_spotBehind_2 : decode cX9_spotBehind 2 = .ok (.isub, 1) := by decide +kernel
theorem dX9_spotBehind_3 : decode cX9_spotBehind 3 = .ok (.iload_n 1, 1) := by decide +kernel
theorem dX9_spotBehind_4 : decode cX9_spotBehind 4 = .ok (.isub, 1) := by decide +kernel
theorem dX9_spotBehind_5 : decode cX9_spotBehind 5 = .ok (.bipush 6, 2) := by decide +kernel
theorem dX9_spotBehind_7 : decode cX9_spotBehind 7 = .ok (.iadd, 1) := by decide +kernel
theorem dX9_spotBehind_8 : decode cX9_spotBehind 8 = .ok (.bipush 6, 2) := by decide +kernel
theorem dX9_spotBehind_10 : decode cX9_spotBehind 10 = .ok (.irem, 1) := by decide +kernel
theorem dX9_spotBehind_11 : decode cX9_spotBehind 11 = .ok (.iconst 1, 1) := by decide +kernel
theorem dX9_spotBehind_12 : decode cX9_spotBehind 12 = .ok (.iadd, 1) := by decide +kernel
theorem dX9_spotBehind_13 : decode cX9_spotBehind 13 = .ok (.ireturn, 1) := by decide +kernel
def fX9_spotBehind (a0 : Int32) (a1 : Int32) (h : hp_T) : Option (Int32 × hp_T) := some (((fx_rem (((a0 - (1 : Int32)) - a1) + (6 : Int32)) (6 : Int32)) + (1 : Int32)), h)
set_option maxRecDepth 100000 in
set_option maxHeartbeats 4000000 in
theorem mX9_spotBehind (l : Launch) (G : xr_G) (a0 : Int32) (a1 : Int32)  (h h1 : hp_T) (r : Int32) (hF : fX9_spotBehind a0 a1 h = some (r, h1)) : xr_M l G yX9_spotBehind cX9_spotBehind 2 (xr_R 0 0) (some .int) [.int a0, .int a1] h (xr_Qi G r h1) := by
  refine xr_start rfl (Nat.le_of_ble_eq_true rfl) (fun K C => ?_)
  show xr_j l G K 2 h [(0, .int a0), (1, .int a1)] 0 []
  unfold fX9_spotBehind at hF
  refine xr_iload_n C 0 dX9_spotBehind_0 rfl rfl ?_
  refine xr_iconst (v := 1) C dX9_spotBehind_1 (by decide) ?_
  refine xr_isub C dX9_spotBehind_2 ?_
  refine xr_iload_n C 1 dX9_spotBehind_3 rfl rfl ?_
  refine xr_isub C dX9_spotBehind_4 ?_
  refine xr_bipush (v := 6) C dX9_spotBehind_5 (by decide) ?_
  refine xr_iadd C dX9_spotBehind_7 ?_
  refine xr_bipush (v := 6) C dX9_spotBehind_8 (by decide) ?_
  refine xr_irem C dX9_spotBehind_10 (by decide) ?_
  refine xr_iconst (v := 1) C dX9_spotBehind_11 (by decide) ?_
  refine xr_iadd C dX9_spotBehind_12 ?_
  cases hF
  exact xr_iret C dX9_spotBehind_13
theorem dX6_turnFree_0 : decode cX6_turnFree 0 = .ok (.aload_n 0, 1) := by decide +kernel
theorem dX6_turnFree_1 : decode cX6_turnFree 1 = .ok (.getfield 47, 3) := by decide +kernel
theorem dX6_turnFree_4 : decode cX6_turnFree 4 = .ok (.iconst 5, 1) := by decide +kernel
theorem dX6_turnFree_5 : decode cX6_turnFree 5 = .ok (.if_icmp .ne 16, 3) := by decide +kernel
theorem dX6_turnFree_8 : decode cX6_turnFree 8 = .ok (.aload_n 0, 1) := by decide +kernel
theorem dX6_turnFree_9 : decode cX6_turnFree 9 = .ok (.iconst 0, 1) := by decide +kernel
theorem dX6_turnFree_10 : decode cX6_turnFree 10 = .ok (.putfield 47, 3) := by decide +kernel
theorem dX6_turnFree_13 : decode cX6_turnFree 13 = .ok (.aload_n 0, 1) := by decide +kernel
theorem dX6_turnFree_14 : decode cX6_turnFree 14 = .ok (.iconst 1, 1) := by decide +kernel
theorem dX6_turnFree_15 : decode cX6_turnFree 15 = .ok (.putfield 51, 3) := by decide +kernel
theorem dX6_turnFree_18 : decode cX6_turnFree 18 = .ok (.goto 22, 3) := by decide +kernel
theorem dX6_turnFree_21 : decode cX6_turnFree 21 = .ok (.aload_n 0, 1) := by decide +kernel
theorem dX6_turnFree_22 : decode cX6_turnFree 22 = .ok (.getfield 47, 3) := by decide +kernel
theorem dX6_turnFree_25 : decode cX6_turnFree 25 = .ok (.ifCond .eq 15, 3) := by decide +kernel
theorem dX6_turnFree_28 : decode cX6_turnFree 28 = .ok (.aload_n 0, 1) := by decide +kernel
theorem dX6_turnFree_29 : decode cX6_turnFree 29 = .ok (.aload_n 0, 1) := by decide +kernel
theorem dX6_turnFree_30 : decode cX6_turnFree 30 = .ok (.getfield 47, 3) := by decide +kernel
theorem dX6_turnFree_33 : decode cX6_turnFree 33 = .ok (.iconst 1, 1) := by decide +kernel
theorem dX6_turnFree_34 : decode cX6_turnFree 34 = .ok (.invokestatic 71, 3) := by decide +kernel
theorem dX6_turnFree_37 : decode cX6_turnFree 37 = .ok (.putfield 47, 3) := by decide +kernel
theorem dX6_turnFree_40 : decode cX6_turnFree 40 = .ok (.return_, 1) := by decide +kernel
def fX6_turnFree (a0 : Nat) (h : hp_T) : Option hp_T := if (h.1 a0 4) = (5 : Int32) then (fx_let (hp_sI h a0 4 (0 : Int32)) fun (h10 : hp_T) => fx_let (hp_sI h10 a0 5 (1 : Int32)) fun (h15 : hp_T) => some h15) else (if (h.1 a0 4) = 0 then (some h) else (fx_b2 (fX9_spotBehind (h.1 a0 4) (1 : Int32) h) fun (r34 : Int32) (h34 : hp_T) => fx_let (hp_sI h34 a0 4 r34) fun (h37 : hp_T) => some h37))
set_option maxRecDepth 100000 in
set_option maxHeartbeats 4000000 in
theorem mX6_turnFree (l : Launch) (G : xr_G) (a0 : Nat) (ta0 : hp_sh a0 = (6, 0)) (h h1 : hp_T) (hF : fX6_turnFree a0 h = some h1) : xr_M l G yX6_turnFree cX6_turnFree 1 (xr_R 1 21) none [.ref (G.2.2.1 a0)] h (xr_Qv G h1) := by
  refine xr_start rfl (Nat.le_of_ble_eq_true rfl) (fun K C => ?_)
  show xr_j l G K 1 h [(0, .ref (G.2.2.1 a0))] 0 []
  unfold fX6_turnFree at hF
  refine xr_aload_n C 0 dX6_turnFree_0 rfl rfl ?_
  refine xr_geti C flX6_47 rfl dX6_turnFree_1 ta0 ?_
  refine xr_iconst (v := 5) C dX6_turnFree_4 (by decide) ?_
  refine xr_icmp_ne C 21 dX6_turnFree_5 (by decide) (fun c5 => ?_) (fun c5 => ?_)
  · have hF := fx_neg hF c5
    refine xr_aload_n C 0 dX6_turnFree_21 rfl rfl ?_
    refine xr_geti C flX6_47 rfl dX6_turnFree_22 ta0 ?_
    refine xr_if_eq C 40 dX6_turnFree_25 (by decide) (fun c25 => ?_) (fun c25 => ?_)
    · have hF := fx_pos hF c25
      cases hF
      exact xr_vret C dX6_turnFree_40
    · have hF := fx_neg hF c25
      refine xr_aload_n C 0 dX6_turnFree_28 rfl rfl ?_
      refine xr_aload_n C 0 dX6_turnFree_29 rfl rfl ?_
      refine xr_geti C flX6_47 rfl dX6_turnFree_30 ta0 ?_
      refine xr_iconst (v := 1) C dX6_turnFree_33 (by decide) ?_
      obtain ⟨r34, h34, e34, hF⟩ := fx_b2E hF
      refine xr_callNi C mvX6_71 [.int (h.1 a0 4), .int (1 : Int32)] [.ref (G.2.2.1 a0)] (mX9_spotBehind l G (h.1 a0 4) (1 : Int32)  h h34 r34 e34) rfl ⟨rfl, rfl, (Nat.le_of_ble_eq_true rfl), (Nat.le_of_ble_eq_true rfl)⟩ rfl (Nat.le_of_ble_eq_true rfl) dX6_turnFree_34 ?_
      refine xr_puti C fpX6_47 rfl rfl rfl dX6_turnFree_37 ta0 (fun h37 e37 => ?_)
      have hF := fx_letE hF h37 e37
      cases hF
      exact xr_vret C dX6_turnFree_40
  · have hF := fx_pos hF c5
    refine xr_aload_n C 0 dX6_turnFree_8 rfl rfl ?_
    refine xr_iconst (v := 0) C dX6_turnFree_9 (by decide) ?_
    refine xr_puti C fpX6_47 rfl rfl rfl dX6_turnFree_10 ta0 (fun h10 e10 => ?_)
    have hF := fx_letE hF h10 e10
    refine xr_aload_n C 0 dX6_turnFree_13 rfl rfl ?_
    refine xr_iconst (v := 1) C dX6_turnFree_14 (by decide) ?_
    refine xr_puti C fpX6_51 rfl rfl rfl dX6_turnFree_15 ta0 (fun h15 e15 => ?_)
    have hF := fx_letE hF h15 e15
    refine xr_goto C 40 dX6_turnFree_18 (by decide) ?_
    cases hF
    exact xr_vret C dX6_turnFree_40
theorem dX6_turnOnce_0 : decode cX6_turnOnce 0 = .ok (.aload_n 0, 1) := by decide +kernel
theorem dX6_turnOnce_1 : decode cX6_turnOnce 1 = .ok (.getfield 9, 3) := by decide +kernel
theorem dX6_turnOnce_4 : decode cX6_turnOnce 4 = .ok (.iconst 0, 1) := by decide +kernel
theorem dX6_turnOnce_5 : decode cX6_turnOnce 5 = .ok (.iaload, 1) := by decide +kernel
theorem dX6_turnOnce_6 : decode cX6_turnOnce 6 = .ok (.istore_n 1, 1) := by decide +kernel
theorem dX6_turnOnce_7 : decode cX6_turnOnce 7 = .ok (.iconst 1, 1) := by decide +kernel
theorem dX6_turnOnce_8 : decode cX6_turnOnce 8 = .ok (.istore_n 2, 1) := by decide +kernel
theorem dX6_turnOnce_9 : decode cX6_turnOnce 9 = .ok (.iload_n 2, 1) := by decide +kernel
theorem dX6_turnOnce_10 : decode cX6_turnOnce 10 = .ok (.bipush 6, 2) := by decide +kernel
theorem dX6_turnOnce_12 : decode cX6_turnOnce 12 = .ok (.if_icmp .ge 23, 3) := by decide +kernel
theorem dX6_turnOnce_15 : decode cX6_turnOnce 15 = .ok (.aload_n 0, 1) := by decide +kernel
theorem dX6_turnOnce_16 : decode cX6_turnOnce 16 = .ok (.getfield 9, 3) := by decide +kernel
theorem dX6_turnOnce_19 : decode cX6_turnOnce 19 = .ok (.iload_n 2, 1) := by decide +kernel
theorem dX6_turnOnce_20 : decode cX6_turnOnce 20 = .ok (.iconst 1, 1) := by decide +kernel
theorem dX6_turnOnce_21 : decode cX6_turnOnce 21 = .ok (.isub, 1) := by decide +kernel
theorem dX6_turnOnce_22 : decode cX6_turnOnce 22 = .ok (.aload_n 0, 1) := by decide +kernel
theorem dX6_turnOnce_23 : decode cX6_turnOnce 23 = .ok (.getfield 9, 3) := by decide +kernel
theorem dX6_turnOnce_26 : decode cX6_turnOnce 26 = .ok (.iload_n 2, 1) := by decide +kernel
theorem dX6_turnOnce_27 : decode cX6_turnOnce 27 = .ok (.iaload, 1) := by decide +kernel
theorem dX6_turnOnce_28 : decode cX6_turnOnce 28 = .ok (.iastore, 1) := by decide +kernel
theorem dX6_turnOnce_29 : decode cX6_turnOnce 29 = .ok (.iinc 2 1, 3) := by decide +kernel
theorem dX6_turnOnce_32 : decode cX6_turnOnce 32 = .ok (.goto (-23), 3) := by decide +kernel
theorem dX6_turnOnce_35 : decode cX6_turnOnce 35 = .ok (.aload_n 0, 1) := by decide +kernel
theorem dX6_turnOnce_36 : decode cX6_turnOnce 36 = .ok (.getfield 9, 3) := by decide +kernel
theorem dX6_turnOnce_39 : decode cX6_turnOnce 39 = .ok (.iconst 5, 1) := by decide +kernel
theorem dX6_turnOnce_40 : decode cX6_turnOnce 40 = .ok (.iload_n 1, 1) := by decide +kernel
theorem dX6_turnOnce_41 : decode cX6_turnOnce 41 = .ok (.iastore, 1) := by decide +kernel
theorem dX6_turnOnce_42 : decode cX6_turnOnce 42 = .ok (.aload_n 0, 1) := by decide +kernel
theorem dX6_turnOnce_43 : decode cX6_turnOnce 43 = .ok (.aload_n 0, 1) := by decide +kernel
theorem dX6_turnOnce_44 : decode cX6_turnOnce 44 = .ok (.getfield 58, 3) := by decide +kernel
theorem dX6_turnOnce_47 : decode cX6_turnOnce 47 = .ok (.iconst 1, 1) := by decide +kernel
theorem dX6_turnOnce_48 : decode cX6_turnOnce 48 = .ok (.iadd, 1) := by decide +kernel
theorem dX6_turnOnce_49 : decode cX6_turnOnce 49 = .ok (.bipush 6, 2) := by decide +kernel
theorem dX6_turnOnce_51 : decode cX6_turnOnce 51 = .ok (.irem, 1) := by decide +kernel
theorem dX6_turnOnce_52 : decode cX6_turnOnce 52 = .ok (.putfield 58, 3) := by decide +kernel
theorem dX6_turnOnce_55 : decode cX6_turnOnce 55 = .ok (.aload_n 0, 1) := by decide +kernel
theorem dX6_turnOnce_56 : decode cX6_turnOnce 56 = .ok (.invokevirtual 68, 3) := by decide +kernel
theorem dX6_turnOnce_59 : decode cX6_turnOnce 59 = .ok (.return_, 1) := by decide +kernel
def fX6_turnOnce_9  : Nat → Nat → Int32 → Int32 → hp_T → Option hp_T
  | 0, _, _, _, _ => none
  | n + 1, a0, a1, a2, h => if (6 : Int32) ≤ a2 then (fx_let (hp_sI h (h.2.2 a0 0) (fx_ix (5 : Int32)) a1) fun (h41 : hp_T) => fx_let (hp_sI h41 a0 7 (fx_rem ((h41.1 a0 7) + (1 : Int32)) (6 : Int32))) fun (h52 : hp_T) => fx_b1 (fX6_turnFree a0 h52) fun (h56 : hp_T) => some h56) else (fx_g (fx_in a2 6) (fx_g (fx_in (a2 - (1 : Int32)) 6) (fx_let (hp_sI h (h.2.2 a0 0) (fx_ix (a2 - (1 : Int32))) (h.1 (h.2.2 a0 0) (fx_ix a2))) fun (h28 : hp_T) => fx_let (a2 + (1 : Int32)) fun (x29 : Int32) => fX6_turnOnce_9 n a0 a1 x29 h28)))
set_option maxRecDepth 100000 in
set_option maxHeartbeats 4000000 in
theorem bX6_turnOnce_9 {l : Launch} {G : xr_G} {K : xr_K} {h1 : hp_T} (C : xr_C G K cX6_turnOnce RX6 3 (xr_R 2 41) none (some (xr_Qv G h1)))  : ∀ (n : Nat) (a0 : Nat) (a1 : Int32) (a2 : Int32) (ta0 : hp_sh a0 = (6, 0)) (h : hp_T), fX6_turnOnce_9 n a0 a1 a2 h = some h1 → xr_j l G K 3 h [(0, .ref (G.2.2.1 a0)), (1, .int a1), (2, .int a2)] 9 [] := by
  intro n
  induction n with
  | zero =>
    intro a0 a1 a2 ta0 h hF
    cases hF
  | succ n ih =>
    intro a0 a1 a2 ta0 h hF
    rw [fX6_turnOnce_9] at hF
    refine xr_iload_n C 2 dX6_turnOnce_9 rfl rfl ?_
    refine xr_bipush (v := 6) C dX6_turnOnce_10 (by decide) ?_
    refine xr_icmp_ge C 35 dX6_turnOnce_12 (by decide) (fun c12 => ?_) (fun c12 => ?_)
    · have hF := fx_pos hF c12
      refine xr_aload_n C 0 dX6_turnOnce_35 rfl rfl ?_
      refine xr_getr C flX6_9 rfl (by decide) dX6_turnOnce_36 ta0 (fun t36 => ?_)
      refine xr_iconst (v := 5) C dX6_turnOnce_39 (by decide) ?_
      refine xr_iload_n C 1 dX6_turnOnce_40 rfl rfl ?_
      refine xr_iast C dX6_turnOnce_41 t36 (by decide) (fun h41 e41 => ?_)
      have hF := fx_letE hF h41 e41
      refine xr_aload_n C 0 dX6_turnOnce_42 rfl rfl ?_
      refine xr_aload_n C 0 dX6_turnOnce_43 rfl rfl ?_
      refine xr_geti C flX6_58 rfl dX6_turnOnce_44 ta0 ?_
      refine xr_iconst (v := 1) C dX6_turnOnce_47 (by decide) ?_
      refine xr_iadd C dX6_turnOnce_48 ?_
      refine xr_bipush (v := 6) C dX6_turnOnce_49 (by decide) ?_
      refine xr_irem C dX6_turnOnce_51 (by decide) ?_
      refine xr_puti C fpX6_58 rfl rfl rfl dX6_turnOnce_52 ta0 (fun h52 e52 => ?_)
      have hF := fx_letE hF h52 e52
      refine xr_aload_n C 0 dX6_turnOnce_55 rfl rfl ?_
      obtain ⟨h56, e56, hF⟩ := fx_b1E hF
      refine xr_callVv C mvX6_68 [] [] (mX6_turnFree l G a0 ta0 h52 h56 e56) ta0 (by decide) vc6 rfl ⟨rfl, rfl, (Nat.le_of_ble_eq_true rfl), (Nat.le_of_ble_eq_true rfl)⟩ rfl (Nat.le_of_ble_eq_true rfl) dX6_turnOnce_56 ?_
      cases hF
      exact xr_vret C dX6_turnOnce_59
    · have hF := fx_neg hF c12
      refine xr_aload_n C 0 dX6_turnOnce_15 rfl rfl ?_
      refine xr_getr C flX6_9 rfl (by decide) dX6_turnOnce_16 ta0 (fun t16 => ?_)
      refine xr_iload_n C 2 dX6_turnOnce_19 rfl rfl ?_
      refine xr_iconst (v := 1) C dX6_turnOnce_20 (by decide) ?_
      refine xr_isub C dX6_turnOnce_21 ?_
      refine xr_aload_n C 0 dX6_turnOnce_22 rfl rfl ?_
      refine xr_getr C flX6_9 rfl (by decide) dX6_turnOnce_23 ta0 (fun t23 => ?_)
      refine xr_iload_n C 2 dX6_turnOnce_26 rfl rfl ?_
      obtain ⟨g27, hF⟩ := fx_gE hF
      refine xr_iald C dX6_turnOnce_27 t23 g27 ?_
      obtain ⟨g28, hF⟩ := fx_gE hF
      refine xr_iast C dX6_turnOnce_28 t16 g28 (fun h28 e28 => ?_)
      have hF := fx_letE hF h28 e28
      obtain ⟨x29, e29⟩ : ∃ y : Int32, y = (a2 + (1 : Int32)) := ⟨_, rfl⟩
      have hF := fx_letE hF x29 e29
      refine xr_iinc C x29 2 [(2, .int x29), (0, .ref (G.2.2.1 a0)), (1, .int a1)] dX6_turnOnce_29 rfl (by rw [e29]; rfl) (Nat.le_of_ble_eq_true rfl) rfl ?_
      refine xr_goto C 9 dX6_turnOnce_32 (by decide) ?_
      refine xr_sub [1, 2, 0] [(0, .ref (G.2.2.1 a0)), (1, .int a1), (2, .int x29)] rfl ?_
      exact ih a0 a1 x29 ta0 h28 hF
def fX6_turnOnce (a0 : Nat) (h : hp_T) : Option hp_T := fx_let (h.1 (h.2.2 a0 0) (fx_ix (0 : Int32))) fun (x6 : Int32) => fX6_turnOnce_9 fx_N a0 x6 (1 : Int32) h
set_option maxRecDepth 100000 in
set_option maxHeartbeats 4000000 in
theorem mX6_turnOnce (l : Launch) (G : xr_G) (a0 : Nat) (ta0 : hp_sh a0 = (6, 0)) (h h1 : hp_T) (hF : fX6_turnOnce a0 h = some h1) : xr_M l G yX6_turnOnce cX6_turnOnce 3 (xr_R 2 41) none [.ref (G.2.2.1 a0)] h (xr_Qv G h1) := by
  refine xr_start rfl (Nat.le_of_ble_eq_true rfl) (fun K C => ?_)
  show xr_j l G K 3 h [(0, .ref (G.2.2.1 a0))] 0 []
  unfold fX6_turnOnce at hF
  refine xr_aload_n C 0 dX6_turnOnce_0 rfl rfl ?_
  refine xr_getr C flX6_9 rfl (by decide) dX6_turnOnce_1 ta0 (fun t1 => ?_)
  refine xr_iconst (v := 0) C dX6_turnOnce_4 (by decide) ?_
  refine xr_iald C dX6_turnOnce_5 t1 (by decide) ?_
  refine xr_topi (fun x6 e6 => ?_)
  have hF := fx_letE hF x6 e6
  refine xr_istore_n C [(1, .int x6), (0, .ref (G.2.2.1 a0))] dX6_turnOnce_6 rfl (Nat.le_of_ble_eq_true rfl) rfl ?_
  refine xr_iconst (v := 1) C dX6_turnOnce_7 (by decide) ?_
  refine xr_istore_n C [(2, .int (1 : Int32)), (1, .int x6), (0, .ref (G.2.2.1 a0))] dX6_turnOnce_8 rfl (Nat.le_of_ble_eq_true rfl) rfl ?_
  refine xr_sub [2, 1, 0] [(0, .ref (G.2.2.1 a0)), (1, .int x6), (2, .int (1 : Int32))] rfl ?_
  exact bX6_turnOnce_9 C  fx_N a0 x6 (1 : Int32) ta0 h hF
theorem dX1_award_0 : decode cX1_award 0 = .ok (.aload_n 0, 1) := by decide +kernel
theorem dX1_award_1 : decode cX1_award 1 = .ok (.getfield 10, 3) := by decide +kernel
theorem dX1_award_4 : decode cX1_award 4 = .ok (.iconst 0, 1) := by decide +kernel
theorem dX1_award_5 : decode cX1_award 5 = .ok (.putfield 47, 3) := by decide +kernel
theorem dX1_award_8 : decode cX1_award 8 = .ok (.aload_n 0, 1) := by decide +kernel
theorem dX1_award_9 : decode cX1_award 9 = .ok (.getfield 16, 3) := by decide +kernel
theorem dX1_award_12 : decode cX1_award 12 = .ok (.iconst 0, 1) := by decide +kernel
theorem dX1_award_13 : decode cX1_award 13 = .ok (.putfield 47, 3) := by decide +kernel
theorem dX1_award_16 : decode cX1_award 16 = .ok (.aload_n 0, 1) := by decide +kernel
theorem dX1_award_17 : decode cX1_award 17 = .ok (.dup, 1) := by decide +kernel
theorem dX1_award_18 : decode cX1_award 18 = .ok (.getfield 40, 3) := by decide +kernel
theorem dX1_award_21 : decode cX1_award 21 = .ok (.iconst 1, 1) := by decide +kernel
theorem dX1_award_22 : decode cX1_award 22 = .ok (.iadd, 1) := by decide +kernel
theorem dX1_award_23 : decode cX1_award 23 = .ok (.putfield 40, 3) := by decide +kernel
theorem dX1_award_26 : decode cX1_award 26 = .ok (.aload_n 0, 1) := by decide +kernel
theorem dX1_award_27 : decode cX1_award 27 = .ok (.iload_n 1, 1) := by decide +kernel
theorem dX1_award_28 : decode cX1_award 28 = .ok (.invokevirtual 51, 3) := by decide +kernel
theorem dX1_award_31 : decode cX1_award 31 = .ok (.dup, 1) := by decide +kernel
theorem dX1_award_32 : decode cX1_award 32 = .ok (.getfield 55, 3) := by decide +kernel
theorem dX1_award_35 : decode cX1_award 35 = .ok (.iconst 1, 1) := by decide +kernel
theorem dX1_award_36 : decode cX1_award 36 = .ok (.iadd, 1) := by decide +kernel
theorem dX1_award_37 : decode cX1_award 37 = .ok (.putfield 55, 3) := by decide +kernel
theorem dX1_award_40 : decode cX1_award 40 = .ok (.aload_n 0, 1) := by decide +kernel
theorem dX1_award_41 : decode cX1_award 41 = .ok (.getfield 37, 3) := by decide +kernel
theorem dX1_award_44 : decode cX1_award 44 = .ok (.iload_n 1, 1) := by decide +kernel
theorem dX1_award_45 : decode cX1_award 45 = .ok (.if_icmp .eq 16, 3) := by decide +kernel
theorem dX1_award_48 : decode cX1_award 48 = .ok (.aload_n 0, 1) := by decide +kernel
theorem dX1_award_49 : decode cX1_award 49 = .ok (.iload_n 1, 1) := by decide +kernel
theorem dX1_award_50 : decode cX1_award 50 = .ok (.putfield 37, 3) := by decide +kernel
theorem dX1_award_53 : decode cX1_award 53 = .ok (.aload_n 0, 1) := by decide +kernel
theorem dX1_award_54 : decode cX1_award 54 = .ok (.iload_n 1, 1) := by decide +kernel
theorem dX1_award_55 : decode cX1_award 55 = .ok (.invokevirtual 51, 3) := by decide +kernel
theorem dX1_award_58 : decode cX1_award 58 = .ok (.invokevirtual 58, 3) := by decide +kernel
theorem dX1_award_61 : decode cX1_award 61 = .ok (.return_, 1) := by decide +kernel
def fX1_award (a0 : Nat) (a1 : Int32) (h : hp_T) : Option hp_T := fx_let (hp_sI h (h.2.2 a0 0) 5 (0 : Int32)) fun (h5 : hp_T) => fx_let (hp_sI h5 (h5.2.2 a0 1) 5 (0 : Int32)) fun (h13 : hp_T) => fx_let (hp_sI h13 a0 3 ((h13.1 a0 3) + (1 : Int32))) fun (h23 : hp_T) => fx_b2 (fX1_team a0 a1 h23) fun (r28 : Nat) (h28 : hp_T) => fx_let (hp_sI h28 r28 8 ((h28.1 r28 8) + (1 : Int32))) fun (h37 : hp_T) => if (h37.1 a0 2) = a1 then (some h37) else (fx_let (hp_sI h37 a0 2 a1) fun (h50 : hp_T) => fx_b2 (fX1_team a0 a1 h50) fun (r55 : Nat) (h55 : hp_T) => fx_b1 (fX6_turnOnce r55 h55) fun (h58 : hp_T) => some h58)
set_option maxRecDepth 100000 in
set_option maxHeartbeats 4000000 in
theorem mX1_award (l : Launch) (G : xr_G) (a0 : Nat) (a1 : Int32) (ta0 : hp_sh a0 = (1, 0)) (h h1 : hp_T) (hF : fX1_award a0 a1 h = some h1) : xr_M l G yX1_award cX1_award 2 (xr_R 3 63) none [.ref (G.2.2.1 a0), .int a1] h (xr_Qv G h1) := by
  refine xr_start rfl (Nat.le_of_ble_eq_true rfl) (fun K C => ?_)
  show xr_j l G K 2 h [(0, .ref (G.2.2.1 a0)), (1, .int a1)] 0 []
  unfold fX1_award at hF
  refine xr_aload_n C 0 dX1_award_0 rfl rfl ?_
  refine xr_getr C flX1_10 rfl (by decide) dX1_award_1 ta0 (fun t1 => ?_)
  refine xr_iconst (v := 0) C dX1_award_4 (by decide) ?_
  refine xr_puti C fpX1_47 rfl rfl rfl dX1_award_5 t1 (fun h5 e5 => ?_)
  have hF := fx_letE hF h5 e5
  refine xr_aload_n C 0 dX1_award_8 rfl rfl ?_
  refine xr_getr C flX1_16 rfl (by decide) dX1_award_9 ta0 (fun t9 => ?_)
  refine xr_iconst (v := 0) C dX1_award_12 (by decide) ?_
  refine xr_puti C fpX1_47 rfl rfl rfl dX1_award_13 t9 (fun h13 e13 => ?_)
  have hF := fx_letE hF h13 e13
  refine xr_aload_n C 0 dX1_award_16 rfl rfl ?_
  refine xr_dup C dX1_award_17 rfl ?_
  refine xr_geti C flX1_40 rfl dX1_award_18 ta0 ?_
  refine xr_iconst (v := 1) C dX1_award_21 (by decide) ?_
  refine xr_iadd C dX1_award_22 ?_
  refine xr_puti C fpX1_40 rfl rfl rfl dX1_award_23 ta0 (fun h23 e23 => ?_)
  have hF := fx_letE hF h23 e23
  refine xr_aload_n C 0 dX1_award_26 rfl rfl ?_
  refine xr_iload_n C 1 dX1_award_27 rfl rfl ?_
  obtain ⟨r28, h28, e28, hF⟩ := fx_b2E hF
  refine xr_callVr C mvX1_51 [.int a1] [] (mX1_team l G a0 a1 ta0 h23 h28 r28 e28) ta0 (by decide) vc1 rfl ⟨rfl, rfl, (Nat.le_of_ble_eq_true rfl), (Nat.le_of_ble_eq_true rfl)⟩ rfl (Nat.le_of_ble_eq_true rfl) dX1_award_28 (fun t28 => ?_)
  refine xr_dup C dX1_award_31 rfl ?_
  refine xr_geti C flX1_55 rfl dX1_award_32 t28 ?_
  refine xr_iconst (v := 1) C dX1_award_35 (by decide) ?_
  refine xr_iadd C dX1_award_36 ?_
  refine xr_puti C fpX1_55 rfl rfl rfl dX1_award_37 t28 (fun h37 e37 => ?_)
  have hF := fx_letE hF h37 e37
  refine xr_aload_n C 0 dX1_award_40 rfl rfl ?_
  refine xr_geti C flX1_37 rfl dX1_award_41 ta0 ?_
  refine xr_iload_n C 1 dX1_award_44 rfl rfl ?_
  refine xr_icmp_eq C 61 dX1_award_45 (by decide) (fun c45 => ?_) (fun c45 => ?_)
  · have hF := fx_pos hF c45
    cases hF
    exact xr_vret C dX1_award_61
  · have hF := fx_neg hF c45
    refine xr_aload_n C 0 dX1_award_48 rfl rfl ?_
    refine xr_iload_n C 1 dX1_award_49 rfl rfl ?_
    refine xr_puti C fpX1_37 rfl rfl rfl dX1_award_50 ta0 (fun h50 e50 => ?_)
    have hF := fx_letE hF h50 e50
    refine xr_aload_n C 0 dX1_award_53 rfl rfl ?_
    refine xr_iload_n C 1 dX1_award_54 rfl rfl ?_
    obtain ⟨r55, h55, e55, hF⟩ := fx_b2E hF
    refine xr_callVr C mvX1_51 [.int a1] [] (mX1_team l G a0 a1 ta0 h50 h55 r55 e55) ta0 (by decide) vc1 rfl ⟨rfl, rfl, (Nat.le_of_ble_eq_true rfl), (Nat.le_of_ble_eq_true rfl)⟩ rfl (Nat.le_of_ble_eq_true rfl) dX1_award_55 (fun t55 => ?_)
    obtain ⟨h58, e58, hF⟩ := fx_b1E hF
    refine xr_callVv C mvX1_58 [] [] (mX6_turnOnce l G r55 t55 h55 h58 e58) t55 (by decide) vc6 rfl ⟨rfl, rfl, (Nat.le_of_ble_eq_true rfl), (Nat.le_of_ble_eq_true rfl)⟩ rfl (Nat.le_of_ble_eq_true rfl) dX1_award_58 ?_
    cases hF
    exact xr_vret C dX1_award_61
theorem dX9_isFront_0 : decode cX9_isFront 0 = .ok (.iload_n 0, 1) := by decide +kernel
theorem dX9_isFront_1 : decode cX9_isFront 1 = .ok (.iconst 2, 1) := by decide +kernel
theorem dX9_isFront_2 : decode cX9_isFront 2 = .ok (.if_icmp .lt 12, 3) := by decide +kernel
theorem dX9_isFront_5 : decode cX9_isFront 5 = .ok (.iload_n 0, 1) := by decide +kernel
theorem dX9_isFront_6 : decode cX9_isFront 6 = .ok (.iconst 4, 1) := by decide +kernel
theorem dX9_isFront_7 : decode cX9_isFront 7 = .ok (.if_icmp .gt 7, 3) := by decide +kernel
theorem dX9_isFront_10 : decode cX9_isFront 10 = .ok (.iconst 1, 1) := by decide +kernel
theorem dX9_isFront_11 : decode cX9_isFront 11 = .ok (.goto 4, 3) := by decide +kernel
theorem dX9_isFront_14 : decode cX9_isFront 14 = .ok (.iconst 0, 1) := by decide +kernel
theorem dX9_isFront_15 : decode cX9_isFront 15 = .ok (.ireturn, 1) := by decide +kernel
def fX9_isFront (a0 : Int32) (h : hp_T) : Option (Int32 × hp_T) := if a0 < (2 : Int32) then (some ((0 : Int32), h)) else (if (4 : Int32) < a0 then (some ((0 : Int32), h)) else (some ((1 : Int32), h)))
set_option maxRecDepth 100000 in
set_option maxHeartbeats 4000000 in
theorem mX9_isFront (l : Launch) (G : xr_G) (a0 : Int32)  (h h1 : hp_T) (r : Int32) (hF : fX9_isFront a0 h = some (r, h1)) : xr_M l G yX9_isFront cX9_isFront 1 (xr_R 0 0) (some .boolean) [.int a0] h (xr_Qi G r h1) := by
  refine xr_start rfl (Nat.le_of_ble_eq_true rfl) (fun K C => ?_)
  show xr_j l G K 1 h [(0, .int a0)] 0 []
  unfold fX9_isFront at hF
  refine xr_iload_n C 0 dX9_isFront_0 rfl rfl ?_
  refine xr_iconst (v := 2) C dX9_isFront_1 (by decide) ?_
  refine xr_icmp_lt C 14 dX9_isFront_2 (by decide) (fun c2 => ?_) (fun c2 => ?_)
  · have hF := fx_pos hF c2
    refine xr_iconst (v := 0) C dX9_isFront_14 (by decide) ?_
    cases hF
    exact xr_zret C rfl dX9_isFront_15
  · have hF := fx_neg hF c2
    refine xr_iload_n C 0 dX9_isFront_5 rfl rfl ?_
    refine xr_iconst (v := 4) C dX9_isFront_6 (by decide) ?_
    refine xr_icmp_gt C 14 dX9_isFront_7 (by decide) (fun c7 => ?_) (fun c7 => ?_)
    · have hF := fx_pos hF c7
      refine xr_iconst (v := 0) C dX9_isFront_14 (by decide) ?_
      cases hF
      exact xr_zret C rfl dX9_isFront_15
    · have hF := fx_neg hF c7
      refine xr_iconst (v := 1) C dX9_isFront_10 (by decide) ?_
      refine xr_goto C 15 dX9_isFront_11 (by decide) ?_
      cases hF
      exact xr_zret C rfl dX9_isFront_15
theorem dX2_weigh_0 : decode cX2_weigh 0 = .ok (.iconst 0, 1) := by decide +kernel
theorem dX2_weigh_1 : decode cX2_weigh 1 = .ok (.istore_n 3, 1) := by decide +kernel
theorem dX2_weigh_2 : decode cX2_weigh 2 = .ok (.iload_n 3, 1) := by decide +kernel
theorem dX2_weigh_3 : decode cX2_weigh 3 = .ok (.bipush 6, 2) := by decide +kernel
theorem dX2_weigh_5 : decode cX2_weigh 5 = .ok (.if_icmp .ge 109, 3) := by decide +kernel
theorem dX2_weigh_8 : decode cX2_weigh 8 = .ok (.aload_n 0, 1) := by decide +kernel
theorem dX2_weigh_9 : decode cX2_weigh 9 = .ok (.getfield 9, 3) := by decide +kernel
theorem dX2_weigh_12 : decode cX2_weigh 12 = .ok (.iload_n 3, 1) := by decide +kernel
theorem dX2_weigh_13 : decode cX2_weigh 13 = .ok (.aload_n 1, 1) := by decide +kernel
theorem dX2_weigh_14 : decode cX2_weigh 14 = .ok (.getfield 21, 3) := by decide +kernel
theorem dX2_weigh_17 : decode cX2_weigh 17 = .ok (.aload_n 2, 1) := by decide +kernel
theorem dX2_weigh_18 : decode cX2_weigh 18 = .ok (.iload_n 3, 1) := by decide +kernel
theorem dX2_weigh_19 : decode cX2_weigh 19 = .ok (.iaload, 1) := by decide +kernel
theorem dX2_weigh_20 : decode cX2_weigh 20 = .ok (.iaload, 1) := by decide +kernel
theorem dX2_weigh_21 : decode cX2_weigh 21 = .ok (.iastore, 1) := by decide +kernel
theorem dX2_weigh_22 : decode cX2_weigh 22 = .ok (.aload_n 0, 1) := by decide +kernel
theorem dX2_weigh_23 : decode cX2_weigh 23 = .ok (.getfield 15, 3) := by decide +kernel
theorem dX2_weigh_26 : decode cX2_weigh 26 = .ok (.iload_n 3, 1) := by decide +kernel
theorem dX2_weigh_27 : decode cX2_weigh 27 = .ok (.iconst 0, 1) := by decide +kernel
theorem dX2_weigh_28 : decode cX2_weigh 28 = .ok (.iastore, 1) := by decide +kernel
theorem dX2_weigh_29 : decode cX2_weigh 29 = .ok (.aload_n 0, 1) := by decide +kernel
theorem dX2_weigh_30 : decode cX2_weigh 30 = .ok (.getfield 18, 3) := by decide +kernel
theorem dX2_weigh_33 : decode cX2_weigh 33 = .ok (.iload_n 3, 1) := by decide +kernel
theorem dX2_weigh_34 : decode cX2_weigh 34 = .ok (.iconst 0, 1) := by decide +kernel
theorem dX2_weigh_35 : decode cX2_weigh 35 = .ok (.iastore, 1) := by decide +kernel
theorem dX2_weigh_36 : decode cX2_weigh 36 = .ok (.iconst 1, 1) := by decide +kernel
theorem dX2_weigh_37 : decode cX2_weigh 37 = .ok (.istore 4, 2) := by decide +kernel
theorem dX2_weigh_39 : decode cX2_weigh 39 = .ok (.iload 4, 2) := by decide +kernel
theorem dX2_weigh_41 : decode cX2_weigh 41 = .ok (.bipush 6, 2) := by decide +kernel
theorem dX2_weigh_43 : decode cX2_weigh 43 = .ok (.if_icmp .gt 65, 3) := by decide +kernel
theorem dX2_weigh_46 : decode cX2_weigh 46 = .ok (.aload_n 2, 1) := by decide +kernel
theorem dX2_weigh_47 : decode cX2_weigh 47 = .ok (.iload 4, 2) := by decide +kernel
theorem dX2_weigh_49 : decode cX2_weigh 49 = .ok (.iconst 1, 1) := by decide +kernel
theorem dX2_weigh_50 : decode cX2_weigh 50 = .ok (.isub, 1) := by decide +kernel
theorem dX2_weigh_51 : decode cX2_weigh 51 = .ok (.iload_n 3, 1) := by decide +kernel
theorem dX2_weigh_52 : decode cX2_weigh 52 = .ok (.iadd, 1) := by decide +kernel
theorem dX2_weigh_53 : decode cX2_weigh 53 = .ok (.bipush 6, 2) := by decide +kernel
theorem dX2_weigh_55 : decode cX2_weigh 55 = .ok (.irem, 1) := by decide +kernel
theorem dX2_weigh_56 : decode cX2_weigh 56 = .ok (.iaload, 1) := by decide +kernel
theorem dX2_weigh_57 : decode cX2_weigh 57 = .ok (.istore 5, 2) := by decide +kernel
theorem dX2_weigh_59 : decode cX2_weigh 59 = .ok (.iload 4, 2) := by decide +kernel
theorem dX2_weigh_61 : decode cX2_weigh 61 = .ok (.invokestatic 24, 3) := by decide +kernel
theorem dX2_weigh_64 : decode cX2_weigh 64 = .ok (.ifCond .eq 22, 3) := by decide +kernel
theorem dX2_weigh_67 : decode cX2_weigh 67 = .ok (.aload_n 0, 1) := by decide +kernel
theorem dX2_weigh_68 : decode cX2_weigh 68 = .ok (.getfield 15, 3) := by decide +kernel
theorem dX2_weigh_71 : decode cX2_weigh 71 = .ok (.iload_n 3, 1) := by decide +kernel
theorem dX2_weigh_72 : decode cX2_weigh 72 = .ok (.dup2, 1) := by decide +kernel
theorem dX2_weigh_73 : decode cX2_weigh 73 = .ok (.iaload, 1) := by decide +kernel
theorem dX2_weigh_74 : decode cX2_weigh 74 = .ok (.aload_n 1, 1) := by decide +kernel
theorem dX2_weigh_75 : decode cX2_weigh 75 = .ok (.getfield 28, 3) := by decide +kernel
theorem dX2_weigh_78 : decode cX2_weigh 78 = .ok (.iload 5, 2) := by decide +kernel
theorem dX2_weigh_80 : decode cX2_weigh 80 = .ok (.iaload, 1) := by decide +kernel
theorem dX2_weigh_81 : decode cX2_weigh 81 = .ok (.iadd, 1) := by decide +kernel
theorem dX2_weigh_82 : decode cX2_weigh 82 = .ok (.iastore, 1) := by decide +kernel
theorem dX2_weigh_83 : decode cX2_weigh 83 = .ok (.goto 19, 3) := by decide +kernel
theorem dX2_weigh_86 : decode cX2_weigh 86 = .ok (.aload_n 0, 1) := by decide +kernel
theorem dX2_weigh_87 : decode cX2_weigh 87 = .ok (.getfield 18, 3) := by decide +kernel
theorem dX2_weigh_90 : decode cX2_weigh 90 = .ok (.iload_n 3, 1) := by decide +kernel
theorem dX2_weigh_91 : decode cX2_weigh 91 = .ok (.dup2, 1) := by decide +kernel
theorem dX2_weigh_92 : decode cX2_weigh 92 = .ok (.iaload, 1) := by decide +kernel
theorem dX2_weigh_93 : decode cX2_weigh 93 = .ok (.aload_n 1, 1) := by decide +kernel
theorem dX2_weigh_94 : decode cX2_weigh 94 = .ok (.getfield 31, 3) := by decide +kernel
theorem dX2_weigh_97 : decode cX2_weigh 97 = .ok (.iload 5, 2) := by decide +kernel
theorem dX2_weigh_99 : decode cX2_weigh 99 = .ok (.iaload, 1) := by decide +kernel
theorem dX2_weigh_100 : decode cX2_weigh 100 = .ok (.iadd, 1) := by decide +kernel
theorem dX2_weigh_101 : decode cX2_weigh 101 = .ok (.iastore, 1) := by decide +kernel
theorem dX2_weigh_102 : decode cX2_weigh 102 = .ok (.iinc 4 1, 3) := by decide +kernel
theorem dX2_weigh_105 : decode cX2_weigh 105 = .ok (.goto (-66), 3) := by decide +kernel
theorem dX2_weigh_108 : decode cX2_weigh 108 = .ok (.iinc 3 1, 3) := by decide +kernel
theorem dX2_weigh_111 : decode cX2_weigh 111 = .ok (.goto (-109), 3) := by decide +kernel
theorem dX2_weigh_114 : decode cX2_weigh 114 = .ok (.return_, 1) := by decide +kernel
def fX2_weigh_102 (k2 : Nat → Nat → Nat → Int32 → hp_T → Option hp_T) (k39 : Nat → Nat → Nat → Int32 → Int32 → hp_T → Option hp_T) (a0 : Nat) (a1 : Nat) (a2 : Nat) (a3 : Int32) (a4 : Int32) (h : hp_T) : Option hp_T := fx_let (a4 + (1 : Int32)) fun (x102 : Int32) => k39 a0 a1 a2 a3 x102 h
set_option maxRecDepth 100000 in
set_option maxHeartbeats 4000000 in
theorem bX2_weigh_102 {l : Launch} {G : xr_G} {K : xr_K} {h1 : hp_T} (C : xr_C G K cX2_weigh RX2 6 (xr_R 1 20) none (some (xr_Qv G h1))) (k2 : Nat → Nat → Nat → Int32 → hp_T → Option hp_T) (j2 : ∀ (a0 : Nat) (a1 : Nat) (a2 : Nat) (a3 : Int32) (ta0 : hp_sh a0 = (2, 0)) (ta1 : hp_sh a1 = (7, 0)) (ta2 : hp_sh a2 = (20, 6)) (h : hp_T), k2 a0 a1 a2 a3 h = some h1 → xr_j l G K 6 h [(0, .ref (G.2.2.1 a0)), (1, .ref (G.2.2.1 a1)), (2, .ref (G.2.2.1 a2)), (3, .int a3)] 2 []) (k39 : Nat → Nat → Nat → Int32 → Int32 → hp_T → Option hp_T) (j39 : ∀ (a0 : Nat) (a1 : Nat) (a2 : Nat) (a3 : Int32) (a4 : Int32) (ta0 : hp_sh a0 = (2, 0)) (ta1 : hp_sh a1 = (7, 0)) (ta2 : hp_sh a2 = (20, 6)) (h : hp_T), k39 a0 a1 a2 a3 a4 h = some h1 → xr_j l G K 6 h [(0, .ref (G.2.2.1 a0)), (1, .ref (G.2.2.1 a1)), (2, .ref (G.2.2.1 a2)), (3, .int a3), (4, .int a4)] 39 []) (a0 : Nat) (a1 : Nat) (a2 : Nat) (a3 : Int32) (a4 : Int32) (ta0 : hp_sh a0 = (2, 0)) (ta1 : hp_sh a1 = (7, 0)) (ta2 : hp_sh a2 = (20, 6)) (h : hp_T) (hF : fX2_weigh_102 k2 k39 a0 a1 a2 a3 a4 h = some h1) : xr_j l G K 6 h [(0, .ref (G.2.2.1 a0)), (1, .ref (G.2.2.1 a1)), (2, .ref (G.2.2.1 a2)), (3, .int a3), (4, .int a4)] 102 [] := by
  unfold fX2_weigh_102 at hF
  obtain ⟨x102, e102⟩ : ∃ y : Int32, y = (a4 + (1 : Int32)) := ⟨_, rfl⟩
  have hF := fx_letE hF x102 e102
  refine xr_iinc C x102 4 [(4, .int x102), (0, .ref (G.2.2.1 a0)), (1, .ref (G.2.2.1 a1)), (2, .ref (G.2.2.1 a2)), (3, .int a3)] dX2_weigh_102 rfl (by rw [e102]; rfl) (Nat.le_of_ble_eq_true rfl) rfl ?_
  refine xr_goto C 39 dX2_weigh_105 (by decide) ?_
  refine xr_sub [1, 2, 3, 4, 0] [(0, .ref (G.2.2.1 a0)), (1, .ref (G.2.2.1 a1)), (2, .ref (G.2.2.1 a2)), (3, .int a3), (4, .int x102)] rfl ?_
  exact j39 a0 a1 a2 a3 x102 ta0 ta1 ta2 h hF
def fX2_weigh_39 (k2 : Nat → Nat → Nat → Int32 → hp_T → Option hp_T) : Nat → Nat → Nat → Nat → Int32 → Int32 → hp_T → Option hp_T
  | 0, _, _, _, _, _, _ => none
  | n + 1, a0, a1, a2, a3, a4, h => if (6 : Int32) < a4 then (fx_let (a3 + (1 : Int32)) fun (x108 : Int32) => k2 a0 a1 a2 x108 h) else (fx_g (fx_in (fx_rem ((a4 - (1 : Int32)) + a3) (6 : Int32)) 6) (fx_let (h.1 a2 (fx_ix (fx_rem ((a4 - (1 : Int32)) + a3) (6 : Int32)))) fun (x57 : Int32) => fx_b2 (fX9_isFront a4 h) fun (r61 : Int32) (h61 : hp_T) => if r61 = 0 then (fx_g (fx_in a3 6) (fx_g (fx_in x57 12) (fx_g (fx_in a3 6) (fx_let (hp_sI h61 (h61.2.2 a0 2) (fx_ix a3) ((h61.1 (h61.2.2 a0 2) (fx_ix a3)) + (h61.1 (h61.2.2 a1 3) (fx_ix x57)))) fun (h101 : hp_T) => fX2_weigh_102 k2 (fX2_weigh_39 k2 n) a0 a1 a2 a3 a4 h101)))) else (fx_g (fx_in a3 6) (fx_g (fx_in x57 12) (fx_g (fx_in a3 6) (fx_let (hp_sI h61 (h61.2.2 a0 1) (fx_ix a3) ((h61.1 (h61.2.2 a0 1) (fx_ix a3)) + (h61.1 (h61.2.2 a1 2) (fx_ix x57)))) fun (h82 : hp_T) => fX2_weigh_102 k2 (fX2_weigh_39 k2 n) a0 a1 a2 a3 a4 h82))))))
set_option maxRecDepth 100000 in
set_option maxHeartbeats 4000000 in
theorem bX2_weigh_39 {l : Launch} {G : xr_G} {K : xr_K} {h1 : hp_T} (C : xr_C G K cX2_weigh RX2 6 (xr_R 1 20) none (some (xr_Qv G h1))) (k2 : Nat → Nat → Nat → Int32 → hp_T → Option hp_T) (j2 : ∀ (a0 : Nat) (a1 : Nat) (a2 : Nat) (a3 : Int32) (ta0 : hp_sh a0 = (2, 0)) (ta1 : hp_sh a1 = (7, 0)) (ta2 : hp_sh a2 = (20, 6)) (h : hp_T), k2 a0 a1 a2 a3 h = some h1 → xr_j l G K 6 h [(0, .ref (G.2.2.1 a0)), (1, .ref (G.2.2.1 a1)), (2, .ref (G.2.2.1 a2)), (3, .int a3)] 2 []) : ∀ (n : Nat) (a0 : Nat) (a1 : Nat) (a2 : Nat) (a3 : Int32) (a4 : Int32) (ta0 : hp_sh a0 = (2, 0)) (ta1 : hp_sh a1 = (7, 0)) (ta2 : hp_sh a2 = (20, 6)) (h : hp_T), fX2_weigh_39 k2 n a0 a1 a2 a3 a4 h = some h1 → xr_j l G K 6 h [(0, .ref (G.2.2.1 a0)), (1, .ref (G.2.2.1 a1)), (2, .ref (G.2.2.1 a2)), (3, .int a3), (4, .int a4)] 39 [] := by
  intro n
  induction n with
  | zero =>
    intro a0 a1 a2 a3 a4 ta0 ta1 ta2 h hF
    cases hF
  | succ n ih =>
    intro a0 a1 a2 a3 a4 ta0 ta1 ta2 h hF
    rw [fX2_weigh_39] at hF
    refine xr_iload C 4 dX2_weigh_39 rfl ?_
    refine xr_bipush (v := 6) C dX2_weigh_41 (by decide) ?_
    refine xr_icmp_gt C 108 dX2_weigh_43 (by decide) (fun c43 => ?_) (fun c43 => ?_)
    · have hF := fx_pos hF c43
      obtain ⟨x108, e108⟩ : ∃ y : Int32, y = (a3 + (1 : Int32)) := ⟨_, rfl⟩
      have hF := fx_letE hF x108 e108
      refine xr_iinc C x108 3 [(3, .int x108), (0, .ref (G.2.2.1 a0)), (1, .ref (G.2.2.1 a1)), (2, .ref (G.2.2.1 a2)), (4, .int a4)] dX2_weigh_108 rfl (by rw [e108]; rfl) (Nat.le_of_ble_eq_true rfl) rfl ?_
      refine xr_goto C 2 dX2_weigh_111 (by decide) ?_
      refine xr_sub [1, 2, 3, 0] [(0, .ref (G.2.2.1 a0)), (1, .ref (G.2.2.1 a1)), (2, .ref (G.2.2.1 a2)), (3, .int x108)] rfl ?_
      exact j2 a0 a1 a2 x108 ta0 ta1 ta2 h hF
    · have hF := fx_neg hF c43
      refine xr_aload_n C 2 dX2_weigh_46 rfl rfl ?_
      refine xr_iload C 4 dX2_weigh_47 rfl ?_
      refine xr_iconst (v := 1) C dX2_weigh_49 (by decide) ?_
      refine xr_isub C dX2_weigh_50 ?_
      refine xr_iload_n C 3 dX2_weigh_51 rfl rfl ?_
      refine xr_iadd C dX2_weigh_52 ?_
      refine xr_bipush (v := 6) C dX2_weigh_53 (by decide) ?_
      refine xr_irem C dX2_weigh_55 (by decide) ?_
      obtain ⟨g56, hF⟩ := fx_gE hF
      refine xr_iald C dX2_weigh_56 ta2 g56 ?_
      refine xr_topi (fun x57 e57 => ?_)
      have hF := fx_letE hF x57 e57
      refine xr_istore C [(5, .int x57), (0, .ref (G.2.2.1 a0)), (1, .ref (G.2.2.1 a1)), (2, .ref (G.2.2.1 a2)), (3, .int a3), (4, .int a4)] dX2_weigh_57 (Nat.le_of_ble_eq_true rfl) rfl ?_
      refine xr_iload C 5 dX2_weigh_59 rfl ?_
      obtain ⟨r61, h61, e61, hF⟩ := fx_b2E hF
      refine xr_callNi C mvX2_24 [.int a4] [] (mX9_isFront l G a4  h h61 r61 e61) rfl ⟨rfl, rfl, (Nat.le_of_ble_eq_true rfl), (Nat.le_of_ble_eq_true rfl)⟩ rfl (Nat.le_of_ble_eq_true rfl) dX2_weigh_61 ?_
      refine xr_if_eq C 86 dX2_weigh_64 (by decide) (fun c64 => ?_) (fun c64 => ?_)
      · have hF := fx_pos hF c64
        refine xr_aload_n C 1 dX2_weigh_86 rfl rfl ?_
        refine xr_getr C flX2_18 rfl (by decide) dX2_weigh_87 ta0 (fun t87 => ?_)
        refine xr_iload_n C 4 dX2_weigh_90 rfl rfl ?_
        refine xr_dup2 C dX2_weigh_91 rfl rfl ?_
        obtain ⟨g92, hF⟩ := fx_gE hF
        refine xr_iald C dX2_weigh_92 t87 g92 ?_
        refine xr_aload_n C 2 dX2_weigh_93 rfl rfl ?_
        refine xr_getr C flX2_31 rfl (by decide) dX2_weigh_94 ta1 (fun t94 => ?_)
        refine xr_iload C 0 dX2_weigh_97 rfl ?_
        obtain ⟨g99, hF⟩ := fx_gE hF
        refine xr_iald C dX2_weigh_99 t94 g99 ?_
        refine xr_iadd C dX2_weigh_100 ?_
        obtain ⟨g101, hF⟩ := fx_gE hF
        refine xr_iast C dX2_weigh_101 t87 g101 (fun h101 e101 => ?_)
        have hF := fx_letE hF h101 e101
        refine xr_sub [1, 2, 3, 4, 5] [(0, .ref (G.2.2.1 a0)), (1, .ref (G.2.2.1 a1)), (2, .ref (G.2.2.1 a2)), (3, .int a3), (4, .int a4)] rfl ?_
        exact bX2_weigh_102 C k2 j2 (fX2_weigh_39 k2 n) (fun a0 a1 a2 a3 a4 ta0 ta1 ta2 h hF => ih a0 a1 a2 a3 a4 ta0 ta1 ta2 h hF)  a0 a1 a2 a3 a4 ta0 ta1 ta2 h101 hF
      · have hF := fx_neg hF c64
        refine xr_aload_n C 1 dX2_weigh_67 rfl rfl ?_
        refine xr_getr C flX2_15 rfl (by decide) dX2_weigh_68 ta0 (fun t68 => ?_)
        refine xr_iload_n C 4 dX2_weigh_71 rfl rfl ?_
        refine xr_dup2 C dX2_weigh_72 rfl rfl ?_
        obtain ⟨g73, hF⟩ := fx_gE hF
        refine xr_iald C dX2_weigh_73 t68 g73 ?_
        refine xr_aload_n C 2 dX2_weigh_74 rfl rfl ?_
        refine xr_getr C flX2_28 rfl (by decide) dX2_weigh_75 ta1 (fun t75 => ?_)
        refine xr_iload C 0 dX2_weigh_78 rfl ?_
        obtain ⟨g80, hF⟩ := fx_gE hF
        refine xr_iald C dX2_weigh_80 t75 g80 ?_
        refine xr_iadd C dX2_weigh_81 ?_
        obtain ⟨g82, hF⟩ := fx_gE hF
        refine xr_iast C dX2_weigh_82 t68 g82 (fun h82 e82 => ?_)
        have hF := fx_letE hF h82 e82
        refine xr_goto C 102 dX2_weigh_83 (by decide) ?_
        refine xr_sub [1, 2, 3, 4, 5] [(0, .ref (G.2.2.1 a0)), (1, .ref (G.2.2.1 a1)), (2, .ref (G.2.2.1 a2)), (3, .int a3), (4, .int a4)] rfl ?_
        exact bX2_weigh_102 C k2 j2 (fX2_weigh_39 k2 n) (fun a0 a1 a2 a3 a4 ta0 ta1 ta2 h hF => ih a0 a1 a2 a3 a4 ta0 ta1 ta2 h hF)  a0 a1 a2 a3 a4 ta0 ta1 ta2 h82 hF
def fX2_weigh_2  : Nat → Nat → Nat → Nat → Int32 → hp_T → Option hp_T
  | 0, _, _, _, _, _ => none
  | n + 1, a0, a1, a2, a3, h => if (6 : Int32) ≤ a3 then (some h) else (fx_g (fx_in a3 6) (fx_g (fx_in (h.1 a2 (fx_ix a3)) 12) (fx_g (fx_in a3 6) (fx_let (hp_sI h (h.2.2 a0 0) (fx_ix a3) (h.1 (h.2.2 a1 1) (fx_ix (h.1 a2 (fx_ix a3))))) fun (h21 : hp_T) => fx_g (fx_in a3 6) (fx_let (hp_sI h21 (h21.2.2 a0 1) (fx_ix a3) (0 : Int32)) fun (h28 : hp_T) => fx_g (fx_in a3 6) (fx_let (hp_sI h28 (h28.2.2 a0 2) (fx_ix a3) (0 : Int32)) fun (h35 : hp_T) => fX2_weigh_39 (fX2_weigh_2 n) fx_N a0 a1 a2 a3 (1 : Int32) h35))))))
set_option maxRecDepth 100000 in
set_option maxHeartbeats 4000000 in
theorem bX2_weigh_2 {l : Launch} {G : xr_G} {K : xr_K} {h1 : hp_T} (C : xr_C G K cX2_weigh RX2 6 (xr_R 1 20) none (some (xr_Qv G h1)))  : ∀ (n : Nat) (a0 : Nat) (a1 : Nat) (a2 : Nat) (a3 : Int32) (ta0 : hp_sh a0 = (2, 0)) (ta1 : hp_sh a1 = (7, 0)) (ta2 : hp_sh a2 = (20, 6)) (h : hp_T), fX2_weigh_2 n a0 a1 a2 a3 h = some h1 → xr_j l G K 6 h [(0, .ref (G.2.2.1 a0)), (1, .ref (G.2.2.1 a1)), (2, .ref (G.2.2.1 a2)), (3, .int a3)] 2 [] := by
  intro n
  induction n with
  | zero =>
    intro a0 a1 a2 a3 ta0 ta1 ta2 h hF
    cases hF
  | succ n ih =>
    intro a0 a1 a2 a3 ta0 ta1 ta2 h hF
    rw [fX2_weigh_2] at hF
    refine xr_iload_n C 3 dX2_weigh_2 rfl rfl ?_
    refine xr_bipush (v := 6) C dX2_weigh_3 (by decide) ?_
    refine xr_icmp_ge C 114 dX2_weigh_5 (by decide) (fun c5 => ?_) (fun c5 => ?_)
    · have hF := fx_pos hF c5
      cases hF
      exact xr_vret C dX2_weigh_114
    · have hF := fx_neg hF c5
      refine xr_aload_n C 0 dX2_weigh_8 rfl rfl ?_
      refine xr_getr C flX2_9 rfl (by decide) dX2_weigh_9 ta0 (fun t9 => ?_)
      refine xr_iload_n C 3 dX2_weigh_12 rfl rfl ?_
      refine xr_aload_n C 1 dX2_weigh_13 rfl rfl ?_
      refine xr_getr C flX2_21 rfl (by decide) dX2_weigh_14 ta1 (fun t14 => ?_)
      refine xr_aload_n C 2 dX2_weigh_17 rfl rfl ?_
      refine xr_iload_n C 3 dX2_weigh_18 rfl rfl ?_
      obtain ⟨g19, hF⟩ := fx_gE hF
      refine xr_iald C dX2_weigh_19 ta2 g19 ?_
      obtain ⟨g20, hF⟩ := fx_gE hF
      refine xr_iald C dX2_weigh_20 t14 g20 ?_
      obtain ⟨g21, hF⟩ := fx_gE hF
      refine xr_iast C dX2_weigh_21 t9 g21 (fun h21 e21 => ?_)
      have hF := fx_letE hF h21 e21
      refine xr_aload_n C 0 dX2_weigh_22 rfl rfl ?_
      refine xr_getr C flX2_15 rfl (by decide) dX2_weigh_23 ta0 (fun t23 => ?_)
      refine xr_iload_n C 3 dX2_weigh_26 rfl rfl ?_
      refine xr_iconst (v := 0) C dX2_weigh_27 (by decide) ?_
      obtain ⟨g28, hF⟩ := fx_gE hF
      refine xr_iast C dX2_weigh_28 t23 g28 (fun h28 e28 => ?_)
      have hF := fx_letE hF h28 e28
      refine xr_aload_n C 0 dX2_weigh_29 rfl rfl ?_
      refine xr_getr C flX2_18 rfl (by decide) dX2_weigh_30 ta0 (fun t30 => ?_)
      refine xr_iload_n C 3 dX2_weigh_33 rfl rfl ?_
      refine xr_iconst (v := 0) C dX2_weigh_34 (by decide) ?_
      obtain ⟨g35, hF⟩ := fx_gE hF
      refine xr_iast C dX2_weigh_35 t30 g35 (fun h35 e35 => ?_)
      have hF := fx_letE hF h35 e35
      refine xr_iconst (v := 1) C dX2_weigh_36 (by decide) ?_
      refine xr_istore C [(4, .int (1 : Int32)), (0, .ref (G.2.2.1 a0)), (1, .ref (G.2.2.1 a1)), (2, .ref (G.2.2.1 a2)), (3, .int a3)] dX2_weigh_37 (Nat.le_of_ble_eq_true rfl) rfl ?_
      refine xr_sub [1, 2, 3, 4, 0] [(0, .ref (G.2.2.1 a0)), (1, .ref (G.2.2.1 a1)), (2, .ref (G.2.2.1 a2)), (3, .int a3), (4, .int (1 : Int32))] rfl ?_
      exact bX2_weigh_39 C (fX2_weigh_2 n) (fun a0 a1 a2 a3 ta0 ta1 ta2 h hF => ih a0 a1 a2 a3 ta0 ta1 ta2 h hF) fx_N a0 a1 a2 a3 (1 : Int32) ta0 ta1 ta2 h35 hF
def fX2_weigh (a0 : Nat) (a1 : Nat) (a2 : Nat) (h : hp_T) : Option hp_T := fX2_weigh_2 fx_N a0 a1 a2 (0 : Int32) h
set_option maxRecDepth 100000 in
set_option maxHeartbeats 4000000 in
theorem mX2_weigh (l : Launch) (G : xr_G) (a0 : Nat) (a1 : Nat) (a2 : Nat) (ta0 : hp_sh a0 = (2, 0)) (ta1 : hp_sh a1 = (7, 0)) (ta2 : hp_sh a2 = (20, 6)) (h h1 : hp_T) (hF : fX2_weigh a0 a1 a2 h = some h1) : xr_M l G yX2_weigh cX2_weigh 6 (xr_R 1 20) none [.ref (G.2.2.1 a0), .ref (G.2.2.1 a1), .ref (G.2.2.1 a2)] h (xr_Qv G h1) := by
  refine xr_start rfl (Nat.le_of_ble_eq_true rfl) (fun K C => ?_)
  show xr_j l G K 6 h [(0, .ref (G.2.2.1 a0)), (1, .ref (G.2.2.1 a1)), (2, .ref (G.2.2.1 a2))] 0 []
  unfold fX2_weigh at hF
  refine xr_iconst (v := 0) C dX2_weigh_0 (by decide) ?_
  refine xr_istore_n C [(3, .int (0 : Int32)), (0, .ref (G.2.2.1 a0)), (1, .ref (G.2.2.1 a1)), (2, .ref (G.2.2.1 a2))] dX2_weigh_1 rfl (Nat.le_of_ble_eq_true rfl) rfl ?_
  refine xr_sub [1, 2, 3, 0] [(0, .ref (G.2.2.1 a0)), (1, .ref (G.2.2.1 a1)), (2, .ref (G.2.2.1 a2)), (3, .int (0 : Int32))] rfl ?_
  exact bX2_weigh_2 C  fx_N a0 a1 a2 (0 : Int32) ta0 ta1 ta2 h hF
theorem dX3_note_0 : decode cX3_note 0 = .ok (.iload_n 1, 1) := by decide +kernel
theorem dX3_note_1 : decode cX3_note 1 = .ok (.ifCond .lt 31, 3) := by decide +kernel
theorem dX3_note_4 : decode cX3_note 4 = .ok (.iload_n 1, 1) := by decide +kernel
theorem dX3_note_5 : decode cX3_note 5 = .ok (.bipush 49, 2) := by decide +kernel
theorem dX3_note_7 : decode cX3_note 7 = .ok (.if_icmp .ge 25, 3) := by decide +kernel
theorem dX3_note_10 : decode cX3_note 10 = .ok (.aload_n 0, 1) := by decide +kernel
theorem dX3_note_11 : decode cX3_note 11 = .ok (.getfield 11, 3) := by decide +kernel
theorem dX3_note_14 : decode cX3_note 14 = .ok (.iload_n 1, 1) := by decide +kernel
theorem dX3_note_15 : decode cX3_note 15 = .ok (.iload_n 2, 1) := by decide +kernel
theorem dX3_note_16 : decode cX3_note 16 = .ok (.iastore, 1) := by decide +kernel
theorem dX3_note_17 : decode cX3_note 17 = .ok (.aload_n 0, 1) := by decide +kernel
theorem dX3_note_18 : decode cX3_note 18 = .ok (.getfield 15, 3) := by decide +kernel
theorem dX3_note_21 : decode cX3_note 21 = .ok (.iload_n 1, 1) := by decide +kernel
theorem dX3_note_22 : decode cX3_note 22 = .ok (.iload_n 3, 1) := by decide +kernel
theorem dX3_note_23 : decode cX3_note 23 = .ok (.iastore, 1) := by decide +kernel
theorem dX3_note_24 : decode cX3_note 24 = .ok (.aload_n 0, 1) := by decide +kernel
theorem dX3_note_25 : decode cX3_note 25 = .ok (.getfield 18, 3) := by decide +kernel
theorem dX3_note_28 : decode cX3_note 28 = .ok (.iload_n 1, 1) := by decide +kernel
theorem dX3_note_29 : decode cX3_note 29 = .ok (.iload 4, 2) := by decide +kernel
theorem dX3_note_31 : decode cX3_note 31 = .ok (.iastore, 1) := by decide +kernel
theorem dX3_note_32 : decode cX3_note 32 = .ok (.return_, 1) := by decide +kernel
def fX3_note (a0 : Nat) (a1 : Int32) (a2 : Int32) (a3 : Int32) (a4 : Int32) (h : hp_T) : Option hp_T := if a1 < 0 then (some h) else (if (49 : Int32) ≤ a1 then (some h) else (fx_g (fx_in a1 49) (fx_let (hp_sI h (h.2.2 a0 0) (fx_ix a1) a2) fun (h16 : hp_T) => fx_g (fx_in a1 49) (fx_let (hp_sI h16 (h16.2.2 a0 1) (fx_ix a1) a3) fun (h23 : hp_T) => fx_g (fx_in a1 49) (fx_let (hp_sI h23 (h23.2.2 a0 2) (fx_ix a1) a4) fun (h31 : hp_T) => some h31)))))
set_option maxRecDepth 100000 in
set_option maxHeartbeats 4000000 in
theorem mX3_note (l : Launch) (G : xr_G) (a0 : Nat) (a1 : Int32) (a2 : Int32) (a3 : Int32) (a4 : Int32) (ta0 : hp_sh a0 = (3, 0)) (h h1 : hp_T) (hF : fX3_note a0 a1 a2 a3 a4 h = some h1) : xr_M l G yX3_note cX3_note 5 (xr_R 0 0) none [.ref (G.2.2.1 a0), .int a1, .int a2, .int a3, .int a4] h (xr_Qv G h1) := by
  refine xr_start rfl (Nat.le_of_ble_eq_true rfl) (fun K C => ?_)
  show xr_j l G K 5 h [(0, .ref (G.2.2.1 a0)), (1, .int a1), (2, .int a2), (3, .int a3), (4, .int a4)] 0 []
  unfold fX3_note at hF
  refine xr_iload_n C 1 dX3_note_0 rfl rfl ?_
  refine xr_if_lt C 32 dX3_note_1 (by decide) (fun c1 => ?_) (fun c1 => ?_)
  · have hF := fx_pos hF c1
    cases hF
    exact xr_vret C dX3_note_32
  · have hF := fx_neg hF c1
    refine xr_iload_n C 1 dX3_note_4 rfl rfl ?_
    refine xr_bipush (v := 49) C dX3_note_5 (by decide) ?_
    refine xr_icmp_ge C 32 dX3_note_7 (by decide) (fun c7 => ?_) (fun c7 => ?_)
    · have hF := fx_pos hF c7
      cases hF
      exact xr_vret C dX3_note_32
    · have hF := fx_neg hF c7
      refine xr_aload_n C 0 dX3_note_10 rfl rfl ?_
      refine xr_getr C flX3_11 rfl (by decide) dX3_note_11 ta0 (fun t11 => ?_)
      refine xr_iload_n C 1 dX3_note_14 rfl rfl ?_
      refine xr_iload_n C 2 dX3_note_15 rfl rfl ?_
      obtain ⟨g16, hF⟩ := fx_gE hF
      refine xr_iast C dX3_note_16 t11 g16 (fun h16 e16 => ?_)
      have hF := fx_letE hF h16 e16
      refine xr_aload_n C 0 dX3_note_17 rfl rfl ?_
      refine xr_getr C flX3_15 rfl (by decide) dX3_note_18 ta0 (fun t18 => ?_)
      refine xr_iload_n C 1 dX3_note_21 rfl rfl ?_
      refine xr_iload_n C 3 dX3_note_22 rfl rfl ?_
      obtain ⟨g23, hF⟩ := fx_gE hF
      refine xr_iast C dX3_note_23 t18 g23 (fun h23 e23 => ?_)
      have hF := fx_letE hF h23 e23
      refine xr_aload_n C 0 dX3_note_24 rfl rfl ?_
      refine xr_getr C flX3_18 rfl (by decide) dX3_note_25 ta0 (fun t25 => ?_)
      refine xr_iload_n C 1 dX3_note_28 rfl rfl ?_
      refine xr_iload C 4 dX3_note_29 rfl ?_
      obtain ⟨g31, hF⟩ := fx_gE hF
      refine xr_iast C dX3_note_31 t25 g31 (fun h31 e31 => ?_)
      have hF := fx_letE hF h31 e31
      cases hF
      exact xr_vret C dX3_note_32
theorem dX3_isPointOf_0 : decode cX3_isPointOf 0 = .ok (.aload_n 0, 1) := by decide +kernel
theorem dX3_isPointOf_1 : decode cX3_isPointOf 1 = .ok (.getfield 11, 3) := by decide +kernel
theorem dX3_isPointOf_4 : decode cX3_isPointOf 4 = .ok (.iload_n 1, 1) := by decide +kernel
theorem dX3_isPointOf_5 : decode cX3_isPointOf 5 = .ok (.iaload, 1) := by decide +kernel
theorem dX3_isPointOf_6 : decode cX3_isPointOf 6 = .ok (.iload_n 2, 1) := by decide +kernel
theorem dX3_isPointOf_7 : decode cX3_isPointOf 7 = .ok (.if_icmp .ne 27, 3) := by decide +kernel
theorem dX3_isPointOf_10 : decode cX3_isPointOf 10 = .ok (.aload_n 0, 1) := by decide +kernel
theorem dX3_isPointOf_11 : decode cX3_isPointOf 11 = .ok (.getfield 15, 3) := by decide +kernel
theorem dX3_isPointOf_14 : decode cX3_isPointOf 14 = .ok (.iload_n 1, 1) := by decide +kernel
theorem dX3_isPointOf_15 : decode cX3_isPointOf 15 = .ok (.iaload, 1) := by decide +kernel
theorem dX3_isPointOf_16 : decode cX3_isPointOf 16 = .ok (.iload_n 2, 1) := by decide +kernel
theorem dX3_isPointOf_17 : decode cX3_isPointOf 17 = .ok (.if_icmp .ne 17, 3) := by decide +kernel
theorem dX3_isPointOf_20 : decode cX3_isPointOf 20 = .ok (.aload_n 0, 1) := by decide +kernel
theorem dX3_isPointOf_21 : decode cX3_isPointOf 21 = .ok (.getfield 18, 3) := by decide +kernel
theorem dX3_isPointOf_24 : decode cX3_isPointOf 24 = .ok (.iload_n 1, 1) := by decide +kernel
theorem dX3_isPointOf_25 : decode cX3_isPointOf 25 = .ok (.iaload, 1) := by decide +kernel
theorem dX3_isPointOf_26 : decode cX3_isPointOf 26 = .ok (.iload_n 3, 1) := by decide +kernel
theorem dX3_isPointOf_27 : decode cX3_isPointOf 27 = .ok (.if_icmp .ne 7, 3) := by decide +kernel
theorem dX3_isPointOf_30 : decode cX3_isPointOf 30 = .ok (.iconst 1, 1) := by decide +kernel
theorem dX3_isPointOf_31 : decode cX3_isPointOf 31 = .ok (.goto 4, 3) := by decide +kernel
theorem dX3_isPointOf_34 : decode cX3_isPointOf 34 = .ok (.iconst 0, 1) := by decide +kernel
theorem dX3_isPointOf_35 : decode cX3_isPointOf 35 = .ok (.ireturn, 1) := by decide +kernel
def fX3_isPointOf (a0 : Nat) (a1 : Int32) (a2 : Int32) (a3 : Int32) (h : hp_T) : Option (Int32 × hp_T) := fx_g (fx_in a1 49) (if (h.1 (h.2.2 a0 0) (fx_ix a1)) = a2 then (fx_g (fx_in a1 49) (if (h.1 (h.2.2 a0 1) (fx_ix a1)) = a2 then (fx_g (fx_in a1 49) (if (h.1 (h.2.2 a0 2) (fx_ix a1)) = a3 then (some ((1 : Int32), h)) else (some ((0 : Int32), h)))) else (some ((0 : Int32), h)))) else (some ((0 : Int32), h)))
set_option maxRecDepth 100000 in
set_option maxHeartbeats 4000000 in
theorem mX3_isPointOf (l : Launch) (G : xr_G) (a0 : Nat) (a1 : Int32) (a2 : Int32) (a3 : Int32) (ta0 : hp_sh a0 = (3, 0)) (h h1 : hp_T) (r : Int32) (hF : fX3_isPointOf a0 a1 a2 a3 h = some (r, h1)) : xr_M l G yX3_isPointOf cX3_isPointOf 4 (xr_R 0 0) (some .boolean) [.ref (G.2.2.1 a0), .int a1, .int a2, .int a3] h (xr_Qi G r h1) := by
  refine xr_start rfl (Nat.le_of_ble_eq_true rfl) (fun K C => ?_)
  show xr_j l G K 4 h [(0, .ref (G.2.2.1 a0)), (1, .int a1), (2, .int a2), (3, .int a3)] 0 []
  unfold fX3_isPointOf at hF
  refine xr_aload_n C 0 dX3_isPointOf_0 rfl rfl ?_
  refine xr_getr C flX3_11 rfl (by decide) dX3_isPointOf_1 ta0 (fun t1 => ?_)
  refine xr_iload_n C 1 dX3_isPointOf_4 rfl rfl ?_
  obtain ⟨g5, hF⟩ := fx_gE hF
  refine xr_iald C dX3_isPointOf_5 t1 g5 ?_
  refine xr_iload_n C 2 dX3_isPointOf_6 rfl rfl ?_
  refine xr_icmp_ne C 34 dX3_isPointOf_7 (by decide) (fun c7 => ?_) (fun c7 => ?_)
  · have hF := fx_neg hF c7
    refine xr_iconst (v := 0) C dX3_isPointOf_34 (by decide) ?_
    cases hF
    exact xr_zret C rfl dX3_isPointOf_35
  · have hF := fx_pos hF c7
    refine xr_aload_n C 0 dX3_isPointOf_10 rfl rfl ?_
    refine xr_getr C flX3_15 rfl (by decide) dX3_isPointOf_11 ta0 (fun t11 => ?_)
    refine xr_iload_n C 1 dX3_isPointOf_14 rfl rfl ?_
    obtain ⟨g15, hF⟩ := fx_gE hF
    refine xr_iald C dX3_isPointOf_15 t11 g15 ?_
    refine xr_iload_n C 2 dX3_isPointOf_16 rfl rfl ?_
    refine xr_icmp_ne C 34 dX3_isPointOf_17 (by decide) (fun c17 => ?_) (fun c17 => ?_)
    · have hF := fx_neg hF c17
      refine xr_iconst (v := 0) C dX3_isPointOf_34 (by decide) ?_
      cases hF
      exact xr_zret C rfl dX3_isPointOf_35
    · have hF := fx_pos hF c17
      refine xr_aload_n C 0 dX3_isPointOf_20 rfl rfl ?_
      refine xr_getr C flX3_18 rfl (by decide) dX3_isPointOf_21 ta0 (fun t21 => ?_)
      refine xr_iload_n C 1 dX3_isPointOf_24 rfl rfl ?_
      obtain ⟨g25, hF⟩ := fx_gE hF
      refine xr_iald C dX3_isPointOf_25 t21 g25 ?_
      refine xr_iload_n C 3 dX3_isPointOf_26 rfl rfl ?_
      refine xr_icmp_ne C 34 dX3_isPointOf_27 (by decide) (fun c27 => ?_) (fun c27 => ?_)
      · have hF := fx_neg hF c27
        refine xr_iconst (v := 0) C dX3_isPointOf_34 (by decide) ?_
        cases hF
        exact xr_zret C rfl dX3_isPointOf_35
      · have hF := fx_pos hF c27
        refine xr_iconst (v := 1) C dX3_isPointOf_30 (by decide) ?_
        refine xr_goto C 35 dX3_isPointOf_31 (by decide) ?_
        cases hF
        exact xr_zret C rfl dX3_isPointOf_35
theorem dX3_pointsOf_0 : decode cX3_pointsOf 0 = .ok (.iconst 0, 1) := by decide +kernel
theorem dX3_pointsOf_1 : decode cX3_pointsOf 1 = .ok (.istore 4, 2) := by decide +kernel
theorem dX3_pointsOf_3 : decode cX3_pointsOf 3 = .ok (.iconst 0, 1) := by decide +kernel
theorem dX3_pointsOf_4 : decode cX3_pointsOf 4 = .ok (.istore 5, 2) := by decide +kernel
theorem dX3_pointsOf_6 : decode cX3_pointsOf 6 = .ok (.iload 5, 2) := by decide +kernel
theorem dX3_pointsOf_8 : decode cX3_pointsOf 8 = .ok (.iload_n 1, 1) := by decide +kernel
theorem dX3_pointsOf_9 : decode cX3_pointsOf 9 = .ok (.if_icmp .ge 30, 3) := by decide +kernel
theorem dX3_pointsOf_12 : decode cX3_pointsOf 12 = .ok (.iload 5, 2) := by decide +kernel
theorem dX3_pointsOf_14 : decode cX3_pointsOf 14 = .ok (.bipush 49, 2) := by decide +kernel
theorem dX3_pointsOf_16 : decode cX3_pointsOf 16 = .ok (.if_icmp .ge 23, 3) := by decide +kernel
theorem dX3_pointsOf_19 : decode cX3_pointsOf 19 = .ok (.aload_n 0, 1) := by decide +kernel
theorem dX3_pointsOf_20 : decode cX3_pointsOf 20 = .ok (.iload 5, 2) := by decide +kernel
theorem dX3_pointsOf_22 : decode cX3_pointsOf 22 = .ok (.iload_n 2, 1) := by decide +kernel
theorem dX3_pointsOf_23 : decode cX3_pointsOf 23 = .ok (.iload_n 3, 1) := by decide +kernel
theorem dX3_pointsOf_24 : decode cX3_pointsOf 24 = .ok (.invokevirtual 21, 3) := by decide +kernel
theorem dX3_pointsOf_27 : decode cX3_pointsOf 27 = .ok (.ifCond .eq 6, 3) := by decide +kernel
theorem dX3_pointsOf_30 : decode cX3_pointsOf 30 = .ok (.iinc 4 1, 3) := by decide +kernel
theorem dX3_pointsOf_33 : decode cX3_pointsOf 33 = .ok (.iinc 5 1, 3) := by decide +kernel
theorem dX3_pointsOf_36 : decode cX3_pointsOf 36 = .ok (.goto (-30), 3) := by decide +kernel
theorem dX3_pointsOf_39 : decode cX3_pointsOf 39 = .ok (.iload 4, 2) := by decide +kernel
theorem dX3_pointsOf_41 : decode cX3_pointsOf 41 = .ok (.ireturn, 1) := by decide +kernel
def fX3_pointsOf_33 (k6 : Nat → Int32 → Int32 → Int32 → Int32 → Int32 → hp_T → Option (Int32 × hp_T)) (a0 : Nat) (a1 : Int32) (a2 : Int32) (a3 : Int32) (a4 : Int32) (a5 : Int32) (h : hp_T) : Option (Int32 × hp_T) := fx_let (a5 + (1 : Int32)) fun (x33 : Int32) => k6 a0 a1 a2 a3 a4 x33 h
set_option maxRecDepth 100000 in
set_option maxHeartbeats 4000000 in
theorem bX3_pointsOf_33 {l : Launch} {G : xr_G} {K : xr_K} {r : Int32} {h1 : hp_T} (C : xr_C G K cX3_pointsOf RX3 6 (xr_R 1 23) (some .int) (some (xr_Qi G r h1))) (k6 : Nat → Int32 → Int32 → Int32 → Int32 → Int32 → hp_T → Option (Int32 × hp_T)) (j6 : ∀ (a0 : Nat) (a1 : Int32) (a2 : Int32) (a3 : Int32) (a4 : Int32) (a5 : Int32) (ta0 : hp_sh a0 = (3, 0)) (h : hp_T), k6 a0 a1 a2 a3 a4 a5 h = some (r, h1) → xr_j l G K 6 h [(0, .ref (G.2.2.1 a0)), (1, .int a1), (2, .int a2), (3, .int a3), (4, .int a4), (5, .int a5)] 6 []) (a0 : Nat) (a1 : Int32) (a2 : Int32) (a3 : Int32) (a4 : Int32) (a5 : Int32) (ta0 : hp_sh a0 = (3, 0)) (h : hp_T) (hF : fX3_pointsOf_33 k6 a0 a1 a2 a3 a4 a5 h = some (r, h1)) : xr_j l G K 6 h [(0, .ref (G.2.2.1 a0)), (1, .int a1), (2, .int a2), (3, .int a3), (4, .int a4), (5, .int a5)] 33 [] := by
  unfold fX3_pointsOf_33 at hF
  obtain ⟨x33, e33⟩ : ∃ y : Int32, y = (a5 + (1 : Int32)) := ⟨_, rfl⟩
  have hF := fx_letE hF x33 e33
  refine xr_iinc C x33 5 [(5, .int x33), (0, .ref (G.2.2.1 a0)), (1, .int a1), (2, .int a2), (3, .int a3), (4, .int a4)] dX3_pointsOf_33 rfl (by rw [e33]; rfl) (Nat.le_of_ble_eq_true rfl) rfl ?_
  refine xr_goto C 6 dX3_pointsOf_36 (by decide) ?_
  refine xr_sub [1, 2, 3, 4, 5, 0] [(0, .ref (G.2.2.1 a0)), (1, .int a1), (2, .int a2), (3, .int a3), (4, .int a4), (5, .int x33)] rfl ?_
  exact j6 a0 a1 a2 a3 a4 x33 ta0 h hF
def fX3_pointsOf_6  : Nat → Nat → Int32 → Int32 → Int32 → Int32 → Int32 → hp_T → Option (Int32 × hp_T)
  | 0, _, _, _, _, _, _, _ => none
  | n + 1, a0, a1, a2, a3, a4, a5, h => if a1 ≤ a5 then (some (a4, h)) else (if (49 : Int32) ≤ a5 then (some (a4, h)) else (fx_b2 (fX3_isPointOf a0 a5 a2 a3 h) fun (r24 : Int32) (h24 : hp_T) => if r24 = 0 then (fX3_pointsOf_33 (fX3_pointsOf_6 n) a0 a1 a2 a3 a4 a5 h24) else (fx_let (a4 + (1 : Int32)) fun (x30 : Int32) => fX3_pointsOf_33 (fX3_pointsOf_6 n) a0 a1 a2 a3 x30 a5 h24)))
set_option maxRecDepth 100000 in
set_option maxHeartbeats 4000000 in
theorem bX3_pointsOf_6 {l : Launch} {G : xr_G} {K : xr_K} {r : Int32} {h1 : hp_T} (C : xr_C G K cX3_pointsOf RX3 6 (xr_R 1 23) (some .int) (some (xr_Qi G r h1)))  : ∀ (n : Nat) (a0 : Nat) (a1 : Int32) (a2 : Int32) (a3 : Int32) (a4 : Int32) (a5 : Int32) (ta0 : hp_sh a0 = (3, 0)) (h : hp_T), fX3_pointsOf_6 n a0 a1 a2 a3 a4 a5 h = some (r, h1) → xr_j l G K 6 h [(0, .ref (G.2.2.1 a0)), (1, .int a1), (2, .int a2), (3, .int a3), (4, .int a4), (5, .int a5)] 6 [] := by
  intro n
  induction n with
  | zero =>
    intro a0 a1 a2 a3 a4 a5 ta0 h hF
    cases hF
  | succ n ih =>
    intro a0 a1 a2 a3 a4 a5 ta0 h hF
    rw [fX3_pointsOf_6] at hF
    refine xr_iload C 5 dX3_pointsOf_6 rfl ?_
    refine xr_iload_n C 1 dX3_pointsOf_8 rfl rfl ?_
    refine xr_icmp_ge C 39 dX3_pointsOf_9 (by decide) (fun c9 => ?_) (fun c9 => ?_)
    · have hF := fx_pos hF c9
      refine xr_iload C 4 dX3_pointsOf_39 rfl ?_
      cases hF
      exact xr_iret C dX3_pointsOf_41
    · have hF := fx_neg hF c9
      refine xr_iload C 5 dX3_pointsOf_12 rfl ?_
      refine xr_bipush (v := 49) C dX3_pointsOf_14 (by decide) ?_
      refine xr_icmp_ge C 39 dX3_pointsOf_16 (by decide) (fun c16 => ?_) (fun c16 => ?_)
      · have hF := fx_pos hF c16
        refine xr_iload C 4 dX3_pointsOf_39 rfl ?_
        cases hF
        exact xr_iret C dX3_pointsOf_41
      · have hF := fx_neg hF c16
        refine xr_aload_n C 0 dX3_pointsOf_19 rfl rfl ?_
        refine xr_iload C 5 dX3_pointsOf_20 rfl ?_
        refine xr_iload_n C 2 dX3_pointsOf_22 rfl rfl ?_
        refine xr_iload_n C 3 dX3_pointsOf_23 rfl rfl ?_
        obtain ⟨r24, h24, e24, hF⟩ := fx_b2E hF
        refine xr_callVi C mvX3_21 [.int a5, .int a2, .int a3] [] (mX3_isPointOf l G a0 a5 a2 a3 ta0 h h24 r24 e24) ta0 (by decide) vc3 rfl ⟨rfl, rfl, (Nat.le_of_ble_eq_true rfl), (Nat.le_of_ble_eq_true rfl)⟩ rfl (Nat.le_of_ble_eq_true rfl) dX3_pointsOf_24 ?_
        refine xr_if_eq C 33 dX3_pointsOf_27 (by decide) (fun c27 => ?_) (fun c27 => ?_)
        · have hF := fx_pos hF c27
          exact bX3_pointsOf_33 C (fX3_pointsOf_6 n) (fun a0 a1 a2 a3 a4 a5 ta0 h hF => ih a0 a1 a2 a3 a4 a5 ta0 h hF)  a0 a1 a2 a3 a4 a5 ta0 h24 hF
        · have hF := fx_neg hF c27
          obtain ⟨x30, e30⟩ : ∃ y : Int32, y = (a4 + (1 : Int32)) := ⟨_, rfl⟩
          have hF := fx_letE hF x30 e30
          refine xr_iinc C x30 4 [(4, .int x30), (0, .ref (G.2.2.1 a0)), (1, .int a1), (2, .int a2), (3, .int a3), (5, .int a5)] dX3_pointsOf_30 rfl (by rw [e30]; rfl) (Nat.le_of_ble_eq_true rfl) rfl ?_
          refine xr_sub [1, 2, 3, 4, 0, 5] [(0, .ref (G.2.2.1 a0)), (1, .int a1), (2, .int a2), (3, .int a3), (4, .int x30), (5, .int a5)] rfl ?_
          exact bX3_pointsOf_33 C (fX3_pointsOf_6 n) (fun a0 a1 a2 a3 a4 a5 ta0 h hF => ih a0 a1 a2 a3 a4 a5 ta0 h hF)  a0 a1 a2 a3 x30 a5 ta0 h24 hF
def fX3_pointsOf (a0 : Nat) (a1 : Int32) (a2 : Int32) (a3 : Int32) (h : hp_T) : Option (Int32 × hp_T) := fX3_pointsOf_6 fx_N a0 a1 a2 a3 (0 : Int32) (0 : Int32) h
set_option maxRecDepth 100000 in
set_option maxHeartbeats 4000000 in
theorem mX3_pointsOf (l : Launch) (G : xr_G) (a0 : Nat) (a1 : Int32) (a2 : Int32) (a3 : Int32) (ta0 : hp_sh a0 = (3, 0)) (h h1 : hp_T) (r : Int32) (hF : fX3_pointsOf a0 a1 a2 a3 h = some (r, h1)) : xr_M l G yX3_pointsOf cX3_pointsOf 6 (xr_R 1 23) (some .int) [.ref (G.2.2.1 a0), .int a1, .int a2, .int a3] h (xr_Qi G r h1) := by
  refine xr_start rfl (Nat.le_of_ble_eq_true rfl) (fun K C => ?_)
  show xr_j l G K 6 h [(0, .ref (G.2.2.1 a0)), (1, .int a1), (2, .int a2), (3, .int a3)] 0 []
  unfold fX3_pointsOf at hF
  refine xr_iconst (v := 0) C dX3_pointsOf_0 (by decide) ?_
  refine xr_istore C [(4, .int (0 : Int32)), (0, .ref (G.2.2.1 a0)), (1, .int a1), (2, .int a2), (3, .int a3)] dX3_pointsOf_1 (Nat.le_of_ble_eq_true rfl) rfl ?_
  refine xr_iconst (v := 0) C dX3_pointsOf_3 (by decide) ?_
  refine xr_istore C [(5, .int (0 : Int32)), (4, .int (0 : Int32)), (0, .ref (G.2.2.1 a0)), (1, .int a1), (2, .int a2), (3, .int a3)] dX3_pointsOf_4 (Nat.le_of_ble_eq_true rfl) rfl ?_
  refine xr_sub [2, 3, 4, 5, 1, 0] [(0, .ref (G.2.2.1 a0)), (1, .int a1), (2, .int a2), (3, .int a3), (4, .int (0 : Int32)), (5, .int (0 : Int32))] rfl ?_
  exact bX3_pointsOf_6 C  fx_N a0 a1 a2 a3 (0 : Int32) (0 : Int32) ta0 h hF
theorem dX3_runUpTo_0 : decode cX3_runUpTo 0 = .ok (.iconst 0, 1) := by decide +kernel
theorem dX3_runUpTo_1 : decode cX3_runUpTo 1 = .ok (.istore 4, 2) := by decide +kernel
theorem dX3_runUpTo_3 : decode cX3_runUpTo 3 = .ok (.iload_n 1, 1) := by decide +kernel
theorem dX3_runUpTo_4 : decode cX3_runUpTo 4 = .ok (.bipush 49, 2) := by decide +kernel
theorem dX3_runUpTo_6 : decode cX3_runUpTo 6 = .ok (.invokestatic 25, 3) := by decide +kernel
theorem dX3_runUpTo_9 : decode cX3_runUpTo 9 = .ok (.iconst 1, 1) := by decide +kernel
theorem dX3_runUpTo_10 : decode cX3_runUpTo 10 = .ok (.isub, 1) := by decide +kernel
theorem dX3_runUpTo_11 : decode cX3_runUpTo 11 = .ok (.istore 5, 2) := by decide +kernel
theorem dX3_runUpTo_13 : decode cX3_runUpTo 13 = .ok (.iload 5, 2) := by decide +kernel
theorem dX3_runUpTo_15 : decode cX3_runUpTo 15 = .ok (.ifCond .lt 23, 3) := by decide +kernel
theorem dX3_runUpTo_18 : decode cX3_runUpTo 18 = .ok (.aload_n 0, 1) := by decide +kernel
theorem dX3_runUpTo_19 : decode cX3_runUpTo 19 = .ok (.iload 5, 2) := by decide +kernel
theorem dX3_runUpTo_21 : decode cX3_runUpTo 21 = .ok (.iload_n 2, 1) := by decide +kernel
theorem dX3_runUpTo_22 : decode cX3_runUpTo 22 = .ok (.iload_n 3, 1) := by decide +kernel
theorem dX3_runUpTo_23 : decode cX3_runUpTo 23 = .ok (.invokevirtual 21, 3) := by decide +kernel
theorem dX3_runUpTo_26 : decode cX3_runUpTo 26 = .ok (.ifCond .eq 12, 3) := by decide +kernel
theorem dX3_runUpTo_29 : decode cX3_runUpTo 29 = .ok (.iinc 4 1, 3) := by decide +kernel
theorem dX3_runUpTo_32 : decode cX3_runUpTo 32 = .ok (.iinc 5 (-1), 3) := by decide +kernel
theorem dX3_runUpTo_35 : decode cX3_runUpTo 35 = .ok (.goto (-22), 3) := by decide +kernel
theorem dX3_runUpTo_38 : decode cX3_runUpTo 38 = .ok (.iload 4, 2) := by decide +kernel
theorem dX3_runUpTo_40 : decode cX3_runUpTo 40 = .ok (.ireturn, 1) := by decide +kernel
def fX3_runUpTo_13  : Nat → Nat → Int32 → Int32 → Int32 → Int32 → hp_T → Option (Int32 × hp_T)
  | 0, _, _, _, _, _, _ => none
  | n + 1, a0, a2, a3, a4, a5, h => if a5 < 0 then (some (a4, h)) else (fx_b2 (fX3_isPointOf a0 a5 a2 a3 h) fun (r23 : Int32) (h23 : hp_T) => if r23 = 0 then (some (a4, h23)) else (fx_let (a4 + (1 : Int32)) fun (x29 : Int32) => fx_let (a5 + (-1 : Int32)) fun (x32 : Int32) => fX3_runUpTo_13 n a0 a2 a3 x29 x32 h23))
set_option maxRecDepth 100000 in
set_option maxHeartbeats 4000000 in
theorem bX3_runUpTo_13 {l : Launch} {G : xr_G} {K : xr_K} {r : Int32} {h1 : hp_T} (C : xr_C G K cX3_runUpTo RX3 6 (xr_R 1 60) (some .int) (some (xr_Qi G r h1)))  : ∀ (n : Nat) (a0 : Nat) (a2 : Int32) (a3 : Int32) (a4 : Int32) (a5 : Int32) (ta0 : hp_sh a0 = (3, 0)) (h : hp_T), fX3_runUpTo_13 n a0 a2 a3 a4 a5 h = some (r, h1) → xr_j l G K 6 h [(0, .ref (G.2.2.1 a0)), (2, .int a2), (3, .int a3), (4, .int a4), (5, .int a5)] 13 [] := by
  intro n
  induction n with
  | zero =>
    intro a0 a2 a3 a4 a5 ta0 h hF
    cases hF
  | succ n ih =>
    intro a0 a2 a3 a4 a5 ta0 h hF
    rw [fX3_runUpTo_13] at hF
    refine xr_iload C 4 dX3_runUpTo_13 rfl ?_
    refine xr_if_lt C 38 dX3_runUpTo_15 (by decide) (fun c15 => ?_) (fun c15 => ?_)
    · have hF := fx_pos hF c15
      refine xr_iload C 3 dX3_runUpTo_38 rfl ?_
      cases hF
      exact xr_iret C dX3_runUpTo_40
    · have hF := fx_neg hF c15
      refine xr_aload_n C 0 dX3_runUpTo_18 rfl rfl ?_
      refine xr_iload C 4 dX3_runUpTo_19 rfl ?_
      refine xr_iload_n C 1 dX3_runUpTo_21 rfl rfl ?_
      refine xr_iload_n C 2 dX3_runUpTo_22 rfl rfl ?_
      obtain ⟨r23, h23, e23, hF⟩ := fx_b2E hF
      refine xr_callVi C mvX3_21 [.int a5, .int a2, .int a3] [] (mX3_isPointOf l G a0 a5 a2 a3 ta0 h h23 r23 e23) ta0 (by decide) vc3 rfl ⟨rfl, rfl, (Nat.le_of_ble_eq_true rfl), (Nat.le_of_ble_eq_true rfl)⟩ rfl (Nat.le_of_ble_eq_true rfl) dX3_runUpTo_23 ?_
      refine xr_if_eq C 38 dX3_runUpTo_26 (by decide) (fun c26 => ?_) (fun c26 => ?_)
      · have hF := fx_pos hF c26
        refine xr_iload C 3 dX3_runUpTo_38 rfl ?_
        cases hF
        exact xr_iret C dX3_runUpTo_40
      · have hF := fx_neg hF c26
        obtain ⟨x29, e29⟩ : ∃ y : Int32, y = (a4 + (1 : Int32)) := ⟨_, rfl⟩
        have hF := fx_letE hF x29 e29
        refine xr_iinc C x29 3 [(4, .int x29), (0, .ref (G.2.2.1 a0)), (2, .int a2), (3, .int a3), (5, .int a5)] dX3_runUpTo_29 rfl (by rw [e29]; rfl) (Nat.le_of_ble_eq_true rfl) rfl ?_
        obtain ⟨x32, e32⟩ : ∃ y : Int32, y = (a5 + (-1 : Int32)) := ⟨_, rfl⟩
        have hF := fx_letE hF x32 e32
        refine xr_iinc C x32 4 [(5, .int x32), (4, .int x29), (0, .ref (G.2.2.1 a0)), (2, .int a2), (3, .int a3)] dX3_runUpTo_32 rfl (by rw [e32]; rfl) (Nat.le_of_ble_eq_true rfl) rfl ?_
        refine xr_goto C 13 dX3_runUpTo_35 (by decide) ?_
        refine xr_sub [2, 3, 4, 1, 0] [(0, .ref (G.2.2.1 a0)), (2, .int a2), (3, .int a3), (4, .int x29), (5, .int x32)] rfl ?_
        exact ih a0 a2 a3 x29 x32 ta0 h23 hF
def fX3_runUpTo (a0 : Nat) (a1 : Int32) (a2 : Int32) (a3 : Int32) (h : hp_T) : Option (Int32 × hp_T) := fx_let ((fx_min a1 (49 : Int32)) - (1 : Int32)) fun (x11 : Int32) => fX3_runUpTo_13 fx_N a0 a2 a3 (0 : Int32) x11 h
set_option maxRecDepth 100000 in
set_option maxHeartbeats 4000000 in
theorem mX3_runUpTo (l : Launch) (G : xr_G) (a0 : Nat) (a1 : Int32) (a2 : Int32) (a3 : Int32) (ta0 : hp_sh a0 = (3, 0)) (h h1 : hp_T) (r : Int32) (hF : fX3_runUpTo a0 a1 a2 a3 h = some (r, h1)) : xr_M l G yX3_runUpTo cX3_runUpTo 6 (xr_R 1 60) (some .int) [.ref (G.2.2.1 a0), .int a1, .int a2, .int a3] h (xr_Qi G r h1) := by
  refine xr_start rfl (Nat.le_of_ble_eq_true rfl) (fun K C => ?_)
  show xr_j l G K 6 h [(0, .ref (G.2.2.1 a0)), (1, .int a1), (2, .int a2), (3, .int a3)] 0 []
  unfold fX3_runUpTo at hF
  refine xr_iconst (v := 0) C dX3_runUpTo_0 (by decide) ?_
  refine xr_istore C [(4, .int (0 : Int32)), (0, .ref (G.2.2.1 a0)), (1, .int a1), (2, .int a2), (3, .int a3)] dX3_runUpTo_1 (Nat.le_of_ble_eq_true rfl) rfl ?_
  refine xr_iload_n C 2 dX3_runUpTo_3 rfl rfl ?_
  refine xr_bipush (v := 49) C dX3_runUpTo_4 (by decide) ?_
  refine xr_mmin C mmX3_25 (Nat.le_of_ble_eq_true rfl) (Nat.le_of_ble_eq_true rfl) dX3_runUpTo_6 ?_
  refine xr_iconst (v := 1) C dX3_runUpTo_9 (by decide) ?_
  refine xr_isub C dX3_runUpTo_10 ?_
  refine xr_topi (fun x11 e11 => ?_)
  have hF := fx_letE hF x11 e11
  refine xr_istore C [(5, .int x11), (4, .int (0 : Int32)), (0, .ref (G.2.2.1 a0)), (1, .int a1), (2, .int a2), (3, .int a3)] dX3_runUpTo_11 (Nat.le_of_ble_eq_true rfl) rfl ?_
  refine xr_sub [2, 4, 5, 1, 0] [(0, .ref (G.2.2.1 a0)), (2, .int a2), (3, .int a3), (4, .int (0 : Int32)), (5, .int x11)] rfl ?_
  exact bX3_runUpTo_13 C  fx_N a0 a2 a3 (0 : Int32) x11 ta0 h hF
theorem dX3_offerRuns_0 : decode cX3_offerRuns 0 = .ok (.iconst 0, 1) := by decide +kernel
theorem dX3_offerRuns_1 : decode cX3_offerRuns 1 = .ok (.istore_n 3, 1) := by decide +kernel
theorem dX3_offerRuns_2 : decode cX3_offerRuns 2 = .ok (.iload_n 3, 1) := by decide +kernel
theorem dX3_offerRuns_3 : decode cX3_offerRuns 3 = .ok (.iload_n 1, 1) := by decide +kernel
theorem dX3_offerRuns_4 : decode cX3_offerRuns 4 = .ok (.if_icmp .ge 60, 3) := by decide +kernel
theorem dX3_offerRuns_7 : decode cX3_offerRuns 7 = .ok (.iload_n 3, 1) := by decide +kernel
theorem dX3_offerRuns_8 : decode cX3_offerRuns 8 = .ok (.bipush 49, 2) := by decide +kernel
theorem dX3_offerRuns_10 : decode cX3_offerRuns 10 = .ok (.if_icmp .ge 54, 3) := by decide +kernel
theorem dX3_offerRuns_13 : decode cX3_offerRuns 13 = .ok (.aload_n 0, 1) := by decide +kernel
theorem dX3_offerRuns_14 : decode cX3_offerRuns 14 = .ok (.iload_n 3, 1) := by decide +kernel
theorem dX3_offerRuns_15 : decode cX3_offerRuns 15 = .ok (.iconst 1, 1) := by decide +kernel
theorem dX3_offerRuns_16 : decode cX3_offerRuns 16 = .ok (.iadd, 1) := by decide +kernel
theorem dX3_offerRuns_17 : decode cX3_offerRuns 17 = .ok (.aload_n 0, 1) := by decide +kernel
theorem dX3_offerRuns_18 : decode cX3_offerRuns 18 = .ok (.getfield 15, 3) := by decide +kernel
theorem dX3_offerRuns_21 : decode cX3_offerRuns 21 = .ok (.iload_n 3, 1) := by decide +kernel
theorem dX3_offerRuns_22 : decode cX3_offerRuns 22 = .ok (.iaload, 1) := by decide +kernel
theorem dX3_offerRuns_23 : decode cX3_offerRuns 23 = .ok (.aload_n 0, 1) := by decide +kernel
theorem dX3_offerRuns_24 : decode cX3_offerRuns 24 = .ok (.getfield 18, 3) := by decide +kernel
theorem dX3_offerRuns_27 : decode cX3_offerRuns 27 = .ok (.iload_n 3, 1) := by decide +kernel
theorem dX3_offerRuns_28 : decode cX3_offerRuns 28 = .ok (.iaload, 1) := by decide +kernel
theorem dX3_offerRuns_29 : decode cX3_offerRuns 29 = .ok (.invokevirtual 31, 3) := by decide +kernel
theorem dX3_offerRuns_32 : decode cX3_offerRuns 32 = .ok (.istore 4, 2) := by decide +kernel
theorem dX3_offerRuns_34 : decode cX3_offerRuns 34 = .ok (.iload 4, 2) := by decide +kernel
theorem dX3_offerRuns_36 : decode cX3_offerRuns 36 = .ok (.ifCond .le 22, 3) := by decide +kernel
theorem dX3_offerRuns_39 : decode cX3_offerRuns 39 = .ok (.aload_n 2, 1) := by decide +kernel
theorem dX3_offerRuns_40 : decode cX3_offerRuns 40 = .ok (.aload_n 0, 1) := by decide +kernel
theorem dX3_offerRuns_41 : decode cX3_offerRuns 41 = .ok (.getfield 18, 3) := by decide +kernel
theorem dX3_offerRuns_44 : decode cX3_offerRuns 44 = .ok (.iload_n 3, 1) := by decide +kernel
theorem dX3_offerRuns_45 : decode cX3_offerRuns 45 = .ok (.iaload, 1) := by decide +kernel
theorem dX3_offerRuns_46 : decode cX3_offerRuns 46 = .ok (.aload_n 0, 1) := by decide +kernel
theorem dX3_offerRuns_47 : decode cX3_offerRuns 47 = .ok (.getfield 15, 3) := by decide +kernel
theorem dX3_offerRuns_50 : decode cX3_offerRuns 50 = .ok (.iload_n 3, 1) := by decide +kernel
theorem dX3_offerRuns_51 : decode cX3_offerRuns 51 = .ok (.iaload, 1) := by decide +kernel
theorem dX3_offerRuns_52 : decode cX3_offerRuns 52 = .ok (.iload 4, 2) := by decide +kernel
theorem dX3_offerRuns_54 : decode cX3_offerRuns 54 = .ok (.iconst 1, 1) := by decide +kernel
theorem dX3_offerRuns_55 : decode cX3_offerRuns 55 = .ok (.invokevirtual 35, 3) := by decide +kernel
theorem dX3_offerRuns_58 : decode cX3_offerRuns 58 = .ok (.iinc 3 1, 3) := by decide +kernel
theorem dX3_offerRuns_61 : decode cX3_offerRuns 61 = .ok (.goto (-59), 3) := by decide +kernel
theorem dX3_offerRuns_64 : decode cX3_offerRuns 64 = .ok (.return_, 1) := by decide +kernel
def fX3_offerRuns_58 (k2 : Nat → Int32 → Nat → Int32 → hp_T → Option hp_T) (a0 : Nat) (a1 : Int32) (a2 : Nat) (a3 : Int32) (h : hp_T) : Option hp_T := fx_let (a3 + (1 : Int32)) fun (x58 : Int32) => k2 a0 a1 a2 x58 h
set_option maxRecDepth 100000 in
set_option maxHeartbeats 4000000 in
theorem bX3_offerRuns_58 {l : Launch} {G : xr_G} {K : xr_K} {h1 : hp_T} (C : xr_C G K cX3_offerRuns RX3 5 (xr_R 2 85) none (some (xr_Qv G h1))) (k2 : Nat → Int32 → Nat → Int32 → hp_T → Option hp_T) (j2 : ∀ (a0 : Nat) (a1 : Int32) (a2 : Nat) (a3 : Int32) (ta0 : hp_sh a0 = (3, 0)) (ta2 : hp_sh a2 = (0, 0)) (h : hp_T), k2 a0 a1 a2 a3 h = some h1 → xr_j l G K 5 h [(0, .ref (G.2.2.1 a0)), (1, .int a1), (2, .ref (G.2.2.1 a2)), (3, .int a3)] 2 []) (a0 : Nat) (a1 : Int32) (a2 : Nat) (a3 : Int32) (ta0 : hp_sh a0 = (3, 0)) (ta2 : hp_sh a2 = (0, 0)) (h : hp_T) (hF : fX3_offerRuns_58 k2 a0 a1 a2 a3 h = some h1) : xr_j l G K 5 h [(0, .ref (G.2.2.1 a0)), (1, .int a1), (2, .ref (G.2.2.1 a2)), (3, .int a3)] 58 [] := by
  unfold fX3_offerRuns_58 at hF
  obtain ⟨x58, e58⟩ : ∃ y : Int32, y = (a3 + (1 : Int32)) := ⟨_, rfl⟩
  have hF := fx_letE hF x58 e58
  refine xr_iinc C x58 3 [(3, .int x58), (0, .ref (G.2.2.1 a0)), (1, .int a1), (2, .ref (G.2.2.1 a2))] dX3_offerRuns_58 rfl (by rw [e58]; rfl) (Nat.le_of_ble_eq_true rfl) rfl ?_
  refine xr_goto C 2 dX3_offerRuns_61 (by decide) ?_
  refine xr_sub [1, 2, 3, 0] [(0, .ref (G.2.2.1 a0)), (1, .int a1), (2, .ref (G.2.2.1 a2)), (3, .int x58)] rfl ?_
  exact j2 a0 a1 a2 x58 ta0 ta2 h hF
def fX3_offerRuns_2  : Nat → Nat → Int32 → Nat → Int32 → hp_T → Option hp_T
  | 0, _, _, _, _, _ => none
  | n + 1, a0, a1, a2, a3, h => if a1 ≤ a3 then (some h) else (if (49 : Int32) ≤ a3 then (some h) else (fx_g (fx_in a3 49) (fx_g (fx_in a3 49) (fx_b2 (fX3_runUpTo a0 (a3 + (1 : Int32)) (h.1 (h.2.2 a0 1) (fx_ix a3)) (h.1 (h.2.2 a0 2) (fx_ix a3)) h) fun (r29 : Int32) (h29 : hp_T) => if r29 ≤ 0 then (fX3_offerRuns_58 (fX3_offerRuns_2 n) a0 a1 a2 a3 h29) else (fx_g (fx_in a3 49) (fx_g (fx_in a3 49) (fx_b1 (fX0_offer a2 (h29.1 (h29.2.2 a0 2) (fx_ix a3)) (h29.1 (h29.2.2 a0 1) (fx_ix a3)) r29 (1 : Int32) h29) fun (h55 : hp_T) => fX3_offerRuns_58 (fX3_offerRuns_2 n) a0 a1 a2 a3 h55)))))))
set_option maxRecDepth 100000 in
set_option maxHeartbeats 4000000 in
theorem bX3_offerRuns_2 {l : Launch} {G : xr_G} {K : xr_K} {h1 : hp_T} (C : xr_C G K cX3_offerRuns RX3 5 (xr_R 2 85) none (some (xr_Qv G h1)))  : ∀ (n : Nat) (a0 : Nat) (a1 : Int32) (a2 : Nat) (a3 : Int32) (ta0 : hp_sh a0 = (3, 0)) (ta2 : hp_sh a2 = (0, 0)) (h : hp_T), fX3_offerRuns_2 n a0 a1 a2 a3 h = some h1 → xr_j l G K 5 h [(0, .ref (G.2.2.1 a0)), (1, .int a1), (2, .ref (G.2.2.1 a2)), (3, .int a3)] 2 [] := by
  intro n
  induction n with
  | zero =>
    intro a0 a1 a2 a3 ta0 ta2 h hF
    cases hF
  | succ n ih =>
    intro a0 a1 a2 a3 ta0 ta2 h hF
    rw [fX3_offerRuns_2] at hF
    refine xr_iload_n C 3 dX3_offerRuns_2 rfl rfl ?_
    refine xr_iload_n C 1 dX3_offerRuns_3 rfl rfl ?_
    refine xr_icmp_ge C 64 dX3_offerRuns_4 (by decide) (fun c4 => ?_) (fun c4 => ?_)
    · have hF := fx_pos hF c4
      cases hF
      exact xr_vret C dX3_offerRuns_64
    · have hF := fx_neg hF c4
      refine xr_iload_n C 3 dX3_offerRuns_7 rfl rfl ?_
      refine xr_bipush (v := 49) C dX3_offerRuns_8 (by decide) ?_
      refine xr_icmp_ge C 64 dX3_offerRuns_10 (by decide) (fun c10 => ?_) (fun c10 => ?_)
      · have hF := fx_pos hF c10
        cases hF
        exact xr_vret C dX3_offerRuns_64
      · have hF := fx_neg hF c10
        refine xr_aload_n C 0 dX3_offerRuns_13 rfl rfl ?_
        refine xr_iload_n C 3 dX3_offerRuns_14 rfl rfl ?_
        refine xr_iconst (v := 1) C dX3_offerRuns_15 (by decide) ?_
        refine xr_iadd C dX3_offerRuns_16 ?_
        refine xr_aload_n C 0 dX3_offerRuns_17 rfl rfl ?_
        refine xr_getr C flX3_15 rfl (by decide) dX3_offerRuns_18 ta0 (fun t18 => ?_)
        refine xr_iload_n C 3 dX3_offerRuns_21 rfl rfl ?_
        obtain ⟨g22, hF⟩ := fx_gE hF
        refine xr_iald C dX3_offerRuns_22 t18 g22 ?_
        refine xr_aload_n C 0 dX3_offerRuns_23 rfl rfl ?_
        refine xr_getr C flX3_18 rfl (by decide) dX3_offerRuns_24 ta0 (fun t24 => ?_)
        refine xr_iload_n C 3 dX3_offerRuns_27 rfl rfl ?_
        obtain ⟨g28, hF⟩ := fx_gE hF
        refine xr_iald C dX3_offerRuns_28 t24 g28 ?_
        obtain ⟨r29, h29, e29, hF⟩ := fx_b2E hF
        refine xr_callVi C mvX3_31 [.int (a3 + (1 : Int32)), .int (h.1 (h.2.2 a0 1) (fx_ix a3)), .int (h.1 (h.2.2 a0 2) (fx_ix a3))] [] (mX3_runUpTo l G a0 (a3 + (1 : Int32)) (h.1 (h.2.2 a0 1) (fx_ix a3)) (h.1 (h.2.2 a0 2) (fx_ix a3)) ta0 h h29 r29 e29) ta0 (by decide) vc3 rfl ⟨rfl, rfl, (Nat.le_of_ble_eq_true rfl), (Nat.le_of_ble_eq_true rfl)⟩ rfl (Nat.le_of_ble_eq_true rfl) dX3_offerRuns_29 ?_
        refine xr_istore C [(4, .int r29), (0, .ref (G.2.2.1 a0)), (1, .int a1), (2, .ref (G.2.2.1 a2)), (3, .int a3)] dX3_offerRuns_32 (Nat.le_of_ble_eq_true rfl) rfl ?_
        refine xr_iload C 0 dX3_offerRuns_34 rfl ?_
        refine xr_if_le C 58 dX3_offerRuns_36 (by decide) (fun c36 => ?_) (fun c36 => ?_)
        · have hF := fx_pos hF c36
          refine xr_sub [1, 2, 3, 4] [(0, .ref (G.2.2.1 a0)), (1, .int a1), (2, .ref (G.2.2.1 a2)), (3, .int a3)] rfl ?_
          exact bX3_offerRuns_58 C (fX3_offerRuns_2 n) (fun a0 a1 a2 a3 ta0 ta2 h hF => ih a0 a1 a2 a3 ta0 ta2 h hF)  a0 a1 a2 a3 ta0 ta2 h29 hF
        · have hF := fx_neg hF c36
          refine xr_aload_n C 3 dX3_offerRuns_39 rfl rfl ?_
          refine xr_aload_n C 1 dX3_offerRuns_40 rfl rfl ?_
          refine xr_getr C flX3_18 rfl (by decide) dX3_offerRuns_41 ta0 (fun t41 => ?_)
          refine xr_iload_n C 4 dX3_offerRuns_44 rfl rfl ?_
          obtain ⟨g45, hF⟩ := fx_gE hF
          refine xr_iald C dX3_offerRuns_45 t41 g45 ?_
          refine xr_aload_n C 1 dX3_offerRuns_46 rfl rfl ?_
          refine xr_getr C flX3_15 rfl (by decide) dX3_offerRuns_47 ta0 (fun t47 => ?_)
          refine xr_iload_n C 4 dX3_offerRuns_50 rfl rfl ?_
          obtain ⟨g51, hF⟩ := fx_gE hF
          refine xr_iald C dX3_offerRuns_51 t47 g51 ?_
          refine xr_iload C 0 dX3_offerRuns_52 rfl ?_
          refine xr_iconst (v := 1) C dX3_offerRuns_54 (by decide) ?_
          obtain ⟨h55, e55, hF⟩ := fx_b1E hF
          refine xr_callVv C mvX3_35 [.int (h29.1 (h29.2.2 a0 2) (fx_ix a3)), .int (h29.1 (h29.2.2 a0 1) (fx_ix a3)), .int r29, .int (1 : Int32)] [] (mX0_offer l G a2 (h29.1 (h29.2.2 a0 2) (fx_ix a3)) (h29.1 (h29.2.2 a0 1) (fx_ix a3)) r29 (1 : Int32) ta2 h29 h55 e55) ta2 (by decide) vc0 rfl ⟨rfl, rfl, (Nat.le_of_ble_eq_true rfl), (Nat.le_of_ble_eq_true rfl)⟩ rfl (Nat.le_of_ble_eq_true rfl) dX3_offerRuns_55 ?_
          refine xr_sub [1, 2, 3, 4] [(0, .ref (G.2.2.1 a0)), (1, .int a1), (2, .ref (G.2.2.1 a2)), (3, .int a3)] rfl ?_
          exact bX3_offerRuns_58 C (fX3_offerRuns_2 n) (fun a0 a1 a2 a3 ta0 ta2 h hF => ih a0 a1 a2 a3 ta0 ta2 h hF)  a0 a1 a2 a3 ta0 ta2 h55 hF
def fX3_offerRuns (a0 : Nat) (a1 : Int32) (a2 : Nat) (h : hp_T) : Option hp_T := fX3_offerRuns_2 fx_N a0 a1 a2 (0 : Int32) h
set_option maxRecDepth 100000 in
set_option maxHeartbeats 4000000 in
theorem mX3_offerRuns (l : Launch) (G : xr_G) (a0 : Nat) (a1 : Int32) (a2 : Nat) (ta0 : hp_sh a0 = (3, 0)) (ta2 : hp_sh a2 = (0, 0)) (h h1 : hp_T) (hF : fX3_offerRuns a0 a1 a2 h = some h1) : xr_M l G yX3_offerRuns cX3_offerRuns 5 (xr_R 2 85) none [.ref (G.2.2.1 a0), .int a1, .ref (G.2.2.1 a2)] h (xr_Qv G h1) := by
  refine xr_start rfl (Nat.le_of_ble_eq_true rfl) (fun K C => ?_)
  show xr_j l G K 5 h [(0, .ref (G.2.2.1 a0)), (1, .int a1), (2, .ref (G.2.2.1 a2))] 0 []
  unfold fX3_offerRuns at hF
  refine xr_iconst (v := 0) C dX3_offerRuns_0 (by decide) ?_
  refine xr_istore_n C [(3, .int (0 : Int32)), (0, .ref (G.2.2.1 a0)), (1, .int a1), (2, .ref (G.2.2.1 a2))] dX3_offerRuns_1 rfl (Nat.le_of_ble_eq_true rfl) rfl ?_
  refine xr_sub [1, 2, 3, 0] [(0, .ref (G.2.2.1 a0)), (1, .int a1), (2, .ref (G.2.2.1 a2)), (3, .int (0 : Int32))] rfl ?_
  exact bX3_offerRuns_2 C  fx_N a0 a1 a2 (0 : Int32) ta0 ta2 h hF
theorem dX4_weigh_0 : decode cX4_weigh 0 = .ok (.aload_n 0, 1) := by decide +kernel
theorem dX4_weigh_1 : decode cX4_weigh 1 = .ok (.aload_n 1, 1) := by decide +kernel
theorem dX4_weigh_2 : decode cX4_weigh 2 = .ok (.getfield 41, 3) := by decide +kernel
theorem dX4_weigh_5 : decode cX4_weigh 5 = .ok (.putfield 47, 3) := by decide +kernel
theorem dX4_weigh_8 : decode cX4_weigh 8 = .ok (.aload_n 0, 1) := by decide +kernel
theorem dX4_weigh_9 : decode cX4_weigh 9 = .ok (.aload_n 1, 1) := by decide +kernel
theorem dX4_weigh_10 : decode cX4_weigh 10 = .ok (.getfield 48, 3) := by decide +kernel
theorem dX4_weigh_13 : decode cX4_weigh 13 = .ok (.putfield 51, 3) := by decide +kernel
theorem dX4_weigh_16 : decode cX4_weigh 16 = .ok (.aload_n 0, 1) := by decide +kernel
theorem dX4_weigh_17 : decode cX4_weigh 17 = .ok (.getfield 12, 3) := by decide +kernel
theorem dX4_weigh_20 : decode cX4_weigh 20 = .ok (.aload_n 1, 1) := by decide +kernel
theorem dX4_weigh_21 : decode cX4_weigh 21 = .ok (.getfield 52, 3) := by decide +kernel
theorem dX4_weigh_24 : decode cX4_weigh 24 = .ok (.aload_n 2, 1) := by decide +kernel
theorem dX4_weigh_25 : decode cX4_weigh 25 = .ok (.invokevirtual 55, 3) := by decide +kernel
theorem dX4_weigh_28 : decode cX4_weigh 28 = .ok (.aload_n 0, 1) := by decide +kernel
theorem dX4_weigh_29 : decode cX4_weigh 29 = .ok (.getfield 18, 3) := by decide +kernel
theorem dX4_weigh_32 : decode cX4_weigh 32 = .ok (.aload_n 1, 1) := by decide +kernel
theorem dX4_weigh_33 : decode cX4_weigh 33 = .ok (.getfield 59, 3) := by decide +kernel
theorem dX4_weigh_36 : decode cX4_weigh 36 = .ok (.aload_n 3, 1) := by decide +kernel
theorem dX4_weigh_37 : decode cX4_weigh 37 = .ok (.invokevirtual 55, 3) := by decide +kernel
theorem dX4_weigh_40 : decode cX4_weigh 40 = .ok (.return_, 1) := by decide +kernel
def fX4_weigh (a0 : Nat) (a1 : Nat) (a2 : Nat) (a3 : Nat) (h : hp_T) : Option hp_T := fx_let (hp_sI h a0 8 (h.1 a1 2)) fun (h5 : hp_T) => fx_let (hp_sI h5 a0 9 (h5.1 a1 4)) fun (h13 : hp_T) => fx_b1 (fX2_weigh (h13.2.2 a0 0) (h13.2.2 a1 0) a2 h13) fun (h25 : hp_T) => fx_b1 (fX2_weigh (h25.2.2 a0 1) (h25.2.2 a1 1) a3 h25) fun (h37 : hp_T) => some h37
set_option maxRecDepth 100000 in
set_option maxHeartbeats 4000000 in
theorem mX4_weigh (l : Launch) (G : xr_G) (a0 : Nat) (a1 : Nat) (a2 : Nat) (a3 : Nat) (ta0 : hp_sh a0 = (4, 0)) (ta1 : hp_sh a1 = (8, 0)) (ta2 : hp_sh a2 = (20, 6)) (ta3 : hp_sh a3 = (20, 6)) (h h1 : hp_T) (hF : fX4_weigh a0 a1 a2 a3 h = some h1) : xr_M l G yX4_weigh cX4_weigh 4 (xr_R 2 45) none [.ref (G.2.2.1 a0), .ref (G.2.2.1 a1), .ref (G.2.2.1 a2), .ref (G.2.2.1 a3)] h (xr_Qv G h1) := by
  refine xr_start rfl (Nat.le_of_ble_eq_true rfl) (fun K C => ?_)
  show xr_j l G K 4 h [(0, .ref (G.2.2.1 a0)), (1, .ref (G.2.2.1 a1)), (2, .ref (G.2.2.1 a2)), (3, .ref (G.2.2.1 a3))] 0 []
  unfold fX4_weigh at hF
  refine xr_aload_n C 0 dX4_weigh_0 rfl rfl ?_
  refine xr_aload_n C 1 dX4_weigh_1 rfl rfl ?_
  refine xr_geti C flX4_41 rfl dX4_weigh_2 ta1 ?_
  refine xr_puti C fpX4_47 rfl rfl rfl dX4_weigh_5 ta0 (fun h5 e5 => ?_)
  have hF := fx_letE hF h5 e5
  refine xr_aload_n C 0 dX4_weigh_8 rfl rfl ?_
  refine xr_aload_n C 1 dX4_weigh_9 rfl rfl ?_
  refine xr_geti C flX4_48 rfl dX4_weigh_10 ta1 ?_
  refine xr_puti C fpX4_51 rfl rfl rfl dX4_weigh_13 ta0 (fun h13 e13 => ?_)
  have hF := fx_letE hF h13 e13
  refine xr_aload_n C 0 dX4_weigh_16 rfl rfl ?_
  refine xr_getr C flX4_12 rfl (by decide) dX4_weigh_17 ta0 (fun t17 => ?_)
  refine xr_aload_n C 1 dX4_weigh_20 rfl rfl ?_
  refine xr_getr C flX4_52 rfl (by decide) dX4_weigh_21 ta1 (fun t21 => ?_)
  refine xr_aload_n C 2 dX4_weigh_24 rfl rfl ?_
  obtain ⟨h25, e25, hF⟩ := fx_b1E hF
  refine xr_callVv C mvX4_55 [.ref (G.2.2.1 (h13.2.2 a1 0)), .ref (G.2.2.1 a2)] [] (mX2_weigh l G (h13.2.2 a0 0) (h13.2.2 a1 0) a2 t17 t21 ta2 h13 h25 e25) t17 (by decide) vc2 rfl ⟨rfl, rfl, (Nat.le_of_ble_eq_true rfl), (Nat.le_of_ble_eq_true rfl)⟩ rfl (Nat.le_of_ble_eq_true rfl) dX4_weigh_25 ?_
  refine xr_aload_n C 0 dX4_weigh_28 rfl rfl ?_
  refine xr_getr C flX4_18 rfl (by decide) dX4_weigh_29 ta0 (fun t29 => ?_)
  refine xr_aload_n C 1 dX4_weigh_32 rfl rfl ?_
  refine xr_getr C flX4_59 rfl (by decide) dX4_weigh_33 ta1 (fun t33 => ?_)
  refine xr_aload_n C 3 dX4_weigh_36 rfl rfl ?_
  obtain ⟨h37, e37, hF⟩ := fx_b1E hF
  refine xr_callVv C mvX4_55 [.ref (G.2.2.1 (h25.2.2 a1 1)), .ref (G.2.2.1 a3)] [] (mX2_weigh l G (h25.2.2 a0 1) (h25.2.2 a1 1) a3 t29 t33 ta3 h25 h37 e37) t29 (by decide) vc2 rfl ⟨rfl, rfl, (Nat.le_of_ble_eq_true rfl), (Nat.le_of_ble_eq_true rfl)⟩ rfl (Nat.le_of_ble_eq_true rfl) dX4_weigh_37 ?_
  cases hF
  exact xr_vret C dX4_weigh_40
theorem dX4_force_0 : decode cX4_force 0 = .ok (.iload_n 1, 1) := by decide +kernel
theorem dX4_force_1 : decode cX4_force 1 = .ok (.ifCond .ne 10, 3) := by decide +kernel
theorem dX4_force_4 : decode cX4_force 4 = .ok (.aload_n 0, 1) := by decide +kernel
theorem dX4_force_5 : decode cX4_force 5 = .ok (.getfield 12, 3) := by decide +kernel
theorem dX4_force_8 : decode cX4_force 8 = .ok (.goto 7, 3) := by decide +kernel
theorem dX4_force_11 : decode cX4_force 11 = .ok (.aload_n 0, 1) := by decide +kernel
theorem dX4_force_12 : decode cX4_force 12 = .ok (.getfield 18, 3) := by decide +kernel
theorem dX4_force_15 : decode cX4_force 15 = .ok (.areturn, 1) := by decide +kernel
def fX4_force (a0 : Nat) (a1 : Int32) (h : hp_T) : Option (Nat × hp_T) := if a1 = 0 then (some ((h.2.2 a0 0), h)) else (some ((h.2.2 a0 1), h))
set_option maxRecDepth 100000 in
set_option maxHeartbeats 4000000 in
theorem mX4_force (l : Launch) (G : xr_G) (a0 : Nat) (a1 : Int32) (ta0 : hp_sh a0 = (4, 0)) (h h1 : hp_T) (r : Nat) (hF : fX4_force a0 a1 h = some (r, h1)) : xr_M l G yX4_force cX4_force 2 (xr_R 0 0) (some (.object "CourtSix$Force")) [.ref (G.2.2.1 a0), .int a1] h (xr_Qr G r (2, 0) h1) := by
  refine xr_start rfl (Nat.le_of_ble_eq_true rfl) (fun K C => ?_)
  show xr_j l G K 2 h [(0, .ref (G.2.2.1 a0)), (1, .int a1)] 0 []
  unfold fX4_force at hF
  refine xr_iload_n C 1 dX4_force_0 rfl rfl ?_
  refine xr_if_ne C 11 dX4_force_1 (by decide) (fun c1 => ?_) (fun c1 => ?_)
  · have hF := fx_neg hF c1
    refine xr_aload_n C 0 dX4_force_11 rfl rfl ?_
    refine xr_getr C flX4_18 rfl (by decide) dX4_force_12 ta0 (fun t12 => ?_)
    cases hF
    exact xr_aret C t12 (Or.inl ⟨_, rfl⟩) dX4_force_15
  · have hF := fx_pos hF c1
    refine xr_aload_n C 0 dX4_force_4 rfl rfl ?_
    refine xr_getr C flX4_12 rfl (by decide) dX4_force_5 ta0 (fun t5 => ?_)
    refine xr_goto C 15 dX4_force_8 (by decide) ?_
    cases hF
    exact xr_aret C t5 (Or.inl ⟨_, rfl⟩) dX4_force_15
theorem dX4_chanceOf_0 : decode cX4_chanceOf 0 = .ok (.aload_n 0, 1) := by decide +kernel
theorem dX4_chanceOf_1 : decode cX4_chanceOf 1 = .ok (.getfield 12, 3) := by decide +kernel
theorem dX4_chanceOf_4 : decode cX4_chanceOf 4 = .ok (.getfield 61, 3) := by decide +kernel
theorem dX4_chanceOf_7 : decode cX4_chanceOf 7 = .ok (.iload_n 1, 1) := by decide +kernel
theorem dX4_chanceOf_8 : decode cX4_chanceOf 8 = .ok (.iaload, 1) := by decide +kernel
theorem dX4_chanceOf_9 : decode cX4_chanceOf 9 = .ok (.aload_n 0, 1) := by decide +kernel
theorem dX4_chanceOf_10 : decode cX4_chanceOf 10 = .ok (.getfield 12, 3) := by decide +kernel
theorem dX4_chanceOf_13 : decode cX4_chanceOf 13 = .ok (.getfield 64, 3) := by decide +kernel
theorem dX4_chanceOf_16 : decode cX4_chanceOf 16 = .ok (.iload_n 1, 1) := by decide +kernel
theorem dX4_chanceOf_17 : decode cX4_chanceOf 17 = .ok (.iaload, 1) := by decide +kernel
theorem dX4_chanceOf_18 : decode cX4_chanceOf 18 = .ok (.iadd, 1) := by decide +kernel
theorem dX4_chanceOf_19 : decode cX4_chanceOf 19 = .ok (.aload_n 0, 1) := by decide +kernel
theorem dX4_chanceOf_20 : decode cX4_chanceOf 20 = .ok (.getfield 18, 3) := by decide +kernel
theorem dX4_chanceOf_23 : decode cX4_chanceOf 23 = .ok (.getfield 61, 3) := by decide +kernel
theorem dX4_chanceOf_26 : decode cX4_chanceOf 26 = .ok (.iload_n 2, 1) := by decide +kernel
theorem dX4_chanceOf_27 : decode cX4_chanceOf 27 = .ok (.iaload, 1) := by decide +kernel
theorem dX4_chanceOf_28 : decode cX4_chanceOf 28 = .ok (.isub, 1) := by decide +kernel
theorem dX4_chanceOf_29 : decode cX4_chanceOf 29 = .ok (.aload_n 0, 1) := by decide +kernel
theorem dX4_chanceOf_30 : decode cX4_chanceOf 30 = .ok (.getfield 18, 3) := by decide +kernel
theorem dX4_chanceOf_33 : decode cX4_chanceOf 33 = .ok (.getfield 64, 3) := by decide +kernel
theorem dX4_chanceOf_36 : decode cX4_chanceOf 36 = .ok (.iload_n 2, 1) := by decide +kernel
theorem dX4_chanceOf_37 : decode cX4_chanceOf 37 = .ok (.iaload, 1) := by decide +kernel
theorem dX4_chanceOf_38 : decode cX4_chanceOf 38 = .ok (.isub, 1) := by decide +kernel
theorem dX4_chanceOf_39 : decode cX4_chanceOf 39 = .ok (.istore 4, 2) := by decide +kernel
theorem dX4_chanceOf_41 : decode cX4_chanceOf 41 = .ok (.iload_n 3, 1) := by decide +kernel
theorem dX4_chanceOf_42 : decode cX4_chanceOf 42 = .ok (.ifCond .ne 22, 3) := by decide +kernel
theorem dX4_chanceOf_45 : decode cX4_chanceOf 45 = .ok (.sipush 500, 3) := by decide +kernel
theorem dX4_chanceOf_48 : decode cX4_chanceOf 48 = .ok (.iload 4, 2) := by decide +kernel
theorem dX4_chanceOf_50 : decode cX4_chanceOf 50 = .ok (.iadd, 1) := by decide +kernel
theorem dX4_chanceOf_51 : decode cX4_chanceOf 51 = .ok (.aload_n 0, 1) := by decide +kernel
theorem dX4_chanceOf_52 : decode cX4_chanceOf 52 = .ok (.getfield 12, 3) := by decide +kernel
theorem dX4_chanceOf_55 : decode cX4_chanceOf 55 = .ok (.getfield 67, 3) := by decide +kernel
theorem dX4_chanceOf_58 : decode cX4_chanceOf 58 = .ok (.iload_n 1, 1) := by decide +kernel
theorem dX4_chanceOf_59 : decode cX4_chanceOf 59 = .ok (.iaload, 1) := by decide +kernel
theorem dX4_chanceOf_60 : decode cX4_chanceOf 60 = .ok (.iadd, 1) := by decide +kernel
theorem dX4_chanceOf_61 : decode cX4_chanceOf 61 = .ok (.goto 19, 3) := by decide +kernel
theorem dX4_chanceOf_64 : decode cX4_chanceOf 64 = .ok (.sipush 500, 3) := by decide +kernel
theorem dX4_chanceOf_67 : decode cX4_chanceOf 67 = .ok (.iload 4, 2) := by decide +kernel
theorem dX4_chanceOf_69 : decode cX4_chanceOf 69 = .ok (.isub, 1) := by decide +kernel
theorem dX4_chanceOf_70 : decode cX4_chanceOf 70 = .ok (.aload_n 0, 1) := by decide +kernel
theorem dX4_chanceOf_71 : decode cX4_chanceOf 71 = .ok (.getfield 18, 3) := by decide +kernel
theorem dX4_chanceOf_74 : decode cX4_chanceOf 74 = .ok (.getfield 67, 3) := by decide +kernel
theorem dX4_chanceOf_77 : decode cX4_chanceOf 77 = .ok (.iload_n 2, 1) := by decide +kernel
theorem dX4_chanceOf_78 : decode cX4_chanceOf 78 = .ok (.iaload, 1) := by decide +kernel
theorem dX4_chanceOf_79 : decode cX4_chanceOf 79 = .ok (.iadd, 1) := by decide +kernel
theorem dX4_chanceOf_80 : decode cX4_chanceOf 80 = .ok (.istore 5, 2) := by decide +kernel
theorem dX4_chanceOf_82 : decode cX4_chanceOf 82 = .ok (.bipush 50, 2) := by decide +kernel
theorem dX4_chanceOf_84 : decode cX4_chanceOf 84 = .ok (.sipush 950, 3) := by decide +kernel
theorem dX4_chanceOf_87 : decode cX4_chanceOf 87 = .ok (.iload 5, 2) := by decide +kernel
theorem dX4_chanceOf_89 : decode cX4_chanceOf 89 = .ok (.aload_n 0, 1) := by decide +kernel
theorem dX4_chanceOf_90 : decode cX4_chanceOf 90 = .ok (.getfield 51, 3) := by decide +kernel
theorem dX4_chanceOf_93 : decode cX4_chanceOf 93 = .ok (.isub, 1) := by decide +kernel
theorem dX4_chanceOf_94 : decode cX4_chanceOf 94 = .ok (.invokestatic 70, 3) := by decide +kernel
theorem dX4_chanceOf_97 : decode cX4_chanceOf 97 = .ok (.invokestatic 76, 3) := by decide +kernel
theorem dX4_chanceOf_100 : decode cX4_chanceOf 100 = .ok (.ireturn, 1) := by decide +kernel
def fX4_chanceOf_80  (a0 : Nat) (s0 : Int32) (h : hp_T) : Option (Int32 × hp_T) := some ((fx_max (50 : Int32) (fx_min (950 : Int32) (s0 - (h.1 a0 9)))), h)
set_option maxRecDepth 100000 in
set_option maxHeartbeats 4000000 in
theorem bX4_chanceOf_80 {l : Launch} {G : xr_G} {K : xr_K} {r : Int32} {h1 : hp_T} (C : xr_C G K cX4_chanceOf RX4 6 (xr_R 1 60) (some .int) (some (xr_Qi G r h1)))  (a0 : Nat) (s0 : Int32) (ta0 : hp_sh a0 = (4, 0)) (h : hp_T) (hF : fX4_chanceOf_80 a0 s0 h = some (r, h1)) : xr_j l G K 6 h [(0, .ref (G.2.2.1 a0))] 80 [.int s0] := by
  unfold fX4_chanceOf_80 at hF
  refine xr_istore C [(5, .int s0), (0, .ref (G.2.2.1 a0))] dX4_chanceOf_80 (Nat.le_of_ble_eq_true rfl) rfl ?_
  refine xr_bipush (v := 50) C dX4_chanceOf_82 (by decide) ?_
  refine xr_sipush (v := 950) C dX4_chanceOf_84 (by decide) ?_
  refine xr_iload C 0 dX4_chanceOf_87 rfl ?_
  refine xr_aload_n C 1 dX4_chanceOf_89 rfl rfl ?_
  refine xr_geti C flX4_51 rfl dX4_chanceOf_90 ta0 ?_
  refine xr_isub C dX4_chanceOf_93 ?_
  refine xr_mmin C mmX4_70 (Nat.le_of_ble_eq_true rfl) (Nat.le_of_ble_eq_true rfl) dX4_chanceOf_94 ?_
  refine xr_mmax C mmX4_76 (Nat.le_of_ble_eq_true rfl) (Nat.le_of_ble_eq_true rfl) dX4_chanceOf_97 ?_
  cases hF
  exact xr_iret C dX4_chanceOf_100
def fX4_chanceOf (a0 : Nat) (a1 : Int32) (a2 : Int32) (a3 : Int32) (h : hp_T) : Option (Int32 × hp_T) := fx_g (fx_in a1 6) (fx_g (fx_in a1 6) (fx_g (fx_in a2 6) (fx_g (fx_in a2 6) (fx_let ((((h.1 (h.2.2 (h.2.2 a0 0) 1) (fx_ix a1)) + (h.1 (h.2.2 (h.2.2 a0 0) 2) (fx_ix a1))) - (h.1 (h.2.2 (h.2.2 a0 1) 1) (fx_ix a2))) - (h.1 (h.2.2 (h.2.2 a0 1) 2) (fx_ix a2))) fun (x39 : Int32) => if a3 = 0 then (fx_g (fx_in a1 6) (fX4_chanceOf_80 a0 (((500 : Int32) + x39) + (h.1 (h.2.2 (h.2.2 a0 0) 0) (fx_ix a1))) h)) else (fx_g (fx_in a2 6) (fX4_chanceOf_80 a0 (((500 : Int32) - x39) + (h.1 (h.2.2 (h.2.2 a0 1) 0) (fx_ix a2))) h))))))
set_option maxRecDepth 100000 in
set_option maxHeartbeats 4000000 in
theorem mX4_chanceOf (l : Launch) (G : xr_G) (a0 : Nat) (a1 : Int32) (a2 : Int32) (a3 : Int32) (ta0 : hp_sh a0 = (4, 0)) (h h1 : hp_T) (r : Int32) (hF : fX4_chanceOf a0 a1 a2 a3 h = some (r, h1)) : xr_M l G yX4_chanceOf cX4_chanceOf 6 (xr_R 1 60) (some .int) [.ref (G.2.2.1 a0), .int a1, .int a2, .int a3] h (xr_Qi G r h1) := by
  refine xr_start rfl (Nat.le_of_ble_eq_true rfl) (fun K C => ?_)
  show xr_j l G K 6 h [(0, .ref (G.2.2.1 a0)), (1, .int a1), (2, .int a2), (3, .int a3)] 0 []
  unfold fX4_chanceOf at hF
  refine xr_aload_n C 0 dX4_chanceOf_0 rfl rfl ?_
  refine xr_getr C flX4_12 rfl (by decide) dX4_chanceOf_1 ta0 (fun t1 => ?_)
  refine xr_getr C flX4_61 rfl (by decide) dX4_chanceOf_4 t1 (fun t4 => ?_)
  refine xr_iload_n C 1 dX4_chanceOf_7 rfl rfl ?_
  obtain ⟨g8, hF⟩ := fx_gE hF
  refine xr_iald C dX4_chanceOf_8 t4 g8 ?_
  refine xr_aload_n C 0 dX4_chanceOf_9 rfl rfl ?_
  refine xr_getr C flX4_12 rfl (by decide) dX4_chanceOf_10 ta0 (fun t10 => ?_)
  refine xr_getr C flX4_64 rfl (by decide) dX4_chanceOf_13 t10 (fun t13 => ?_)
  refine xr_iload_n C 1 dX4_chanceOf_16 rfl rfl ?_
  obtain ⟨g17, hF⟩ := fx_gE hF
  refine xr_iald C dX4_chanceOf_17 t13 g17 ?_
  refine xr_iadd C dX4_chanceOf_18 ?_
  refine xr_aload_n C 0 dX4_chanceOf_19 rfl rfl ?_
  refine xr_getr C flX4_18 rfl (by decide) dX4_chanceOf_20 ta0 (fun t20 => ?_)
  refine xr_getr C flX4_61 rfl (by decide) dX4_chanceOf_23 t20 (fun t23 => ?_)
  refine xr_iload_n C 2 dX4_chanceOf_26 rfl rfl ?_
  obtain ⟨g27, hF⟩ := fx_gE hF
  refine xr_iald C dX4_chanceOf_27 t23 g27 ?_
  refine xr_isub C dX4_chanceOf_28 ?_
  refine xr_aload_n C 0 dX4_chanceOf_29 rfl rfl ?_
  refine xr_getr C flX4_18 rfl (by decide) dX4_chanceOf_30 ta0 (fun t30 => ?_)
  refine xr_getr C flX4_64 rfl (by decide) dX4_chanceOf_33 t30 (fun t33 => ?_)
  refine xr_iload_n C 2 dX4_chanceOf_36 rfl rfl ?_
  obtain ⟨g37, hF⟩ := fx_gE hF
  refine xr_iald C dX4_chanceOf_37 t33 g37 ?_
  refine xr_isub C dX4_chanceOf_38 ?_
  refine xr_topi (fun x39 e39 => ?_)
  have hF := fx_letE hF x39 e39
  refine xr_istore C [(4, .int x39), (0, .ref (G.2.2.1 a0)), (1, .int a1), (2, .int a2), (3, .int a3)] dX4_chanceOf_39 (Nat.le_of_ble_eq_true rfl) rfl ?_
  refine xr_iload_n C 4 dX4_chanceOf_41 rfl rfl ?_
  refine xr_if_ne C 64 dX4_chanceOf_42 (by decide) (fun c42 => ?_) (fun c42 => ?_)
  · have hF := fx_neg hF c42
    refine xr_sipush (v := 500) C dX4_chanceOf_64 (by decide) ?_
    refine xr_iload C 0 dX4_chanceOf_67 rfl ?_
    refine xr_isub C dX4_chanceOf_69 ?_
    refine xr_aload_n C 1 dX4_chanceOf_70 rfl rfl ?_
    refine xr_getr C flX4_18 rfl (by decide) dX4_chanceOf_71 ta0 (fun t71 => ?_)
    refine xr_getr C flX4_67 rfl (by decide) dX4_chanceOf_74 t71 (fun t74 => ?_)
    refine xr_iload_n C 3 dX4_chanceOf_77 rfl rfl ?_
    obtain ⟨g78, hF⟩ := fx_gE hF
    refine xr_iald C dX4_chanceOf_78 t74 g78 ?_
    refine xr_iadd C dX4_chanceOf_79 ?_
    refine xr_sub [1] [(0, .ref (G.2.2.1 a0))] rfl ?_
    exact bX4_chanceOf_80 C   a0 (((500 : Int32) - x39) + (h.1 (h.2.2 (h.2.2 a0 1) 0) (fx_ix a2))) ta0 h hF
  · have hF := fx_pos hF c42
    refine xr_sipush (v := 500) C dX4_chanceOf_45 (by decide) ?_
    refine xr_iload C 0 dX4_chanceOf_48 rfl ?_
    refine xr_iadd C dX4_chanceOf_50 ?_
    refine xr_aload_n C 1 dX4_chanceOf_51 rfl rfl ?_
    refine xr_getr C flX4_12 rfl (by decide) dX4_chanceOf_52 ta0 (fun t52 => ?_)
    refine xr_getr C flX4_67 rfl (by decide) dX4_chanceOf_55 t52 (fun t55 => ?_)
    refine xr_iload_n C 2 dX4_chanceOf_58 rfl rfl ?_
    obtain ⟨g59, hF⟩ := fx_gE hF
    refine xr_iald C dX4_chanceOf_59 t55 g59 ?_
    refine xr_iadd C dX4_chanceOf_60 ?_
    refine xr_goto C 80 dX4_chanceOf_61 (by decide) ?_
    refine xr_sub [1] [(0, .ref (G.2.2.1 a0))] rfl ?_
    exact bX4_chanceOf_80 C   a0 (((500 : Int32) + x39) + (h.1 (h.2.2 (h.2.2 a0 0) 0) (fx_ix a1))) ta0 h hF
theorem dX4_streakOf_0 : decode cX4_streakOf 0 = .ok (.ldc 79, 2) := by decide +kernel
theorem dX4_streakOf_2 : decode cX4_streakOf 2 = .ok (.istore 4, 2) := by decide +kernel
theorem dX4_streakOf_4 : decode cX4_streakOf 4 = .ok (.iload_n 3, 1) := by decide +kernel
theorem dX4_streakOf_5 : decode cX4_streakOf 5 = .ok (.istore 5, 2) := by decide +kernel
theorem dX4_streakOf_7 : decode cX4_streakOf 7 = .ok (.iconst 0, 1) := by decide +kernel
theorem dX4_streakOf_8 : decode cX4_streakOf 8 = .ok (.istore 6, 2) := by decide +kernel
theorem dX4_streakOf_10 : decode cX4_streakOf 10 = .ok (.iconst 0, 1) := by decide +kernel
theorem dX4_streakOf_11 : decode cX4_streakOf 11 = .ok (.istore 7, 2) := by decide +kernel
theorem dX4_streakOf_13 : decode cX4_streakOf 13 = .ok (.iconst 0, 1) := by decide +kernel
theorem dX4_streakOf_14 : decode cX4_streakOf 14 = .ok (.istore 8, 2) := by decide +kernel
theorem dX4_streakOf_16 : decode cX4_streakOf 16 = .ok (.iload 8, 2) := by decide +kernel
theorem dX4_streakOf_18 : decode cX4_streakOf 18 = .ok (.iload_n 2, 1) := by decide +kernel
theorem dX4_streakOf_19 : decode cX4_streakOf 19 = .ok (.if_icmp .ge 78, 3) := by decide +kernel
theorem dX4_streakOf_22 : decode cX4_streakOf 22 = .ok (.aload_n 0, 1) := by decide +kernel
theorem dX4_streakOf_23 : decode cX4_streakOf 23 = .ok (.iload 6, 2) := by decide +kernel
theorem dX4_streakOf_25 : decode cX4_streakOf 25 = .ok (.iload 7, 2) := by decide +kernel
theorem dX4_streakOf_27 : decode cX4_streakOf 27 = .ok (.iload 5, 2) := by decide +kernel
theorem dX4_streakOf_29 : decode cX4_streakOf 29 = .ok (.invokevirtual 80, 3) := by decide +kernel
theorem dX4_streakOf_32 : decode cX4_streakOf 32 = .ok (.istore 9, 2) := by decide +kernel
theorem dX4_streakOf_34 : decode cX4_streakOf 34 = .ok (.iload 4, 2) := by decide +kernel
theorem dX4_streakOf_36 : decode cX4_streakOf 36 = .ok (.iload 5, 2) := by decide +kernel
theorem dX4_streakOf_38 : decode cX4_streakOf 38 = .ok (.iload_n 1, 1) := by decide +kernel
theorem dX4_streakOf_39 : decode cX4_streakOf 39 = .ok (.if_icmp .ne 8, 3) := by decide +kernel
theorem dX4_streakOf_42 : decode cX4_streakOf 42 = .ok (.iload 9, 2) := by decide +kernel
theorem dX4_streakOf_44 : decode cX4_streakOf 44 = .ok (.goto 9, 3) := by decide +kernel
theorem dX4_streakOf_47 : decode cX4_streakOf 47 = .ok (.sipush 1000, 3) := by decide +kernel
theorem dX4_streakOf_50 : decode cX4_streakOf 50 = .ok (.iload 9, 2) := by decide +kernel
theorem dX4_streakOf_52 : decode cX4_streakOf 52 = .ok (.isub, 1) := by decide +kernel
theorem dX4_streakOf_53 : decode cX4_streakOf 53 = .ok (.imul, 1) := by decide +kernel
theorem dX4_streakOf_54 : decode cX4_streakOf 54 = .ok (.sipush 1000, 3) := by decide +kernel
theorem dX4_streakOf_57 : decode cX4_streakOf 57 = .ok (.idiv, 1) := by decide +kernel
theorem dX4_streakOf_58 : decode cX4_streakOf 58 = .ok (.istore 4, 2) := by decide +kernel
theorem dX4_streakOf_60 : decode cX4_streakOf 60 = .ok (.iload 5, 2) := by decide +kernel
theorem dX4_streakOf_62 : decode cX4_streakOf 62 = .ok (.iload_n 1, 1) := by decide +kernel
theorem dX4_streakOf_63 : decode cX4_streakOf 63 = .ok (.if_icmp .eq 28, 3) := by decide +kernel
theorem dX4_streakOf_66 : decode cX4_streakOf 66 = .ok (.iload_n 1, 1) := by decide +kernel
theorem dX4_streakOf_67 : decode cX4_streakOf 67 = .ok (.istore 5, 2) := by decide +kernel
theorem dX4_streakOf_69 : decode cX4_streakOf 69 = .ok (.iload_n 1, 1) := by decide +kernel
theorem dX4_streakOf_70 : decode cX4_streakOf 70 = .ok (.ifCond .ne 7, 3) := by decide +kernel
theorem dX4_streakOf_73 : decode cX4_streakOf 73 = .ok (.iconst 1, 1) := by decide +kernel
theorem dX4_streakOf_74 : decode cX4_streakOf 74 = .ok (.goto 4, 3) := by decide +kernel
theorem dX4_streakOf_77 : decode cX4_streakOf 77 = .ok (.iconst 0, 1) := by decide +kernel
theorem dX4_streakOf_78 : decode cX4_streakOf 78 = .ok (.istore 6, 2) := by decide +kernel
theorem dX4_streakOf_80 : decode cX4_streakOf 80 = .ok (.iload_n 1, 1) := by decide +kernel
theorem dX4_streakOf_81 : decode cX4_streakOf 81 = .ok (.ifCond .ne 7, 3) := by decide +kernel
theorem dX4_streakOf_84 : decode cX4_streakOf 84 = .ok (.iconst 0, 1) := by decide +kernel
theorem dX4_streakOf_85 : decode cX4_streakOf 85 = .ok (.goto 4, 3) := by decide +kernel
theorem dX4_streakOf_88 : decode cX4_streakOf 88 = .ok (.iconst 1, 1) := by decide +kernel
theorem dX4_streakOf_89 : decode cX4_streakOf 89 = .ok (.istore 7, 2) := by decide +kernel
theorem dX4_streakOf_91 : decode cX4_streakOf 91 = .ok (.iinc 8 1, 3) := by decide +kernel
theorem dX4_streakOf_94 : decode cX4_streakOf 94 = .ok (.goto (-78), 3) := by decide +kernel
theorem dX4_streakOf_97 : decode cX4_streakOf 97 = .ok (.iload 4, 2) := by decide +kernel
theorem dX4_streakOf_99 : decode cX4_streakOf 99 = .ok (.ireturn, 1) := by decide +kernel
def fX4_streakOf_91 (k16 : Nat → Int32 → Int32 → Int32 → Int32 → Int32 → Int32 → Int32 → hp_T → Option (Int32 × hp_T)) (a0 : Nat) (a1 : Int32) (a2 : Int32) (a4 : Int32) (a5 : Int32) (a6 : Int32) (a7 : Int32) (a8 : Int32) (h : hp_T) : Option (Int32 × hp_T) := fx_let (a8 + (1 : Int32)) fun (x91 : Int32) => k16 a0 a1 a2 a4 a5 a6 a7 x91 h
set_option maxRecDepth 100000 in
set_option maxHeartbeats 4000000 in
theorem bX4_streakOf_91 {l : Launch} {G : xr_G} {K : xr_K} {r : Int32} {h1 : hp_T} (C : xr_C G K cX4_streakOf RX4 10 (xr_R 2 85) (some .int) (some (xr_Qi G r h1))) (k16 : Nat → Int32 → Int32 → Int32 → Int32 → Int32 → Int32 → Int32 → hp_T → Option (Int32 × hp_T)) (j16 : ∀ (a0 : Nat) (a1 : Int32) (a2 : Int32) (a4 : Int32) (a5 : Int32) (a6 : Int32) (a7 : Int32) (a8 : Int32) (ta0 : hp_sh a0 = (4, 0)) (h : hp_T), k16 a0 a1 a2 a4 a5 a6 a7 a8 h = some (r, h1) → xr_j l G K 10 h [(0, .ref (G.2.2.1 a0)), (1, .int a1), (2, .int a2), (4, .int a4), (5, .int a5), (6, .int a6), (7, .int a7), (8, .int a8)] 16 []) (a0 : Nat) (a1 : Int32) (a2 : Int32) (a4 : Int32) (a5 : Int32) (a6 : Int32) (a7 : Int32) (a8 : Int32) (ta0 : hp_sh a0 = (4, 0)) (h : hp_T) (hF : fX4_streakOf_91 k16 a0 a1 a2 a4 a5 a6 a7 a8 h = some (r, h1)) : xr_j l G K 10 h [(0, .ref (G.2.2.1 a0)), (1, .int a1), (2, .int a2), (4, .int a4), (5, .int a5), (6, .int a6), (7, .int a7), (8, .int a8)] 91 [] := by
  unfold fX4_streakOf_91 at hF
  obtain ⟨x91, e91⟩ : ∃ y : Int32, y = (a8 + (1 : Int32)) := ⟨_, rfl⟩
  have hF := fx_letE hF x91 e91
  refine xr_iinc C x91 7 [(8, .int x91), (0, .ref (G.2.2.1 a0)), (1, .int a1), (2, .int a2), (4, .int a4), (5, .int a5), (6, .int a6), (7, .int a7)] dX4_streakOf_91 rfl (by rw [e91]; rfl) (Nat.le_of_ble_eq_true rfl) rfl ?_
  refine xr_goto C 16 dX4_streakOf_94 (by decide) ?_
  refine xr_sub [1, 2, 3, 4, 5, 6, 7, 0] [(0, .ref (G.2.2.1 a0)), (1, .int a1), (2, .int a2), (4, .int a4), (5, .int a5), (6, .int a6), (7, .int a7), (8, .int x91)] rfl ?_
  exact j16 a0 a1 a2 a4 a5 a6 a7 x91 ta0 h hF
def fX4_streakOf_89 (k16 : Nat → Int32 → Int32 → Int32 → Int32 → Int32 → Int32 → Int32 → hp_T → Option (Int32 × hp_T)) (a0 : Nat) (a1 : Int32) (a2 : Int32) (a4 : Int32) (a5 : Int32) (a6 : Int32) (a8 : Int32) (s0 : Int32) (h : hp_T) : Option (Int32 × hp_T) := fX4_streakOf_91 k16 a0 a1 a2 a4 a5 a6 s0 a8 h
set_option maxRecDepth 100000 in
set_option maxHeartbeats 4000000 in
theorem bX4_streakOf_89 {l : Launch} {G : xr_G} {K : xr_K} {r : Int32} {h1 : hp_T} (C : xr_C G K cX4_streakOf RX4 10 (xr_R 2 85) (some .int) (some (xr_Qi G r h1))) (k16 : Nat → Int32 → Int32 → Int32 → Int32 → Int32 → Int32 → Int32 → hp_T → Option (Int32 × hp_T)) (j16 : ∀ (a0 : Nat) (a1 : Int32) (a2 : Int32) (a4 : Int32) (a5 : Int32) (a6 : Int32) (a7 : Int32) (a8 : Int32) (ta0 : hp_sh a0 = (4, 0)) (h : hp_T), k16 a0 a1 a2 a4 a5 a6 a7 a8 h = some (r, h1) → xr_j l G K 10 h [(0, .ref (G.2.2.1 a0)), (1, .int a1), (2, .int a2), (4, .int a4), (5, .int a5), (6, .int a6), (7, .int a7), (8, .int a8)] 16 []) (a0 : Nat) (a1 : Int32) (a2 : Int32) (a4 : Int32) (a5 : Int32) (a6 : Int32) (a8 : Int32) (s0 : Int32) (ta0 : hp_sh a0 = (4, 0)) (h : hp_T) (hF : fX4_streakOf_89 k16 a0 a1 a2 a4 a5 a6 a8 s0 h = some (r, h1)) : xr_j l G K 10 h [(0, .ref (G.2.2.1 a0)), (1, .int a1), (2, .int a2), (4, .int a4), (5, .int a5), (6, .int a6), (8, .int a8)] 89 [.int s0] := by
  unfold fX4_streakOf_89 at hF
  refine xr_istore C [(7, .int s0), (0, .ref (G.2.2.1 a0)), (1, .int a1), (2, .int a2), (4, .int a4), (5, .int a5), (6, .int a6), (8, .int a8)] dX4_streakOf_89 (Nat.le_of_ble_eq_true rfl) rfl ?_
  refine xr_sub [1, 2, 3, 4, 5, 6, 0, 7] [(0, .ref (G.2.2.1 a0)), (1, .int a1), (2, .int a2), (4, .int a4), (5, .int a5), (6, .int a6), (7, .int s0), (8, .int a8)] rfl ?_
  exact bX4_streakOf_91 C k16 j16  a0 a1 a2 a4 a5 a6 s0 a8 ta0 h hF
def fX4_streakOf_78 (k16 : Nat → Int32 → Int32 → Int32 → Int32 → Int32 → Int32 → Int32 → hp_T → Option (Int32 × hp_T)) (a0 : Nat) (a1 : Int32) (a2 : Int32) (a4 : Int32) (a5 : Int32) (a8 : Int32) (s0 : Int32) (h : hp_T) : Option (Int32 × hp_T) := if a1 = 0 then (fX4_streakOf_89 k16 a0 a1 a2 a4 a5 s0 a8 (0 : Int32) h) else (fX4_streakOf_89 k16 a0 a1 a2 a4 a5 s0 a8 (1 : Int32) h)
set_option maxRecDepth 100000 in
set_option maxHeartbeats 4000000 in
theorem bX4_streakOf_78 {l : Launch} {G : xr_G} {K : xr_K} {r : Int32} {h1 : hp_T} (C : xr_C G K cX4_streakOf RX4 10 (xr_R 2 85) (some .int) (some (xr_Qi G r h1))) (k16 : Nat → Int32 → Int32 → Int32 → Int32 → Int32 → Int32 → Int32 → hp_T → Option (Int32 × hp_T)) (j16 : ∀ (a0 : Nat) (a1 : Int32) (a2 : Int32) (a4 : Int32) (a5 : Int32) (a6 : Int32) (a7 : Int32) (a8 : Int32) (ta0 : hp_sh a0 = (4, 0)) (h : hp_T), k16 a0 a1 a2 a4 a5 a6 a7 a8 h = some (r, h1) → xr_j l G K 10 h [(0, .ref (G.2.2.1 a0)), (1, .int a1), (2, .int a2), (4, .int a4), (5, .int a5), (6, .int a6), (7, .int a7), (8, .int a8)] 16 []) (a0 : Nat) (a1 : Int32) (a2 : Int32) (a4 : Int32) (a5 : Int32) (a8 : Int32) (s0 : Int32) (ta0 : hp_sh a0 = (4, 0)) (h : hp_T) (hF : fX4_streakOf_78 k16 a0 a1 a2 a4 a5 a8 s0 h = some (r, h1)) : xr_j l G K 10 h [(0, .ref (G.2.2.1 a0)), (1, .int a1), (2, .int a2), (4, .int a4), (5, .int a5), (8, .int a8)] 78 [.int s0] := by
  unfold fX4_streakOf_78 at hF
  refine xr_istore C [(6, .int s0), (0, .ref (G.2.2.1 a0)), (1, .int a1), (2, .int a2), (4, .int a4), (5, .int a5), (8, .int a8)] dX4_streakOf_78 (Nat.le_of_ble_eq_true rfl) rfl ?_
  refine xr_iload_n C 2 dX4_streakOf_80 rfl rfl ?_
  refine xr_if_ne C 88 dX4_streakOf_81 (by decide) (fun c81 => ?_) (fun c81 => ?_)
  · have hF := fx_neg hF c81
    refine xr_iconst (v := 1) C dX4_streakOf_88 (by decide) ?_
    refine xr_sub [1, 2, 3, 4, 5, 0, 6] [(0, .ref (G.2.2.1 a0)), (1, .int a1), (2, .int a2), (4, .int a4), (5, .int a5), (6, .int s0), (8, .int a8)] rfl ?_
    exact bX4_streakOf_89 C k16 j16  a0 a1 a2 a4 a5 s0 a8 (1 : Int32) ta0 h hF
  · have hF := fx_pos hF c81
    refine xr_iconst (v := 0) C dX4_streakOf_84 (by decide) ?_
    refine xr_goto C 89 dX4_streakOf_85 (by decide) ?_
    refine xr_sub [1, 2, 3, 4, 5, 0, 6] [(0, .ref (G.2.2.1 a0)), (1, .int a1), (2, .int a2), (4, .int a4), (5, .int a5), (6, .int s0), (8, .int a8)] rfl ?_
    exact bX4_streakOf_89 C k16 j16  a0 a1 a2 a4 a5 s0 a8 (0 : Int32) ta0 h hF
def fX4_streakOf_53 (k16 : Nat → Int32 → Int32 → Int32 → Int32 → Int32 → Int32 → Int32 → hp_T → Option (Int32 × hp_T)) (a0 : Nat) (a1 : Int32) (a2 : Int32) (a5 : Int32) (a6 : Int32) (a7 : Int32) (a8 : Int32) (s0 : Int32) (s1 : Int32) (h : hp_T) : Option (Int32 × hp_T) := fx_let ((s0 * s1) / (1000 : Int32)) fun (x58 : Int32) => if a5 = a1 then (fX4_streakOf_91 k16 a0 a1 a2 x58 a5 a6 a7 a8 h) else (if a1 = 0 then (fX4_streakOf_78 k16 a0 a1 a2 x58 a1 a8 (1 : Int32) h) else (fX4_streakOf_78 k16 a0 a1 a2 x58 a1 a8 (0 : Int32) h))
set_option maxRecDepth 100000 in
set_option maxHeartbeats 4000000 in
theorem bX4_streakOf_53 {l : Launch} {G : xr_G} {K : xr_K} {r : Int32} {h1 : hp_T} (C : xr_C G K cX4_streakOf RX4 10 (xr_R 2 85) (some .int) (some (xr_Qi G r h1))) (k16 : Nat → Int32 → Int32 → Int32 → Int32 → Int32 → Int32 → Int32 → hp_T → Option (Int32 × hp_T)) (j16 : ∀ (a0 : Nat) (a1 : Int32) (a2 : Int32) (a4 : Int32) (a5 : Int32) (a6 : Int32) (a7 : Int32) (a8 : Int32) (ta0 : hp_sh a0 = (4, 0)) (h : hp_T), k16 a0 a1 a2 a4 a5 a6 a7 a8 h = some (r, h1) → xr_j l G K 10 h [(0, .ref (G.2.2.1 a0)), (1, .int a1), (2, .int a2), (4, .int a4), (5, .int a5), (6, .int a6), (7, .int a7), (8, .int a8)] 16 []) (a0 : Nat) (a1 : Int32) (a2 : Int32) (a5 : Int32) (a6 : Int32) (a7 : Int32) (a8 : Int32) (s0 : Int32) (s1 : Int32) (ta0 : hp_sh a0 = (4, 0)) (h : hp_T) (hF : fX4_streakOf_53 k16 a0 a1 a2 a5 a6 a7 a8 s0 s1 h = some (r, h1)) : xr_j l G K 10 h [(0, .ref (G.2.2.1 a0)), (1, .int a1), (2, .int a2), (5, .int a5), (6, .int a6), (7, .int a7), (8, .int a8)] 53 [.int s1, .int s0] := by
  unfold fX4_streakOf_53 at hF
  refine xr_imul C dX4_streakOf_53 ?_
  refine xr_sipush (v := 1000) C dX4_streakOf_54 (by decide) ?_
  refine xr_idiv C dX4_streakOf_57 (by decide) ?_
  refine xr_topi (fun x58 e58 => ?_)
  have hF := fx_letE hF x58 e58
  refine xr_istore C [(4, .int x58), (0, .ref (G.2.2.1 a0)), (1, .int a1), (2, .int a2), (5, .int a5), (6, .int a6), (7, .int a7), (8, .int a8)] dX4_streakOf_58 (Nat.le_of_ble_eq_true rfl) rfl ?_
  refine xr_iload C 4 dX4_streakOf_60 rfl ?_
  refine xr_iload_n C 2 dX4_streakOf_62 rfl rfl ?_
  refine xr_icmp_eq C 91 dX4_streakOf_63 (by decide) (fun c63 => ?_) (fun c63 => ?_)
  · have hF := fx_pos hF c63
    refine xr_sub [1, 2, 3, 0, 4, 5, 6, 7] [(0, .ref (G.2.2.1 a0)), (1, .int a1), (2, .int a2), (4, .int x58), (5, .int a5), (6, .int a6), (7, .int a7), (8, .int a8)] rfl ?_
    exact bX4_streakOf_91 C k16 j16  a0 a1 a2 x58 a5 a6 a7 a8 ta0 h hF
  · have hF := fx_neg hF c63
    refine xr_iload_n C 2 dX4_streakOf_66 rfl rfl ?_
    refine xr_istore C [(5, .int a1), (4, .int x58), (0, .ref (G.2.2.1 a0)), (1, .int a1), (2, .int a2), (6, .int a6), (7, .int a7), (8, .int a8)] dX4_streakOf_67 (Nat.le_of_ble_eq_true rfl) rfl ?_
    refine xr_iload_n C 3 dX4_streakOf_69 rfl rfl ?_
    refine xr_if_ne C 77 dX4_streakOf_70 (by decide) (fun c70 => ?_) (fun c70 => ?_)
    · have hF := fx_neg hF c70
      refine xr_iconst (v := 0) C dX4_streakOf_77 (by decide) ?_
      refine xr_sub [2, 3, 4, 1, 0, 7] [(0, .ref (G.2.2.1 a0)), (1, .int a1), (2, .int a2), (4, .int x58), (5, .int a1), (8, .int a8)] rfl ?_
      exact bX4_streakOf_78 C k16 j16  a0 a1 a2 x58 a1 a8 (0 : Int32) ta0 h hF
    · have hF := fx_pos hF c70
      refine xr_iconst (v := 1) C dX4_streakOf_73 (by decide) ?_
      refine xr_goto C 78 dX4_streakOf_74 (by decide) ?_
      refine xr_sub [2, 3, 4, 1, 0, 7] [(0, .ref (G.2.2.1 a0)), (1, .int a1), (2, .int a2), (4, .int x58), (5, .int a1), (8, .int a8)] rfl ?_
      exact bX4_streakOf_78 C k16 j16  a0 a1 a2 x58 a1 a8 (1 : Int32) ta0 h hF
def fX4_streakOf_16  : Nat → Nat → Int32 → Int32 → Int32 → Int32 → Int32 → Int32 → Int32 → hp_T → Option (Int32 × hp_T)
  | 0, _, _, _, _, _, _, _, _, _ => none
  | n + 1, a0, a1, a2, a4, a5, a6, a7, a8, h => if a2 ≤ a8 then (some (a4, h)) else (fx_b2 (fX4_chanceOf a0 a6 a7 a5 h) fun (r29 : Int32) (h29 : hp_T) => if a5 = a1 then (fX4_streakOf_53 (fX4_streakOf_16 n) a0 a1 a2 a5 a6 a7 a8 a4 r29 h29) else (fX4_streakOf_53 (fX4_streakOf_16 n) a0 a1 a2 a5 a6 a7 a8 a4 ((1000 : Int32) - r29) h29))
set_option maxRecDepth 100000 in
set_option maxHeartbeats 4000000 in
theorem bX4_streakOf_16 {l : Launch} {G : xr_G} {K : xr_K} {r : Int32} {h1 : hp_T} (C : xr_C G K cX4_streakOf RX4 10 (xr_R 2 85) (some .int) (some (xr_Qi G r h1)))  : ∀ (n : Nat) (a0 : Nat) (a1 : Int32) (a2 : Int32) (a4 : Int32) (a5 : Int32) (a6 : Int32) (a7 : Int32) (a8 : Int32) (ta0 : hp_sh a0 = (4, 0)) (h : hp_T), fX4_streakOf_16 n a0 a1 a2 a4 a5 a6 a7 a8 h = some (r, h1) → xr_j l G K 10 h [(0, .ref (G.2.2.1 a0)), (1, .int a1), (2, .int a2), (4, .int a4), (5, .int a5), (6, .int a6), (7, .int a7), (8, .int a8)] 16 [] := by
  intro n
  induction n with
  | zero =>
    intro a0 a1 a2 a4 a5 a6 a7 a8 ta0 h hF
    cases hF
  | succ n ih =>
    intro a0 a1 a2 a4 a5 a6 a7 a8 ta0 h hF
    rw [fX4_streakOf_16] at hF
    refine xr_iload C 7 dX4_streakOf_16 rfl ?_
    refine xr_iload_n C 2 dX4_streakOf_18 rfl rfl ?_
    refine xr_icmp_ge C 97 dX4_streakOf_19 (by decide) (fun c19 => ?_) (fun c19 => ?_)
    · have hF := fx_pos hF c19
      refine xr_iload C 3 dX4_streakOf_97 rfl ?_
      cases hF
      exact xr_iret C dX4_streakOf_99
    · have hF := fx_neg hF c19
      refine xr_aload_n C 0 dX4_streakOf_22 rfl rfl ?_
      refine xr_iload C 5 dX4_streakOf_23 rfl ?_
      refine xr_iload C 6 dX4_streakOf_25 rfl ?_
      refine xr_iload C 4 dX4_streakOf_27 rfl ?_
      obtain ⟨r29, h29, e29, hF⟩ := fx_b2E hF
      refine xr_callVi C mvX4_80 [.int a6, .int a7, .int a5] [] (mX4_chanceOf l G a0 a6 a7 a5 ta0 h h29 r29 e29) ta0 (by decide) vc4 rfl ⟨rfl, rfl, (Nat.le_of_ble_eq_true rfl), (Nat.le_of_ble_eq_true rfl)⟩ rfl (Nat.le_of_ble_eq_true rfl) dX4_streakOf_29 ?_
      refine xr_istore C [(9, .int r29), (0, .ref (G.2.2.1 a0)), (1, .int a1), (2, .int a2), (4, .int a4), (5, .int a5), (6, .int a6), (7, .int a7), (8, .int a8)] dX4_streakOf_32 (Nat.le_of_ble_eq_true rfl) rfl ?_
      refine xr_iload C 4 dX4_streakOf_34 rfl ?_
      refine xr_iload C 5 dX4_streakOf_36 rfl ?_
      refine xr_iload_n C 2 dX4_streakOf_38 rfl rfl ?_
      refine xr_icmp_ne C 47 dX4_streakOf_39 (by decide) (fun c39 => ?_) (fun c39 => ?_)
      · have hF := fx_neg hF c39
        refine xr_sipush (v := 1000) C dX4_streakOf_47 (by decide) ?_
        refine xr_iload C 0 dX4_streakOf_50 rfl ?_
        refine xr_isub C dX4_streakOf_52 ?_
        refine xr_sub [1, 2, 3, 5, 6, 7, 8] [(0, .ref (G.2.2.1 a0)), (1, .int a1), (2, .int a2), (5, .int a5), (6, .int a6), (7, .int a7), (8, .int a8)] rfl ?_
        exact bX4_streakOf_53 C (fX4_streakOf_16 n) (fun a0 a1 a2 a4 a5 a6 a7 a8 ta0 h hF => ih a0 a1 a2 a4 a5 a6 a7 a8 ta0 h hF)  a0 a1 a2 a5 a6 a7 a8 a4 ((1000 : Int32) - r29) ta0 h29 hF
      · have hF := fx_pos hF c39
        refine xr_iload C 0 dX4_streakOf_42 rfl ?_
        refine xr_goto C 53 dX4_streakOf_44 (by decide) ?_
        refine xr_sub [1, 2, 3, 5, 6, 7, 8] [(0, .ref (G.2.2.1 a0)), (1, .int a1), (2, .int a2), (5, .int a5), (6, .int a6), (7, .int a7), (8, .int a8)] rfl ?_
        exact bX4_streakOf_53 C (fX4_streakOf_16 n) (fun a0 a1 a2 a4 a5 a6 a7 a8 ta0 h hF => ih a0 a1 a2 a4 a5 a6 a7 a8 ta0 h hF)  a0 a1 a2 a5 a6 a7 a8 a4 r29 ta0 h29 hF
def fX4_streakOf (a0 : Nat) (a1 : Int32) (a2 : Int32) (a3 : Int32) (h : hp_T) : Option (Int32 × hp_T) := fX4_streakOf_16 fx_N a0 a1 a2 (1000000 : Int32) a3 (0 : Int32) (0 : Int32) (0 : Int32) h
set_option maxRecDepth 100000 in
set_option maxHeartbeats 4000000 in
theorem mX4_streakOf (l : Launch) (G : xr_G) (a0 : Nat) (a1 : Int32) (a2 : Int32) (a3 : Int32) (ta0 : hp_sh a0 = (4, 0)) (h h1 : hp_T) (r : Int32) (hF : fX4_streakOf a0 a1 a2 a3 h = some (r, h1)) : xr_M l G yX4_streakOf cX4_streakOf 10 (xr_R 2 85) (some .int) [.ref (G.2.2.1 a0), .int a1, .int a2, .int a3] h (xr_Qi G r h1) := by
  refine xr_start rfl (Nat.le_of_ble_eq_true rfl) (fun K C => ?_)
  show xr_j l G K 10 h [(0, .ref (G.2.2.1 a0)), (1, .int a1), (2, .int a2), (3, .int a3)] 0 []
  unfold fX4_streakOf at hF
  refine xr_ldc C kcX4_79 dX4_streakOf_0 ?_
  refine xr_istore C [(4, .int (1000000 : Int32)), (0, .ref (G.2.2.1 a0)), (1, .int a1), (2, .int a2), (3, .int a3)] dX4_streakOf_2 (Nat.le_of_ble_eq_true rfl) rfl ?_
  refine xr_iload_n C 4 dX4_streakOf_4 rfl rfl ?_
  refine xr_istore C [(5, .int a3), (4, .int (1000000 : Int32)), (0, .ref (G.2.2.1 a0)), (1, .int a1), (2, .int a2), (3, .int a3)] dX4_streakOf_5 (Nat.le_of_ble_eq_true rfl) rfl ?_
  refine xr_iconst (v := 0) C dX4_streakOf_7 (by decide) ?_
  refine xr_istore C [(6, .int (0 : Int32)), (5, .int a3), (4, .int (1000000 : Int32)), (0, .ref (G.2.2.1 a0)), (1, .int a1), (2, .int a2), (3, .int a3)] dX4_streakOf_8 (Nat.le_of_ble_eq_true rfl) rfl ?_
  refine xr_iconst (v := 0) C dX4_streakOf_10 (by decide) ?_
  refine xr_istore C [(7, .int (0 : Int32)), (6, .int (0 : Int32)), (5, .int a3), (4, .int (1000000 : Int32)), (0, .ref (G.2.2.1 a0)), (1, .int a1), (2, .int a2), (3, .int a3)] dX4_streakOf_11 (Nat.le_of_ble_eq_true rfl) rfl ?_
  refine xr_iconst (v := 0) C dX4_streakOf_13 (by decide) ?_
  refine xr_istore C [(8, .int (0 : Int32)), (7, .int (0 : Int32)), (6, .int (0 : Int32)), (5, .int a3), (4, .int (1000000 : Int32)), (0, .ref (G.2.2.1 a0)), (1, .int a1), (2, .int a2), (3, .int a3)] dX4_streakOf_14 (Nat.le_of_ble_eq_true rfl) rfl ?_
  refine xr_sub [5, 6, 7, 4, 3, 2, 1, 0] [(0, .ref (G.2.2.1 a0)), (1, .int a1), (2, .int a2), (4, .int (1000000 : Int32)), (5, .int a3), (6, .int (0 : Int32)), (7, .int (0 : Int32)), (8, .int (0 : Int32))] rfl ?_
  exact bX4_streakOf_16 C  fx_N a0 a1 a2 (1000000 : Int32) a3 (0 : Int32) (0 : Int32) (0 : Int32) ta0 h hF
theorem dX4_fillCycle_0 : decode cX4_fillCycle 0 = .ok (.iload_n 3, 1) := by decide +kernel
theorem dX4_fillCycle_1 : decode cX4_fillCycle 1 = .ok (.istore 4, 2) := by decide +kernel
theorem dX4_fillCycle_3 : decode cX4_fillCycle 3 = .ok (.iload_n 1, 1) := by decide +kernel
theorem dX4_fillCycle_4 : decode cX4_fillCycle 4 = .ok (.istore 5, 2) := by decide +kernel
theorem dX4_fillCycle_6 : decode cX4_fillCycle 6 = .ok (.iload_n 2, 1) := by decide +kernel
theorem dX4_fillCycle_7 : decode cX4_fillCycle 7 = .ok (.istore 6, 2) := by decide +kernel
theorem dX4_fillCycle_9 : decode cX4_fillCycle 9 = .ok (.iconst 0, 1) := by decide +kernel
theorem dX4_fillCycle_10 : decode cX4_fillCycle 10 = .ok (.istore 7, 2) := by decide +kernel
theorem dX4_fillCycle_12 : decode cX4_fillCycle 12 = .ok (.iload 7, 2) := by decide +kernel
theorem dX4_fillCycle_14 : decode cX4_fillCycle 14 = .ok (.bipush 12, 2) := by decide +kernel
theorem dX4_fillCycle_16 : decode cX4_fillCycle 16 = .ok (.if_icmp .ge 58, 3) := by decide +kernel
theorem dX4_fillCycle_19 : decode cX4_fillCycle 19 = .ok (.aload_n 0, 1) := by decide +kernel
theorem dX4_fillCycle_20 : decode cX4_fillCycle 20 = .ok (.getfield 21, 3) := by decide +kernel
theorem dX4_fillCycle_23 : decode cX4_fillCycle 23 = .ok (.iload 7, 2) := by decide +kernel
theorem dX4_fillCycle_25 : decode cX4_fillCycle 25 = .ok (.aload_n 0, 1) := by decide +kernel
theorem dX4_fillCycle_26 : decode cX4_fillCycle 26 = .ok (.iload 5, 2) := by decide +kernel
theorem dX4_fillCycle_28 : decode cX4_fillCycle 28 = .ok (.iload 6, 2) := by decide +kernel
theorem dX4_fillCycle_30 : decode cX4_fillCycle 30 = .ok (.iload 4, 2) := by decide +kernel
theorem dX4_fillCycle_32 : decode cX4_fillCycle 32 = .ok (.invokevirtual 80, 3) := by decide +kernel
theorem dX4_fillCycle_35 : decode cX4_fillCycle 35 = .ok (.iastore, 1) := by decide +kernel
theorem dX4_fillCycle_36 : decode cX4_fillCycle 36 = .ok (.iconst 1, 1) := by decide +kernel
theorem dX4_fillCycle_37 : decode cX4_fillCycle 37 = .ok (.iload 4, 2) := by decide +kernel
theorem dX4_fillCycle_39 : decode cX4_fillCycle 39 = .ok (.isub, 1) := by decide +kernel
theorem dX4_fillCycle_40 : decode cX4_fillCycle 40 = .ok (.istore 4, 2) := by decide +kernel
theorem dX4_fillCycle_42 : decode cX4_fillCycle 42 = .ok (.iload 4, 2) := by decide +kernel
theorem dX4_fillCycle_44 : decode cX4_fillCycle 44 = .ok (.ifCond .ne 15, 3) := by decide +kernel
theorem dX4_fillCycle_47 : decode cX4_fillCycle 47 = .ok (.iload 5, 2) := by decide +kernel
theorem dX4_fillCycle_49 : decode cX4_fillCycle 49 = .ok (.iconst 1, 1) := by decide +kernel
theorem dX4_fillCycle_50 : decode cX4_fillCycle 50 = .ok (.iadd, 1) := by decide +kernel
theorem dX4_fillCycle_51 : decode cX4_fillCycle 51 = .ok (.bipush 6, 2) := by decide +kernel
theorem dX4_fillCycle_53 : decode cX4_fillCycle 53 = .ok (.irem, 1) := by decide +kernel
theorem dX4_fillCycle_54 : decode cX4_fillCycle 54 = .ok (.istore 5, 2) := by decide +kernel
theorem dX4_fillCycle_56 : decode cX4_fillCycle 56 = .ok (.goto 12, 3) := by decide +kernel
theorem dX4_fillCycle_59 : decode cX4_fillCycle 59 = .ok (.iload 6, 2) := by decide +kernel
theorem dX4_fillCycle_61 : decode cX4_fillCycle 61 = .ok (.iconst 1, 1) := by decide +kernel
theorem dX4_fillCycle_62 : decode cX4_fillCycle 62 = .ok (.iadd, 1) := by decide +kernel
theorem dX4_fillCycle_63 : decode cX4_fillCycle 63 = .ok (.bipush 6, 2) := by decide +kernel
theorem dX4_fillCycle_65 : decode cX4_fillCycle 65 = .ok (.irem, 1) := by decide +kernel
theorem dX4_fillCycle_66 : decode cX4_fillCycle 66 = .ok (.istore 6, 2) := by decide +kernel
theorem dX4_fillCycle_68 : decode cX4_fillCycle 68 = .ok (.iinc 7 1, 3) := by decide +kernel
theorem dX4_fillCycle_71 : decode cX4_fillCycle 71 = .ok (.goto (-59), 3) := by decide +kernel
theorem dX4_fillCycle_74 : decode cX4_fillCycle 74 = .ok (.return_, 1) := by decide +kernel
def fX4_fillCycle_68 (k12 : Nat → Int32 → Int32 → Int32 → Int32 → hp_T → Option hp_T) (a0 : Nat) (a4 : Int32) (a5 : Int32) (a6 : Int32) (a7 : Int32) (h : hp_T) : Option hp_T := fx_let (a7 + (1 : Int32)) fun (x68 : Int32) => k12 a0 a4 a5 a6 x68 h
set_option maxRecDepth 100000 in
set_option maxHeartbeats 4000000 in
theorem bX4_fillCycle_68 {l : Launch} {G : xr_G} {K : xr_K} {h1 : hp_T} (C : xr_C G K cX4_fillCycle RX4 8 (xr_R 2 85) none (some (xr_Qv G h1))) (k12 : Nat → Int32 → Int32 → Int32 → Int32 → hp_T → Option hp_T) (j12 : ∀ (a0 : Nat) (a4 : Int32) (a5 : Int32) (a6 : Int32) (a7 : Int32) (ta0 : hp_sh a0 = (4, 0)) (h : hp_T), k12 a0 a4 a5 a6 a7 h = some h1 → xr_j l G K 8 h [(0, .ref (G.2.2.1 a0)), (4, .int a4), (5, .int a5), (6, .int a6), (7, .int a7)] 12 []) (a0 : Nat) (a4 : Int32) (a5 : Int32) (a6 : Int32) (a7 : Int32) (ta0 : hp_sh a0 = (4, 0)) (h : hp_T) (hF : fX4_fillCycle_68 k12 a0 a4 a5 a6 a7 h = some h1) : xr_j l G K 8 h [(0, .ref (G.2.2.1 a0)), (4, .int a4), (5, .int a5), (6, .int a6), (7, .int a7)] 68 [] := by
  unfold fX4_fillCycle_68 at hF
  obtain ⟨x68, e68⟩ : ∃ y : Int32, y = (a7 + (1 : Int32)) := ⟨_, rfl⟩
  have hF := fx_letE hF x68 e68
  refine xr_iinc C x68 4 [(7, .int x68), (0, .ref (G.2.2.1 a0)), (4, .int a4), (5, .int a5), (6, .int a6)] dX4_fillCycle_68 rfl (by rw [e68]; rfl) (Nat.le_of_ble_eq_true rfl) rfl ?_
  refine xr_goto C 12 dX4_fillCycle_71 (by decide) ?_
  refine xr_sub [1, 2, 3, 4, 0] [(0, .ref (G.2.2.1 a0)), (4, .int a4), (5, .int a5), (6, .int a6), (7, .int x68)] rfl ?_
  exact j12 a0 a4 a5 a6 x68 ta0 h hF
def fX4_fillCycle_12  : Nat → Nat → Int32 → Int32 → Int32 → Int32 → hp_T → Option hp_T
  | 0, _, _, _, _, _, _ => none
  | n + 1, a0, a4, a5, a6, a7, h => if (12 : Int32) ≤ a7 then (some h) else (fx_b2 (fX4_chanceOf a0 a5 a6 a4 h) fun (r32 : Int32) (h32 : hp_T) => fx_g (fx_in a7 12) (fx_let (hp_sI h32 (h.2.2 a0 2) (fx_ix a7) r32) fun (h35 : hp_T) => fx_let ((1 : Int32) - a4) fun (x40 : Int32) => if x40 = 0 then (fx_let (fx_rem (a5 + (1 : Int32)) (6 : Int32)) fun (x54 : Int32) => fX4_fillCycle_68 (fX4_fillCycle_12 n) a0 x40 x54 a6 a7 h35) else (fx_let (fx_rem (a6 + (1 : Int32)) (6 : Int32)) fun (x66 : Int32) => fX4_fillCycle_68 (fX4_fillCycle_12 n) a0 x40 a5 x66 a7 h35)))
set_option maxRecDepth 100000 in
set_option maxHeartbeats 4000000 in
theorem bX4_fillCycle_12 {l : Launch} {G : xr_G} {K : xr_K} {h1 : hp_T} (C : xr_C G K cX4_fillCycle RX4 8 (xr_R 2 85) none (some (xr_Qv G h1)))  : ∀ (n : Nat) (a0 : Nat) (a4 : Int32) (a5 : Int32) (a6 : Int32) (a7 : Int32) (ta0 : hp_sh a0 = (4, 0)) (h : hp_T), fX4_fillCycle_12 n a0 a4 a5 a6 a7 h = some h1 → xr_j l G K 8 h [(0, .ref (G.2.2.1 a0)), (4, .int a4), (5, .int a5), (6, .int a6), (7, .int a7)] 12 [] := by
  intro n
  induction n with
  | zero =>
    intro a0 a4 a5 a6 a7 ta0 h hF
    cases hF
  | succ n ih =>
    intro a0 a4 a5 a6 a7 ta0 h hF
    rw [fX4_fillCycle_12] at hF
    refine xr_iload C 4 dX4_fillCycle_12 rfl ?_
    refine xr_bipush (v := 12) C dX4_fillCycle_14 (by decide) ?_
    refine xr_icmp_ge C 74 dX4_fillCycle_16 (by decide) (fun c16 => ?_) (fun c16 => ?_)
    · have hF := fx_pos hF c16
      cases hF
      exact xr_vret C dX4_fillCycle_74
    · have hF := fx_neg hF c16
      refine xr_aload_n C 0 dX4_fillCycle_19 rfl rfl ?_
      refine xr_getr C flX4_21 rfl (by decide) dX4_fillCycle_20 ta0 (fun t20 => ?_)
      refine xr_iload C 4 dX4_fillCycle_23 rfl ?_
      refine xr_aload_n C 0 dX4_fillCycle_25 rfl rfl ?_
      refine xr_iload C 2 dX4_fillCycle_26 rfl ?_
      refine xr_iload C 3 dX4_fillCycle_28 rfl ?_
      refine xr_iload C 1 dX4_fillCycle_30 rfl ?_
      obtain ⟨r32, h32, e32, hF⟩ := fx_b2E hF
      refine xr_callVi C mvX4_80 [.int a5, .int a6, .int a4] [.int a7, .ref (G.2.2.1 (h.2.2 a0 2))] (mX4_chanceOf l G a0 a5 a6 a4 ta0 h h32 r32 e32) ta0 (by decide) vc4 rfl ⟨rfl, rfl, (Nat.le_of_ble_eq_true rfl), (Nat.le_of_ble_eq_true rfl)⟩ rfl (Nat.le_of_ble_eq_true rfl) dX4_fillCycle_32 ?_
      obtain ⟨g35, hF⟩ := fx_gE hF
      refine xr_iast C dX4_fillCycle_35 t20 g35 (fun h35 e35 => ?_)
      have hF := fx_letE hF h35 e35
      refine xr_iconst (v := 1) C dX4_fillCycle_36 (by decide) ?_
      refine xr_iload C 1 dX4_fillCycle_37 rfl ?_
      refine xr_isub C dX4_fillCycle_39 ?_
      refine xr_topi (fun x40 e40 => ?_)
      have hF := fx_letE hF x40 e40
      refine xr_istore C [(4, .int x40), (0, .ref (G.2.2.1 a0)), (5, .int a5), (6, .int a6), (7, .int a7)] dX4_fillCycle_40 (Nat.le_of_ble_eq_true rfl) rfl ?_
      refine xr_iload C 0 dX4_fillCycle_42 rfl ?_
      refine xr_if_ne C 59 dX4_fillCycle_44 (by decide) (fun c44 => ?_) (fun c44 => ?_)
      · have hF := fx_neg hF c44
        refine xr_iload C 3 dX4_fillCycle_59 rfl ?_
        refine xr_iconst (v := 1) C dX4_fillCycle_61 (by decide) ?_
        refine xr_iadd C dX4_fillCycle_62 ?_
        refine xr_bipush (v := 6) C dX4_fillCycle_63 (by decide) ?_
        refine xr_irem C dX4_fillCycle_65 (by decide) ?_
        refine xr_topi (fun x66 e66 => ?_)
        have hF := fx_letE hF x66 e66
        refine xr_istore C [(6, .int x66), (4, .int x40), (0, .ref (G.2.2.1 a0)), (5, .int a5), (7, .int a7)] dX4_fillCycle_66 (Nat.le_of_ble_eq_true rfl) rfl ?_
        refine xr_sub [2, 1, 3, 0, 4] [(0, .ref (G.2.2.1 a0)), (4, .int x40), (5, .int a5), (6, .int x66), (7, .int a7)] rfl ?_
        exact bX4_fillCycle_68 C (fX4_fillCycle_12 n) (fun a0 a4 a5 a6 a7 ta0 h hF => ih a0 a4 a5 a6 a7 ta0 h hF)  a0 x40 a5 x66 a7 ta0 h35 hF
      · have hF := fx_pos hF c44
        refine xr_iload C 2 dX4_fillCycle_47 rfl ?_
        refine xr_iconst (v := 1) C dX4_fillCycle_49 (by decide) ?_
        refine xr_iadd C dX4_fillCycle_50 ?_
        refine xr_bipush (v := 6) C dX4_fillCycle_51 (by decide) ?_
        refine xr_irem C dX4_fillCycle_53 (by decide) ?_
        refine xr_topi (fun x54 e54 => ?_)
        have hF := fx_letE hF x54 e54
        refine xr_istore C [(5, .int x54), (4, .int x40), (0, .ref (G.2.2.1 a0)), (6, .int a6), (7, .int a7)] dX4_fillCycle_54 (Nat.le_of_ble_eq_true rfl) rfl ?_
        refine xr_goto C 68 dX4_fillCycle_56 (by decide) ?_
        refine xr_sub [2, 1, 0, 3, 4] [(0, .ref (G.2.2.1 a0)), (4, .int x40), (5, .int x54), (6, .int a6), (7, .int a7)] rfl ?_
        exact bX4_fillCycle_68 C (fX4_fillCycle_12 n) (fun a0 a4 a5 a6 a7 ta0 h hF => ih a0 a4 a5 a6 a7 ta0 h hF)  a0 x40 x54 a6 a7 ta0 h35 hF
def fX4_fillCycle (a0 : Nat) (a1 : Int32) (a2 : Int32) (a3 : Int32) (h : hp_T) : Option hp_T := fX4_fillCycle_12 fx_N a0 a3 a1 a2 (0 : Int32) h
set_option maxRecDepth 100000 in
set_option maxHeartbeats 4000000 in
theorem mX4_fillCycle (l : Launch) (G : xr_G) (a0 : Nat) (a1 : Int32) (a2 : Int32) (a3 : Int32) (ta0 : hp_sh a0 = (4, 0)) (h h1 : hp_T) (hF : fX4_fillCycle a0 a1 a2 a3 h = some h1) : xr_M l G yX4_fillCycle cX4_fillCycle 8 (xr_R 2 85) none [.ref (G.2.2.1 a0), .int a1, .int a2, .int a3] h (xr_Qv G h1) := by
  refine xr_start rfl (Nat.le_of_ble_eq_true rfl) (fun K C => ?_)
  show xr_j l G K 8 h [(0, .ref (G.2.2.1 a0)), (1, .int a1), (2, .int a2), (3, .int a3)] 0 []
  unfold fX4_fillCycle at hF
  refine xr_iload_n C 3 dX4_fillCycle_0 rfl rfl ?_
  refine xr_istore C [(4, .int a3), (0, .ref (G.2.2.1 a0)), (1, .int a1), (2, .int a2), (3, .int a3)] dX4_fillCycle_1 (Nat.le_of_ble_eq_true rfl) rfl ?_
  refine xr_iload_n C 2 dX4_fillCycle_3 rfl rfl ?_
  refine xr_istore C [(5, .int a1), (4, .int a3), (0, .ref (G.2.2.1 a0)), (1, .int a1), (2, .int a2), (3, .int a3)] dX4_fillCycle_4 (Nat.le_of_ble_eq_true rfl) rfl ?_
  refine xr_iload_n C 4 dX4_fillCycle_6 rfl rfl ?_
  refine xr_istore C [(6, .int a2), (5, .int a1), (4, .int a3), (0, .ref (G.2.2.1 a0)), (1, .int a1), (2, .int a2), (3, .int a3)] dX4_fillCycle_7 (Nat.le_of_ble_eq_true rfl) rfl ?_
  refine xr_iconst (v := 0) C dX4_fillCycle_9 (by decide) ?_
  refine xr_istore C [(7, .int (0 : Int32)), (6, .int a2), (5, .int a1), (4, .int a3), (0, .ref (G.2.2.1 a0)), (1, .int a1), (2, .int a2), (3, .int a3)] dX4_fillCycle_10 (Nat.le_of_ble_eq_true rfl) rfl ?_
  refine xr_sub [4, 3, 2, 1, 0] [(0, .ref (G.2.2.1 a0)), (4, .int a3), (5, .int a1), (6, .int a2), (7, .int (0 : Int32))] rfl ?_
  exact bX4_fillCycle_12 C  fx_N a0 a3 a1 a2 (0 : Int32) ta0 h hF
theorem dX4_fillCell_0 : decode cX4_fillCell 0 = .ok (.iload_n 1, 1) := by decide +kernel
theorem dX4_fillCell_1 : decode cX4_fillCell 1 = .ok (.bipush 12, 2) := by decide +kernel
theorem dX4_fillCell_3 : decode cX4_fillCell 3 = .ok (.iadd, 1) := by decide +kernel
theorem dX4_fillCell_4 : decode cX4_fillCell 4 = .ok (.istore_n 3, 1) := by decide +kernel
theorem dX4_fillCell_5 : decode cX4_fillCell 5 = .ok (.iconst 0, 1) := by decide +kernel
theorem dX4_fillCell_6 : decode cX4_fillCell 6 = .ok (.istore 4, 2) := by decide +kernel
theorem dX4_fillCell_8 : decode cX4_fillCell 8 = .ok (.iload 4, 2) := by decide +kernel
theorem dX4_fillCell_10 : decode cX4_fillCell 10 = .ok (.bipush 12, 2) := by decide +kernel
theorem dX4_fillCell_12 : decode cX4_fillCell 12 = .ok (.if_icmp .ge 137, 3) := by decide +kernel
theorem dX4_fillCell_15 : decode cX4_fillCell 15 = .ok (.iload 4, 2) := by decide +kernel
theorem dX4_fillCell_17 : decode cX4_fillCell 17 = .ok (.iconst 1, 1) := by decide +kernel
theorem dX4_fillCell_18 : decode cX4_fillCell 18 = .ok (.iadd, 1) := by decide +kernel
theorem dX4_fillCell_19 : decode cX4_fillCell 19 = .ok (.bipush 12, 2) := by decide +kernel
theorem dX4_fillCell_21 : decode cX4_fillCell 21 = .ok (.if_icmp .ne 7, 3) := by decide +kernel
theorem dX4_fillCell_24 : decode cX4_fillCell 24 = .ok (.iconst 0, 1) := by decide +kernel
theorem dX4_fillCell_25 : decode cX4_fillCell 25 = .ok (.goto 7, 3) := by decide +kernel
theorem dX4_fillCell_28 : decode cX4_fillCell 28 = .ok (.iload 4, 2) := by decide +kernel
theorem dX4_fillCell_30 : decode cX4_fillCell 30 = .ok (.iconst 1, 1) := by decide +kernel
theorem dX4_fillCell_31 : decode cX4_fillCell 31 = .ok (.iadd, 1) := by decide +kernel
theorem dX4_fillCell_32 : decode cX4_fillCell 32 = .ok (.istore 5, 2) := by decide +kernel
theorem dX4_fillCell_34 : decode cX4_fillCell 34 = .ok (.aload_n 0, 1) := by decide +kernel
theorem dX4_fillCell_35 : decode cX4_fillCell 35 = .ok (.getfield 21, 3) := by decide +kernel
theorem dX4_fillCell_38 : decode cX4_fillCell 38 = .ok (.iload 4, 2) := by decide +kernel
theorem dX4_fillCell_40 : decode cX4_fillCell 40 = .ok (.iaload, 1) := by decide +kernel
theorem dX4_fillCell_41 : decode cX4_fillCell 41 = .ok (.istore 6, 2) := by decide +kernel
theorem dX4_fillCell_43 : decode cX4_fillCell 43 = .ok (.iload 4, 2) := by decide +kernel
theorem dX4_fillCell_45 : decode cX4_fillCell 45 = .ok (.iload_n 2, 1) := by decide +kernel
theorem dX4_fillCell_46 : decode cX4_fillCell 46 = .ok (.iadd, 1) := by decide +kernel
theorem dX4_fillCell_47 : decode cX4_fillCell 47 = .ok (.iconst 1, 1) := by decide +kernel
theorem dX4_fillCell_48 : decode cX4_fillCell 48 = .ok (.iand, 1) := by decide +kernel
theorem dX4_fillCell_49 : decode cX4_fillCell 49 = .ok (.ifCond .ne 7, 3) := by decide +kernel
theorem dX4_fillCell_52 : decode cX4_fillCell 52 = .ok (.iconst 1, 1) := by decide +kernel
theorem dX4_fillCell_53 : decode cX4_fillCell 53 = .ok (.goto 4, 3) := by decide +kernel
theorem dX4_fillCell_56 : decode cX4_fillCell 56 = .ok (.iconst 0, 1) := by decide +kernel
theorem dX4_fillCell_57 : decode cX4_fillCell 57 = .ok (.istore 7, 2) := by decide +kernel
theorem dX4_fillCell_59 : decode cX4_fillCell 59 = .ok (.iload 7, 2) := by decide +kernel
theorem dX4_fillCell_61 : decode cX4_fillCell 61 = .ok (.ifCond .eq 15, 3) := by decide +kernel
theorem dX4_fillCell_64 : decode cX4_fillCell 64 = .ok (.aload_n 0, 1) := by decide +kernel
theorem dX4_fillCell_65 : decode cX4_fillCell 65 = .ok (.getfield 32, 3) := by decide +kernel
theorem dX4_fillCell_68 : decode cX4_fillCell 68 = .ok (.iload_n 1, 1) := by decide +kernel
theorem dX4_fillCell_69 : decode cX4_fillCell 69 = .ok (.iload 4, 2) := by decide +kernel
theorem dX4_fillCell_71 : decode cX4_fillCell 71 = .ok (.iadd, 1) := by decide +kernel
theorem dX4_fillCell_72 : decode cX4_fillCell 72 = .ok (.iaload, 1) := by decide +kernel
theorem dX4_fillCell_73 : decode cX4_fillCell 73 = .ok (.goto 12, 3) := by decide +kernel
theorem dX4_fillCell_76 : decode cX4_fillCell 76 = .ok (.aload_n 0, 1) := by decide +kernel
theorem dX4_fillCell_77 : decode cX4_fillCell 77 = .ok (.getfield 29, 3) := by decide +kernel
theorem dX4_fillCell_80 : decode cX4_fillCell 80 = .ok (.iload_n 3, 1) := by decide +kernel
theorem dX4_fillCell_81 : decode cX4_fillCell 81 = .ok (.iload 4, 2) := by decide +kernel
theorem dX4_fillCell_83 : decode cX4_fillCell 83 = .ok (.iadd, 1) := by decide +kernel
theorem dX4_fillCell_84 : decode cX4_fillCell 84 = .ok (.iaload, 1) := by decide +kernel
theorem dX4_fillCell_85 : decode cX4_fillCell 85 = .ok (.istore 8, 2) := by decide +kernel
theorem dX4_fillCell_87 : decode cX4_fillCell 87 = .ok (.iload 7, 2) := by decide +kernel
theorem dX4_fillCell_89 : decode cX4_fillCell 89 = .ok (.ifCond .eq 15, 3) := by decide +kernel
theorem dX4_fillCell_92 : decode cX4_fillCell 92 = .ok (.aload_n 0, 1) := by decide +kernel
theorem dX4_fillCell_93 : decode cX4_fillCell 93 = .ok (.getfield 29, 3) := by decide +kernel
theorem dX4_fillCell_96 : decode cX4_fillCell 96 = .ok (.iload_n 3, 1) := by decide +kernel
theorem dX4_fillCell_97 : decode cX4_fillCell 97 = .ok (.iload 5, 2) := by decide +kernel
theorem dX4_fillCell_99 : decode cX4_fillCell 99 = .ok (.iadd, 1) := by decide +kernel
theorem dX4_fillCell_100 : decode cX4_fillCell 100 = .ok (.iaload, 1) := by decide +kernel
theorem dX4_fillCell_101 : decode cX4_fillCell 101 = .ok (.goto 12, 3) := by decide +kernel
theorem dX4_fillCell_104 : decode cX4_fillCell 104 = .ok (.aload_n 0, 1) := by decide +kernel
theorem dX4_fillCell_105 : decode cX4_fillCell 105 = .ok (.getfield 32, 3) := by decide +kernel
theorem dX4_fillCell_108 : decode cX4_fillCell 108 = .ok (.iload_n 1, 1) := by decide +kernel
theorem dX4_fillCell_109 : decode cX4_fillCell 109 = .ok (.iload 5, 2) := by decide +kernel
theorem dX4_fillCell_111 : decode cX4_fillCell 111 = .ok (.iadd, 1) := by decide +kernel
theorem dX4_fillCell_112 : decode cX4_fillCell 112 = .ok (.iaload, 1) := by decide +kernel
theorem dX4_fillCell_113 : decode cX4_fillCell 113 = .ok (.istore 9, 2) := by decide +kernel
theorem dX4_fillCell_115 : decode cX4_fillCell 115 = .ok (.aload_n 0, 1) := by decide +kernel
theorem dX4_fillCell_116 : decode cX4_fillCell 116 = .ok (.getfield 29, 3) := by decide +kernel
theorem dX4_fillCell_119 : decode cX4_fillCell 119 = .ok (.iload_n 1, 1) := by decide +kernel
theorem dX4_fillCell_120 : decode cX4_fillCell 120 = .ok (.iload 4, 2) := by decide +kernel
theorem dX4_fillCell_122 : decode cX4_fillCell 122 = .ok (.iadd, 1) := by decide +kernel
theorem dX4_fillCell_123 : decode cX4_fillCell 123 = .ok (.iload 6, 2) := by decide +kernel
theorem dX4_fillCell_125 : decode cX4_fillCell 125 = .ok (.iload 8, 2) := by decide +kernel
theorem dX4_fillCell_127 : decode cX4_fillCell 127 = .ok (.imul, 1) := by decide +kernel
theorem dX4_fillCell_128 : decode cX4_fillCell 128 = .ok (.sipush 1000, 3) := by decide +kernel
theorem dX4_fillCell_131 : decode cX4_fillCell 131 = .ok (.iload 6, 2) := by decide +kernel
theorem dX4_fillCell_133 : decode cX4_fillCell 133 = .ok (.isub, 1) := by decide +kernel
theorem dX4_fillCell_134 : decode cX4_fillCell 134 = .ok (.iload 9, 2) := by decide +kernel
theorem dX4_fillCell_136 : decode cX4_fillCell 136 = .ok (.imul, 1) := by decide +kernel
theorem dX4_fillCell_137 : decode cX4_fillCell 137 = .ok (.iadd, 1) := by decide +kernel
theorem dX4_fillCell_138 : decode cX4_fillCell 138 = .ok (.sipush 1000, 3) := by decide +kernel
theorem dX4_fillCell_141 : decode cX4_fillCell 141 = .ok (.idiv, 1) := by decide +kernel
theorem dX4_fillCell_142 : decode cX4_fillCell 142 = .ok (.iastore, 1) := by decide +kernel
theorem dX4_fillCell_143 : decode cX4_fillCell 143 = .ok (.iinc 4 1, 3) := by decide +kernel
theorem dX4_fillCell_146 : decode cX4_fillCell 146 = .ok (.goto (-138), 3) := by decide +kernel
theorem dX4_fillCell_149 : decode cX4_fillCell 149 = .ok (.return_, 1) := by decide +kernel
def fX4_fillCell_113 (k8 : Nat → Int32 → Int32 → Int32 → Int32 → hp_T → Option hp_T) (a0 : Nat) (a1 : Int32) (a2 : Int32) (a3 : Int32) (a4 : Int32) (a6 : Int32) (a8 : Int32) (s0 : Int32) (h : hp_T) : Option hp_T := fx_g (fx_in (a1 + a4) 312) (fx_let (hp_sI h (h.2.2 a0 4) (fx_ix (a1 + a4)) (((a6 * a8) + (((1000 : Int32) - a6) * s0)) / (1000 : Int32))) fun (h142 : hp_T) => fx_let (a4 + (1 : Int32)) fun (x143 : Int32) => k8 a0 a1 a2 a3 x143 h142)
set_option maxRecDepth 100000 in
set_option maxHeartbeats 4000000 in
theorem bX4_fillCell_113 {l : Launch} {G : xr_G} {K : xr_K} {h1 : hp_T} (C : xr_C G K cX4_fillCell RX4 10 (xr_R 0 0) none (some (xr_Qv G h1))) (k8 : Nat → Int32 → Int32 → Int32 → Int32 → hp_T → Option hp_T) (j8 : ∀ (a0 : Nat) (a1 : Int32) (a2 : Int32) (a3 : Int32) (a4 : Int32) (ta0 : hp_sh a0 = (4, 0)) (h : hp_T), k8 a0 a1 a2 a3 a4 h = some h1 → xr_j l G K 10 h [(0, .ref (G.2.2.1 a0)), (1, .int a1), (2, .int a2), (3, .int a3), (4, .int a4)] 8 []) (a0 : Nat) (a1 : Int32) (a2 : Int32) (a3 : Int32) (a4 : Int32) (a6 : Int32) (a8 : Int32) (s0 : Int32) (ta0 : hp_sh a0 = (4, 0)) (h : hp_T) (hF : fX4_fillCell_113 k8 a0 a1 a2 a3 a4 a6 a8 s0 h = some h1) : xr_j l G K 10 h [(0, .ref (G.2.2.1 a0)), (1, .int a1), (2, .int a2), (3, .int a3), (4, .int a4), (6, .int a6), (8, .int a8)] 113 [.int s0] := by
  unfold fX4_fillCell_113 at hF
  refine xr_istore C [(9, .int s0), (0, .ref (G.2.2.1 a0)), (1, .int a1), (2, .int a2), (3, .int a3), (4, .int a4), (6, .int a6), (8, .int a8)] dX4_fillCell_113 (Nat.le_of_ble_eq_true rfl) rfl ?_
  refine xr_aload_n C 1 dX4_fillCell_115 rfl rfl ?_
  refine xr_getr C flX4_29 rfl (by decide) dX4_fillCell_116 ta0 (fun t116 => ?_)
  refine xr_iload_n C 2 dX4_fillCell_119 rfl rfl ?_
  refine xr_iload C 5 dX4_fillCell_120 rfl ?_
  refine xr_iadd C dX4_fillCell_122 ?_
  refine xr_iload C 6 dX4_fillCell_123 rfl ?_
  refine xr_iload C 7 dX4_fillCell_125 rfl ?_
  refine xr_imul C dX4_fillCell_127 ?_
  refine xr_sipush (v := 1000) C dX4_fillCell_128 (by decide) ?_
  refine xr_iload C 6 dX4_fillCell_131 rfl ?_
  refine xr_isub C dX4_fillCell_133 ?_
  refine xr_iload C 0 dX4_fillCell_134 rfl ?_
  refine xr_imul C dX4_fillCell_136 ?_
  refine xr_iadd C dX4_fillCell_137 ?_
  refine xr_sipush (v := 1000) C dX4_fillCell_138 (by decide) ?_
  refine xr_idiv C dX4_fillCell_141 (by decide) ?_
  obtain ⟨g142, hF⟩ := fx_gE hF
  refine xr_iast C dX4_fillCell_142 t116 g142 (fun h142 e142 => ?_)
  have hF := fx_letE hF h142 e142
  obtain ⟨x143, e143⟩ : ∃ y : Int32, y = (a4 + (1 : Int32)) := ⟨_, rfl⟩
  have hF := fx_letE hF x143 e143
  refine xr_iinc C x143 5 [(4, .int x143), (9, .int s0), (0, .ref (G.2.2.1 a0)), (1, .int a1), (2, .int a2), (3, .int a3), (6, .int a6), (8, .int a8)] dX4_fillCell_143 rfl (by rw [e143]; rfl) (Nat.le_of_ble_eq_true rfl) rfl ?_
  refine xr_goto C 8 dX4_fillCell_146 (by decide) ?_
  refine xr_sub [2, 3, 4, 5, 0] [(0, .ref (G.2.2.1 a0)), (1, .int a1), (2, .int a2), (3, .int a3), (4, .int x143)] rfl ?_
  exact j8 a0 a1 a2 a3 x143 ta0 h142 hF
def fX4_fillCell_85 (k8 : Nat → Int32 → Int32 → Int32 → Int32 → hp_T → Option hp_T) (a0 : Nat) (a1 : Int32) (a2 : Int32) (a3 : Int32) (a4 : Int32) (a5 : Int32) (a6 : Int32) (a7 : Int32) (s0 : Int32) (h : hp_T) : Option hp_T := if a7 = 0 then (fx_g (fx_in (a1 + a5) 312) (fX4_fillCell_113 k8 a0 a1 a2 a3 a4 a6 s0 (h.1 (h.2.2 a0 5) (fx_ix (a1 + a5))) h)) else (fx_g (fx_in (a3 + a5) 312) (fX4_fillCell_113 k8 a0 a1 a2 a3 a4 a6 s0 (h.1 (h.2.2 a0 4) (fx_ix (a3 + a5))) h))
set_option maxRecDepth 100000 in
set_option maxHeartbeats 4000000 in
theorem bX4_fillCell_85 {l : Launch} {G : xr_G} {K : xr_K} {h1 : hp_T} (C : xr_C G K cX4_fillCell RX4 10 (xr_R 0 0) none (some (xr_Qv G h1))) (k8 : Nat → Int32 → Int32 → Int32 → Int32 → hp_T → Option hp_T) (j8 : ∀ (a0 : Nat) (a1 : Int32) (a2 : Int32) (a3 : Int32) (a4 : Int32) (ta0 : hp_sh a0 = (4, 0)) (h : hp_T), k8 a0 a1 a2 a3 a4 h = some h1 → xr_j l G K 10 h [(0, .ref (G.2.2.1 a0)), (1, .int a1), (2, .int a2), (3, .int a3), (4, .int a4)] 8 []) (a0 : Nat) (a1 : Int32) (a2 : Int32) (a3 : Int32) (a4 : Int32) (a5 : Int32) (a6 : Int32) (a7 : Int32) (s0 : Int32) (ta0 : hp_sh a0 = (4, 0)) (h : hp_T) (hF : fX4_fillCell_85 k8 a0 a1 a2 a3 a4 a5 a6 a7 s0 h = some h1) : xr_j l G K 10 h [(0, .ref (G.2.2.1 a0)), (1, .int a1), (2, .int a2), (3, .int a3), (4, .int a4), (5, .int a5), (6, .int a6), (7, .int a7)] 85 [.int s0] := by
  unfold fX4_fillCell_85 at hF
  refine xr_istore C [(8, .int s0), (0, .ref (G.2.2.1 a0)), (1, .int a1), (2, .int a2), (3, .int a3), (4, .int a4), (5, .int a5), (6, .int a6), (7, .int a7)] dX4_fillCell_85 (Nat.le_of_ble_eq_true rfl) rfl ?_
  refine xr_iload C 8 dX4_fillCell_87 rfl ?_
  refine xr_if_eq C 104 dX4_fillCell_89 (by decide) (fun c89 => ?_) (fun c89 => ?_)
  · have hF := fx_pos hF c89
    refine xr_aload_n C 1 dX4_fillCell_104 rfl rfl ?_
    refine xr_getr C flX4_32 rfl (by decide) dX4_fillCell_105 ta0 (fun t105 => ?_)
    refine xr_iload_n C 2 dX4_fillCell_108 rfl rfl ?_
    refine xr_iload C 6 dX4_fillCell_109 rfl ?_
    refine xr_iadd C dX4_fillCell_111 ?_
    obtain ⟨g112, hF⟩ := fx_gE hF
    refine xr_iald C dX4_fillCell_112 t105 g112 ?_
    refine xr_sub [1, 2, 3, 4, 5, 7, 0] [(0, .ref (G.2.2.1 a0)), (1, .int a1), (2, .int a2), (3, .int a3), (4, .int a4), (6, .int a6), (8, .int s0)] rfl ?_
    exact bX4_fillCell_113 C k8 j8  a0 a1 a2 a3 a4 a6 s0 (h.1 (h.2.2 a0 5) (fx_ix (a1 + a5))) ta0 h hF
  · have hF := fx_neg hF c89
    refine xr_aload_n C 1 dX4_fillCell_92 rfl rfl ?_
    refine xr_getr C flX4_29 rfl (by decide) dX4_fillCell_93 ta0 (fun t93 => ?_)
    refine xr_iload_n C 4 dX4_fillCell_96 rfl rfl ?_
    refine xr_iload C 6 dX4_fillCell_97 rfl ?_
    refine xr_iadd C dX4_fillCell_99 ?_
    obtain ⟨g100, hF⟩ := fx_gE hF
    refine xr_iald C dX4_fillCell_100 t93 g100 ?_
    refine xr_goto C 113 dX4_fillCell_101 (by decide) ?_
    refine xr_sub [1, 2, 3, 4, 5, 7, 0] [(0, .ref (G.2.2.1 a0)), (1, .int a1), (2, .int a2), (3, .int a3), (4, .int a4), (6, .int a6), (8, .int s0)] rfl ?_
    exact bX4_fillCell_113 C k8 j8  a0 a1 a2 a3 a4 a6 s0 (h.1 (h.2.2 a0 4) (fx_ix (a3 + a5))) ta0 h hF
def fX4_fillCell_57 (k8 : Nat → Int32 → Int32 → Int32 → Int32 → hp_T → Option hp_T) (a0 : Nat) (a1 : Int32) (a2 : Int32) (a3 : Int32) (a4 : Int32) (a5 : Int32) (a6 : Int32) (s0 : Int32) (h : hp_T) : Option hp_T := if s0 = 0 then (fx_g (fx_in (a3 + a4) 312) (fX4_fillCell_85 k8 a0 a1 a2 a3 a4 a5 a6 s0 (h.1 (h.2.2 a0 4) (fx_ix (a3 + a4))) h)) else (fx_g (fx_in (a1 + a4) 312) (fX4_fillCell_85 k8 a0 a1 a2 a3 a4 a5 a6 s0 (h.1 (h.2.2 a0 5) (fx_ix (a1 + a4))) h))
set_option maxRecDepth 100000 in
set_option maxHeartbeats 4000000 in
theorem bX4_fillCell_57 {l : Launch} {G : xr_G} {K : xr_K} {h1 : hp_T} (C : xr_C G K cX4_fillCell RX4 10 (xr_R 0 0) none (some (xr_Qv G h1))) (k8 : Nat → Int32 → Int32 → Int32 → Int32 → hp_T → Option hp_T) (j8 : ∀ (a0 : Nat) (a1 : Int32) (a2 : Int32) (a3 : Int32) (a4 : Int32) (ta0 : hp_sh a0 = (4, 0)) (h : hp_T), k8 a0 a1 a2 a3 a4 h = some h1 → xr_j l G K 10 h [(0, .ref (G.2.2.1 a0)), (1, .int a1), (2, .int a2), (3, .int a3), (4, .int a4)] 8 []) (a0 : Nat) (a1 : Int32) (a2 : Int32) (a3 : Int32) (a4 : Int32) (a5 : Int32) (a6 : Int32) (s0 : Int32) (ta0 : hp_sh a0 = (4, 0)) (h : hp_T) (hF : fX4_fillCell_57 k8 a0 a1 a2 a3 a4 a5 a6 s0 h = some h1) : xr_j l G K 10 h [(0, .ref (G.2.2.1 a0)), (1, .int a1), (2, .int a2), (3, .int a3), (4, .int a4), (5, .int a5), (6, .int a6)] 57 [.int s0] := by
  unfold fX4_fillCell_57 at hF
  refine xr_istore C [(7, .int s0), (0, .ref (G.2.2.1 a0)), (1, .int a1), (2, .int a2), (3, .int a3), (4, .int a4), (5, .int a5), (6, .int a6)] dX4_fillCell_57 (Nat.le_of_ble_eq_true rfl) rfl ?_
  refine xr_iload C 0 dX4_fillCell_59 rfl ?_
  refine xr_if_eq C 76 dX4_fillCell_61 (by decide) (fun c61 => ?_) (fun c61 => ?_)
  · have hF := fx_pos hF c61
    refine xr_aload_n C 1 dX4_fillCell_76 rfl rfl ?_
    refine xr_getr C flX4_29 rfl (by decide) dX4_fillCell_77 ta0 (fun t77 => ?_)
    refine xr_iload_n C 4 dX4_fillCell_80 rfl rfl ?_
    refine xr_iload C 5 dX4_fillCell_81 rfl ?_
    refine xr_iadd C dX4_fillCell_83 ?_
    obtain ⟨g84, hF⟩ := fx_gE hF
    refine xr_iald C dX4_fillCell_84 t77 g84 ?_
    refine xr_sub [1, 2, 3, 4, 5, 6, 7, 0] [(0, .ref (G.2.2.1 a0)), (1, .int a1), (2, .int a2), (3, .int a3), (4, .int a4), (5, .int a5), (6, .int a6), (7, .int s0)] rfl ?_
    exact bX4_fillCell_85 C k8 j8  a0 a1 a2 a3 a4 a5 a6 s0 (h.1 (h.2.2 a0 4) (fx_ix (a3 + a4))) ta0 h hF
  · have hF := fx_neg hF c61
    refine xr_aload_n C 1 dX4_fillCell_64 rfl rfl ?_
    refine xr_getr C flX4_32 rfl (by decide) dX4_fillCell_65 ta0 (fun t65 => ?_)
    refine xr_iload_n C 2 dX4_fillCell_68 rfl rfl ?_
    refine xr_iload C 5 dX4_fillCell_69 rfl ?_
    refine xr_iadd C dX4_fillCell_71 ?_
    obtain ⟨g72, hF⟩ := fx_gE hF
    refine xr_iald C dX4_fillCell_72 t65 g72 ?_
    refine xr_goto C 85 dX4_fillCell_73 (by decide) ?_
    refine xr_sub [1, 2, 3, 4, 5, 6, 7, 0] [(0, .ref (G.2.2.1 a0)), (1, .int a1), (2, .int a2), (3, .int a3), (4, .int a4), (5, .int a5), (6, .int a6), (7, .int s0)] rfl ?_
    exact bX4_fillCell_85 C k8 j8  a0 a1 a2 a3 a4 a5 a6 s0 (h.1 (h.2.2 a0 5) (fx_ix (a1 + a4))) ta0 h hF
def fX4_fillCell_32 (k8 : Nat → Int32 → Int32 → Int32 → Int32 → hp_T → Option hp_T) (a0 : Nat) (a1 : Int32) (a2 : Int32) (a3 : Int32) (a4 : Int32) (s0 : Int32) (h : hp_T) : Option hp_T := fx_g (fx_in a4 12) (fx_let (h.1 (h.2.2 a0 2) (fx_ix a4)) fun (x41 : Int32) => if ((a4 + a2) &&& (1 : Int32)) = 0 then (fX4_fillCell_57 k8 a0 a1 a2 a3 a4 s0 x41 (1 : Int32) h) else (fX4_fillCell_57 k8 a0 a1 a2 a3 a4 s0 x41 (0 : Int32) h))
set_option maxRecDepth 100000 in
set_option maxHeartbeats 4000000 in
theorem bX4_fillCell_32 {l : Launch} {G : xr_G} {K : xr_K} {h1 : hp_T} (C : xr_C G K cX4_fillCell RX4 10 (xr_R 0 0) none (some (xr_Qv G h1))) (k8 : Nat → Int32 → Int32 → Int32 → Int32 → hp_T → Option hp_T) (j8 : ∀ (a0 : Nat) (a1 : Int32) (a2 : Int32) (a3 : Int32) (a4 : Int32) (ta0 : hp_sh a0 = (4, 0)) (h : hp_T), k8 a0 a1 a2 a3 a4 h = some h1 → xr_j l G K 10 h [(0, .ref (G.2.2.1 a0)), (1, .int a1), (2, .int a2), (3, .int a3), (4, .int a4)] 8 []) (a0 : Nat) (a1 : Int32) (a2 : Int32) (a3 : Int32) (a4 : Int32) (s0 : Int32) (ta0 : hp_sh a0 = (4, 0)) (h : hp_T) (hF : fX4_fillCell_32 k8 a0 a1 a2 a3 a4 s0 h = some h1) : xr_j l G K 10 h [(0, .ref (G.2.2.1 a0)), (1, .int a1), (2, .int a2), (3, .int a3), (4, .int a4)] 32 [.int s0] := by
  unfold fX4_fillCell_32 at hF
  refine xr_istore C [(5, .int s0), (0, .ref (G.2.2.1 a0)), (1, .int a1), (2, .int a2), (3, .int a3), (4, .int a4)] dX4_fillCell_32 (Nat.le_of_ble_eq_true rfl) rfl ?_
  refine xr_aload_n C 1 dX4_fillCell_34 rfl rfl ?_
  refine xr_getr C flX4_21 rfl (by decide) dX4_fillCell_35 ta0 (fun t35 => ?_)
  refine xr_iload C 5 dX4_fillCell_38 rfl ?_
  obtain ⟨g40, hF⟩ := fx_gE hF
  refine xr_iald C dX4_fillCell_40 t35 g40 ?_
  refine xr_topi (fun x41 e41 => ?_)
  have hF := fx_letE hF x41 e41
  refine xr_istore C [(6, .int x41), (5, .int s0), (0, .ref (G.2.2.1 a0)), (1, .int a1), (2, .int a2), (3, .int a3), (4, .int a4)] dX4_fillCell_41 (Nat.le_of_ble_eq_true rfl) rfl ?_
  refine xr_iload C 6 dX4_fillCell_43 rfl ?_
  refine xr_iload_n C 4 dX4_fillCell_45 rfl rfl ?_
  refine xr_iadd C dX4_fillCell_46 ?_
  refine xr_iconst (v := 1) C dX4_fillCell_47 (by decide) ?_
  refine xr_iand C dX4_fillCell_48 ?_
  refine xr_if_ne C 56 dX4_fillCell_49 (by decide) (fun c49 => ?_) (fun c49 => ?_)
  · have hF := fx_neg hF c49
    refine xr_iconst (v := 0) C dX4_fillCell_56 (by decide) ?_
    refine xr_sub [2, 3, 4, 5, 6, 1, 0] [(0, .ref (G.2.2.1 a0)), (1, .int a1), (2, .int a2), (3, .int a3), (4, .int a4), (5, .int s0), (6, .int x41)] rfl ?_
    exact bX4_fillCell_57 C k8 j8  a0 a1 a2 a3 a4 s0 x41 (0 : Int32) ta0 h hF
  · have hF := fx_pos hF c49
    refine xr_iconst (v := 1) C dX4_fillCell_52 (by decide) ?_
    refine xr_goto C 57 dX4_fillCell_53 (by decide) ?_
    refine xr_sub [2, 3, 4, 5, 6, 1, 0] [(0, .ref (G.2.2.1 a0)), (1, .int a1), (2, .int a2), (3, .int a3), (4, .int a4), (5, .int s0), (6, .int x41)] rfl ?_
    exact bX4_fillCell_57 C k8 j8  a0 a1 a2 a3 a4 s0 x41 (1 : Int32) ta0 h hF
def fX4_fillCell_8  : Nat → Nat → Int32 → Int32 → Int32 → Int32 → hp_T → Option hp_T
  | 0, _, _, _, _, _, _ => none
  | n + 1, a0, a1, a2, a3, a4, h => if (12 : Int32) ≤ a4 then (some h) else (if (a4 + (1 : Int32)) = (12 : Int32) then (fX4_fillCell_32 (fX4_fillCell_8 n) a0 a1 a2 a3 a4 (0 : Int32) h) else (fX4_fillCell_32 (fX4_fillCell_8 n) a0 a1 a2 a3 a4 (a4 + (1 : Int32)) h))
set_option maxRecDepth 100000 in
set_option maxHeartbeats 4000000 in
theorem bX4_fillCell_8 {l : Launch} {G : xr_G} {K : xr_K} {h1 : hp_T} (C : xr_C G K cX4_fillCell RX4 10 (xr_R 0 0) none (some (xr_Qv G h1)))  : ∀ (n : Nat) (a0 : Nat) (a1 : Int32) (a2 : Int32) (a3 : Int32) (a4 : Int32) (ta0 : hp_sh a0 = (4, 0)) (h : hp_T), fX4_fillCell_8 n a0 a1 a2 a3 a4 h = some h1 → xr_j l G K 10 h [(0, .ref (G.2.2.1 a0)), (1, .int a1), (2, .int a2), (3, .int a3), (4, .int a4)] 8 [] := by
  intro n
  induction n with
  | zero =>
    intro a0 a1 a2 a3 a4 ta0 h hF
    cases hF
  | succ n ih =>
    intro a0 a1 a2 a3 a4 ta0 h hF
    rw [fX4_fillCell_8] at hF
    refine xr_iload C 4 dX4_fillCell_8 rfl ?_
    refine xr_bipush (v := 12) C dX4_fillCell_10 (by decide) ?_
    refine xr_icmp_ge C 149 dX4_fillCell_12 (by decide) (fun c12 => ?_) (fun c12 => ?_)
    · have hF := fx_pos hF c12
      cases hF
      exact xr_vret C dX4_fillCell_149
    · have hF := fx_neg hF c12
      refine xr_iload C 4 dX4_fillCell_15 rfl ?_
      refine xr_iconst (v := 1) C dX4_fillCell_17 (by decide) ?_
      refine xr_iadd C dX4_fillCell_18 ?_
      refine xr_bipush (v := 12) C dX4_fillCell_19 (by decide) ?_
      refine xr_icmp_ne C 28 dX4_fillCell_21 (by decide) (fun c21 => ?_) (fun c21 => ?_)
      · have hF := fx_neg hF c21
        refine xr_iload C 4 dX4_fillCell_28 rfl ?_
        refine xr_iconst (v := 1) C dX4_fillCell_30 (by decide) ?_
        refine xr_iadd C dX4_fillCell_31 ?_
        exact bX4_fillCell_32 C (fX4_fillCell_8 n) (fun a0 a1 a2 a3 a4 ta0 h hF => ih a0 a1 a2 a3 a4 ta0 h hF)  a0 a1 a2 a3 a4 (a4 + (1 : Int32)) ta0 h hF
      · have hF := fx_pos hF c21
        refine xr_iconst (v := 0) C dX4_fillCell_24 (by decide) ?_
        refine xr_goto C 32 dX4_fillCell_25 (by decide) ?_
        exact bX4_fillCell_32 C (fX4_fillCell_8 n) (fun a0 a1 a2 a3 a4 ta0 h hF => ih a0 a1 a2 a3 a4 ta0 h hF)  a0 a1 a2 a3 a4 (0 : Int32) ta0 h hF
def fX4_fillCell (a0 : Nat) (a1 : Int32) (a2 : Int32) (h : hp_T) : Option hp_T := fx_let (a1 + (12 : Int32)) fun (x4 : Int32) => fX4_fillCell_8 fx_N a0 a1 a2 x4 (0 : Int32) h
set_option maxRecDepth 100000 in
set_option maxHeartbeats 4000000 in
theorem mX4_fillCell (l : Launch) (G : xr_G) (a0 : Nat) (a1 : Int32) (a2 : Int32) (ta0 : hp_sh a0 = (4, 0)) (h h1 : hp_T) (hF : fX4_fillCell a0 a1 a2 h = some h1) : xr_M l G yX4_fillCell cX4_fillCell 10 (xr_R 0 0) none [.ref (G.2.2.1 a0), .int a1, .int a2] h (xr_Qv G h1) := by
  refine xr_start rfl (Nat.le_of_ble_eq_true rfl) (fun K C => ?_)
  show xr_j l G K 10 h [(0, .ref (G.2.2.1 a0)), (1, .int a1), (2, .int a2)] 0 []
  unfold fX4_fillCell at hF
  refine xr_iload_n C 1 dX4_fillCell_0 rfl rfl ?_
  refine xr_bipush (v := 12) C dX4_fillCell_1 (by decide) ?_
  refine xr_iadd C dX4_fillCell_3 ?_
  refine xr_topi (fun x4 e4 => ?_)
  have hF := fx_letE hF x4 e4
  refine xr_istore_n C [(3, .int x4), (0, .ref (G.2.2.1 a0)), (1, .int a1), (2, .int a2)] dX4_fillCell_4 rfl (Nat.le_of_ble_eq_true rfl) rfl ?_
  refine xr_iconst (v := 0) C dX4_fillCell_5 (by decide) ?_
  refine xr_istore C [(4, .int (0 : Int32)), (3, .int x4), (0, .ref (G.2.2.1 a0)), (1, .int a1), (2, .int a2)] dX4_fillCell_6 (Nat.le_of_ble_eq_true rfl) rfl ?_
  refine xr_sub [2, 3, 4, 1, 0] [(0, .ref (G.2.2.1 a0)), (1, .int a1), (2, .int a2), (3, .int x4), (4, .int (0 : Int32))] rfl ?_
  exact bX4_fillCell_8 C  fx_N a0 a1 a2 x4 (0 : Int32) ta0 h hF
theorem dX4_fillValues_0 : decode cX4_fillValues 0 = .ok (.aload_n 0, 1) := by decide +kernel
theorem dX4_fillValues_1 : decode cX4_fillValues 1 = .ok (.getfield 29, 3) := by decide +kernel
theorem dX4_fillValues_4 : decode cX4_fillValues 4 = .ok (.ldc 79, 2) := by decide +kernel
theorem dX4_fillValues_6 : decode cX4_fillValues 6 = .ok (.invokestatic 91, 3) := by decide +kernel
theorem dX4_fillValues_9 : decode cX4_fillValues 9 = .ok (.aload_n 0, 1) := by decide +kernel
theorem dX4_fillValues_10 : decode cX4_fillValues 10 = .ok (.getfield 47, 3) := by decide +kernel
theorem dX4_fillValues_13 : decode cX4_fillValues 13 = .ok (.iconst 1, 1) := by decide +kernel
theorem dX4_fillValues_14 : decode cX4_fillValues 14 = .ok (.isub, 1) := by decide +kernel
theorem dX4_fillValues_15 : decode cX4_fillValues 15 = .ok (.istore 4, 2) := by decide +kernel
theorem dX4_fillValues_17 : decode cX4_fillValues 17 = .ok (.iload 4, 2) := by decide +kernel
theorem dX4_fillValues_19 : decode cX4_fillValues 19 = .ok (.iload_n 1, 1) := by decide +kernel
theorem dX4_fillValues_20 : decode cX4_fillValues 20 = .ok (.if_icmp .lt 91, 3) := by decide +kernel
theorem dX4_fillValues_23 : decode cX4_fillValues 23 = .ok (.aload_n 0, 1) := by decide +kernel
theorem dX4_fillValues_24 : decode cX4_fillValues 24 = .ok (.getfield 32, 3) := by decide +kernel
theorem dX4_fillValues_27 : decode cX4_fillValues 27 = .ok (.astore 5, 2) := by decide +kernel
theorem dX4_fillValues_29 : decode cX4_fillValues 29 = .ok (.aload_n 0, 1) := by decide +kernel
theorem dX4_fillValues_30 : decode cX4_fillValues 30 = .ok (.aload_n 0, 1) := by decide +kernel
theorem dX4_fillValues_31 : decode cX4_fillValues 31 = .ok (.getfield 29, 3) := by decide +kernel
theorem dX4_fillValues_34 : decode cX4_fillValues 34 = .ok (.putfield 32, 3) := by decide +kernel
theorem dX4_fillValues_37 : decode cX4_fillValues 37 = .ok (.aload_n 0, 1) := by decide +kernel
theorem dX4_fillValues_38 : decode cX4_fillValues 38 = .ok (.aload 5, 2) := by decide +kernel
theorem dX4_fillValues_40 : decode cX4_fillValues 40 = .ok (.putfield 29, 3) := by decide +kernel
theorem dX4_fillValues_43 : decode cX4_fillValues 43 = .ok (.iconst 0, 1) := by decide +kernel
theorem dX4_fillValues_44 : decode cX4_fillValues 44 = .ok (.istore 6, 2) := by decide +kernel
theorem dX4_fillValues_46 : decode cX4_fillValues 46 = .ok (.iload 6, 2) := by decide +kernel
theorem dX4_fillValues_48 : decode cX4_fillValues 48 = .ok (.bipush 12, 2) := by decide +kernel
theorem dX4_fillValues_50 : decode cX4_fillValues 50 = .ok (.if_icmp .ge 25, 3) := by decide +kernel
theorem dX4_fillValues_53 : decode cX4_fillValues 53 = .ok (.aload_n 0, 1) := by decide +kernel
theorem dX4_fillValues_54 : decode cX4_fillValues 54 = .ok (.getfield 29, 3) := by decide +kernel
theorem dX4_fillValues_57 : decode cX4_fillValues 57 = .ok (.aload_n 0, 1) := by decide +kernel
theorem dX4_fillValues_58 : decode cX4_fillValues 58 = .ok (.getfield 47, 3) := by decide +kernel
theorem dX4_fillValues_61 : decode cX4_fillValues 61 = .ok (.bipush 12, 2) := by decide +kernel
theorem dX4_fillValues_63 : decode cX4_fillValues 63 = .ok (.imul, 1) := by decide +kernel
theorem dX4_fillValues_64 : decode cX4_fillValues 64 = .ok (.iload 6, 2) := by decide +kernel
theorem dX4_fillValues_66 : decode cX4_fillValues 66 = .ok (.iadd, 1) := by decide +kernel
theorem dX4_fillValues_67 : decode cX4_fillValues 67 = .ok (.iconst 0, 1) := by decide +kernel
theorem dX4_fillValues_68 : decode cX4_fillValues 68 = .ok (.iastore, 1) := by decide +kernel
theorem dX4_fillValues_69 : decode cX4_fillValues 69 = .ok (.iinc 6 1, 3) := by decide +kernel
theorem dX4_fillValues_72 : decode cX4_fillValues 72 = .ok (.goto (-26), 3) := by decide +kernel
theorem dX4_fillValues_75 : decode cX4_fillValues 75 = .ok (.aload_n 0, 1) := by decide +kernel
theorem dX4_fillValues_76 : decode cX4_fillValues 76 = .ok (.getfield 47, 3) := by decide +kernel
theorem dX4_fillValues_79 : decode cX4_fillValues 79 = .ok (.iconst 1, 1) := by decide +kernel
theorem dX4_fillValues_80 : decode cX4_fillValues 80 = .ok (.isub, 1) := by decide +kernel
theorem dX4_fillValues_81 : decode cX4_fillValues 81 = .ok (.istore 6, 2) := by decide +kernel
theorem dX4_fillValues_83 : decode cX4_fillValues 83 = .ok (.iload 6, 2) := by decide +kernel
theorem dX4_fillValues_85 : decode cX4_fillValues 85 = .ok (.iload_n 2, 1) := by decide +kernel
theorem dX4_fillValues_86 : decode cX4_fillValues 86 = .ok (.if_icmp .lt 19, 3) := by decide +kernel
theorem dX4_fillValues_89 : decode cX4_fillValues 89 = .ok (.aload_n 0, 1) := by decide +kernel
theorem dX4_fillValues_90 : decode cX4_fillValues 90 = .ok (.iload 6, 2) := by decide +kernel
theorem dX4_fillValues_92 : decode cX4_fillValues 92 = .ok (.bipush 12, 2) := by decide +kernel
theorem dX4_fillValues_94 : decode cX4_fillValues 94 = .ok (.imul, 1) := by decide +kernel
theorem dX4_fillValues_95 : decode cX4_fillValues 95 = .ok (.iload_n 3, 1) := by decide +kernel
theorem dX4_fillValues_96 : decode cX4_fillValues 96 = .ok (.invokevirtual 97, 3) := by decide +kernel
theorem dX4_fillValues_99 : decode cX4_fillValues 99 = .ok (.iinc 6 (-1), 3) := by decide +kernel
theorem dX4_fillValues_102 : decode cX4_fillValues 102 = .ok (.goto (-19), 3) := by decide +kernel
theorem dX4_fillValues_105 : decode cX4_fillValues 105 = .ok (.iinc 4 (-1), 3) := by decide +kernel
theorem dX4_fillValues_108 : decode cX4_fillValues 108 = .ok (.goto (-91), 3) := by decide +kernel
theorem dX4_fillValues_111 : decode cX4_fillValues 111 = .ok (.return_, 1) := by decide +kernel
def fX4_fillValues_83 (k17 : Nat → Int32 → Int32 → Int32 → Int32 → hp_T → Option hp_T) : Nat → Nat → Int32 → Int32 → Int32 → Int32 → Int32 → hp_T → Option hp_T
  | 0, _, _, _, _, _, _, _ => none
  | n + 1, a0, a1, a2, a3, a4, a6, h => if a6 < a2 then (fx_let (a4 + (-1 : Int32)) fun (x105 : Int32) => k17 a0 a1 a2 a3 x105 h) else (fx_b1 (fX4_fillCell a0 (a6 * (12 : Int32)) a3 h) fun (h96 : hp_T) => fx_let (a6 + (-1 : Int32)) fun (x99 : Int32) => fX4_fillValues_83 k17 n a0 a1 a2 a3 a4 x99 h96)
set_option maxRecDepth 100000 in
set_option maxHeartbeats 4000000 in
theorem bX4_fillValues_83 {l : Launch} {G : xr_G} {K : xr_K} {h1 : hp_T} (C : xr_C G K cX4_fillValues RX4 7 (xr_R 1 29) none (some (xr_Qv G h1))) (k17 : Nat → Int32 → Int32 → Int32 → Int32 → hp_T → Option hp_T) (j17 : ∀ (a0 : Nat) (a1 : Int32) (a2 : Int32) (a3 : Int32) (a4 : Int32) (ta0 : hp_sh a0 = (4, 0)) (h : hp_T), k17 a0 a1 a2 a3 a4 h = some h1 → xr_j l G K 7 h [(0, .ref (G.2.2.1 a0)), (1, .int a1), (2, .int a2), (3, .int a3), (4, .int a4)] 17 []) : ∀ (n : Nat) (a0 : Nat) (a1 : Int32) (a2 : Int32) (a3 : Int32) (a4 : Int32) (a6 : Int32) (ta0 : hp_sh a0 = (4, 0)) (h : hp_T), fX4_fillValues_83 k17 n a0 a1 a2 a3 a4 a6 h = some h1 → xr_j l G K 7 h [(0, .ref (G.2.2.1 a0)), (1, .int a1), (2, .int a2), (3, .int a3), (4, .int a4), (6, .int a6)] 83 [] := by
  intro n
  induction n with
  | zero =>
    intro a0 a1 a2 a3 a4 a6 ta0 h hF
    cases hF
  | succ n ih =>
    intro a0 a1 a2 a3 a4 a6 ta0 h hF
    rw [fX4_fillValues_83] at hF
    refine xr_iload C 5 dX4_fillValues_83 rfl ?_
    refine xr_iload_n C 2 dX4_fillValues_85 rfl rfl ?_
    refine xr_icmp_lt C 105 dX4_fillValues_86 (by decide) (fun c86 => ?_) (fun c86 => ?_)
    · have hF := fx_pos hF c86
      obtain ⟨x105, e105⟩ : ∃ y : Int32, y = (a4 + (-1 : Int32)) := ⟨_, rfl⟩
      have hF := fx_letE hF x105 e105
      refine xr_iinc C x105 4 [(4, .int x105), (0, .ref (G.2.2.1 a0)), (1, .int a1), (2, .int a2), (3, .int a3), (6, .int a6)] dX4_fillValues_105 rfl (by rw [e105]; rfl) (Nat.le_of_ble_eq_true rfl) rfl ?_
      refine xr_goto C 17 dX4_fillValues_108 (by decide) ?_
      refine xr_sub [1, 2, 3, 4, 0] [(0, .ref (G.2.2.1 a0)), (1, .int a1), (2, .int a2), (3, .int a3), (4, .int x105)] rfl ?_
      exact j17 a0 a1 a2 a3 x105 ta0 h hF
    · have hF := fx_neg hF c86
      refine xr_aload_n C 0 dX4_fillValues_89 rfl rfl ?_
      refine xr_iload C 5 dX4_fillValues_90 rfl ?_
      refine xr_bipush (v := 12) C dX4_fillValues_92 (by decide) ?_
      refine xr_imul C dX4_fillValues_94 ?_
      refine xr_iload_n C 3 dX4_fillValues_95 rfl rfl ?_
      obtain ⟨h96, e96, hF⟩ := fx_b1E hF
      refine xr_callVv C mvX4_97 [.int (a6 * (12 : Int32)), .int a3] [] (mX4_fillCell l G a0 (a6 * (12 : Int32)) a3 ta0 h h96 e96) ta0 (by decide) vc4 rfl ⟨rfl, rfl, (Nat.le_of_ble_eq_true rfl), (Nat.le_of_ble_eq_true rfl)⟩ rfl (Nat.le_of_ble_eq_true rfl) dX4_fillValues_96 ?_
      obtain ⟨x99, e99⟩ : ∃ y : Int32, y = (a6 + (-1 : Int32)) := ⟨_, rfl⟩
      have hF := fx_letE hF x99 e99
      refine xr_iinc C x99 5 [(6, .int x99), (0, .ref (G.2.2.1 a0)), (1, .int a1), (2, .int a2), (3, .int a3), (4, .int a4)] dX4_fillValues_99 rfl (by rw [e99]; rfl) (Nat.le_of_ble_eq_true rfl) rfl ?_
      refine xr_goto C 83 dX4_fillValues_102 (by decide) ?_
      refine xr_sub [1, 2, 3, 4, 5, 0] [(0, .ref (G.2.2.1 a0)), (1, .int a1), (2, .int a2), (3, .int a3), (4, .int a4), (6, .int x99)] rfl ?_
      exact ih a0 a1 a2 a3 a4 x99 ta0 h96 hF
def fX4_fillValues_46 (k17 : Nat → Int32 → Int32 → Int32 → Int32 → hp_T → Option hp_T) : Nat → Nat → Int32 → Int32 → Int32 → Int32 → Int32 → hp_T → Option hp_T
  | 0, _, _, _, _, _, _, _ => none
  | n + 1, a0, a1, a2, a3, a4, a6, h => if (12 : Int32) ≤ a6 then (fx_let ((h.1 a0 8) - (1 : Int32)) fun (x81 : Int32) => fX4_fillValues_83 k17 fx_N a0 a1 a2 a3 a4 x81 h) else (fx_g (fx_in (((h.1 a0 8) * (12 : Int32)) + a6) 312) (fx_let (hp_sI h (h.2.2 a0 4) (fx_ix (((h.1 a0 8) * (12 : Int32)) + a6)) (0 : Int32)) fun (h68 : hp_T) => fx_let (a6 + (1 : Int32)) fun (x69 : Int32) => fX4_fillValues_46 k17 n a0 a1 a2 a3 a4 x69 h68))
set_option maxRecDepth 100000 in
set_option maxHeartbeats 4000000 in
theorem bX4_fillValues_46 {l : Launch} {G : xr_G} {K : xr_K} {h1 : hp_T} (C : xr_C G K cX4_fillValues RX4 7 (xr_R 1 29) none (some (xr_Qv G h1))) (k17 : Nat → Int32 → Int32 → Int32 → Int32 → hp_T → Option hp_T) (j17 : ∀ (a0 : Nat) (a1 : Int32) (a2 : Int32) (a3 : Int32) (a4 : Int32) (ta0 : hp_sh a0 = (4, 0)) (h : hp_T), k17 a0 a1 a2 a3 a4 h = some h1 → xr_j l G K 7 h [(0, .ref (G.2.2.1 a0)), (1, .int a1), (2, .int a2), (3, .int a3), (4, .int a4)] 17 []) : ∀ (n : Nat) (a0 : Nat) (a1 : Int32) (a2 : Int32) (a3 : Int32) (a4 : Int32) (a6 : Int32) (ta0 : hp_sh a0 = (4, 0)) (h : hp_T), fX4_fillValues_46 k17 n a0 a1 a2 a3 a4 a6 h = some h1 → xr_j l G K 7 h [(0, .ref (G.2.2.1 a0)), (1, .int a1), (2, .int a2), (3, .int a3), (4, .int a4), (6, .int a6)] 46 [] := by
  intro n
  induction n with
  | zero =>
    intro a0 a1 a2 a3 a4 a6 ta0 h hF
    cases hF
  | succ n ih =>
    intro a0 a1 a2 a3 a4 a6 ta0 h hF
    rw [fX4_fillValues_46] at hF
    refine xr_iload C 5 dX4_fillValues_46 rfl ?_
    refine xr_bipush (v := 12) C dX4_fillValues_48 (by decide) ?_
    refine xr_icmp_ge C 75 dX4_fillValues_50 (by decide) (fun c50 => ?_) (fun c50 => ?_)
    · have hF := fx_pos hF c50
      refine xr_aload_n C 0 dX4_fillValues_75 rfl rfl ?_
      refine xr_geti C flX4_47 rfl dX4_fillValues_76 ta0 ?_
      refine xr_iconst (v := 1) C dX4_fillValues_79 (by decide) ?_
      refine xr_isub C dX4_fillValues_80 ?_
      refine xr_topi (fun x81 e81 => ?_)
      have hF := fx_letE hF x81 e81
      refine xr_istore C [(6, .int x81), (0, .ref (G.2.2.1 a0)), (1, .int a1), (2, .int a2), (3, .int a3), (4, .int a4)] dX4_fillValues_81 (Nat.le_of_ble_eq_true rfl) rfl ?_
      refine xr_sub [1, 2, 3, 4, 5, 0] [(0, .ref (G.2.2.1 a0)), (1, .int a1), (2, .int a2), (3, .int a3), (4, .int a4), (6, .int x81)] rfl ?_
      exact bX4_fillValues_83 C k17 j17 fx_N a0 a1 a2 a3 a4 x81 ta0 h hF
    · have hF := fx_neg hF c50
      refine xr_aload_n C 0 dX4_fillValues_53 rfl rfl ?_
      refine xr_getr C flX4_29 rfl (by decide) dX4_fillValues_54 ta0 (fun t54 => ?_)
      refine xr_aload_n C 0 dX4_fillValues_57 rfl rfl ?_
      refine xr_geti C flX4_47 rfl dX4_fillValues_58 ta0 ?_
      refine xr_bipush (v := 12) C dX4_fillValues_61 (by decide) ?_
      refine xr_imul C dX4_fillValues_63 ?_
      refine xr_iload C 5 dX4_fillValues_64 rfl ?_
      refine xr_iadd C dX4_fillValues_66 ?_
      refine xr_iconst (v := 0) C dX4_fillValues_67 (by decide) ?_
      obtain ⟨g68, hF⟩ := fx_gE hF
      refine xr_iast C dX4_fillValues_68 t54 g68 (fun h68 e68 => ?_)
      have hF := fx_letE hF h68 e68
      obtain ⟨x69, e69⟩ : ∃ y : Int32, y = (a6 + (1 : Int32)) := ⟨_, rfl⟩
      have hF := fx_letE hF x69 e69
      refine xr_iinc C x69 5 [(6, .int x69), (0, .ref (G.2.2.1 a0)), (1, .int a1), (2, .int a2), (3, .int a3), (4, .int a4)] dX4_fillValues_69 rfl (by rw [e69]; rfl) (Nat.le_of_ble_eq_true rfl) rfl ?_
      refine xr_goto C 46 dX4_fillValues_72 (by decide) ?_
      refine xr_sub [1, 2, 3, 4, 5, 0] [(0, .ref (G.2.2.1 a0)), (1, .int a1), (2, .int a2), (3, .int a3), (4, .int a4), (6, .int x69)] rfl ?_
      exact ih a0 a1 a2 a3 a4 x69 ta0 h68 hF
def fX4_fillValues_17  : Nat → Nat → Int32 → Int32 → Int32 → Int32 → hp_T → Option hp_T
  | 0, _, _, _, _, _, _ => none
  | n + 1, a0, a1, a2, a3, a4, h => if a4 < a1 then (some h) else (fx_let (hp_sR h a0 5 (h.2.2 a0 4)) fun (h34 : hp_T) => fx_let (hp_sR h34 a0 4 (h.2.2 a0 5)) fun (h40 : hp_T) => fX4_fillValues_46 (fX4_fillValues_17 n) fx_N a0 a1 a2 a3 a4 (0 : Int32) h40)
set_option maxRecDepth 100000 in
set_option maxHeartbeats 4000000 in
theorem bX4_fillValues_17 {l : Launch} {G : xr_G} {K : xr_K} {h1 : hp_T} (C : xr_C G K cX4_fillValues RX4 7 (xr_R 1 29) none (some (xr_Qv G h1)))  : ∀ (n : Nat) (a0 : Nat) (a1 : Int32) (a2 : Int32) (a3 : Int32) (a4 : Int32) (ta0 : hp_sh a0 = (4, 0)) (h : hp_T), fX4_fillValues_17 n a0 a1 a2 a3 a4 h = some h1 → xr_j l G K 7 h [(0, .ref (G.2.2.1 a0)), (1, .int a1), (2, .int a2), (3, .int a3), (4, .int a4)] 17 [] := by
  intro n
  induction n with
  | zero =>
    intro a0 a1 a2 a3 a4 ta0 h hF
    cases hF
  | succ n ih =>
    intro a0 a1 a2 a3 a4 ta0 h hF
    rw [fX4_fillValues_17] at hF
    refine xr_iload C 4 dX4_fillValues_17 rfl ?_
    refine xr_iload_n C 1 dX4_fillValues_19 rfl rfl ?_
    refine xr_icmp_lt C 111 dX4_fillValues_20 (by decide) (fun c20 => ?_) (fun c20 => ?_)
    · have hF := fx_pos hF c20
      cases hF
      exact xr_vret C dX4_fillValues_111
    · have hF := fx_neg hF c20
      refine xr_aload_n C 0 dX4_fillValues_23 rfl rfl ?_
      refine xr_getr C flX4_32 rfl (by decide) dX4_fillValues_24 ta0 (fun t24 => ?_)
      refine xr_astore C [(5, .ref (G.2.2.1 (h.2.2 a0 5))), (0, .ref (G.2.2.1 a0)), (1, .int a1), (2, .int a2), (3, .int a3), (4, .int a4)] dX4_fillValues_27 (Nat.le_of_ble_eq_true rfl) rfl ?_
      refine xr_aload_n C 1 dX4_fillValues_29 rfl rfl ?_
      refine xr_aload_n C 1 dX4_fillValues_30 rfl rfl ?_
      refine xr_getr C flX4_29 rfl (by decide) dX4_fillValues_31 ta0 (fun t31 => ?_)
      refine xr_putr C fpX4_32 rfl (by decide) (fun _ => rfl) (fun _ => rfl) dX4_fillValues_34 ta0 t31 (fun h34 e34 => ?_)
      have hF := fx_letE hF h34 e34
      refine xr_aload_n C 1 dX4_fillValues_37 rfl rfl ?_
      refine xr_aload C 0 dX4_fillValues_38 rfl ?_
      refine xr_putr C fpX4_29 rfl (by decide) (fun _ => rfl) (fun _ => rfl) dX4_fillValues_40 ta0 t24 (fun h40 e40 => ?_)
      have hF := fx_letE hF h40 e40
      refine xr_iconst (v := 0) C dX4_fillValues_43 (by decide) ?_
      refine xr_istore C [(6, .int (0 : Int32)), (5, .ref (G.2.2.1 (h.2.2 a0 5))), (0, .ref (G.2.2.1 a0)), (1, .int a1), (2, .int a2), (3, .int a3), (4, .int a4)] dX4_fillValues_44 (Nat.le_of_ble_eq_true rfl) rfl ?_
      refine xr_sub [2, 3, 4, 5, 6, 0] [(0, .ref (G.2.2.1 a0)), (1, .int a1), (2, .int a2), (3, .int a3), (4, .int a4), (6, .int (0 : Int32))] rfl ?_
      exact bX4_fillValues_46 C (fX4_fillValues_17 n) (fun a0 a1 a2 a3 a4 ta0 h hF => ih a0 a1 a2 a3 a4 ta0 h hF) fx_N a0 a1 a2 a3 a4 (0 : Int32) ta0 h40 hF
def fX4_fillValues (a0 : Nat) (a1 : Int32) (a2 : Int32) (a3 : Int32) (h : hp_T) : Option hp_T := fx_b1 (fJ7_fill_53178_312 (h.2.2 a0 4) (1000000 : Int32) h) fun (h6 : hp_T) => fx_let ((h6.1 a0 8) - (1 : Int32)) fun (x15 : Int32) => fX4_fillValues_17 fx_N a0 a1 a2 a3 x15 h6
set_option maxRecDepth 100000 in
set_option maxHeartbeats 4000000 in
theorem mX4_fillValues (l : Launch) (G : xr_G) (a0 : Nat) (a1 : Int32) (a2 : Int32) (a3 : Int32) (ta0 : hp_sh a0 = (4, 0)) (h h1 : hp_T) (hF : fX4_fillValues a0 a1 a2 a3 h = some h1) : xr_M l G yX4_fillValues cX4_fillValues 7 (xr_R 1 29) none [.ref (G.2.2.1 a0), .int a1, .int a2, .int a3] h (xr_Qv G h1) := by
  refine xr_start rfl (Nat.le_of_ble_eq_true rfl) (fun K C => ?_)
  show xr_j l G K 7 h [(0, .ref (G.2.2.1 a0)), (1, .int a1), (2, .int a2), (3, .int a3)] 0 []
  unfold fX4_fillValues at hF
  refine xr_aload_n C 0 dX4_fillValues_0 rfl rfl ?_
  refine xr_getr C flX4_29 rfl (by decide) dX4_fillValues_1 ta0 (fun t1 => ?_)
  refine xr_ldc C kcX4_79 dX4_fillValues_4 ?_
  obtain ⟨h6, e6, hF⟩ := fx_b1E hF
  refine xr_callSv C mvX4_91 [.ref (G.2.2.1 (h.2.2 a0 4)), .int (1000000 : Int32)] [] (mJ7_fill_53178_312 l G (h.2.2 a0 4) (1000000 : Int32) t1 h h6 e6) rfl ⟨rfl, rfl, (Nat.le_of_ble_eq_true rfl), (Nat.le_of_ble_eq_true rfl)⟩ rfl (Nat.le_of_ble_eq_true rfl) dX4_fillValues_6 ?_
  refine xr_aload_n C 0 dX4_fillValues_9 rfl rfl ?_
  refine xr_geti C flX4_47 rfl dX4_fillValues_10 ta0 ?_
  refine xr_iconst (v := 1) C dX4_fillValues_13 (by decide) ?_
  refine xr_isub C dX4_fillValues_14 ?_
  refine xr_topi (fun x15 e15 => ?_)
  have hF := fx_letE hF x15 e15
  refine xr_istore C [(4, .int x15), (0, .ref (G.2.2.1 a0)), (1, .int a1), (2, .int a2), (3, .int a3)] dX4_fillValues_15 (Nat.le_of_ble_eq_true rfl) rfl ?_
  refine xr_sub [1, 2, 3, 4, 0] [(0, .ref (G.2.2.1 a0)), (1, .int a1), (2, .int a2), (3, .int a3), (4, .int x15)] rfl ?_
  exact bX4_fillValues_17 C  fx_N a0 a1 a2 a3 x15 ta0 h6 hF
