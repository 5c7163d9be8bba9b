theorem dX0_clear_0 : decode cX0_clear 0 = .ok (.aload_n 0, 1) := by decide +kernel
theorem dX0_clear_1 : decode cX0_clear 1 = .ok (.iconst 0, 1) := by decide +kernel
theorem dX0_clear_2 : decode cX0_clear 2 = .ok (.putfield 7, 3) := by decide +kernel
theorem dX0_clear_5 : decode cX0_clear 5 = .ok (.return_, 1) := by decide +kernel
def fX0_clear (a0 : Nat) (h : hp_T) : Option hp_T := fx_let (hp_sI h a0 0 (0 : Int32)) fun (h2 : hp_T) => some h2
set_option maxRecDepth 100000 in
set_option maxHeartbeats 4000000 in
theorem mX0_clear (l : Launch) (G : xr_G) (a0 : Nat) (ta0 : hp_sh a0 = (0, 0)) (h h1 : hp_T) (hF : fX0_clear a0 h = some h1) : xr_M l G yX0_clear cX0_clear 1 (xr_R 0 0) none [.ref (G.2.2.1 a0)] h (xr_Qv G h1) := by
  refine xr_start rfl (Nat.le_of_ble_eq_true rfl) (fun K C => ?_)
  show xr_j l G K 1 h [(0, .ref (G.2.2.1 a0))] 0 []
  unfold fX0_clear at hF
  refine xr_aload_n C 0 dX0_clear_0 rfl rfl ?_
  refine xr_iconst (v := 0) C dX0_clear_1 (by decide) ?_
  refine xr_puti C fpX0_7 rfl rfl rfl dX0_clear_2 ta0 (fun h2 e2 => ?_)
  have hF := fx_letE hF h2 e2
  cases hF
  exact xr_vret C dX0_clear_5
theorem dX0_offer_0 : decode cX0_offer 0 = .ok (.aload_n 0, 1) := by decide +kernel
theorem dX0_offer_1 : decode cX0_offer 1 = .ok (.getfield 7, 3) := by decide +kernel
theorem dX0_offer_4 : decode cX0_offer 4 = .ok (.ifCond .eq 28, 3) := by decide +kernel
theorem dX0_offer_7 : decode cX0_offer 7 = .ok (.iload 4, 2) := by decide +kernel
theorem dX0_offer_9 : decode cX0_offer 9 = .ok (.ifCond .eq 14, 3) := by decide +kernel
theorem dX0_offer_12 : decode cX0_offer 12 = .ok (.iload_n 3, 1) := by decide +kernel
theorem dX0_offer_13 : decode cX0_offer 13 = .ok (.aload_n 0, 1) := by decide +kernel
theorem dX0_offer_14 : decode cX0_offer 14 = .ok (.getfield 13, 3) := by decide +kernel
theorem dX0_offer_17 : decode cX0_offer 17 = .ok (.if_icmp .gt 15, 3) := by decide +kernel
theorem dX0_offer_20 : decode cX0_offer 20 = .ok (.goto 11, 3) := by decide +kernel
theorem dX0_offer_23 : decode cX0_offer 23 = .ok (.iload_n 3, 1) := by decide +kernel
theorem dX0_offer_24 : decode cX0_offer 24 = .ok (.aload_n 0, 1) := by decide +kernel
theorem dX0_offer_25 : decode cX0_offer 25 = .ok (.getfield 13, 3) := by decide +kernel
theorem dX0_offer_28 : decode cX0_offer 28 = .ok (.if_icmp .lt 4, 3) := by decide +kernel
theorem dX0_offer_31 : decode cX0_offer 31 = .ok (.return_, 1) := by decide +kernel
theorem dX0_offer_32 : decode cX0_offer 32 = .ok (.aload_n 0, 1) := by decide +kernel
theorem dX0_offer_33 : decode cX0_offer 33 = .ok (.iconst 1, 1) := by decide +kernel
theorem dX0_offer_34 : decode cX0_offer 34 = .ok (.putfield 7, 3) := by decide +kernel
theorem dX0_offer_37 : decode cX0_offer 37 = .ok (.aload_n 0, 1) := by decide +kernel
theorem dX0_offer_38 : decode cX0_offer 38 = .ok (.iload_n 1, 1) := by decide +kernel
theorem dX0_offer_39 : decode cX0_offer 39 = .ok (.putfield 17, 3) := by decide +kernel
theorem dX0_offer_42 : decode cX0_offer 42 = .ok (.aload_n 0, 1) := by decide +kernel
theorem dX0_offer_43 : decode cX0_offer 43 = .ok (.iload_n 2, 1) := by decide +kernel
theorem dX0_offer_44 : decode cX0_offer 44 = .ok (.putfield 20, 3) := by decide +kernel
theorem dX0_offer_47 : decode cX0_offer 47 = .ok (.aload_n 0, 1) := by decide +kernel
theorem dX0_offer_48 : decode cX0_offer 48 = .ok (.iload_n 3, 1) := by decide +kernel
theorem dX0_offer_49 : decode cX0_offer 49 = .ok (.putfield 13, 3) := by decide +kernel
theorem dX0_offer_52 : decode cX0_offer 52 = .ok (.return_, 1) := by decide +kernel
def fX0_offer_32  (a0 : Nat) (a1 : Int32) (a2 : Int32) (a3 : Int32) (h : hp_T) : Option hp_T := fx_let (hp_sI h a0 0 (1 : Int32)) fun (h34 : hp_T) => fx_let (hp_sI h34 a0 1 a1) fun (h39 : hp_T) => fx_let (hp_sI h39 a0 2 a2) fun (h44 : hp_T) => fx_let (hp_sI h44 a0 3 a3) fun (h49 : hp_T) => some h49
set_option maxRecDepth 100000 in
set_option maxHeartbeats 4000000 in
theorem bX0_offer_32 {l : Launch} {G : xr_G} {K : xr_K} {h1 : hp_T} (C : xr_C G K cX0_offer RX0 5 (xr_R 0 0) none (xr_Qv G h1))  (a0 : Nat) (a1 : Int32) (a2 : Int32) (a3 : Int32) (ta0 : hp_sh a0 = (0, 0)) (h : hp_T) (hF : fX0_offer_32 a0 a1 a2 a3 h = some h1) : xr_j l G K 5 h [(0, .ref (G.2.2.1 a0)), (1, .int a1), (2, .int a2), (3, .int a3)] 32 [] := by
  unfold fX0_offer_32 at hF
  refine xr_aload_n C 0 dX0_offer_32 rfl rfl ?_
  refine xr_iconst (v := 1) C dX0_offer_33 (by decide) ?_
  refine xr_puti C fpX0_7 rfl rfl rfl dX0_offer_34 ta0 (fun h34 e34 => ?_)
  have hF := fx_letE hF h34 e34
  refine xr_aload_n C 0 dX0_offer_37 rfl rfl ?_
  refine xr_iload_n C 1 dX0_offer_38 rfl rfl ?_
  refine xr_puti C fpX0_17 rfl rfl rfl dX0_offer_39 ta0 (fun h39 e39 => ?_)
  have hF := fx_letE hF h39 e39
  refine xr_aload_n C 0 dX0_offer_42 rfl rfl ?_
  refine xr_iload_n C 2 dX0_offer_43 rfl rfl ?_
  refine xr_puti C fpX0_20 rfl rfl rfl dX0_offer_44 ta0 (fun h44 e44 => ?_)
  have hF := fx_letE hF h44 e44
  refine xr_aload_n C 0 dX0_offer_47 rfl rfl ?_
  refine xr_iload_n C 3 dX0_offer_48 rfl rfl ?_
  refine xr_puti C fpX0_13 rfl rfl rfl dX0_offer_49 ta0 (fun h49 e49 => ?_)
  have hF := fx_letE hF h49 e49
  cases hF
  exact xr_vret C dX0_offer_52
def fX0_offer (a0 : Nat) (a1 : Int32) (a2 : Int32) (a3 : Int32) (a4 : Int32) (h : hp_T) : Option hp_T := if (h.1 a0 0) = 0 then (fX0_offer_32 a0 a1 a2 a3 h) else (if a4 = 0 then (if a3 < (h.1 a0 3) then (fX0_offer_32 a0 a1 a2 a3 h) else (some h)) else (if (h.1 a0 3) < a3 then (fX0_offer_32 a0 a1 a2 a3 h) else (some h)))
set_option maxRecDepth 100000 in
set_option maxHeartbeats 4000000 in
theorem mX0_offer (l : Launch) (G : xr_G) (a0 : Nat) (a1 : Int32) (a2 : Int32) (a3 : Int32) (a4 : Int32) (ta0 : hp_sh a0 = (0, 0)) (h h1 : hp_T) (hF : fX0_offer a0 a1 a2 a3 a4 h = some h1) : xr_M l G yX0_offer cX0_offer 5 (xr_R 0 0) none [.ref (G.2.2.1 a0), .int a1, .int a2, .int a3, .int a4] h (xr_Qv G h1) := by
  refine xr_start rfl (Nat.le_of_ble_eq_true rfl) (fun K C => ?_)
  show xr_j l G K 5 h [(0, .ref (G.2.2.1 a0)), (1, .int a1), (2, .int a2), (3, .int a3), (4, .int a4)] 0 []
  unfold fX0_offer at hF
  refine xr_aload_n C 0 dX0_offer_0 rfl rfl ?_
  refine xr_geti C flX0_7 rfl dX0_offer_1 ta0 ?_
  refine xr_if_eq C 32 dX0_offer_4 (by decide) (fun c4 => ?_) (fun c4 => ?_)
  · have hF := fx_pos hF c4
    refine xr_sub [0, 1, 2, 3] [(0, .ref (G.2.2.1 a0)), (1, .int a1), (2, .int a2), (3, .int a3)] rfl ?_
    exact bX0_offer_32 C   a0 a1 a2 a3 ta0 h hF
  · have hF := fx_neg hF c4
    refine xr_iload C 4 dX0_offer_7 rfl ?_
    refine xr_if_eq C 23 dX0_offer_9 (by decide) (fun c9 => ?_) (fun c9 => ?_)
    · have hF := fx_pos hF c9
      refine xr_iload_n C 3 dX0_offer_23 rfl rfl ?_
      refine xr_aload_n C 0 dX0_offer_24 rfl rfl ?_
      refine xr_geti C flX0_13 rfl dX0_offer_25 ta0 ?_
      refine xr_icmp_lt C 32 dX0_offer_28 (by decide) (fun c28 => ?_) (fun c28 => ?_)
      · have hF := fx_pos hF c28
        refine xr_sub [0, 1, 2, 3] [(0, .ref (G.2.2.1 a0)), (1, .int a1), (2, .int a2), (3, .int a3)] rfl ?_
        exact bX0_offer_32 C   a0 a1 a2 a3 ta0 h hF
      · have hF := fx_neg hF c28
        cases hF
        exact xr_vret C dX0_offer_31
    · have hF := fx_neg hF c9
      refine xr_iload_n C 3 dX0_offer_12 rfl rfl ?_
      refine xr_aload_n C 0 dX0_offer_13 rfl rfl ?_
      refine xr_geti C flX0_13 rfl dX0_offer_14 ta0 ?_
      refine xr_icmp_gt C 32 dX0_offer_17 (by decide) (fun c17 => ?_) (fun c17 => ?_)
      · have hF := fx_pos hF c17
        refine xr_sub [0, 1, 2, 3] [(0, .ref (G.2.2.1 a0)), (1, .int a1), (2, .int a2), (3, .int a3)] rfl ?_
        exact bX0_offer_32 C   a0 a1 a2 a3 ta0 h hF
      · have hF := fx_neg hF c17
        refine xr_goto C 31 dX0_offer_20 (by decide) ?_
        cases hF
        exact xr_vret C dX0_offer_31
theorem dX0_part_0 : decode cX0_part 0 = .ok (.iload_n 1, 1) := by decide +kernel
theorem dX0_part_1 : decode cX0_part 1 = .ok (.ifCond .ne 8, 3) := by decide +kernel
theorem dX0_part_4 : decode cX0_part 4 = .ok (.aload_n 0, 1) := by decide +kernel
theorem dX0_part_5 : decode cX0_part 5 = .ok (.getfield 17, 3) := by decide +kernel
theorem dX0_part_8 : decode cX0_part 8 = .ok (.ireturn, 1) := by decide +kernel
theorem dX0_part_9 : decode cX0_part 9 = .ok (.iload_n 1, 1) := by decide +kernel
theorem dX0_part_10 : decode cX0_part 10 = .ok (.iconst 1, 1) := by decide +kernel
theorem dX0_part_11 : decode cX0_part 11 = .ok (.if_icmp .ne 10, 3) := by decide +kernel
theorem dX0_part_14 : decode cX0_part 14 = .ok (.aload_n 0, 1) := by decide +kernel
theorem dX0_part_15 : decode cX0_part 15 = .ok (.getfield 20, 3) := by decide +kernel
theorem dX0_part_18 : decode cX0_part 18 = .ok (.goto 7, 3) := by decide +kernel
theorem dX0_part_21 : decode cX0_part 21 = .ok (.aload_n 0, 1) := by decide +kernel
theorem dX0_part_22 : decode cX0_part 22 = .ok (.getfield 13, 3) := by decide +kernel
theorem dX0_part_25 : decode cX0_part 25 = .ok (.ireturn, 1) := by decide +kernel
def fX0_part (a0 : Nat) (a1 : Int32) (h : hp_T) : Option (Int32 × hp_T) := if a1 = 0 then (some ((h.1 a0 1), h)) else (if a1 = (1 : Int32) then (some ((h.1 a0 2), h)) else (some ((h.1 a0 3), h)))
set_option maxRecDepth 100000 in
set_option maxHeartbeats 4000000 in
theorem mX0_part (l : Launch) (G : xr_G) (a0 : Nat) (a1 : Int32) (ta0 : hp_sh a0 = (0, 0)) (h h1 : hp_T) (r : Int32) (hF : fX0_part a0 a1 h = some (r, h1)) : xr_M l G yX0_part cX0_part 2 (xr_R 0 0) (some .int) [.ref (G.2.2.1 a0), .int a1] h (xr_Qi G r h1) := by
  refine xr_start rfl (Nat.le_of_ble_eq_true rfl) (fun K C => ?_)
  show xr_j l G K 2 h [(0, .ref (G.2.2.1 a0)), (1, .int a1)] 0 []
  unfold fX0_part at hF
  refine xr_iload_n C 1 dX0_part_0 rfl rfl ?_
  refine xr_if_ne C 9 dX0_part_1 (by decide) (fun c1 => ?_) (fun c1 => ?_)
  · have hF := fx_neg hF c1
    refine xr_iload_n C 1 dX0_part_9 rfl rfl ?_
    refine xr_iconst (v := 1) C dX0_part_10 (by decide) ?_
    refine xr_icmp_ne C 21 dX0_part_11 (by decide) (fun c11 => ?_) (fun c11 => ?_)
    · have hF := fx_neg hF c11
      refine xr_aload_n C 0 dX0_part_21 rfl rfl ?_
      refine xr_geti C flX0_13 rfl dX0_part_22 ta0 ?_
      cases hF
      exact xr_iret C dX0_part_25
    · have hF := fx_pos hF c11
      refine xr_aload_n C 0 dX0_part_14 rfl rfl ?_
      refine xr_geti C flX0_20 rfl dX0_part_15 ta0 ?_
      refine xr_goto C 25 dX0_part_18 (by decide) ?_
      cases hF
      exact xr_iret C dX0_part_25
  · have hF := fx_pos hF c1
    refine xr_aload_n C 0 dX0_part_4 rfl rfl ?_
    refine xr_geti C flX0_17 rfl dX0_part_5 ta0 ?_
    cases hF
    exact xr_iret C dX0_part_8
theorem dX5_take_0 : decode cX5_take 0 = .ok (.bipush 24, 2) := by decide +kernel
theorem dX5_take_2 : decode cX5_take 2 = .ok (.istore_n 2, 1) := by decide +kernel
theorem dX5_take_3 : decode cX5_take 3 = .ok (.iload_n 2, 1) := by decide +kernel
theorem dX5_take_4 : decode cX5_take 4 = .ok (.ifCond .lt 45, 3) := by decide +kernel
theorem dX5_take_7 : decode cX5_take 7 = .ok (.aload_n 0, 1) := by decide +kernel
theorem dX5_take_8 : decode cX5_take 8 = .ok (.getfield 19, 3) := by decide +kernel
theorem dX5_take_11 : decode cX5_take 11 = .ok (.sipush 900, 3) := by decide +kernel
theorem dX5_take_14 : decode cX5_take 14 = .ok (.if_icmp .ge 35, 3) := by decide +kernel
theorem dX5_take_17 : decode cX5_take 17 = .ok (.aload_n 0, 1) := by decide +kernel
theorem dX5_take_18 : decode cX5_take 18 = .ok (.getfield 9, 3) := by decide +kernel
theorem dX5_take_21 : decode cX5_take 21 = .ok (.aload_n 0, 1) := by decide +kernel
theorem dX5_take_22 : decode cX5_take 22 = .ok (.getfield 19, 3) := by decide +kernel
theorem dX5_take_25 : decode cX5_take 25 = .ok (.iload_n 1, 1) := by decide +kernel
theorem dX5_take_26 : decode cX5_take 26 = .ok (.iload_n 2, 1) := by decide +kernel
theorem dX5_take_27 : decode cX5_take 27 = .ok (.iushr, 1) := by decide +kernel
theorem dX5_take_28 : decode cX5_take 28 = .ok (.sipush 255, 3) := by decide +kernel
theorem dX5_take_31 : decode cX5_take 31 = .ok (.iand, 1) := by decide +kernel
theorem dX5_take_32 : decode cX5_take 32 = .ok (.iastore, 1) := by decide +kernel
theorem dX5_take_33 : decode cX5_take 33 = .ok (.aload_n 0, 1) := by decide +kernel
theorem dX5_take_34 : decode cX5_take 34 = .ok (.dup, 1) := by decide +kernel
theorem dX5_take_35 : decode cX5_take 35 = .ok (.getfield 19, 3) := by decide +kernel
theorem dX5_take_38 : decode cX5_take 38 = .ok (.iconst 1, 1) := by decide +kernel
theorem dX5_take_39 : decode cX5_take 39 = .ok (.iadd, 1) := by decide +kernel
theorem dX5_take_40 : decode cX5_take 40 = .ok (.putfield 19, 3) := by decide +kernel
theorem dX5_take_43 : decode cX5_take 43 = .ok (.iinc 2 (-8), 3) := by decide +kernel
theorem dX5_take_46 : decode cX5_take 46 = .ok (.goto (-43), 3) := by decide +kernel
theorem dX5_take_49 : decode cX5_take 49 = .ok (.return_, 1) := by decide +kernel
def fX5_take_3  : Nat → Nat → Int32 → Int32 → hp_T → Option hp_T
  | 0, _, _, _, _ => none
  | n + 1, a0, a1, a2, h => if a2 < 0 then (some h) else (if (900 : Int32) ≤ (h.1 a0 1) then (some h) else (fx_g (fx_in (h.1 a0 1) 900) (fx_let (hp_sI h (h.2.2 a0 0) (fx_ix (h.1 a0 1)) ((fx_ushr a1 a2) &&& (255 : Int32))) fun (h32 : hp_T) => fx_let (hp_sI h32 a0 1 ((h32.1 a0 1) + (1 : Int32))) fun (h40 : hp_T) => fx_let (a2 + (-8 : Int32)) fun (x43 : Int32) => fX5_take_3 n a0 a1 x43 h40)))
set_option maxRecDepth 100000 in
set_option maxHeartbeats 4000000 in
theorem bX5_take_3 {l : Launch} {G : xr_G} {K : xr_K} {h1 : hp_T} (C : xr_C G K cX5_take RX5 3 (xr_R 0 0) none (xr_Qv G h1))  : ∀ (n : Nat) (a0 : Nat) (a1 : Int32) (a2 : Int32) (ta0 : hp_sh a0 = (5, 0)) (h : hp_T), fX5_take_3 n a0 a1 a2 h = some h1 → xr_j l G K 3 h [(0, .ref (G.2.2.1 a0)), (1, .int a1), (2, .int a2)] 3 [] := by
  intro n
  induction n with
  | zero =>
    intro a0 a1 a2 ta0 h hF
    cases hF
  | succ n ih =>
    intro a0 a1 a2 ta0 h hF
    rw [fX5_take_3] at hF
    refine xr_iload_n C 2 dX5_take_3 rfl rfl ?_
    refine xr_if_lt C 49 dX5_take_4 (by decide) (fun c4 => ?_) (fun c4 => ?_)
    · have hF := fx_pos hF c4
      cases hF
      exact xr_vret C dX5_take_49
    · have hF := fx_neg hF c4
      refine xr_aload_n C 0 dX5_take_7 rfl rfl ?_
      refine xr_geti C flX5_19 rfl dX5_take_8 ta0 ?_
      refine xr_sipush (v := 900) C dX5_take_11 (by decide) ?_
      refine xr_icmp_ge C 49 dX5_take_14 (by decide) (fun c14 => ?_) (fun c14 => ?_)
      · have hF := fx_pos hF c14
        cases hF
        exact xr_vret C dX5_take_49
      · have hF := fx_neg hF c14
        refine xr_aload_n C 0 dX5_take_17 rfl rfl ?_
        refine xr_getr C flX5_9 rfl (by decide) dX5_take_18 ta0 (fun t18 => ?_)
        refine xr_aload_n C 0 dX5_take_21 rfl rfl ?_
        refine xr_geti C flX5_19 rfl dX5_take_22 ta0 ?_
        refine xr_iload_n C 1 dX5_take_25 rfl rfl ?_
        refine xr_iload_n C 2 dX5_take_26 rfl rfl ?_
        refine xr_iushr C dX5_take_27 ?_
        refine xr_sipush (v := 255) C dX5_take_28 (by decide) ?_
        refine xr_iand C dX5_take_31 ?_
        obtain ⟨g32, hF⟩ := fx_gE hF
        refine xr_iast C dX5_take_32 t18 g32 (fun h32 e32 => ?_)
        have hF := fx_letE hF h32 e32
        refine xr_aload_n C 0 dX5_take_33 rfl rfl ?_
        refine xr_dup C dX5_take_34 rfl ?_
        refine xr_geti C flX5_19 rfl dX5_take_35 ta0 ?_
        refine xr_iconst (v := 1) C dX5_take_38 (by decide) ?_
        refine xr_iadd C dX5_take_39 ?_
        refine xr_puti C fpX5_19 rfl rfl rfl dX5_take_40 ta0 (fun h40 e40 => ?_)
        have hF := fx_letE hF h40 e40
        obtain ⟨x43, e43⟩ : ∃ y : Int32, y = (a2 + (-8 : Int32)) := ⟨_, rfl⟩
        have hF := fx_letE hF x43 e43
        refine xr_iinc C x43 2 [(2, .int x43), (0, .ref (G.2.2.1 a0)), (1, .int a1)] dX5_take_43 rfl (by rw [e43]; rfl) (Nat.le_of_ble_eq_true rfl) rfl ?_
        refine xr_goto C 3 dX5_take_46 (by decide) ?_
        refine xr_sub [1, 2, 0] [(0, .ref (G.2.2.1 a0)), (1, .int a1), (2, .int x43)] rfl ?_
        exact ih a0 a1 x43 ta0 h40 hF
def fX5_take (a0 : Nat) (a1 : Int32) (h : hp_T) : Option hp_T := fX5_take_3 fx_N a0 a1 (24 : Int32) h
set_option maxRecDepth 100000 in
set_option maxHeartbeats 4000000 in
theorem mX5_take (l : Launch) (G : xr_G) (a0 : Nat) (a1 : Int32) (ta0 : hp_sh a0 = (5, 0)) (h h1 : hp_T) (hF : fX5_take a0 a1 h = some h1) : xr_M l G yX5_take cX5_take 3 (xr_R 0 0) none [.ref (G.2.2.1 a0), .int a1] h (xr_Qv G h1) := by
  refine xr_start rfl (Nat.le_of_ble_eq_true rfl) (fun K C => ?_)
  show xr_j l G K 3 h [(0, .ref (G.2.2.1 a0)), (1, .int a1)] 0 []
  unfold fX5_take at hF
  refine xr_bipush (v := 24) C dX5_take_0 (by decide) ?_
  refine xr_istore_n C [(2, .int (24 : Int32)), (0, .ref (G.2.2.1 a0)), (1, .int a1)] dX5_take_2 rfl (Nat.le_of_ble_eq_true rfl) rfl ?_
  refine xr_sub [1, 2, 0] [(0, .ref (G.2.2.1 a0)), (1, .int a1), (2, .int (24 : Int32))] rfl ?_
  exact bX5_take_3 C  fx_N a0 a1 (24 : Int32) ta0 h hF
theorem dX6_spotOf_0 : decode cX6_spotOf 0 = .ok (.iconst 0, 1) := by decide +kernel
theorem dX6_spotOf_1 : decode cX6_spotOf 1 = .ok (.istore_n 2, 1) := by decide +kernel
theorem dX6_spotOf_2 : decode cX6_spotOf 2 = .ok (.iload_n 2, 1) := by decide +kernel
theorem dX6_spotOf_3 : decode cX6_spotOf 3 = .ok (.bipush 6, 2) := by decide +kernel
theorem dX6_spotOf_5 : decode cX6_spotOf 5 = .ok (.if_icmp .ge 23, 3) := by decide +kernel
theorem dX6_spotOf_8 : decode cX6_spotOf 8 = .ok (.aload_n 0, 1) := by decide +kernel
theorem dX6_spotOf_9 : decode cX6_spotOf 9 = .ok (.getfield 9, 3) := by decide +kernel
theorem dX6_spotOf_12 : decode cX6_spotOf 12 = .ok (.iload_n 2, 1) := by decide +kernel
theorem dX6_spotOf_13 : decode cX6_spotOf 13 = .ok (.iaload, 1) := by decide +kernel
theorem dX6_spotOf_14 : decode cX6_spotOf 14 = .ok (.iload_n 1, 1) := by decide +kernel
theorem dX6_spotOf_15 : decode cX6_spotOf 15 = .ok (.if_icmp .ne 7, 3) := by decide +kernel
theorem dX6_spotOf_18 : decode cX6_spotOf 18 = .ok (.iload_n 2, 1) := by decide +kernel
theorem dX6_spotOf_19 : decode cX6_spotOf 19 = .ok (.iconst 1, 1) := by decide +kernel
theorem dX6_spotOf_20 : decode cX6_spotOf 20 = .ok (.iadd, 1) := by decide +kernel
theorem dX6_spotOf_21 : decode cX6_spotOf 21 = .ok (.ireturn, 1) := by decide +kernel
theorem dX6_spotOf_22 : decode cX6_spotOf 22 = .ok (.iinc 2 1, 3) := by decide +kernel
theorem dX6_spotOf_25 : decode cX6_spotOf 25 = .ok (.goto (-23), 3) := by decide +kernel
theorem dX6_spotOf_28 : decode cX6_spotOf 28 = .ok (.iconst 0, 1) := by decide +kernel
theorem dX6_spotOf_29 : decode cX6_spotOf 29 = .ok (.ireturn, 1) := by decide +kernel
def fX6_spotOf_2  : Nat → Nat → Int32 → Int32 → hp_T → Option (Int32 × hp_T)
  | 0, _, _, _, _ => none
  | n + 1, a0, a1, a2, h => if (6 : Int32) ≤ a2 then (some ((0 : Int32), h)) else (fx_g (fx_in a2 6) (if (h.1 (h.2.2 a0 0) (fx_ix a2)) = a1 then (some ((a2 + (1 : Int32)), h)) else (fx_let (a2 + (1 : Int32)) fun (x22 : Int32) => fX6_spotOf_2 n a0 a1 x22 h)))
set_option maxRecDepth 100000 in
set_option maxHeartbeats 4000000 in
theorem bX6_spotOf_2 {l : Launch} {G : xr_G} {K : xr_K} {r : Int32} {h1 : hp_T} (C : xr_C G K cX6_spotOf RX6 3 (xr_R 0 0) (some .int) (xr_Qi G r h1))  : ∀ (n : Nat) (a0 : Nat) (a1 : Int32) (a2 : Int32) (ta0 : hp_sh a0 = (6, 0)) (h : hp_T), fX6_spotOf_2 n a0 a1 a2 h = some (r, h1) → xr_j l G K 3 h [(0, .ref (G.2.2.1 a0)), (1, .int a1), (2, .int a2)] 2 [] := by
  intro n
  induction n with
  | zero =>
    intro a0 a1 a2 ta0 h hF
    cases hF
  | succ n ih =>
    intro a0 a1 a2 ta0 h hF
    rw [fX6_spotOf_2] at hF
    refine xr_iload_n C 2 dX6_spotOf_2 rfl rfl ?_
    refine xr_bipush (v := 6) C dX6_spotOf_3 (by decide) ?_
    refine xr_icmp_ge C 28 dX6_spotOf_5 (by decide) (fun c5 => ?_) (fun c5 => ?_)
    · have hF := fx_pos hF c5
      refine xr_iconst (v := 0) C dX6_spotOf_28 (by decide) ?_
      cases hF
      exact xr_iret C dX6_spotOf_29
    · have hF := fx_neg hF c5
      refine xr_aload_n C 0 dX6_spotOf_8 rfl rfl ?_
      refine xr_getr C flX6_9 rfl (by decide) dX6_spotOf_9 ta0 (fun t9 => ?_)
      refine xr_iload_n C 2 dX6_spotOf_12 rfl rfl ?_
      obtain ⟨g13, hF⟩ := fx_gE hF
      refine xr_iald C dX6_spotOf_13 t9 g13 ?_
      refine xr_iload_n C 1 dX6_spotOf_14 rfl rfl ?_
      refine xr_icmp_ne C 22 dX6_spotOf_15 (by decide) (fun c15 => ?_) (fun c15 => ?_)
      · have hF := fx_neg hF c15
        obtain ⟨x22, e22⟩ : ∃ y : Int32, y = (a2 + (1 : Int32)) := ⟨_, rfl⟩
        have hF := fx_letE hF x22 e22
        refine xr_iinc C x22 2 [(2, .int x22), (0, .ref (G.2.2.1 a0)), (1, .int a1)] dX6_spotOf_22 rfl (by rw [e22]; rfl) (Nat.le_of_ble_eq_true rfl) rfl ?_
        refine xr_goto C 2 dX6_spotOf_25 (by decide) ?_
        refine xr_sub [1, 2, 0] [(0, .ref (G.2.2.1 a0)), (1, .int a1), (2, .int x22)] rfl ?_
        exact ih a0 a1 x22 ta0 h hF
      · have hF := fx_pos hF c15
        refine xr_iload_n C 2 dX6_spotOf_18 rfl rfl ?_
        refine xr_iconst (v := 1) C dX6_spotOf_19 (by decide) ?_
        refine xr_iadd C dX6_spotOf_20 ?_
        cases hF
        exact xr_iret C dX6_spotOf_21
def fX6_spotOf (a0 : Nat) (a1 : Int32) (h : hp_T) : Option (Int32 × hp_T) := fX6_spotOf_2 fx_N a0 a1 (0 : Int32) h
set_option maxRecDepth 100000 in
set_option maxHeartbeats 4000000 in
theorem mX6_spotOf (l : Launch) (G : xr_G) (a0 : Nat) (a1 : Int32) (ta0 : hp_sh a0 = (6, 0)) (h h1 : hp_T) (r : Int32) (hF : fX6_spotOf a0 a1 h = some (r, h1)) : xr_M l G yX6_spotOf cX6_spotOf 3 (xr_R 0 0) (some .int) [.ref (G.2.2.1 a0), .int a1] h (xr_Qi G r h1) := by
  refine xr_start rfl (Nat.le_of_ble_eq_true rfl) (fun K C => ?_)
  show xr_j l G K 3 h [(0, .ref (G.2.2.1 a0)), (1, .int a1)] 0 []
  unfold fX6_spotOf at hF
  refine xr_iconst (v := 0) C dX6_spotOf_0 (by decide) ?_
  refine xr_istore_n C [(2, .int (0 : Int32)), (0, .ref (G.2.2.1 a0)), (1, .int a1)] dX6_spotOf_1 rfl (Nat.le_of_ble_eq_true rfl) rfl ?_
  refine xr_sub [1, 2, 0] [(0, .ref (G.2.2.1 a0)), (1, .int a1), (2, .int (0 : Int32))] rfl ?_
  exact bX6_spotOf_2 C  fx_N a0 a1 (0 : Int32) ta0 h hF
