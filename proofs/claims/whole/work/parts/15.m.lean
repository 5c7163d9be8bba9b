theorem dX9_offerSwaps_0 : decode cX9_offerSwaps 0 = .ok (.aload_n 2, 1) := by decide +kernel
theorem dX9_offerSwaps_1 : decode cX9_offerSwaps 1 = .ok (.invokevirtual 320, 3) := by decide +kernel
theorem dX9_offerSwaps_4 : decode cX9_offerSwaps 4 = .ok (.iconst 1, 1) := by decide +kernel
theorem dX9_offerSwaps_5 : decode cX9_offerSwaps 5 = .ok (.istore_n 3, 1) := by decide +kernel
theorem dX9_offerSwaps_6 : decode cX9_offerSwaps 6 = .ok (.iload_n 3, 1) := by decide +kernel
theorem dX9_offerSwaps_7 : decode cX9_offerSwaps 7 = .ok (.bipush 6, 2) := by decide +kernel
theorem dX9_offerSwaps_9 : decode cX9_offerSwaps 9 = .ok (.if_icmp .ge 51, 3) := by decide +kernel
theorem dX9_offerSwaps_12 : decode cX9_offerSwaps 12 = .ok (.iload_n 3, 1) := by decide +kernel
theorem dX9_offerSwaps_13 : decode cX9_offerSwaps 13 = .ok (.iconst 1, 1) := by decide +kernel
theorem dX9_offerSwaps_14 : decode cX9_offerSwaps 14 = .ok (.iadd, 1) := by decide +kernel
theorem dX9_offerSwaps_15 : decode cX9_offerSwaps 15 = .ok (.istore 4, 2) := by decide +kernel
theorem dX9_offerSwaps_17 : decode cX9_offerSwaps 17 = .ok (.iload 4, 2) := by decide +kernel
theorem dX9_offerSwaps_19 : decode cX9_offerSwaps 19 = .ok (.bipush 6, 2) := by decide +kernel
theorem dX9_offerSwaps_21 : decode cX9_offerSwaps 21 = .ok (.if_icmp .gt 33, 3) := by decide +kernel
theorem dX9_offerSwaps_24 : decode cX9_offerSwaps 24 = .ok (.aload_n 2, 1) := by decide +kernel
theorem dX9_offerSwaps_25 : decode cX9_offerSwaps 25 = .ok (.iload_n 3, 1) := by decide +kernel
theorem dX9_offerSwaps_26 : decode cX9_offerSwaps 26 = .ok (.iload 4, 2) := by decide +kernel
theorem dX9_offerSwaps_28 : decode cX9_offerSwaps 28 = .ok (.aload_n 0, 1) := by decide +kernel
theorem dX9_offerSwaps_29 : decode cX9_offerSwaps 29 = .ok (.iload_n 1, 1) := by decide +kernel
theorem dX9_offerSwaps_30 : decode cX9_offerSwaps 30 = .ok (.iload_n 3, 1) := by decide +kernel
theorem dX9_offerSwaps_31 : decode cX9_offerSwaps 31 = .ok (.iload 4, 2) := by decide +kernel
theorem dX9_offerSwaps_33 : decode cX9_offerSwaps 33 = .ok (.invokevirtual 441, 3) := by decide +kernel
theorem dX9_offerSwaps_36 : decode cX9_offerSwaps 36 = .ok (.iload_n 1, 1) := by decide +kernel
theorem dX9_offerSwaps_37 : decode cX9_offerSwaps 37 = .ok (.ifCond .ne 7, 3) := by decide +kernel
theorem dX9_offerSwaps_40 : decode cX9_offerSwaps 40 = .ok (.iconst 1, 1) := by decide +kernel
theorem dX9_offerSwaps_41 : decode cX9_offerSwaps 41 = .ok (.goto 4, 3) := by decide +kernel
theorem dX9_offerSwaps_44 : decode cX9_offerSwaps 44 = .ok (.iconst 0, 1) := by decide +kernel
theorem dX9_offerSwaps_45 : decode cX9_offerSwaps 45 = .ok (.invokevirtual 366, 3) := by decide +kernel
theorem dX9_offerSwaps_48 : decode cX9_offerSwaps 48 = .ok (.iinc 4 1, 3) := by decide +kernel
theorem dX9_offerSwaps_51 : decode cX9_offerSwaps 51 = .ok (.goto (-34), 3) := by decide +kernel
theorem dX9_offerSwaps_54 : decode cX9_offerSwaps 54 = .ok (.iinc 3 1, 3) := by decide +kernel
theorem dX9_offerSwaps_57 : decode cX9_offerSwaps 57 = .ok (.goto (-51), 3) := by decide +kernel
theorem dX9_offerSwaps_60 : decode cX9_offerSwaps 60 = .ok (.return_, 1) := by decide +kernel
def fX9_offerSwaps_45 (k6 : Nat → Int32 → Nat → Int32 → hp_T → Option hp_T) (k17 : Nat → Int32 → Nat → Int32 → Int32 → hp_T → Option hp_T) (a0 : Nat) (a1 : Int32) (a2 : Nat) (a3 : Int32) (a4 : Int32) (s0 : Nat) (s1 : Int32) (s2 : Int32) (s3 : Int32) (s4 : Int32) (h : hp_T) : Option hp_T := fx_b1 (fX0_offer s0 s1 s2 s3 s4 h) fun (h45 : hp_T) => fx_let (a4 + (1 : Int32)) fun (x48 : Int32) => k17 a0 a1 a2 a3 x48 h45
set_option maxRecDepth 100000 in
set_option maxHeartbeats 4000000 in
theorem bX9_offerSwaps_45 {l : Launch} {G : xr_G} {K : xr_K} {h1 : hp_T} (C : xr_C G K cX9_offerSwaps RX9 5 (xr_R 5 162) none (some (xr_Qv G h1))) (k6 : Nat → Int32 → Nat → Int32 → hp_T → Option hp_T) (j6 : ∀ (a0 : Nat) (a1 : Int32) (a2 : Nat) (a3 : Int32) (ta0 : hp_sh a0 = (9, 0)) (ta2 : hp_sh a2 = (0, 0)) (h : hp_T), k6 a0 a1 a2 a3 h = some h1 → xr_j l G K 5 h [(0, .ref (G.2.2.1 a0)), (1, .int a1), (2, .ref (G.2.2.1 a2)), (3, .int a3)] 6 []) (k17 : Nat → Int32 → Nat → Int32 → Int32 → hp_T → Option hp_T) (j17 : ∀ (a0 : Nat) (a1 : Int32) (a2 : Nat) (a3 : Int32) (a4 : Int32) (ta0 : hp_sh a0 = (9, 0)) (ta2 : hp_sh a2 = (0, 0)) (h : hp_T), k17 a0 a1 a2 a3 a4 h = some h1 → xr_j l G K 5 h [(0, .ref (G.2.2.1 a0)), (1, .int a1), (2, .ref (G.2.2.1 a2)), (3, .int a3), (4, .int a4)] 17 []) (a0 : Nat) (a1 : Int32) (a2 : Nat) (a3 : Int32) (a4 : Int32) (s0 : Nat) (s1 : Int32) (s2 : Int32) (s3 : Int32) (s4 : Int32) (ta0 : hp_sh a0 = (9, 0)) (ta2 : hp_sh a2 = (0, 0)) (ts0 : hp_sh s0 = (0, 0)) (h : hp_T) (hF : fX9_offerSwaps_45 k6 k17 a0 a1 a2 a3 a4 s0 s1 s2 s3 s4 h = some h1) : xr_j l G K 5 h [(0, .ref (G.2.2.1 a0)), (1, .int a1), (2, .ref (G.2.2.1 a2)), (3, .int a3), (4, .int a4)] 45 [.int s4, .int s3, .int s2, .int s1, .ref (G.2.2.1 s0)] := by
  unfold fX9_offerSwaps_45 at hF
  obtain ⟨h45, e45, hF⟩ := fx_b1E hF
  refine xr_callVv C mvX9_366 [.int s1, .int s2, .int s3, .int s4] [] (mX0_offer l G s0 s1 s2 s3 s4 ts0 h h45 e45) ts0 (by decide) vc0 rfl ⟨rfl, rfl, (Nat.le_of_ble_eq_true rfl), (Nat.le_of_ble_eq_true rfl)⟩ rfl (Nat.le_of_ble_eq_true rfl) dX9_offerSwaps_45 ?_
  obtain ⟨x48, e48⟩ : ∃ y : Int32, y = (a4 + (1 : Int32)) := ⟨_, rfl⟩
  have hF := fx_letE hF x48 e48
  refine xr_iinc C x48 4 [(4, .int x48), (0, .ref (G.2.2.1 a0)), (1, .int a1), (2, .ref (G.2.2.1 a2)), (3, .int a3)] dX9_offerSwaps_48 rfl (by rw [e48]; rfl) (Nat.le_of_ble_eq_true rfl) rfl ?_
  refine xr_goto C 17 dX9_offerSwaps_51 (by decide) ?_
  refine xr_sub [1, 2, 3, 4, 0] [(0, .ref (G.2.2.1 a0)), (1, .int a1), (2, .ref (G.2.2.1 a2)), (3, .int a3), (4, .int x48)] rfl ?_
  exact j17 a0 a1 a2 a3 x48 ta0 ta2 h45 hF
def fX9_offerSwaps_17 (k6 : Nat → Int32 → Nat → Int32 → hp_T → Option hp_T) : Nat → Nat → Int32 → Nat → Int32 → Int32 → hp_T → Option hp_T
  | 0, _, _, _, _, _, _ => none
  | n + 1, a0, a1, a2, a3, a4, h => if (6 : Int32) < a4 then (fx_let (a3 + (1 : Int32)) fun (x54 : Int32) => k6 a0 a1 a2 x54 h) else (fx_b2 (fX9_valueSwapped a0 a1 a3 a4 h) fun (r33 : Int32) (h33 : hp_T) => if a1 = 0 then (fX9_offerSwaps_45 k6 (fX9_offerSwaps_17 k6 n) a0 a1 a2 a3 a4 a2 a3 a4 r33 (1 : Int32) h33) else (fX9_offerSwaps_45 k6 (fX9_offerSwaps_17 k6 n) a0 a1 a2 a3 a4 a2 a3 a4 r33 (0 : Int32) h33))
set_option maxRecDepth 100000 in
set_option maxHeartbeats 4000000 in
theorem bX9_offerSwaps_17 {l : Launch} {G : xr_G} {K : xr_K} {h1 : hp_T} (C : xr_C G K cX9_offerSwaps RX9 5 (xr_R 5 162) none (some (xr_Qv G h1))) (k6 : Nat → Int32 → Nat → Int32 → hp_T → Option hp_T) (j6 : ∀ (a0 : Nat) (a1 : Int32) (a2 : Nat) (a3 : Int32) (ta0 : hp_sh a0 = (9, 0)) (ta2 : hp_sh a2 = (0, 0)) (h : hp_T), k6 a0 a1 a2 a3 h = some h1 → xr_j l G K 5 h [(0, .ref (G.2.2.1 a0)), (1, .int a1), (2, .ref (G.2.2.1 a2)), (3, .int a3)] 6 []) : ∀ (n : Nat) (a0 : Nat) (a1 : Int32) (a2 : Nat) (a3 : Int32) (a4 : Int32) (ta0 : hp_sh a0 = (9, 0)) (ta2 : hp_sh a2 = (0, 0)) (h : hp_T), fX9_offerSwaps_17 k6 n a0 a1 a2 a3 a4 h = some h1 → xr_j l G K 5 h [(0, .ref (G.2.2.1 a0)), (1, .int a1), (2, .ref (G.2.2.1 a2)), (3, .int a3), (4, .int a4)] 17 [] := by
  intro n
  induction n with
  | zero =>
    intro a0 a1 a2 a3 a4 ta0 ta2 h hF
    cases hF
  | succ n ih =>
    intro a0 a1 a2 a3 a4 ta0 ta2 h hF
    rw [fX9_offerSwaps_17] at hF
    refine xr_iload C 4 dX9_offerSwaps_17 rfl ?_
    refine xr_bipush (v := 6) C dX9_offerSwaps_19 (by decide) ?_
    refine xr_icmp_gt C 54 dX9_offerSwaps_21 (by decide) (fun c21 => ?_) (fun c21 => ?_)
    · have hF := fx_pos hF c21
      obtain ⟨x54, e54⟩ : ∃ y : Int32, y = (a3 + (1 : Int32)) := ⟨_, rfl⟩
      have hF := fx_letE hF x54 e54
      refine xr_iinc C x54 3 [(3, .int x54), (0, .ref (G.2.2.1 a0)), (1, .int a1), (2, .ref (G.2.2.1 a2)), (4, .int a4)] dX9_offerSwaps_54 rfl (by rw [e54]; rfl) (Nat.le_of_ble_eq_true rfl) rfl ?_
      refine xr_goto C 6 dX9_offerSwaps_57 (by decide) ?_
      refine xr_sub [1, 2, 3, 0] [(0, .ref (G.2.2.1 a0)), (1, .int a1), (2, .ref (G.2.2.1 a2)), (3, .int x54)] rfl ?_
      exact j6 a0 a1 a2 x54 ta0 ta2 h hF
    · have hF := fx_neg hF c21
      refine xr_aload_n C 2 dX9_offerSwaps_24 rfl rfl ?_
      refine xr_iload_n C 3 dX9_offerSwaps_25 rfl rfl ?_
      refine xr_iload C 4 dX9_offerSwaps_26 rfl ?_
      refine xr_aload_n C 0 dX9_offerSwaps_28 rfl rfl ?_
      refine xr_iload_n C 1 dX9_offerSwaps_29 rfl rfl ?_
      refine xr_iload_n C 3 dX9_offerSwaps_30 rfl rfl ?_
      refine xr_iload C 4 dX9_offerSwaps_31 rfl ?_
      obtain ⟨r33, h33, e33, hF⟩ := fx_b2E hF
      refine xr_callVi C mvX9_441 [.int a1, .int a3, .int a4] [.int a4, .int a3, .ref (G.2.2.1 a2)] (mX9_valueSwapped l G a0 a1 a3 a4 ta0 h h33 r33 e33) ta0 (by decide) vc9 rfl ⟨rfl, rfl, (Nat.le_of_ble_eq_true rfl), (Nat.le_of_ble_eq_true rfl)⟩ rfl (Nat.le_of_ble_eq_true rfl) dX9_offerSwaps_33 ?_
      refine xr_iload_n C 1 dX9_offerSwaps_36 rfl rfl ?_
      refine xr_if_ne C 44 dX9_offerSwaps_37 (by decide) (fun c37 => ?_) (fun c37 => ?_)
      · have hF := fx_neg hF c37
        refine xr_iconst (v := 0) C dX9_offerSwaps_44 (by decide) ?_
        exact bX9_offerSwaps_45 C k6 j6 (fX9_offerSwaps_17 k6 n) (fun a0 a1 a2 a3 a4 ta0 ta2 h hF => ih a0 a1 a2 a3 a4 ta0 ta2 h hF)  a0 a1 a2 a3 a4 a2 a3 a4 r33 (0 : Int32) ta0 ta2 ta2 h33 hF
      · have hF := fx_pos hF c37
        refine xr_iconst (v := 1) C dX9_offerSwaps_40 (by decide) ?_
        refine xr_goto C 45 dX9_offerSwaps_41 (by decide) ?_
        exact bX9_offerSwaps_45 C k6 j6 (fX9_offerSwaps_17 k6 n) (fun a0 a1 a2 a3 a4 ta0 ta2 h hF => ih a0 a1 a2 a3 a4 ta0 ta2 h hF)  a0 a1 a2 a3 a4 a2 a3 a4 r33 (1 : Int32) ta0 ta2 ta2 h33 hF
def fX9_offerSwaps_6  : Nat → Nat → Int32 → Nat → Int32 → hp_T → Option hp_T
  | 0, _, _, _, _, _ => none
  | n + 1, a0, a1, a2, a3, h => if (6 : Int32) ≤ a3 then (some h) else (fx_let (a3 + (1 : Int32)) fun (x15 : Int32) => fX9_offerSwaps_17 (fX9_offerSwaps_6 n) fx_N a0 a1 a2 a3 x15 h)
set_option maxRecDepth 100000 in
set_option maxHeartbeats 4000000 in
theorem bX9_offerSwaps_6 {l : Launch} {G : xr_G} {K : xr_K} {h1 : hp_T} (C : xr_C G K cX9_offerSwaps RX9 5 (xr_R 5 162) none (some (xr_Qv G h1)))  : ∀ (n : Nat) (a0 : Nat) (a1 : Int32) (a2 : Nat) (a3 : Int32) (ta0 : hp_sh a0 = (9, 0)) (ta2 : hp_sh a2 = (0, 0)) (h : hp_T), fX9_offerSwaps_6 n a0 a1 a2 a3 h = some h1 → xr_j l G K 5 h [(0, .ref (G.2.2.1 a0)), (1, .int a1), (2, .ref (G.2.2.1 a2)), (3, .int a3)] 6 [] := by
  intro n
  induction n with
  | zero =>
    intro a0 a1 a2 a3 ta0 ta2 h hF
    cases hF
  | succ n ih =>
    intro a0 a1 a2 a3 ta0 ta2 h hF
    rw [fX9_offerSwaps_6] at hF
    refine xr_iload_n C 3 dX9_offerSwaps_6 rfl rfl ?_
    refine xr_bipush (v := 6) C dX9_offerSwaps_7 (by decide) ?_
    refine xr_icmp_ge C 60 dX9_offerSwaps_9 (by decide) (fun c9 => ?_) (fun c9 => ?_)
    · have hF := fx_pos hF c9
      cases hF
      exact xr_vret C dX9_offerSwaps_60
    · have hF := fx_neg hF c9
      refine xr_iload_n C 3 dX9_offerSwaps_12 rfl rfl ?_
      refine xr_iconst (v := 1) C dX9_offerSwaps_13 (by decide) ?_
      refine xr_iadd C dX9_offerSwaps_14 ?_
      refine xr_topi (fun x15 e15 => ?_)
      have hF := fx_letE hF x15 e15
      refine xr_istore C [(4, .int x15), (0, .ref (G.2.2.1 a0)), (1, .int a1), (2, .ref (G.2.2.1 a2)), (3, .int a3)] dX9_offerSwaps_15 (Nat.le_of_ble_eq_true rfl) rfl ?_
      refine xr_sub [1, 2, 3, 4, 0] [(0, .ref (G.2.2.1 a0)), (1, .int a1), (2, .ref (G.2.2.1 a2)), (3, .int a3), (4, .int x15)] rfl ?_
      exact bX9_offerSwaps_17 C (fX9_offerSwaps_6 n) (fun a0 a1 a2 a3 ta0 ta2 h hF => ih a0 a1 a2 a3 ta0 ta2 h hF) fx_N a0 a1 a2 a3 x15 ta0 ta2 h hF
def fX9_offerSwaps (a0 : Nat) (a1 : Int32) (a2 : Nat) (h : hp_T) : Option hp_T := fx_b1 (fX0_clear a2 h) fun (h1 : hp_T) => fX9_offerSwaps_6 fx_N a0 a1 a2 (1 : Int32) h1
set_option maxRecDepth 100000 in
set_option maxHeartbeats 4000000 in
theorem mX9_offerSwaps (l : Launch) (G : xr_G) (a0 : Nat) (a1 : Int32) (a2 : Nat) (ta0 : hp_sh a0 = (9, 0)) (ta2 : hp_sh a2 = (0, 0)) (h h1 : hp_T) (hF : fX9_offerSwaps a0 a1 a2 h = some h1) : xr_M l G yX9_offerSwaps cX9_offerSwaps 5 (xr_R 5 162) none [.ref (G.2.2.1 a0), .int a1, .ref (G.2.2.1 a2)] h (xr_Qv G h1) := by
  refine xr_start rfl (Nat.le_of_ble_eq_true rfl) (fun K C => ?_)
  show xr_j l G K 5 h [(0, .ref (G.2.2.1 a0)), (1, .int a1), (2, .ref (G.2.2.1 a2))] 0 []
  unfold fX9_offerSwaps at hF
  refine xr_aload_n C 2 dX9_offerSwaps_0 rfl rfl ?_
  obtain ⟨h1, e1, hF⟩ := fx_b1E hF
  refine xr_callVv C mvX9_320 [] [] (mX0_clear l G a2 ta2 h h1 e1) ta2 (by decide) vc0 rfl ⟨rfl, rfl, (Nat.le_of_ble_eq_true rfl), (Nat.le_of_ble_eq_true rfl)⟩ rfl (Nat.le_of_ble_eq_true rfl) dX9_offerSwaps_1 ?_
  refine xr_iconst (v := 1) C dX9_offerSwaps_4 (by decide) ?_
  refine xr_istore_n C [(3, .int (1 : Int32)), (0, .ref (G.2.2.1 a0)), (1, .int a1), (2, .ref (G.2.2.1 a2))] dX9_offerSwaps_5 rfl (Nat.le_of_ble_eq_true rfl) rfl ?_
  refine xr_sub [1, 2, 3, 0] [(0, .ref (G.2.2.1 a0)), (1, .int a1), (2, .ref (G.2.2.1 a2)), (3, .int (1 : Int32))] rfl ?_
  exact bX9_offerSwaps_6 C  fx_N a0 a1 a2 (1 : Int32) ta0 ta2 h1 hF
theorem dX9_bestSwap_0 : decode cX9_bestSwap 0 = .ok (.aload_n 0, 1) := by decide +kernel
theorem dX9_bestSwap_1 : decode cX9_bestSwap 1 = .ok (.iload_n 1, 1) := by decide +kernel
theorem dX9_bestSwap_2 : decode cX9_bestSwap 2 = .ok (.invokevirtual 99, 3) := by decide +kernel
theorem dX9_bestSwap_5 : decode cX9_bestSwap 5 = .ok (.ifCond .eq 12, 3) := by decide +kernel
theorem dX9_bestSwap_8 : decode cX9_bestSwap 8 = .ok (.iload_n 2, 1) := by decide +kernel
theorem dX9_bestSwap_9 : decode cX9_bestSwap 9 = .ok (.ifCond .lt 8, 3) := by decide +kernel
theorem dX9_bestSwap_12 : decode cX9_bestSwap 12 = .ok (.iload_n 2, 1) := by decide +kernel
theorem dX9_bestSwap_13 : decode cX9_bestSwap 13 = .ok (.iconst 2, 1) := by decide +kernel
theorem dX9_bestSwap_14 : decode cX9_bestSwap 14 = .ok (.if_icmp .le 5, 3) := by decide +kernel
theorem dX9_bestSwap_17 : decode cX9_bestSwap 17 = .ok (.iconst (-1), 1) := by decide +kernel
theorem dX9_bestSwap_18 : decode cX9_bestSwap 18 = .ok (.ireturn, 1) := by decide +kernel
theorem dX9_bestSwap_19 : decode cX9_bestSwap 19 = .ok (.aload_n 0, 1) := by decide +kernel
theorem dX9_bestSwap_20 : decode cX9_bestSwap 20 = .ok (.getfield 62, 3) := by decide +kernel
theorem dX9_bestSwap_23 : decode cX9_bestSwap 23 = .ok (.iload_n 1, 1) := by decide +kernel
theorem dX9_bestSwap_24 : decode cX9_bestSwap 24 = .ok (.aaload, 1) := by decide +kernel
theorem dX9_bestSwap_25 : decode cX9_bestSwap 25 = .ok (.astore_n 3, 1) := by decide +kernel
theorem dX9_bestSwap_26 : decode cX9_bestSwap 26 = .ok (.aload_n 3, 1) := by decide +kernel
theorem dX9_bestSwap_27 : decode cX9_bestSwap 27 = .ok (.getfield 143, 3) := by decide +kernel
theorem dX9_bestSwap_30 : decode cX9_bestSwap 30 = .ok (.ifCond .ne 9, 3) := by decide +kernel
theorem dX9_bestSwap_33 : decode cX9_bestSwap 33 = .ok (.aload_n 0, 1) := by decide +kernel
theorem dX9_bestSwap_34 : decode cX9_bestSwap 34 = .ok (.iload_n 1, 1) := by decide +kernel
theorem dX9_bestSwap_35 : decode cX9_bestSwap 35 = .ok (.aload_n 3, 1) := by decide +kernel
theorem dX9_bestSwap_36 : decode cX9_bestSwap 36 = .ok (.invokevirtual 444, 3) := by decide +kernel
theorem dX9_bestSwap_39 : decode cX9_bestSwap 39 = .ok (.aload_n 3, 1) := by decide +kernel
theorem dX9_bestSwap_40 : decode cX9_bestSwap 40 = .ok (.iload_n 2, 1) := by decide +kernel
theorem dX9_bestSwap_41 : decode cX9_bestSwap 41 = .ok (.invokevirtual 370, 3) := by decide +kernel
theorem dX9_bestSwap_44 : decode cX9_bestSwap 44 = .ok (.ireturn, 1) := by decide +kernel
def fX9_bestSwap (a0 : Nat) (a1 : Int32) (a2 : Int32) (h : hp_T) : Option (Int32 × hp_T) := fx_b2 (fX9_isSide a0 a1 h) fun (r2 : Int32) (h2 : hp_T) => if r2 = 0 then (some ((-1 : Int32), h2)) else (if a2 < 0 then (some ((-1 : Int32), h2)) else (if a2 ≤ (2 : Int32) then (fx_g (fx_in a1 2) (if (h2.1 (h2.2.2 (h2.2.2 a0 10) (fx_ix a1)) 0) = 0 then (fx_b1 (fX9_offerSwaps a0 a1 (h2.2.2 (h2.2.2 a0 10) (fx_ix a1)) h2) fun (h36 : hp_T) => fx_b2 (fX0_part (h2.2.2 (h2.2.2 a0 10) (fx_ix a1)) a2 h36) fun (r41 : Int32) (h41 : hp_T) => some (r41, h41)) else (fx_b2 (fX0_part (h2.2.2 (h2.2.2 a0 10) (fx_ix a1)) a2 h2) fun (r41 : Int32) (h41 : hp_T) => some (r41, h41)))) else (some ((-1 : Int32), h2))))
set_option maxRecDepth 100000 in
set_option maxHeartbeats 4000000 in
theorem mX9_bestSwap (l : Launch) (G : xr_G) (a0 : Nat) (a1 : Int32) (a2 : Int32) (ta0 : hp_sh a0 = (9, 0)) (h h1 : hp_T) (r : Int32) (hF : fX9_bestSwap a0 a1 a2 h = some (r, h1)) : xr_M l G yX9_bestSwap cX9_bestSwap 4 (xr_R 6 186) (some .int) [.ref (G.2.2.1 a0), .int a1, .int a2] h (xr_Qi G r h1) := by
  refine xr_start rfl (Nat.le_of_ble_eq_true rfl) (fun K C => ?_)
  show xr_j l G K 4 h [(0, .ref (G.2.2.1 a0)), (1, .int a1), (2, .int a2)] 0 []
  unfold fX9_bestSwap at hF
  refine xr_aload_n C 0 dX9_bestSwap_0 rfl rfl ?_
  refine xr_iload_n C 1 dX9_bestSwap_1 rfl rfl ?_
  obtain ⟨r2, h2, e2, hF⟩ := fx_b2E hF
  refine xr_callVi C mvX9_99 [.int a1] [] (mX9_isSide l G a0 a1 ta0 h h2 r2 e2) ta0 (by decide) vc9 rfl ⟨rfl, rfl, (Nat.le_of_ble_eq_true rfl), (Nat.le_of_ble_eq_true rfl)⟩ rfl (Nat.le_of_ble_eq_true rfl) dX9_bestSwap_2 ?_
  refine xr_if_eq C 17 dX9_bestSwap_5 (by decide) (fun c5 => ?_) (fun c5 => ?_)
  · have hF := fx_pos hF c5
    refine xr_iconst (v := -1) C dX9_bestSwap_17 (by decide) ?_
    cases hF
    exact xr_iret C dX9_bestSwap_18
  · have hF := fx_neg hF c5
    refine xr_iload_n C 2 dX9_bestSwap_8 rfl rfl ?_
    refine xr_if_lt C 17 dX9_bestSwap_9 (by decide) (fun c9 => ?_) (fun c9 => ?_)
    · have hF := fx_pos hF c9
      refine xr_iconst (v := -1) C dX9_bestSwap_17 (by decide) ?_
      cases hF
      exact xr_iret C dX9_bestSwap_18
    · have hF := fx_neg hF c9
      refine xr_iload_n C 2 dX9_bestSwap_12 rfl rfl ?_
      refine xr_iconst (v := 2) C dX9_bestSwap_13 (by decide) ?_
      refine xr_icmp_le C 19 dX9_bestSwap_14 (by decide) (fun c14 => ?_) (fun c14 => ?_)
      · have hF := fx_pos hF c14
        refine xr_aload_n C 0 dX9_bestSwap_19 rfl rfl ?_
        refine xr_getr C flX9_62 rfl (by decide) dX9_bestSwap_20 ta0 (fun t20 => ?_)
        refine xr_iload_n C 1 dX9_bestSwap_23 rfl rfl ?_
        obtain ⟨g24, hF⟩ := fx_gE hF
        refine xr_aald24 C dX9_bestSwap_24 t20 g24 (fun t24 => ?_)
        refine xr_astore_n C [(3, .ref (G.2.2.1 (h2.2.2 (h2.2.2 a0 10) (fx_ix a1)))), (0, .ref (G.2.2.1 a0)), (1, .int a1), (2, .int a2)] dX9_bestSwap_25 rfl (Nat.le_of_ble_eq_true rfl) rfl ?_
        refine xr_aload_n C 0 dX9_bestSwap_26 rfl rfl ?_
        refine xr_geti C flX9_143 rfl dX9_bestSwap_27 t24 ?_
        refine xr_if_ne C 39 dX9_bestSwap_30 (by decide) (fun c30 => ?_) (fun c30 => ?_)
        · have hF := fx_neg hF c30
          refine xr_aload_n C 0 dX9_bestSwap_39 rfl rfl ?_
          refine xr_iload_n C 3 dX9_bestSwap_40 rfl rfl ?_
          obtain ⟨r41, h41, e41, hF⟩ := fx_b2E hF
          refine xr_callVi C mvX9_370 [.int a2] [] (mX0_part l G (h2.2.2 (h2.2.2 a0 10) (fx_ix a1)) a2 t24 h2 h41 r41 e41) t24 (by decide) vc0 rfl ⟨rfl, rfl, (Nat.le_of_ble_eq_true rfl), (Nat.le_of_ble_eq_true rfl)⟩ rfl (Nat.le_of_ble_eq_true rfl) dX9_bestSwap_41 ?_
          cases hF
          exact xr_iret C dX9_bestSwap_44
        · have hF := fx_pos hF c30
          refine xr_aload_n C 1 dX9_bestSwap_33 rfl rfl ?_
          refine xr_iload_n C 2 dX9_bestSwap_34 rfl rfl ?_
          refine xr_aload_n C 0 dX9_bestSwap_35 rfl rfl ?_
          obtain ⟨h36, e36, hF⟩ := fx_b1E hF
          refine xr_callVv C mvX9_444 [.int a1, .ref (G.2.2.1 (h2.2.2 (h2.2.2 a0 10) (fx_ix a1)))] [] (mX9_offerSwaps l G a0 a1 (h2.2.2 (h2.2.2 a0 10) (fx_ix a1)) ta0 t24 h2 h36 e36) ta0 (by decide) vc9 rfl ⟨rfl, rfl, (Nat.le_of_ble_eq_true rfl), (Nat.le_of_ble_eq_true rfl)⟩ rfl (Nat.le_of_ble_eq_true rfl) dX9_bestSwap_36 ?_
          refine xr_aload_n C 0 dX9_bestSwap_39 rfl rfl ?_
          refine xr_iload_n C 3 dX9_bestSwap_40 rfl rfl ?_
          obtain ⟨r41, h41, e41, hF⟩ := fx_b2E hF
          refine xr_callVi C mvX9_370 [.int a2] [] (mX0_part l G (h2.2.2 (h2.2.2 a0 10) (fx_ix a1)) a2 t24 h36 h41 r41 e41) t24 (by decide) vc0 rfl ⟨rfl, rfl, (Nat.le_of_ble_eq_true rfl), (Nat.le_of_ble_eq_true rfl)⟩ rfl (Nat.le_of_ble_eq_true rfl) dX9_bestSwap_41 ?_
          cases hF
          exact xr_iret C dX9_bestSwap_44
      · have hF := fx_neg hF c14
        refine xr_iconst (v := -1) C dX9_bestSwap_17 (by decide) ?_
        cases hF
        exact xr_iret C dX9_bestSwap_18
theorem dX10_thrown_0 : decode cX10_thrown 0 = .ok (.aload_n 0, 1) := by decide +kernel
theorem dX10_thrown_1 : decode cX10_thrown 1 = .ok (.getfield 63, 3) := by decide +kernel
theorem dX10_thrown_4 : decode cX10_thrown 4 = .ok (.ireturn, 1) := by decide +kernel
def fX10_thrown (a0 : Nat) (h : hp_T) : Option (Int32 × hp_T) := some ((h.1 a0 0), h)
set_option maxRecDepth 100000 in
set_option maxHeartbeats 4000000 in
theorem mX10_thrown (l : Launch) (G : xr_G) (a0 : Nat) (ta0 : hp_sh a0 = (10, 0)) (h h1 : hp_T) (r : Int32) (hF : fX10_thrown a0 h = some (r, h1)) : xr_M l G yX10_thrown cX10_thrown 1 (xr_R 0 0) (some .int) [.ref (G.2.2.1 a0)] h (xr_Qi G r h1) := by
  refine xr_start rfl (Nat.le_of_ble_eq_true rfl) (fun K C => ?_)
  show xr_j l G K 1 h [(0, .ref (G.2.2.1 a0))] 0 []
  unfold fX10_thrown at hF
  refine xr_aload_n C 0 dX10_thrown_0 rfl rfl ?_
  refine xr_geti C flX10_63 rfl dX10_thrown_1 ta0 ?_
  cases hF
  exact xr_iret C dX10_thrown_4
theorem dX10_feed_0 : decode cX10_feed 0 = .ok (.aload_n 0, 1) := by decide +kernel
theorem dX10_feed_1 : decode cX10_feed 1 = .ok (.iconst 0, 1) := by decide +kernel
theorem dX10_feed_2 : decode cX10_feed 2 = .ok (.putfield 63, 3) := by decide +kernel
theorem dX10_feed_5 : decode cX10_feed 5 = .ok (.aload_n 0, 1) := by decide +kernel
theorem dX10_feed_6 : decode cX10_feed 6 = .ok (.getfield 66, 3) := by decide +kernel
theorem dX10_feed_9 : decode cX10_feed 9 = .ok (.sipush 880, 3) := by decide +kernel
theorem dX10_feed_12 : decode cX10_feed 12 = .ok (.if_icmp .le 5, 3) := by decide +kernel
theorem dX10_feed_15 : decode cX10_feed 15 = .ok (.iconst (-1), 1) := by decide +kernel
theorem dX10_feed_16 : decode cX10_feed 16 = .ok (.ireturn, 1) := by decide +kernel
theorem dX10_feed_17 : decode cX10_feed 17 = .ok (.iconst 0, 1) := by decide +kernel
theorem dX10_feed_18 : decode cX10_feed 18 = .ok (.istore 6, 2) := by decide +kernel
theorem dX10_feed_20 : decode cX10_feed 20 = .ok (.iload 6, 2) := by decide +kernel
theorem dX10_feed_22 : decode cX10_feed 22 = .ok (.bipush 20, 2) := by decide +kernel
theorem dX10_feed_24 : decode cX10_feed 24 = .ok (.if_icmp .ge 86, 3) := by decide +kernel
theorem dX10_feed_27 : decode cX10_feed 27 = .ok (.iload 6, 2) := by decide +kernel
theorem dX10_feed_29 : decode cX10_feed 29 = .ok (.iconst 4, 1) := by decide +kernel
theorem dX10_feed_30 : decode cX10_feed 30 = .ok (.if_icmp .ge 7, 3) := by decide +kernel
theorem dX10_feed_33 : decode cX10_feed 33 = .ok (.iload_n 1, 1) := by decide +kernel
theorem dX10_feed_34 : decode cX10_feed 34 = .ok (.goto 39, 3) := by decide +kernel
theorem dX10_feed_37 : decode cX10_feed 37 = .ok (.iload 6, 2) := by decide +kernel
theorem dX10_feed_39 : decode cX10_feed 39 = .ok (.bipush 8, 2) := by decide +kernel
theorem dX10_feed_41 : decode cX10_feed 41 = .ok (.if_icmp .ge 7, 3) := by decide +kernel
theorem dX10_feed_44 : decode cX10_feed 44 = .ok (.iload_n 2, 1) := by decide +kernel
theorem dX10_feed_45 : decode cX10_feed 45 = .ok (.goto 28, 3) := by decide +kernel
theorem dX10_feed_48 : decode cX10_feed 48 = .ok (.iload 6, 2) := by decide +kernel
theorem dX10_feed_50 : decode cX10_feed 50 = .ok (.bipush 12, 2) := by decide +kernel
theorem dX10_feed_52 : decode cX10_feed 52 = .ok (.if_icmp .ge 7, 3) := by decide +kernel
theorem dX10_feed_55 : decode cX10_feed 55 = .ok (.iload_n 3, 1) := by decide +kernel
theorem dX10_feed_56 : decode cX10_feed 56 = .ok (.goto 17, 3) := by decide +kernel
theorem dX10_feed_59 : decode cX10_feed 59 = .ok (.iload 6, 2) := by decide +kernel
theorem dX10_feed_61 : decode cX10_feed 61 = .ok (.bipush 16, 2) := by decide +kernel
theorem dX10_feed_63 : decode cX10_feed 63 = .ok (.if_icmp .ge 8, 3) := by decide +kernel
theorem dX10_feed_66 : decode cX10_feed 66 = .ok (.iload 4, 2) := by decide +kernel
theorem dX10_feed_68 : decode cX10_feed 68 = .ok (.goto 5, 3) := by decide +kernel
theorem dX10_feed_71 : decode cX10_feed 71 = .ok (.iload 5, 2) := by decide +kernel
theorem dX10_feed_73 : decode cX10_feed 73 = .ok (.istore 7, 2) := by decide +kernel
theorem dX10_feed_75 : decode cX10_feed 75 = .ok (.aload_n 0, 1) := by decide +kernel
theorem dX10_feed_76 : decode cX10_feed 76 = .ok (.getfield 7, 3) := by decide +kernel
theorem dX10_feed_79 : decode cX10_feed 79 = .ok (.aload_n 0, 1) := by decide +kernel
theorem dX10_feed_80 : decode cX10_feed 80 = .ok (.getfield 66, 3) := by decide +kernel
theorem dX10_feed_83 : decode cX10_feed 83 = .ok (.iload 6, 2) := by decide +kernel
theorem dX10_feed_85 : decode cX10_feed 85 = .ok (.iadd, 1) := by decide +kernel
theorem dX10_feed_86 : decode cX10_feed 86 = .ok (.iload 7, 2) := by decide +kernel
theorem dX10_feed_88 : decode cX10_feed 88 = .ok (.bipush 24, 2) := by decide +kernel
theorem dX10_feed_90 : decode cX10_feed 90 = .ok (.bipush 8, 2) := by decide +kernel
theorem dX10_feed_92 : decode cX10_feed 92 = .ok (.iload 6, 2) := by decide +kernel
theorem dX10_feed_94 : decode cX10_feed 94 = .ok (.iconst 4, 1) := by decide +kernel
theorem dX10_feed_95 : decode cX10_feed 95 = .ok (.irem, 1) := by decide +kernel
theorem dX10_feed_96 : decode cX10_feed 96 = .ok (.imul, 1) := by decide +kernel
theorem dX10_feed_97 : decode cX10_feed 97 = .ok (.isub, 1) := by decide +kernel
theorem dX10_feed_98 : decode cX10_feed 98 = .ok (.ishr, 1) := by decide +kernel
theorem dX10_feed_99 : decode cX10_feed 99 = .ok (.sipush 255, 3) := by decide +kernel
theorem dX10_feed_102 : decode cX10_feed 102 = .ok (.iand, 1) := by decide +kernel
theorem dX10_feed_103 : decode cX10_feed 103 = .ok (.iastore, 1) := by decide +kernel
theorem dX10_feed_104 : decode cX10_feed 104 = .ok (.iinc 6 1, 3) := by decide +kernel
theorem dX10_feed_107 : decode cX10_feed 107 = .ok (.goto (-87), 3) := by decide +kernel
theorem dX10_feed_110 : decode cX10_feed 110 = .ok (.aload_n 0, 1) := by decide +kernel
theorem dX10_feed_111 : decode cX10_feed 111 = .ok (.dup, 1) := by decide +kernel
theorem dX10_feed_112 : decode cX10_feed 112 = .ok (.getfield 66, 3) := by decide +kernel
theorem dX10_feed_115 : decode cX10_feed 115 = .ok (.bipush 20, 2) := by decide +kernel
theorem dX10_feed_117 : decode cX10_feed 117 = .ok (.iadd, 1) := by decide +kernel
theorem dX10_feed_118 : decode cX10_feed 118 = .ok (.putfield 66, 3) := by decide +kernel
theorem dX10_feed_121 : decode cX10_feed 121 = .ok (.aload_n 0, 1) := by decide +kernel
theorem dX10_feed_122 : decode cX10_feed 122 = .ok (.getfield 66, 3) := by decide +kernel
theorem dX10_feed_125 : decode cX10_feed 125 = .ok (.ireturn, 1) := by decide +kernel
def fX10_feed_73 (k20 : Nat → Int32 → Int32 → Int32 → Int32 → Int32 → Int32 → hp_T → Option (Int32 × hp_T)) (a0 : Nat) (a1 : Int32) (a2 : Int32) (a3 : Int32) (a4 : Int32) (a5 : Int32) (a6 : Int32) (s0 : Int32) (h : hp_T) : Option (Int32 × hp_T) := fx_g (fx_in ((h.1 a0 2) + a6) 900) (fx_let (hp_sI h (h.2.2 a0 1) (fx_ix ((h.1 a0 2) + a6)) ((fx_shr s0 ((24 : Int32) - ((8 : Int32) * (fx_rem a6 (4 : Int32))))) &&& (255 : Int32))) fun (h103 : hp_T) => fx_let (a6 + (1 : Int32)) fun (x104 : Int32) => k20 a0 a1 a2 a3 a4 a5 x104 h103)
set_option maxRecDepth 100000 in
set_option maxHeartbeats 4000000 in
theorem bX10_feed_73 {l : Launch} {G : xr_G} {K : xr_K} {r : Int32} {h1 : hp_T} (C : xr_C G K cX10_feed RX10 8 (xr_R 0 0) (some .int) (some (xr_Qi G r h1))) (k20 : Nat → Int32 → Int32 → Int32 → Int32 → Int32 → Int32 → hp_T → Option (Int32 × hp_T)) (j20 : ∀ (a0 : Nat) (a1 : Int32) (a2 : Int32) (a3 : Int32) (a4 : Int32) (a5 : Int32) (a6 : Int32) (ta0 : hp_sh a0 = (10, 0)) (h : hp_T), k20 a0 a1 a2 a3 a4 a5 a6 h = some (r, h1) → xr_j l G K 8 h [(0, .ref (G.2.2.1 a0)), (1, .int a1), (2, .int a2), (3, .int a3), (4, .int a4), (5, .int a5), (6, .int a6)] 20 []) (a0 : Nat) (a1 : Int32) (a2 : Int32) (a3 : Int32) (a4 : Int32) (a5 : Int32) (a6 : Int32) (s0 : Int32) (ta0 : hp_sh a0 = (10, 0)) (h : hp_T) (hF : fX10_feed_73 k20 a0 a1 a2 a3 a4 a5 a6 s0 h = some (r, h1)) : xr_j l G K 8 h [(0, .ref (G.2.2.1 a0)), (1, .int a1), (2, .int a2), (3, .int a3), (4, .int a4), (5, .int a5), (6, .int a6)] 73 [.int s0] := by
  unfold fX10_feed_73 at hF
  refine xr_istore C [(7, .int s0), (0, .ref (G.2.2.1 a0)), (1, .int a1), (2, .int a2), (3, .int a3), (4, .int a4), (5, .int a5), (6, .int a6)] dX10_feed_73 (Nat.le_of_ble_eq_true rfl) rfl ?_
  refine xr_aload_n C 1 dX10_feed_75 rfl rfl ?_
  refine xr_getr C flX10_7 rfl (by decide) dX10_feed_76 ta0 (fun t76 => ?_)
  refine xr_aload_n C 1 dX10_feed_79 rfl rfl ?_
  refine xr_geti C flX10_66 rfl dX10_feed_80 ta0 ?_
  refine xr_iload C 7 dX10_feed_83 rfl ?_
  refine xr_iadd C dX10_feed_85 ?_
  refine xr_iload C 0 dX10_feed_86 rfl ?_
  refine xr_bipush (v := 24) C dX10_feed_88 (by decide) ?_
  refine xr_bipush (v := 8) C dX10_feed_90 (by decide) ?_
  refine xr_iload C 7 dX10_feed_92 rfl ?_
  refine xr_iconst (v := 4) C dX10_feed_94 (by decide) ?_
  refine xr_irem C dX10_feed_95 (by decide) ?_
  refine xr_imul C dX10_feed_96 ?_
  refine xr_isub C dX10_feed_97 ?_
  refine xr_ishr C dX10_feed_98 ?_
  refine xr_sipush (v := 255) C dX10_feed_99 (by decide) ?_
  refine xr_iand C dX10_feed_102 ?_
  obtain ⟨g103, hF⟩ := fx_gE hF
  refine xr_iast C dX10_feed_103 t76 g103 (fun h103 e103 => ?_)
  have hF := fx_letE hF h103 e103
  obtain ⟨x104, e104⟩ : ∃ y : Int32, y = (a6 + (1 : Int32)) := ⟨_, rfl⟩
  have hF := fx_letE hF x104 e104
  refine xr_iinc C x104 7 [(6, .int x104), (7, .int s0), (0, .ref (G.2.2.1 a0)), (1, .int a1), (2, .int a2), (3, .int a3), (4, .int a4), (5, .int a5)] dX10_feed_104 rfl (by rw [e104]; rfl) (Nat.le_of_ble_eq_true rfl) rfl ?_
  refine xr_goto C 20 dX10_feed_107 (by decide) ?_
  refine xr_sub [2, 3, 4, 5, 6, 7, 0] [(0, .ref (G.2.2.1 a0)), (1, .int a1), (2, .int a2), (3, .int a3), (4, .int a4), (5, .int a5), (6, .int x104)] rfl ?_
  exact j20 a0 a1 a2 a3 a4 a5 x104 ta0 h103 hF
def fX10_feed_20  : Nat → Nat → Int32 → Int32 → Int32 → Int32 → Int32 → Int32 → hp_T → Option (Int32 × hp_T)
  | 0, _, _, _, _, _, _, _, _ => none
  | n + 1, a0, a1, a2, a3, a4, a5, a6, h => if (20 : Int32) ≤ a6 then (fx_let (hp_sI h a0 2 ((h.1 a0 2) + (20 : Int32))) fun (h118 : hp_T) => some ((h118.1 a0 2), h118)) else (if (4 : Int32) ≤ a6 then (if (8 : Int32) ≤ a6 then (if (12 : Int32) ≤ a6 then (if (16 : Int32) ≤ a6 then (fX10_feed_73 (fX10_feed_20 n) a0 a1 a2 a3 a4 a5 a6 a5 h) else (fX10_feed_73 (fX10_feed_20 n) a0 a1 a2 a3 a4 a5 a6 a4 h)) else (fX10_feed_73 (fX10_feed_20 n) a0 a1 a2 a3 a4 a5 a6 a3 h)) else (fX10_feed_73 (fX10_feed_20 n) a0 a1 a2 a3 a4 a5 a6 a2 h)) else (fX10_feed_73 (fX10_feed_20 n) a0 a1 a2 a3 a4 a5 a6 a1 h))
set_option maxRecDepth 100000 in
set_option maxHeartbeats 4000000 in
theorem bX10_feed_20 {l : Launch} {G : xr_G} {K : xr_K} {r : Int32} {h1 : hp_T} (C : xr_C G K cX10_feed RX10 8 (xr_R 0 0) (some .int) (some (xr_Qi G r h1)))  : ∀ (n : Nat) (a0 : Nat) (a1 : Int32) (a2 : Int32) (a3 : Int32) (a4 : Int32) (a5 : Int32) (a6 : Int32) (ta0 : hp_sh a0 = (10, 0)) (h : hp_T), fX10_feed_20 n a0 a1 a2 a3 a4 a5 a6 h = some (r, h1) → xr_j l G K 8 h [(0, .ref (G.2.2.1 a0)), (1, .int a1), (2, .int a2), (3, .int a3), (4, .int a4), (5, .int a5), (6, .int a6)] 20 [] := by
  intro n
  induction n with
  | zero =>
    intro a0 a1 a2 a3 a4 a5 a6 ta0 h hF
    cases hF
  | succ n ih =>
    intro a0 a1 a2 a3 a4 a5 a6 ta0 h hF
    rw [fX10_feed_20] at hF
    refine xr_iload C 6 dX10_feed_20 rfl ?_
    refine xr_bipush (v := 20) C dX10_feed_22 (by decide) ?_
    refine xr_icmp_ge C 110 dX10_feed_24 (by decide) (fun c24 => ?_) (fun c24 => ?_)
    · have hF := fx_pos hF c24
      refine xr_aload_n C 0 dX10_feed_110 rfl rfl ?_
      refine xr_dup C dX10_feed_111 rfl ?_
      refine xr_geti C flX10_66 rfl dX10_feed_112 ta0 ?_
      refine xr_bipush (v := 20) C dX10_feed_115 (by decide) ?_
      refine xr_iadd C dX10_feed_117 ?_
      refine xr_puti C fpX10_66 rfl rfl rfl dX10_feed_118 ta0 (fun h118 e118 => ?_)
      have hF := fx_letE hF h118 e118
      refine xr_aload_n C 0 dX10_feed_121 rfl rfl ?_
      refine xr_geti C flX10_66 rfl dX10_feed_122 ta0 ?_
      cases hF
      exact xr_iret C dX10_feed_125
    · have hF := fx_neg hF c24
      refine xr_iload C 6 dX10_feed_27 rfl ?_
      refine xr_iconst (v := 4) C dX10_feed_29 (by decide) ?_
      refine xr_icmp_ge C 37 dX10_feed_30 (by decide) (fun c30 => ?_) (fun c30 => ?_)
      · have hF := fx_pos hF c30
        refine xr_iload C 6 dX10_feed_37 rfl ?_
        refine xr_bipush (v := 8) C dX10_feed_39 (by decide) ?_
        refine xr_icmp_ge C 48 dX10_feed_41 (by decide) (fun c41 => ?_) (fun c41 => ?_)
        · have hF := fx_pos hF c41
          refine xr_iload C 6 dX10_feed_48 rfl ?_
          refine xr_bipush (v := 12) C dX10_feed_50 (by decide) ?_
          refine xr_icmp_ge C 59 dX10_feed_52 (by decide) (fun c52 => ?_) (fun c52 => ?_)
          · have hF := fx_pos hF c52
            refine xr_iload C 6 dX10_feed_59 rfl ?_
            refine xr_bipush (v := 16) C dX10_feed_61 (by decide) ?_
            refine xr_icmp_ge C 71 dX10_feed_63 (by decide) (fun c63 => ?_) (fun c63 => ?_)
            · have hF := fx_pos hF c63
              refine xr_iload C 5 dX10_feed_71 rfl ?_
              exact bX10_feed_73 C (fX10_feed_20 n) (fun a0 a1 a2 a3 a4 a5 a6 ta0 h hF => ih a0 a1 a2 a3 a4 a5 a6 ta0 h hF)  a0 a1 a2 a3 a4 a5 a6 a5 ta0 h hF
            · have hF := fx_neg hF c63
              refine xr_iload C 4 dX10_feed_66 rfl ?_
              refine xr_goto C 73 dX10_feed_68 (by decide) ?_
              exact bX10_feed_73 C (fX10_feed_20 n) (fun a0 a1 a2 a3 a4 a5 a6 ta0 h hF => ih a0 a1 a2 a3 a4 a5 a6 ta0 h hF)  a0 a1 a2 a3 a4 a5 a6 a4 ta0 h hF
          · have hF := fx_neg hF c52
            refine xr_iload_n C 3 dX10_feed_55 rfl rfl ?_
            refine xr_goto C 73 dX10_feed_56 (by decide) ?_
            exact bX10_feed_73 C (fX10_feed_20 n) (fun a0 a1 a2 a3 a4 a5 a6 ta0 h hF => ih a0 a1 a2 a3 a4 a5 a6 ta0 h hF)  a0 a1 a2 a3 a4 a5 a6 a3 ta0 h hF
        · have hF := fx_neg hF c41
          refine xr_iload_n C 2 dX10_feed_44 rfl rfl ?_
          refine xr_goto C 73 dX10_feed_45 (by decide) ?_
          exact bX10_feed_73 C (fX10_feed_20 n) (fun a0 a1 a2 a3 a4 a5 a6 ta0 h hF => ih a0 a1 a2 a3 a4 a5 a6 ta0 h hF)  a0 a1 a2 a3 a4 a5 a6 a2 ta0 h hF
      · have hF := fx_neg hF c30
        refine xr_iload_n C 1 dX10_feed_33 rfl rfl ?_
        refine xr_goto C 73 dX10_feed_34 (by decide) ?_
        exact bX10_feed_73 C (fX10_feed_20 n) (fun a0 a1 a2 a3 a4 a5 a6 ta0 h hF => ih a0 a1 a2 a3 a4 a5 a6 ta0 h hF)  a0 a1 a2 a3 a4 a5 a6 a1 ta0 h hF
def fX10_feed (a0 : Nat) (a1 : Int32) (a2 : Int32) (a3 : Int32) (a4 : Int32) (a5 : Int32) (h : hp_T) : Option (Int32 × hp_T) := fx_let (hp_sI h a0 0 (0 : Int32)) fun (h2 : hp_T) => if (h2.1 a0 2) ≤ (880 : Int32) then (fX10_feed_20 fx_N a0 a1 a2 a3 a4 a5 (0 : Int32) h2) else (some ((-1 : Int32), h2))
set_option maxRecDepth 100000 in
set_option maxHeartbeats 4000000 in
theorem mX10_feed (l : Launch) (G : xr_G) (a0 : Nat) (a1 : Int32) (a2 : Int32) (a3 : Int32) (a4 : Int32) (a5 : Int32) (ta0 : hp_sh a0 = (10, 0)) (h h1 : hp_T) (r : Int32) (hF : fX10_feed a0 a1 a2 a3 a4 a5 h = some (r, h1)) : xr_M l G yX10_feed cX10_feed 8 (xr_R 0 0) (some .int) [.ref (G.2.2.1 a0), .int a1, .int a2, .int a3, .int a4, .int a5] h (xr_Qi G r h1) := by
  refine xr_start rfl (Nat.le_of_ble_eq_true rfl) (fun K C => ?_)
  show xr_j l G K 8 h [(0, .ref (G.2.2.1 a0)), (1, .int a1), (2, .int a2), (3, .int a3), (4, .int a4), (5, .int a5)] 0 []
  unfold fX10_feed at hF
  refine xr_aload_n C 0 dX10_feed_0 rfl rfl ?_
  refine xr_iconst (v := 0) C dX10_feed_1 (by decide) ?_
  refine xr_puti C fpX10_63 rfl rfl rfl dX10_feed_2 ta0 (fun h2 e2 => ?_)
  have hF := fx_letE hF h2 e2
  refine xr_aload_n C 0 dX10_feed_5 rfl rfl ?_
  refine xr_geti C flX10_66 rfl dX10_feed_6 ta0 ?_
  refine xr_sipush (v := 880) C dX10_feed_9 (by decide) ?_
  refine xr_icmp_le C 17 dX10_feed_12 (by decide) (fun c12 => ?_) (fun c12 => ?_)
  · have hF := fx_pos hF c12
    refine xr_iconst (v := 0) C dX10_feed_17 (by decide) ?_
    refine xr_istore C [(6, .int (0 : Int32)), (0, .ref (G.2.2.1 a0)), (1, .int a1), (2, .int a2), (3, .int a3), (4, .int a4), (5, .int a5)] dX10_feed_18 (Nat.le_of_ble_eq_true rfl) rfl ?_
    refine xr_sub [1, 2, 3, 4, 5, 6, 0] [(0, .ref (G.2.2.1 a0)), (1, .int a1), (2, .int a2), (3, .int a3), (4, .int a4), (5, .int a5), (6, .int (0 : Int32))] rfl ?_
    exact bX10_feed_20 C  fx_N a0 a1 a2 a3 a4 a5 (0 : Int32) ta0 h2 hF
  · have hF := fx_neg hF c12
    refine xr_iconst (v := -1) C dX10_feed_15 (by decide) ?_
    cases hF
    exact xr_iret C dX10_feed_16
theorem dX10_here_0 : decode cX10_here 0 = .ok (.aload_n 0, 1) := by decide +kernel
theorem dX10_here_1 : decode cX10_here 1 = .ok (.getfield 69, 3) := by decide +kernel
theorem dX10_here_4 : decode cX10_here 4 = .ok (.aload_n 0, 1) := by decide +kernel
theorem dX10_here_5 : decode cX10_here 5 = .ok (.getfield 72, 3) := by decide +kernel
theorem dX10_here_8 : decode cX10_here 8 = .ok (.if_icmp .ge 15, 3) := by decide +kernel
theorem dX10_here_11 : decode cX10_here 11 = .ok (.aload_n 0, 1) := by decide +kernel
theorem dX10_here_12 : decode cX10_here 12 = .ok (.getfield 7, 3) := by decide +kernel
theorem dX10_here_15 : decode cX10_here 15 = .ok (.aload_n 0, 1) := by decide +kernel
theorem dX10_here_16 : decode cX10_here 16 = .ok (.getfield 69, 3) := by decide +kernel
theorem dX10_here_19 : decode cX10_here 19 = .ok (.iaload, 1) := by decide +kernel
theorem dX10_here_20 : decode cX10_here 20 = .ok (.goto 4, 3) := by decide +kernel
theorem dX10_here_23 : decode cX10_here 23 = .ok (.iconst (-1), 1) := by decide +kernel
theorem dX10_here_24 : decode cX10_here 24 = .ok (.ireturn, 1) := by decide +kernel
def fX10_here (a0 : Nat) (h : hp_T) : Option (Int32 × hp_T) := if (h.1 a0 8) ≤ (h.1 a0 9) then (some ((-1 : Int32), h)) else (fx_g (fx_in (h.1 a0 9) 900) (some ((h.1 (h.2.2 a0 1) (fx_ix (h.1 a0 9))), h)))
set_option maxRecDepth 100000 in
set_option maxHeartbeats 4000000 in
theorem mX10_here (l : Launch) (G : xr_G) (a0 : Nat) (ta0 : hp_sh a0 = (10, 0)) (h h1 : hp_T) (r : Int32) (hF : fX10_here a0 h = some (r, h1)) : xr_M l G yX10_here cX10_here 1 (xr_R 0 0) (some .int) [.ref (G.2.2.1 a0)] h (xr_Qi G r h1) := by
  refine xr_start rfl (Nat.le_of_ble_eq_true rfl) (fun K C => ?_)
  show xr_j l G K 1 h [(0, .ref (G.2.2.1 a0))] 0 []
  unfold fX10_here at hF
  refine xr_aload_n C 0 dX10_here_0 rfl rfl ?_
  refine xr_geti C flX10_69 rfl dX10_here_1 ta0 ?_
  refine xr_aload_n C 0 dX10_here_4 rfl rfl ?_
  refine xr_geti C flX10_72 rfl dX10_here_5 ta0 ?_
  refine xr_icmp_ge C 23 dX10_here_8 (by decide) (fun c8 => ?_) (fun c8 => ?_)
  · have hF := fx_pos hF c8
    refine xr_iconst (v := -1) C dX10_here_23 (by decide) ?_
    cases hF
    exact xr_iret C dX10_here_24
  · have hF := fx_neg hF c8
    refine xr_aload_n C 0 dX10_here_11 rfl rfl ?_
    refine xr_getr C flX10_7 rfl (by decide) dX10_here_12 ta0 (fun t12 => ?_)
    refine xr_aload_n C 0 dX10_here_15 rfl rfl ?_
    refine xr_geti C flX10_69 rfl dX10_here_16 ta0 ?_
    obtain ⟨g19, hF⟩ := fx_gE hF
    refine xr_iald C dX10_here_19 t12 g19 ?_
    refine xr_goto C 24 dX10_here_20 (by decide) ?_
    cases hF
    exact xr_iret C dX10_here_24
theorem dX10_isSmall_0 : decode cX10_isSmall 0 = .ok (.iload_n 0, 1) := by decide +kernel
theorem dX10_isSmall_1 : decode cX10_isSmall 1 = .ok (.bipush 97, 2) := by decide +kernel
theorem dX10_isSmall_3 : decode cX10_isSmall 3 = .ok (.if_icmp .lt 13, 3) := by decide +kernel
theorem dX10_isSmall_6 : decode cX10_isSmall 6 = .ok (.iload_n 0, 1) := by decide +kernel
theorem dX10_isSmall_7 : decode cX10_isSmall 7 = .ok (.bipush 122, 2) := by decide +kernel
theorem dX10_isSmall_9 : decode cX10_isSmall 9 = .ok (.if_icmp .gt 7, 3) := by decide +kernel
theorem dX10_isSmall_12 : decode cX10_isSmall 12 = .ok (.iconst 1, 1) := by decide +kernel
theorem dX10_isSmall_13 : decode cX10_isSmall 13 = .ok (.goto 4, 3) := by decide +kernel
theorem dX10_isSmall_16 : decode cX10_isSmall 16 = .ok (.iconst 0, 1) := by decide +kernel
theorem dX10_isSmall_17 : decode cX10_isSmall 17 = .ok (.ireturn, 1) := by decide +kernel
def fX10_isSmall (a0 : Int32) (h : hp_T) : Option (Int32 × hp_T) := if a0 < (97 : Int32) then (some ((0 : Int32), h)) else (if (122 : Int32) < a0 then (some ((0 : Int32), h)) else (some ((1 : Int32), h)))
set_option maxRecDepth 100000 in
set_option maxHeartbeats 4000000 in
theorem mX10_isSmall (l : Launch) (G : xr_G) (a0 : Int32)  (h h1 : hp_T) (r : Int32) (hF : fX10_isSmall a0 h = some (r, h1)) : xr_M l G yX10_isSmall cX10_isSmall 1 (xr_R 0 0) (some .boolean) [.int a0] h (xr_Qi G r h1) := by
  refine xr_start rfl (Nat.le_of_ble_eq_true rfl) (fun K C => ?_)
  show xr_j l G K 1 h [(0, .int a0)] 0 []
  unfold fX10_isSmall at hF
  refine xr_iload_n C 0 dX10_isSmall_0 rfl rfl ?_
  refine xr_bipush (v := 97) C dX10_isSmall_1 (by decide) ?_
  refine xr_icmp_lt C 16 dX10_isSmall_3 (by decide) (fun c3 => ?_) (fun c3 => ?_)
  · have hF := fx_pos hF c3
    refine xr_iconst (v := 0) C dX10_isSmall_16 (by decide) ?_
    cases hF
    exact xr_zret C rfl dX10_isSmall_17
  · have hF := fx_neg hF c3
    refine xr_iload_n C 0 dX10_isSmall_6 rfl rfl ?_
    refine xr_bipush (v := 122) C dX10_isSmall_7 (by decide) ?_
    refine xr_icmp_gt C 16 dX10_isSmall_9 (by decide) (fun c9 => ?_) (fun c9 => ?_)
    · have hF := fx_pos hF c9
      refine xr_iconst (v := 0) C dX10_isSmall_16 (by decide) ?_
      cases hF
      exact xr_zret C rfl dX10_isSmall_17
    · have hF := fx_neg hF c9
      refine xr_iconst (v := 1) C dX10_isSmall_12 (by decide) ?_
      refine xr_goto C 17 dX10_isSmall_13 (by decide) ?_
      cases hF
      exact xr_zret C rfl dX10_isSmall_17
theorem dX10_isDigit_0 : decode cX10_isDigit 0 = .ok (.iload_n 0, 1) := by decide +kernel
theorem dX10_isDigit_1 : decode cX10_isDigit 1 = .ok (.bipush 48, 2) := by decide +kernel
theorem dX10_isDigit_3 : decode cX10_isDigit 3 = .ok (.if_icmp .lt 13, 3) := by decide +kernel
theorem dX10_isDigit_6 : decode cX10_isDigit 6 = .ok (.iload_n 0, 1) := by decide +kernel
theorem dX10_isDigit_7 : decode cX10_isDigit 7 = .ok (.bipush 57, 2) := by decide +kernel
theorem dX10_isDigit_9 : decode cX10_isDigit 9 = .ok (.if_icmp .gt 7, 3) := by decide +kernel
theorem dX10_isDigit_12 : decode cX10_isDigit 12 = .ok (.iconst 1, 1) := by decide +kernel
theorem dX10_isDigit_13 : decode cX10_isDigit 13 = .ok (.goto 4, 3) := by decide +kernel
theorem dX10_isDigit_16 : decode cX10_isDigit 16 = .ok (.iconst 0, 1) := by decide +kernel
theorem dX10_isDigit_17 : decode cX10_isDigit 17 = .ok (.ireturn, 1) := by decide +kernel
def fX10_isDigit (a0 : Int32) (h : hp_T) : Option (Int32 × hp_T) := if a0 < (48 : Int32) then (some ((0 : Int32), h)) else (if (57 : Int32) < a0 then (some ((0 : Int32), h)) else (some ((1 : Int32), h)))
set_option maxRecDepth 100000 in
set_option maxHeartbeats 4000000 in
theorem mX10_isDigit (l : Launch) (G : xr_G) (a0 : Int32)  (h h1 : hp_T) (r : Int32) (hF : fX10_isDigit a0 h = some (r, h1)) : xr_M l G yX10_isDigit cX10_isDigit 1 (xr_R 0 0) (some .boolean) [.int a0] h (xr_Qi G r h1) := by
  refine xr_start rfl (Nat.le_of_ble_eq_true rfl) (fun K C => ?_)
  show xr_j l G K 1 h [(0, .int a0)] 0 []
  unfold fX10_isDigit at hF
  refine xr_iload_n C 0 dX10_isDigit_0 rfl rfl ?_
  refine xr_bipush (v := 48) C dX10_isDigit_1 (by decide) ?_
  refine xr_icmp_lt C 16 dX10_isDigit_3 (by decide) (fun c3 => ?_) (fun c3 => ?_)
  · have hF := fx_pos hF c3
    refine xr_iconst (v := 0) C dX10_isDigit_16 (by decide) ?_
    cases hF
    exact xr_zret C rfl dX10_isDigit_17
  · have hF := fx_neg hF c3
    refine xr_iload_n C 0 dX10_isDigit_6 rfl rfl ?_
    refine xr_bipush (v := 57) C dX10_isDigit_7 (by decide) ?_
    refine xr_icmp_gt C 16 dX10_isDigit_9 (by decide) (fun c9 => ?_) (fun c9 => ?_)
    · have hF := fx_pos hF c9
      refine xr_iconst (v := 0) C dX10_isDigit_16 (by decide) ?_
      cases hF
      exact xr_zret C rfl dX10_isDigit_17
    · have hF := fx_neg hF c9
      refine xr_iconst (v := 1) C dX10_isDigit_12 (by decide) ?_
      refine xr_goto C 17 dX10_isDigit_13 (by decide) ?_
      cases hF
      exact xr_zret C rfl dX10_isDigit_17
theorem dX10_wrong_0 : decode cX10_wrong 0 = .ok (.aload_n 0, 1) := by decide +kernel
theorem dX10_wrong_1 : decode cX10_wrong 1 = .ok (.getfield 112, 3) := by decide +kernel
theorem dX10_wrong_4 : decode cX10_wrong 4 = .ok (.ifCond .eq 4, 3) := by decide +kernel
theorem dX10_wrong_7 : decode cX10_wrong 7 = .ok (.return_, 1) := by decide +kernel
theorem dX10_wrong_8 : decode cX10_wrong 8 = .ok (.aload_n 0, 1) := by decide +kernel
theorem dX10_wrong_9 : decode cX10_wrong 9 = .ok (.iload_n 1, 1) := by decide +kernel
theorem dX10_wrong_10 : decode cX10_wrong 10 = .ok (.putfield 112, 3) := by decide +kernel
theorem dX10_wrong_13 : decode cX10_wrong 13 = .ok (.aload_n 0, 1) := by decide +kernel
theorem dX10_wrong_14 : decode cX10_wrong 14 = .ok (.aload_n 0, 1) := by decide +kernel
theorem dX10_wrong_15 : decode cX10_wrong 15 = .ok (.getfield 79, 3) := by decide +kernel
theorem dX10_wrong_18 : decode cX10_wrong 18 = .ok (.putfield 115, 3) := by decide +kernel
theorem dX10_wrong_21 : decode cX10_wrong 21 = .ok (.return_, 1) := by decide +kernel
def fX10_wrong (a0 : Nat) (a1 : Int32) (h : hp_T) : Option hp_T := if (h.1 a0 14) = 0 then (fx_let (hp_sI h a0 14 a1) fun (h10 : hp_T) => fx_let (hp_sI h10 a0 15 (h10.1 a0 10)) fun (h18 : hp_T) => some h18) else (some h)
set_option maxRecDepth 100000 in
set_option maxHeartbeats 4000000 in
theorem mX10_wrong (l : Launch) (G : xr_G) (a0 : Nat) (a1 : Int32) (ta0 : hp_sh a0 = (10, 0)) (h h1 : hp_T) (hF : fX10_wrong a0 a1 h = some h1) : xr_M l G yX10_wrong cX10_wrong 2 (xr_R 0 0) none [.ref (G.2.2.1 a0), .int a1] h (xr_Qv G h1) := by
  refine xr_start rfl (Nat.le_of_ble_eq_true rfl) (fun K C => ?_)
  show xr_j l G K 2 h [(0, .ref (G.2.2.1 a0)), (1, .int a1)] 0 []
  unfold fX10_wrong at hF
  refine xr_aload_n C 0 dX10_wrong_0 rfl rfl ?_
  refine xr_geti C flX10_112 rfl dX10_wrong_1 ta0 ?_
  refine xr_if_eq C 8 dX10_wrong_4 (by decide) (fun c4 => ?_) (fun c4 => ?_)
  · have hF := fx_pos hF c4
    refine xr_aload_n C 0 dX10_wrong_8 rfl rfl ?_
    refine xr_iload_n C 1 dX10_wrong_9 rfl rfl ?_
    refine xr_puti C fpX10_112 rfl rfl rfl dX10_wrong_10 ta0 (fun h10 e10 => ?_)
    have hF := fx_letE hF h10 e10
    refine xr_aload_n C 0 dX10_wrong_13 rfl rfl ?_
    refine xr_aload_n C 0 dX10_wrong_14 rfl rfl ?_
    refine xr_geti C flX10_79 rfl dX10_wrong_15 ta0 ?_
    refine xr_puti C fpX10_115 rfl rfl rfl dX10_wrong_18 ta0 (fun h18 e18 => ?_)
    have hF := fx_letE hF h18 e18
    cases hF
    exact xr_vret C dX10_wrong_21
  · have hF := fx_neg hF c4
    cases hF
    exact xr_vret C dX10_wrong_7
theorem dX10_isOther_0 : decode cX10_isOther 0 = .ok (.aload_n 0, 1) := by decide +kernel
theorem dX10_isOther_1 : decode cX10_isOther 1 = .ok (.getfield 112, 3) := by decide +kernel
theorem dX10_isOther_4 : decode cX10_isOther 4 = .ok (.ifCond .ne 22, 3) := by decide +kernel
theorem dX10_isOther_7 : decode cX10_isOther 7 = .ok (.aload_n 0, 1) := by decide +kernel
theorem dX10_isOther_8 : decode cX10_isOther 8 = .ok (.getfield 82, 3) := by decide +kernel
theorem dX10_isOther_11 : decode cX10_isOther 11 = .ok (.ifCond .ne 15, 3) := by decide +kernel
theorem dX10_isOther_14 : decode cX10_isOther 14 = .ok (.aload_n 0, 1) := by decide +kernel
theorem dX10_isOther_15 : decode cX10_isOther 15 = .ok (.getfield 95, 3) := by decide +kernel
theorem dX10_isOther_18 : decode cX10_isOther 18 = .ok (.iconst (-1), 1) := by decide +kernel
theorem dX10_isOther_19 : decode cX10_isOther 19 = .ok (.if_icmp .ne 7, 3) := by decide +kernel
theorem dX10_isOther_22 : decode cX10_isOther 22 = .ok (.iconst 1, 1) := by decide +kernel
theorem dX10_isOther_23 : decode cX10_isOther 23 = .ok (.goto 4, 3) := by decide +kernel
theorem dX10_isOther_26 : decode cX10_isOther 26 = .ok (.iconst 0, 1) := by decide +kernel
theorem dX10_isOther_27 : decode cX10_isOther 27 = .ok (.ireturn, 1) := by decide +kernel
def fX10_isOther (a0 : Nat) (h : hp_T) : Option (Int32 × hp_T) := if (h.1 a0 14) = 0 then (if (h.1 a0 11) = 0 then (if (h.1 a0 12) = (-1 : Int32) then (some ((1 : Int32), h)) else (some ((0 : Int32), h))) else (some ((0 : Int32), h))) else (some ((0 : Int32), h))
set_option maxRecDepth 100000 in
set_option maxHeartbeats 4000000 in
theorem mX10_isOther (l : Launch) (G : xr_G) (a0 : Nat) (ta0 : hp_sh a0 = (10, 0)) (h h1 : hp_T) (r : Int32) (hF : fX10_isOther a0 h = some (r, h1)) : xr_M l G yX10_isOther cX10_isOther 1 (xr_R 0 0) (some .boolean) [.ref (G.2.2.1 a0)] h (xr_Qi G r h1) := by
  refine xr_start rfl (Nat.le_of_ble_eq_true rfl) (fun K C => ?_)
  show xr_j l G K 1 h [(0, .ref (G.2.2.1 a0))] 0 []
  unfold fX10_isOther at hF
  refine xr_aload_n C 0 dX10_isOther_0 rfl rfl ?_
  refine xr_geti C flX10_112 rfl dX10_isOther_1 ta0 ?_
  refine xr_if_ne C 26 dX10_isOther_4 (by decide) (fun c4 => ?_) (fun c4 => ?_)
  · have hF := fx_neg hF c4
    refine xr_iconst (v := 0) C dX10_isOther_26 (by decide) ?_
    cases hF
    exact xr_zret C rfl dX10_isOther_27
  · have hF := fx_pos hF c4
    refine xr_aload_n C 0 dX10_isOther_7 rfl rfl ?_
    refine xr_geti C flX10_82 rfl dX10_isOther_8 ta0 ?_
    refine xr_if_ne C 26 dX10_isOther_11 (by decide) (fun c11 => ?_) (fun c11 => ?_)
    · have hF := fx_neg hF c11
      refine xr_iconst (v := 0) C dX10_isOther_26 (by decide) ?_
      cases hF
      exact xr_zret C rfl dX10_isOther_27
    · have hF := fx_pos hF c11
      refine xr_aload_n C 0 dX10_isOther_14 rfl rfl ?_
      refine xr_geti C flX10_95 rfl dX10_isOther_15 ta0 ?_
      refine xr_iconst (v := -1) C dX10_isOther_18 (by decide) ?_
      refine xr_icmp_ne C 26 dX10_isOther_19 (by decide) (fun c19 => ?_) (fun c19 => ?_)
      · have hF := fx_neg hF c19
        refine xr_iconst (v := 0) C dX10_isOther_26 (by decide) ?_
        cases hF
        exact xr_zret C rfl dX10_isOther_27
      · have hF := fx_pos hF c19
        refine xr_iconst (v := 1) C dX10_isOther_22 (by decide) ?_
        refine xr_goto C 27 dX10_isOther_23 (by decide) ?_
        cases hF
        exact xr_zret C rfl dX10_isOther_27
theorem dX10_namedOf_0 : decode cX10_namedOf 0 = .ok (.iconst 0, 1) := by decide +kernel
theorem dX10_namedOf_1 : decode cX10_namedOf 1 = .ok (.istore_n 2, 1) := by decide +kernel
theorem dX10_namedOf_2 : decode cX10_namedOf 2 = .ok (.iload_n 2, 1) := by decide +kernel
theorem dX10_namedOf_3 : decode cX10_namedOf 3 = .ok (.aload_n 0, 1) := by decide +kernel
theorem dX10_namedOf_4 : decode cX10_namedOf 4 = .ok (.getfield 16, 3) := by decide +kernel
theorem dX10_namedOf_7 : decode cX10_namedOf 7 = .ok (.iconst 5, 1) := by decide +kernel
theorem dX10_namedOf_8 : decode cX10_namedOf 8 = .ok (.iload_n 1, 1) := by decide +kernel
theorem dX10_namedOf_9 : decode cX10_namedOf 9 = .ok (.iadd, 1) := by decide +kernel
theorem dX10_namedOf_10 : decode cX10_namedOf 10 = .ok (.iaload, 1) := by decide +kernel
theorem dX10_namedOf_11 : decode cX10_namedOf 11 = .ok (.if_icmp .ge 29, 3) := by decide +kernel
theorem dX10_namedOf_14 : decode cX10_namedOf 14 = .ok (.aload_n 0, 1) := by decide +kernel
theorem dX10_namedOf_15 : decode cX10_namedOf 15 = .ok (.getfield 19, 3) := by decide +kernel
theorem dX10_namedOf_18 : decode cX10_namedOf 18 = .ok (.bipush 12, 2) := by decide +kernel
theorem dX10_namedOf_20 : decode cX10_namedOf 20 = .ok (.iload_n 1, 1) := by decide +kernel
theorem dX10_namedOf_21 : decode cX10_namedOf 21 = .ok (.imul, 1) := by decide +kernel
theorem dX10_namedOf_22 : decode cX10_namedOf 22 = .ok (.iload_n 2, 1) := by decide +kernel
theorem dX10_namedOf_23 : decode cX10_namedOf 23 = .ok (.iadd, 1) := by decide +kernel
theorem dX10_namedOf_24 : decode cX10_namedOf 24 = .ok (.iaload, 1) := by decide +kernel
theorem dX10_namedOf_25 : decode cX10_namedOf 25 = .ok (.aload_n 0, 1) := by decide +kernel
theorem dX10_namedOf_26 : decode cX10_namedOf 26 = .ok (.getfield 89, 3) := by decide +kernel
theorem dX10_namedOf_29 : decode cX10_namedOf 29 = .ok (.if_icmp .ne 5, 3) := by decide +kernel
theorem dX10_namedOf_32 : decode cX10_namedOf 32 = .ok (.iload_n 2, 1) := by decide +kernel
theorem dX10_namedOf_33 : decode cX10_namedOf 33 = .ok (.ireturn, 1) := by decide +kernel
theorem dX10_namedOf_34 : decode cX10_namedOf 34 = .ok (.iinc 2 1, 3) := by decide +kernel
theorem dX10_namedOf_37 : decode cX10_namedOf 37 = .ok (.goto (-35), 3) := by decide +kernel
theorem dX10_namedOf_40 : decode cX10_namedOf 40 = .ok (.iconst (-1), 1) := by decide +kernel
theorem dX10_namedOf_41 : decode cX10_namedOf 41 = .ok (.ireturn, 1) := by decide +kernel
def fX10_namedOf_2  : Nat → Nat → Int32 → Int32 → hp_T → Option (Int32 × hp_T)
  | 0, _, _, _, _ => none
  | n + 1, a0, a1, a2, h => fx_g (fx_in ((5 : Int32) + a1) 117) (if (h.1 (h.2.2 a0 4) (fx_ix ((5 : Int32) + a1))) ≤ a2 then (some ((-1 : Int32), h)) else (fx_g (fx_in (((12 : Int32) * a1) + a2) 24) (if (h.1 (h.2.2 a0 5) (fx_ix (((12 : Int32) * a1) + a2))) = (h.1 a0 13) then (some (a2, h)) else (fx_let (a2 + (1 : Int32)) fun (x34 : Int32) => fX10_namedOf_2 n a0 a1 x34 h))))
set_option maxRecDepth 100000 in
set_option maxHeartbeats 4000000 in
theorem bX10_namedOf_2 {l : Launch} {G : xr_G} {K : xr_K} {r : Int32} {h1 : hp_T} (C : xr_C G K cX10_namedOf RX10 3 (xr_R 0 0) (some .int) (some (xr_Qi G r h1)))  : ∀ (n : Nat) (a0 : Nat) (a1 : Int32) (a2 : Int32) (ta0 : hp_sh a0 = (10, 0)) (h : hp_T), fX10_namedOf_2 n a0 a1 a2 h = some (r, h1) → xr_j l G K 3 h [(0, .ref (G.2.2.1 a0)), (1, .int a1), (2, .int a2)] 2 [] := by
  intro n
  induction n with
  | zero =>
    intro a0 a1 a2 ta0 h hF
    cases hF
  | succ n ih =>
    intro a0 a1 a2 ta0 h hF
    rw [fX10_namedOf_2] at hF
    refine xr_iload_n C 2 dX10_namedOf_2 rfl rfl ?_
    refine xr_aload_n C 0 dX10_namedOf_3 rfl rfl ?_
    refine xr_getr C flX10_16 rfl (by decide) dX10_namedOf_4 ta0 (fun t4 => ?_)
    refine xr_iconst (v := 5) C dX10_namedOf_7 (by decide) ?_
    refine xr_iload_n C 1 dX10_namedOf_8 rfl rfl ?_
    refine xr_iadd C dX10_namedOf_9 ?_
    obtain ⟨g10, hF⟩ := fx_gE hF
    refine xr_iald C dX10_namedOf_10 t4 g10 ?_
    refine xr_icmp_ge C 40 dX10_namedOf_11 (by decide) (fun c11 => ?_) (fun c11 => ?_)
    · have hF := fx_pos hF c11
      refine xr_iconst (v := -1) C dX10_namedOf_40 (by decide) ?_
      cases hF
      exact xr_iret C dX10_namedOf_41
    · have hF := fx_neg hF c11
      refine xr_aload_n C 0 dX10_namedOf_14 rfl rfl ?_
      refine xr_getr C flX10_19 rfl (by decide) dX10_namedOf_15 ta0 (fun t15 => ?_)
      refine xr_bipush (v := 12) C dX10_namedOf_18 (by decide) ?_
      refine xr_iload_n C 1 dX10_namedOf_20 rfl rfl ?_
      refine xr_imul C dX10_namedOf_21 ?_
      refine xr_iload_n C 2 dX10_namedOf_22 rfl rfl ?_
      refine xr_iadd C dX10_namedOf_23 ?_
      obtain ⟨g24, hF⟩ := fx_gE hF
      refine xr_iald C dX10_namedOf_24 t15 g24 ?_
      refine xr_aload_n C 0 dX10_namedOf_25 rfl rfl ?_
      refine xr_geti C flX10_89 rfl dX10_namedOf_26 ta0 ?_
      refine xr_icmp_ne C 34 dX10_namedOf_29 (by decide) (fun c29 => ?_) (fun c29 => ?_)
      · have hF := fx_neg hF c29
        obtain ⟨x34, e34⟩ : ∃ y : Int32, y = (a2 + (1 : Int32)) := ⟨_, rfl⟩
        have hF := fx_letE hF x34 e34
        refine xr_iinc C x34 2 [(2, .int x34), (0, .ref (G.2.2.1 a0)), (1, .int a1)] dX10_namedOf_34 rfl (by rw [e34]; rfl) (Nat.le_of_ble_eq_true rfl) rfl ?_
        refine xr_goto C 2 dX10_namedOf_37 (by decide) ?_
        refine xr_sub [1, 2, 0] [(0, .ref (G.2.2.1 a0)), (1, .int a1), (2, .int x34)] rfl ?_
        exact ih a0 a1 x34 ta0 h hF
      · have hF := fx_pos hF c29
        refine xr_iload_n C 2 dX10_namedOf_32 rfl rfl ?_
        cases hF
        exact xr_iret C dX10_namedOf_33
def fX10_namedOf (a0 : Nat) (a1 : Int32) (h : hp_T) : Option (Int32 × hp_T) := fX10_namedOf_2 fx_N a0 a1 (0 : Int32) h
set_option maxRecDepth 100000 in
set_option maxHeartbeats 4000000 in
theorem mX10_namedOf (l : Launch) (G : xr_G) (a0 : Nat) (a1 : Int32) (ta0 : hp_sh a0 = (10, 0)) (h h1 : hp_T) (r : Int32) (hF : fX10_namedOf a0 a1 h = some (r, h1)) : xr_M l G yX10_namedOf cX10_namedOf 3 (xr_R 0 0) (some .int) [.ref (G.2.2.1 a0), .int a1] h (xr_Qi G r h1) := by
  refine xr_start rfl (Nat.le_of_ble_eq_true rfl) (fun K C => ?_)
  show xr_j l G K 3 h [(0, .ref (G.2.2.1 a0)), (1, .int a1)] 0 []
  unfold fX10_namedOf at hF
  refine xr_iconst (v := 0) C dX10_namedOf_0 (by decide) ?_
  refine xr_istore_n C [(2, .int (0 : Int32)), (0, .ref (G.2.2.1 a0)), (1, .int a1)] dX10_namedOf_1 rfl (Nat.le_of_ble_eq_true rfl) rfl ?_
  refine xr_sub [1, 2, 0] [(0, .ref (G.2.2.1 a0)), (1, .int a1), (2, .int (0 : Int32))] rfl ?_
  exact bX10_namedOf_2 C  fx_N a0 a1 (0 : Int32) ta0 h hF
theorem dX10_sideHere_0 : decode cX10_sideHere 0 = .ok (.aload_n 0, 1) := by decide +kernel
theorem dX10_sideHere_1 : decode cX10_sideHere 1 = .ok (.getfield 112, 3) := by decide +kernel
theorem dX10_sideHere_4 : decode cX10_sideHere 4 = .ok (.ifCond .ne 30, 3) := by decide +kernel
theorem dX10_sideHere_7 : decode cX10_sideHere 7 = .ok (.aload_n 0, 1) := by decide +kernel
theorem dX10_sideHere_8 : decode cX10_sideHere 8 = .ok (.getfield 82, 3) := by decide +kernel
theorem dX10_sideHere_11 : decode cX10_sideHere 11 = .ok (.ifCond .ne 18, 3) := by decide +kernel
theorem dX10_sideHere_14 : decode cX10_sideHere 14 = .ok (.aload_n 0, 1) := by decide +kernel
theorem dX10_sideHere_15 : decode cX10_sideHere 15 = .ok (.getfield 95, 3) := by decide +kernel
theorem dX10_sideHere_18 : decode cX10_sideHere 18 = .ok (.ifCond .lt 11, 3) := by decide +kernel
theorem dX10_sideHere_21 : decode cX10_sideHere 21 = .ok (.aload_n 0, 1) := by decide +kernel
theorem dX10_sideHere_22 : decode cX10_sideHere 22 = .ok (.getfield 95, 3) := by decide +kernel
theorem dX10_sideHere_25 : decode cX10_sideHere 25 = .ok (.iconst 1, 1) := by decide +kernel
theorem dX10_sideHere_26 : decode cX10_sideHere 26 = .ok (.if_icmp .le 8, 3) := by decide +kernel
theorem dX10_sideHere_29 : decode cX10_sideHere 29 = .ok (.aload_n 0, 1) := by decide +kernel
theorem dX10_sideHere_30 : decode cX10_sideHere 30 = .ok (.iconst 1, 1) := by decide +kernel
theorem dX10_sideHere_31 : decode cX10_sideHere 31 = .ok (.invokevirtual 121, 3) := by decide +kernel
theorem dX10_sideHere_34 : decode cX10_sideHere 34 = .ok (.aload_n 0, 1) := by decide +kernel
theorem dX10_sideHere_35 : decode cX10_sideHere 35 = .ok (.getfield 112, 3) := by decide +kernel
theorem dX10_sideHere_38 : decode cX10_sideHere 38 = .ok (.ifCond .ne 10, 3) := by decide +kernel
theorem dX10_sideHere_41 : decode cX10_sideHere 41 = .ok (.aload_n 0, 1) := by decide +kernel
theorem dX10_sideHere_42 : decode cX10_sideHere 42 = .ok (.getfield 95, 3) := by decide +kernel
theorem dX10_sideHere_45 : decode cX10_sideHere 45 = .ok (.goto 4, 3) := by decide +kernel
theorem dX10_sideHere_48 : decode cX10_sideHere 48 = .ok (.iconst 0, 1) := by decide +kernel
theorem dX10_sideHere_49 : decode cX10_sideHere 49 = .ok (.ireturn, 1) := by decide +kernel
def fX10_sideHere_34  (a0 : Nat) (h : hp_T) : Option (Int32 × hp_T) := if (h.1 a0 14) = 0 then (some ((h.1 a0 12), h)) else (some ((0 : Int32), h))
set_option maxRecDepth 100000 in
set_option maxHeartbeats 4000000 in
theorem bX10_sideHere_34 {l : Launch} {G : xr_G} {K : xr_K} {r : Int32} {h1 : hp_T} (C : xr_C G K cX10_sideHere RX10 1 (xr_R 1 21) (some .int) (some (xr_Qi G r h1)))  (a0 : Nat) (ta0 : hp_sh a0 = (10, 0)) (h : hp_T) (hF : fX10_sideHere_34 a0 h = some (r, h1)) : xr_j l G K 1 h [(0, .ref (G.2.2.1 a0))] 34 [] := by
  unfold fX10_sideHere_34 at hF
  refine xr_aload_n C 0 dX10_sideHere_34 rfl rfl ?_
  refine xr_geti C flX10_112 rfl dX10_sideHere_35 ta0 ?_
  refine xr_if_ne C 48 dX10_sideHere_38 (by decide) (fun c38 => ?_) (fun c38 => ?_)
  · have hF := fx_neg hF c38
    refine xr_iconst (v := 0) C dX10_sideHere_48 (by decide) ?_
    cases hF
    exact xr_iret C dX10_sideHere_49
  · have hF := fx_pos hF c38
    refine xr_aload_n C 0 dX10_sideHere_41 rfl rfl ?_
    refine xr_geti C flX10_95 rfl dX10_sideHere_42 ta0 ?_
    refine xr_goto C 49 dX10_sideHere_45 (by decide) ?_
    cases hF
    exact xr_iret C dX10_sideHere_49
def fX10_sideHere_29  (a0 : Nat) (h : hp_T) : Option (Int32 × hp_T) := fx_b1 (fX10_wrong a0 (1 : Int32) h) fun (h31 : hp_T) => fX10_sideHere_34 a0 h31
set_option maxRecDepth 100000 in
set_option maxHeartbeats 4000000 in
theorem bX10_sideHere_29 {l : Launch} {G : xr_G} {K : xr_K} {r : Int32} {h1 : hp_T} (C : xr_C G K cX10_sideHere RX10 1 (xr_R 1 21) (some .int) (some (xr_Qi G r h1)))  (a0 : Nat) (ta0 : hp_sh a0 = (10, 0)) (h : hp_T) (hF : fX10_sideHere_29 a0 h = some (r, h1)) : xr_j l G K 1 h [(0, .ref (G.2.2.1 a0))] 29 [] := by
  unfold fX10_sideHere_29 at hF
  refine xr_aload_n C 0 dX10_sideHere_29 rfl rfl ?_
  refine xr_iconst (v := 1) C dX10_sideHere_30 (by decide) ?_
  obtain ⟨h31, e31, hF⟩ := fx_b1E hF
  refine xr_callVv C mvX10_121 [.int (1 : Int32)] [] (mX10_wrong l G a0 (1 : Int32) ta0 h h31 e31) ta0 (by decide) vc10 rfl ⟨rfl, rfl, (Nat.le_of_ble_eq_true rfl), (Nat.le_of_ble_eq_true rfl)⟩ rfl (Nat.le_of_ble_eq_true rfl) dX10_sideHere_31 ?_
  exact bX10_sideHere_34 C   a0 ta0 h31 hF
def fX10_sideHere (a0 : Nat) (h : hp_T) : Option (Int32 × hp_T) := if (h.1 a0 14) = 0 then (if (h.1 a0 11) = 0 then (if (h.1 a0 12) < 0 then (fX10_sideHere_29 a0 h) else (if (h.1 a0 12) ≤ (1 : Int32) then (fX10_sideHere_34 a0 h) else (fX10_sideHere_29 a0 h))) else (fX10_sideHere_29 a0 h)) else (fX10_sideHere_34 a0 h)
set_option maxRecDepth 100000 in
set_option maxHeartbeats 4000000 in
theorem mX10_sideHere (l : Launch) (G : xr_G) (a0 : Nat) (ta0 : hp_sh a0 = (10, 0)) (h h1 : hp_T) (r : Int32) (hF : fX10_sideHere a0 h = some (r, h1)) : xr_M l G yX10_sideHere cX10_sideHere 1 (xr_R 1 21) (some .int) [.ref (G.2.2.1 a0)] h (xr_Qi G r h1) := by
  refine xr_start rfl (Nat.le_of_ble_eq_true rfl) (fun K C => ?_)
  show xr_j l G K 1 h [(0, .ref (G.2.2.1 a0))] 0 []
  unfold fX10_sideHere at hF
  refine xr_aload_n C 0 dX10_sideHere_0 rfl rfl ?_
  refine xr_geti C flX10_112 rfl dX10_sideHere_1 ta0 ?_
  refine xr_if_ne C 34 dX10_sideHere_4 (by decide) (fun c4 => ?_) (fun c4 => ?_)
  · have hF := fx_neg hF c4
    exact bX10_sideHere_34 C   a0 ta0 h hF
  · have hF := fx_pos hF c4
    refine xr_aload_n C 0 dX10_sideHere_7 rfl rfl ?_
    refine xr_geti C flX10_82 rfl dX10_sideHere_8 ta0 ?_
    refine xr_if_ne C 29 dX10_sideHere_11 (by decide) (fun c11 => ?_) (fun c11 => ?_)
    · have hF := fx_neg hF c11
      exact bX10_sideHere_29 C   a0 ta0 h hF
    · have hF := fx_pos hF c11
      refine xr_aload_n C 0 dX10_sideHere_14 rfl rfl ?_
      refine xr_geti C flX10_95 rfl dX10_sideHere_15 ta0 ?_
      refine xr_if_lt C 29 dX10_sideHere_18 (by decide) (fun c18 => ?_) (fun c18 => ?_)
      · have hF := fx_pos hF c18
        exact bX10_sideHere_29 C   a0 ta0 h hF
      · have hF := fx_neg hF c18
        refine xr_aload_n C 0 dX10_sideHere_21 rfl rfl ?_
        refine xr_geti C flX10_95 rfl dX10_sideHere_22 ta0 ?_
        refine xr_iconst (v := 1) C dX10_sideHere_25 (by decide) ?_
        refine xr_icmp_le C 34 dX10_sideHere_26 (by decide) (fun c26 => ?_) (fun c26 => ?_)
        · have hF := fx_pos hF c26
          exact bX10_sideHere_34 C   a0 ta0 h hF
        · have hF := fx_neg hF c26
          exact bX10_sideHere_29 C   a0 ta0 h hF
theorem dX10_begins_0 : decode cX10_begins 0 = .ok (.iconst 0, 1) := by decide +kernel
theorem dX10_begins_1 : decode cX10_begins 1 = .ok (.istore_n 1, 1) := by decide +kernel
theorem dX10_begins_2 : decode cX10_begins 2 = .ok (.iload_n 1, 1) := by decide +kernel
theorem dX10_begins_3 : decode cX10_begins 3 = .ok (.bipush 117, 2) := by decide +kernel
theorem dX10_begins_5 : decode cX10_begins 5 = .ok (.if_icmp .ge 16, 3) := by decide +kernel
theorem dX10_begins_8 : decode cX10_begins 8 = .ok (.aload_n 0, 1) := by decide +kernel
theorem dX10_begins_9 : decode cX10_begins 9 = .ok (.getfield 16, 3) := by decide +kernel
theorem dX10_begins_12 : decode cX10_begins 12 = .ok (.iload_n 1, 1) := by decide +kernel
theorem dX10_begins_13 : decode cX10_begins 13 = .ok (.iconst 0, 1) := by decide +kernel
theorem dX10_begins_14 : decode cX10_begins 14 = .ok (.iastore, 1) := by decide +kernel
theorem dX10_begins_15 : decode cX10_begins 15 = .ok (.iinc 1 1, 3) := by decide +kernel
theorem dX10_begins_18 : decode cX10_begins 18 = .ok (.goto (-16), 3) := by decide +kernel
theorem dX10_begins_21 : decode cX10_begins 21 = .ok (.aload_n 0, 1) := by decide +kernel
theorem dX10_begins_22 : decode cX10_begins 22 = .ok (.getfield 16, 3) := by decide +kernel
theorem dX10_begins_25 : decode cX10_begins 25 = .ok (.iconst 0, 1) := by decide +kernel
theorem dX10_begins_26 : decode cX10_begins 26 = .ok (.bipush 25, 2) := by decide +kernel
theorem dX10_begins_28 : decode cX10_begins 28 = .ok (.iastore, 1) := by decide +kernel
theorem dX10_begins_29 : decode cX10_begins 29 = .ok (.aload_n 0, 1) := by decide +kernel
theorem dX10_begins_30 : decode cX10_begins 30 = .ok (.getfield 16, 3) := by decide +kernel
theorem dX10_begins_33 : decode cX10_begins 33 = .ok (.iconst 1, 1) := by decide +kernel
theorem dX10_begins_34 : decode cX10_begins 34 = .ok (.bipush 6, 2) := by decide +kernel
theorem dX10_begins_36 : decode cX10_begins 36 = .ok (.iastore, 1) := by decide +kernel
theorem dX10_begins_37 : decode cX10_begins 37 = .ok (.aload_n 0, 1) := by decide +kernel
theorem dX10_begins_38 : decode cX10_begins 38 = .ok (.getfield 16, 3) := by decide +kernel
theorem dX10_begins_41 : decode cX10_begins 41 = .ok (.iconst 2, 1) := by decide +kernel
theorem dX10_begins_42 : decode cX10_begins 42 = .ok (.bipush 100, 2) := by decide +kernel
theorem dX10_begins_44 : decode cX10_begins 44 = .ok (.iastore, 1) := by decide +kernel
theorem dX10_begins_45 : decode cX10_begins 45 = .ok (.aload_n 0, 1) := by decide +kernel
theorem dX10_begins_46 : decode cX10_begins 46 = .ok (.getfield 16, 3) := by decide +kernel
theorem dX10_begins_49 : decode cX10_begins 49 = .ok (.bipush 7, 2) := by decide +kernel
theorem dX10_begins_51 : decode cX10_begins 51 = .ok (.iconst (-1), 1) := by decide +kernel
theorem dX10_begins_52 : decode cX10_begins 52 = .ok (.iastore, 1) := by decide +kernel
theorem dX10_begins_53 : decode cX10_begins 53 = .ok (.aload_n 0, 1) := by decide +kernel
theorem dX10_begins_54 : decode cX10_begins 54 = .ok (.getfield 16, 3) := by decide +kernel
theorem dX10_begins_57 : decode cX10_begins 57 = .ok (.bipush 8, 2) := by decide +kernel
theorem dX10_begins_59 : decode cX10_begins 59 = .ok (.iconst (-1), 1) := by decide +kernel
theorem dX10_begins_60 : decode cX10_begins 60 = .ok (.iastore, 1) := by decide +kernel
theorem dX10_begins_61 : decode cX10_begins 61 = .ok (.iconst 0, 1) := by decide +kernel
theorem dX10_begins_62 : decode cX10_begins 62 = .ok (.istore_n 1, 1) := by decide +kernel
theorem dX10_begins_63 : decode cX10_begins 63 = .ok (.iload_n 1, 1) := by decide +kernel
theorem dX10_begins_64 : decode cX10_begins 64 = .ok (.bipush 8, 2) := by decide +kernel
theorem dX10_begins_66 : decode cX10_begins 66 = .ok (.if_icmp .ge 16, 3) := by decide +kernel
theorem dX10_begins_69 : decode cX10_begins 69 = .ok (.aload_n 0, 1) := by decide +kernel
theorem dX10_begins_70 : decode cX10_begins 70 = .ok (.getfield 29, 3) := by decide +kernel
theorem dX10_begins_73 : decode cX10_begins 73 = .ok (.iload_n 1, 1) := by decide +kernel
theorem dX10_begins_74 : decode cX10_begins 74 = .ok (.iconst 0, 1) := by decide +kernel
theorem dX10_begins_75 : decode cX10_begins 75 = .ok (.bastore, 1) := by decide +kernel
theorem dX10_begins_76 : decode cX10_begins 76 = .ok (.iinc 1 1, 3) := by decide +kernel
theorem dX10_begins_79 : decode cX10_begins 79 = .ok (.goto (-16), 3) := by decide +kernel
theorem dX10_begins_82 : decode cX10_begins 82 = .ok (.aload_n 0, 1) := by decide +kernel
theorem dX10_begins_83 : decode cX10_begins 83 = .ok (.getfield 33, 3) := by decide +kernel
theorem dX10_begins_86 : decode cX10_begins 86 = .ok (.iconst 0, 1) := by decide +kernel
theorem dX10_begins_87 : decode cX10_begins 87 = .ok (.iconst 0, 1) := by decide +kernel
theorem dX10_begins_88 : decode cX10_begins 88 = .ok (.bastore, 1) := by decide +kernel
theorem dX10_begins_89 : decode cX10_begins 89 = .ok (.aload_n 0, 1) := by decide +kernel
theorem dX10_begins_90 : decode cX10_begins 90 = .ok (.getfield 33, 3) := by decide +kernel
theorem dX10_begins_93 : decode cX10_begins 93 = .ok (.iconst 1, 1) := by decide +kernel
theorem dX10_begins_94 : decode cX10_begins 94 = .ok (.iconst 0, 1) := by decide +kernel
theorem dX10_begins_95 : decode cX10_begins 95 = .ok (.bastore, 1) := by decide +kernel
theorem dX10_begins_96 : decode cX10_begins 96 = .ok (.return_, 1) := by decide +kernel
def fX10_begins_63  : Nat → Nat → Int32 → hp_T → Option hp_T
  | 0, _, _, _ => none
  | n + 1, a0, a1, h => if (8 : Int32) ≤ a1 then (fx_let (hp_sI h (h.2.2 a0 19) (fx_ix (0 : Int32)) (0 : Int32)) fun (h88 : hp_T) => fx_let (hp_sI h88 (h88.2.2 a0 19) (fx_ix (1 : Int32)) (0 : Int32)) fun (h95 : hp_T) => some h95) else (fx_g (fx_in a1 8) (fx_let (hp_sI h (h.2.2 a0 18) (fx_ix a1) (0 : Int32)) fun (h75 : hp_T) => fx_let (a1 + (1 : Int32)) fun (x76 : Int32) => fX10_begins_63 n a0 x76 h75))
set_option maxRecDepth 100000 in
set_option maxHeartbeats 4000000 in
theorem bX10_begins_63 {l : Launch} {G : xr_G} {K : xr_K} {h1 : hp_T} (C : xr_C G K cX10_begins RX10 2 (xr_R 0 0) none (some (xr_Qv G h1)))  : ∀ (n : Nat) (a0 : Nat) (a1 : Int32) (ta0 : hp_sh a0 = (10, 0)) (h : hp_T), fX10_begins_63 n a0 a1 h = some h1 → xr_j l G K 2 h [(0, .ref (G.2.2.1 a0)), (1, .int a1)] 63 [] := by
  intro n
  induction n with
  | zero =>
    intro a0 a1 ta0 h hF
    cases hF
  | succ n ih =>
    intro a0 a1 ta0 h hF
    rw [fX10_begins_63] at hF
    refine xr_iload_n C 1 dX10_begins_63 rfl rfl ?_
    refine xr_bipush (v := 8) C dX10_begins_64 (by decide) ?_
    refine xr_icmp_ge C 82 dX10_begins_66 (by decide) (fun c66 => ?_) (fun c66 => ?_)
    · have hF := fx_pos hF c66
      refine xr_aload_n C 0 dX10_begins_82 rfl rfl ?_
      refine xr_getr C flX10_33 rfl (by decide) dX10_begins_83 ta0 (fun t83 => ?_)
      refine xr_iconst (v := 0) C dX10_begins_86 (by decide) ?_
      refine xr_iconst (v := 0) C dX10_begins_87 (by decide) ?_
      refine xr_zast C dX10_begins_88 t83 (by decide) (by decide) (fun h88 e88 => ?_)
      have hF := fx_letE hF h88 e88
      refine xr_aload_n C 0 dX10_begins_89 rfl rfl ?_
      refine xr_getr C flX10_33 rfl (by decide) dX10_begins_90 ta0 (fun t90 => ?_)
      refine xr_iconst (v := 1) C dX10_begins_93 (by decide) ?_
      refine xr_iconst (v := 0) C dX10_begins_94 (by decide) ?_
      refine xr_zast C dX10_begins_95 t90 (by decide) (by decide) (fun h95 e95 => ?_)
      have hF := fx_letE hF h95 e95
      cases hF
      exact xr_vret C dX10_begins_96
    · have hF := fx_neg hF c66
      refine xr_aload_n C 0 dX10_begins_69 rfl rfl ?_
      refine xr_getr C flX10_29 rfl (by decide) dX10_begins_70 ta0 (fun t70 => ?_)
      refine xr_iload_n C 1 dX10_begins_73 rfl rfl ?_
      refine xr_iconst (v := 0) C dX10_begins_74 (by decide) ?_
      obtain ⟨g75, hF⟩ := fx_gE hF
      refine xr_zast C dX10_begins_75 t70 g75 (by decide) (fun h75 e75 => ?_)
      have hF := fx_letE hF h75 e75
      obtain ⟨x76, e76⟩ : ∃ y : Int32, y = (a1 + (1 : Int32)) := ⟨_, rfl⟩
      have hF := fx_letE hF x76 e76
      refine xr_iinc C x76 1 [(1, .int x76), (0, .ref (G.2.2.1 a0))] dX10_begins_76 rfl (by rw [e76]; rfl) (Nat.le_of_ble_eq_true rfl) rfl ?_
      refine xr_goto C 63 dX10_begins_79 (by decide) ?_
      refine xr_sub [1, 0] [(0, .ref (G.2.2.1 a0)), (1, .int x76)] rfl ?_
      exact ih a0 x76 ta0 h75 hF
def fX10_begins_2  : Nat → Nat → Int32 → hp_T → Option hp_T
  | 0, _, _, _ => none
  | n + 1, a0, a1, h => if (117 : Int32) ≤ a1 then (fx_let (hp_sI h (h.2.2 a0 4) (fx_ix (0 : Int32)) (25 : Int32)) fun (h28 : hp_T) => fx_let (hp_sI h28 (h28.2.2 a0 4) (fx_ix (1 : Int32)) (6 : Int32)) fun (h36 : hp_T) => fx_let (hp_sI h36 (h36.2.2 a0 4) (fx_ix (2 : Int32)) (100 : Int32)) fun (h44 : hp_T) => fx_let (hp_sI h44 (h44.2.2 a0 4) (fx_ix (7 : Int32)) (-1 : Int32)) fun (h52 : hp_T) => fx_let (hp_sI h52 (h52.2.2 a0 4) (fx_ix (8 : Int32)) (-1 : Int32)) fun (h60 : hp_T) => fX10_begins_63 fx_N a0 (0 : Int32) h60) else (fx_g (fx_in a1 117) (fx_let (hp_sI h (h.2.2 a0 4) (fx_ix a1) (0 : Int32)) fun (h14 : hp_T) => fx_let (a1 + (1 : Int32)) fun (x15 : Int32) => fX10_begins_2 n a0 x15 h14))
set_option maxRecDepth 100000 in
set_option maxHeartbeats 4000000 in
theorem bX10_begins_2 {l : Launch} {G : xr_G} {K : xr_K} {h1 : hp_T} (C : xr_C G K cX10_begins RX10 2 (xr_R 0 0) none (some (xr_Qv G h1)))  : ∀ (n : Nat) (a0 : Nat) (a1 : Int32) (ta0 : hp_sh a0 = (10, 0)) (h : hp_T), fX10_begins_2 n a0 a1 h = some h1 → xr_j l G K 2 h [(0, .ref (G.2.2.1 a0)), (1, .int a1)] 2 [] := by
  intro n
  induction n with
  | zero =>
    intro a0 a1 ta0 h hF
    cases hF
  | succ n ih =>
    intro a0 a1 ta0 h hF
    rw [fX10_begins_2] at hF
    refine xr_iload_n C 1 dX10_begins_2 rfl rfl ?_
    refine xr_bipush (v := 117) C dX10_begins_3 (by decide) ?_
    refine xr_icmp_ge C 21 dX10_begins_5 (by decide) (fun c5 => ?_) (fun c5 => ?_)
    · have hF := fx_pos hF c5
      refine xr_aload_n C 0 dX10_begins_21 rfl rfl ?_
      refine xr_getr C flX10_16 rfl (by decide) dX10_begins_22 ta0 (fun t22 => ?_)
      refine xr_iconst (v := 0) C dX10_begins_25 (by decide) ?_
      refine xr_bipush (v := 25) C dX10_begins_26 (by decide) ?_
      refine xr_iast C dX10_begins_28 t22 (by decide) (fun h28 e28 => ?_)
      have hF := fx_letE hF h28 e28
      refine xr_aload_n C 0 dX10_begins_29 rfl rfl ?_
      refine xr_getr C flX10_16 rfl (by decide) dX10_begins_30 ta0 (fun t30 => ?_)
      refine xr_iconst (v := 1) C dX10_begins_33 (by decide) ?_
      refine xr_bipush (v := 6) C dX10_begins_34 (by decide) ?_
      refine xr_iast C dX10_begins_36 t30 (by decide) (fun h36 e36 => ?_)
      have hF := fx_letE hF h36 e36
      refine xr_aload_n C 0 dX10_begins_37 rfl rfl ?_
      refine xr_getr C flX10_16 rfl (by decide) dX10_begins_38 ta0 (fun t38 => ?_)
      refine xr_iconst (v := 2) C dX10_begins_41 (by decide) ?_
      refine xr_bipush (v := 100) C dX10_begins_42 (by decide) ?_
      refine xr_iast C dX10_begins_44 t38 (by decide) (fun h44 e44 => ?_)
      have hF := fx_letE hF h44 e44
      refine xr_aload_n C 0 dX10_begins_45 rfl rfl ?_
      refine xr_getr C flX10_16 rfl (by decide) dX10_begins_46 ta0 (fun t46 => ?_)
      refine xr_bipush (v := 7) C dX10_begins_49 (by decide) ?_
      refine xr_iconst (v := -1) C dX10_begins_51 (by decide) ?_
      refine xr_iast C dX10_begins_52 t46 (by decide) (fun h52 e52 => ?_)
      have hF := fx_letE hF h52 e52
      refine xr_aload_n C 0 dX10_begins_53 rfl rfl ?_
      refine xr_getr C flX10_16 rfl (by decide) dX10_begins_54 ta0 (fun t54 => ?_)
      refine xr_bipush (v := 8) C dX10_begins_57 (by decide) ?_
      refine xr_iconst (v := -1) C dX10_begins_59 (by decide) ?_
      refine xr_iast C dX10_begins_60 t54 (by decide) (fun h60 e60 => ?_)
      have hF := fx_letE hF h60 e60
      refine xr_iconst (v := 0) C dX10_begins_61 (by decide) ?_
      refine xr_istore_n C [(1, .int (0 : Int32)), (0, .ref (G.2.2.1 a0))] dX10_begins_62 rfl (Nat.le_of_ble_eq_true rfl) rfl ?_
      refine xr_sub [1, 0] [(0, .ref (G.2.2.1 a0)), (1, .int (0 : Int32))] rfl ?_
      exact bX10_begins_63 C  fx_N a0 (0 : Int32) ta0 h60 hF
    · have hF := fx_neg hF c5
      refine xr_aload_n C 0 dX10_begins_8 rfl rfl ?_
      refine xr_getr C flX10_16 rfl (by decide) dX10_begins_9 ta0 (fun t9 => ?_)
      refine xr_iload_n C 1 dX10_begins_12 rfl rfl ?_
      refine xr_iconst (v := 0) C dX10_begins_13 (by decide) ?_
      obtain ⟨g14, hF⟩ := fx_gE hF
      refine xr_iast C dX10_begins_14 t9 g14 (fun h14 e14 => ?_)
      have hF := fx_letE hF h14 e14
      obtain ⟨x15, e15⟩ : ∃ y : Int32, y = (a1 + (1 : Int32)) := ⟨_, rfl⟩
      have hF := fx_letE hF x15 e15
      refine xr_iinc C x15 1 [(1, .int x15), (0, .ref (G.2.2.1 a0))] dX10_begins_15 rfl (by rw [e15]; rfl) (Nat.le_of_ble_eq_true rfl) rfl ?_
      refine xr_goto C 2 dX10_begins_18 (by decide) ?_
      refine xr_sub [1, 0] [(0, .ref (G.2.2.1 a0)), (1, .int x15)] rfl ?_
      exact ih a0 x15 ta0 h14 hF
def fX10_begins (a0 : Nat) (h : hp_T) : Option hp_T := fX10_begins_2 fx_N a0 (0 : Int32) h
set_option maxRecDepth 100000 in
set_option maxHeartbeats 4000000 in
theorem mX10_begins (l : Launch) (G : xr_G) (a0 : Nat) (ta0 : hp_sh a0 = (10, 0)) (h h1 : hp_T) (hF : fX10_begins a0 h = some h1) : xr_M l G yX10_begins cX10_begins 2 (xr_R 0 0) none [.ref (G.2.2.1 a0)] h (xr_Qv G h1) := by
  refine xr_start rfl (Nat.le_of_ble_eq_true rfl) (fun K C => ?_)
  show xr_j l G K 2 h [(0, .ref (G.2.2.1 a0))] 0 []
  unfold fX10_begins at hF
  refine xr_iconst (v := 0) C dX10_begins_0 (by decide) ?_
  refine xr_istore_n C [(1, .int (0 : Int32)), (0, .ref (G.2.2.1 a0))] dX10_begins_1 rfl (Nat.le_of_ble_eq_true rfl) rfl ?_
  refine xr_sub [1, 0] [(0, .ref (G.2.2.1 a0)), (1, .int (0 : Int32))] rfl ?_
  exact bX10_begins_2 C  fx_N a0 (0 : Int32) ta0 h hF
theorem dX10_two_0 : decode cX10_two 0 = .ok (.iload_n 2, 1) := by decide +kernel
theorem dX10_two_1 : decode cX10_two 1 = .ok (.iload_n 0, 1) := by decide +kernel
theorem dX10_two_2 : decode cX10_two 2 = .ok (.imul, 1) := by decide +kernel
theorem dX10_two_3 : decode cX10_two 3 = .ok (.iload_n 1, 1) := by decide +kernel
theorem dX10_two_4 : decode cX10_two 4 = .ok (.iadd, 1) := by decide +kernel
theorem dX10_two_5 : decode cX10_two 5 = .ok (.ireturn, 1) := by decide +kernel
def fX10_two (a0 : Int32) (a1 : Int32) (a2 : Int32) (h : hp_T) : Option (Int32 × hp_T) := some (((a2 * a0) + a1), h)
set_option maxRecDepth 100000 in
set_option maxHeartbeats 4000000 in
theorem mX10_two (l : Launch) (G : xr_G) (a0 : Int32) (a1 : Int32) (a2 : Int32)  (h h1 : hp_T) (r : Int32) (hF : fX10_two a0 a1 a2 h = some (r, h1)) : xr_M l G yX10_two cX10_two 3 (xr_R 0 0) (some .int) [.int a0, .int a1, .int a2] h (xr_Qi G r h1) := by
  refine xr_start rfl (Nat.le_of_ble_eq_true rfl) (fun K C => ?_)
  show xr_j l G K 3 h [(0, .int a0), (1, .int a1), (2, .int a2)] 0 []
  unfold fX10_two at hF
  refine xr_iload_n C 2 dX10_two_0 rfl rfl ?_
  refine xr_iload_n C 0 dX10_two_1 rfl rfl ?_
  refine xr_imul C dX10_two_2 ?_
  refine xr_iload_n C 1 dX10_two_3 rfl rfl ?_
  refine xr_iadd C dX10_two_4 ?_
  cases hF
  exact xr_iret C dX10_two_5
theorem dX10_isFront_0 : decode cX10_isFront 0 = .ok (.iload_n 0, 1) := by decide +kernel
theorem dX10_isFront_1 : decode cX10_isFront 1 = .ok (.iconst 2, 1) := by decide +kernel
theorem dX10_isFront_2 : decode cX10_isFront 2 = .ok (.if_icmp .lt 12, 3) := by decide +kernel
theorem dX10_isFront_5 : decode cX10_isFront 5 = .ok (.iload_n 0, 1) := by decide +kernel
theorem dX10_isFront_6 : decode cX10_isFront 6 = .ok (.iconst 4, 1) := by decide +kernel
theorem dX10_isFront_7 : decode cX10_isFront 7 = .ok (.if_icmp .gt 7, 3) := by decide +kernel
theorem dX10_isFront_10 : decode cX10_isFront 10 = .ok (.iconst 1, 1) := by decide +kernel
theorem dX10_isFront_11 : decode cX10_isFront 11 = .ok (.goto 4, 3) := by decide +kernel
theorem dX10_isFront_14 : decode cX10_isFront 14 = .ok (.iconst 0, 1) := by decide +kernel
theorem dX10_isFront_15 : decode cX10_isFront 15 = .ok (.ireturn, 1) := by decide +kernel
def fX10_isFront (a0 : Int32) (h : hp_T) : Option (Int32 × hp_T) := if a0 < (2 : Int32) then (some ((0 : Int32), h)) else (if (4 : Int32) < a0 then (some ((0 : Int32), h)) else (some ((1 : Int32), h)))
set_option maxRecDepth 100000 in
set_option maxHeartbeats 4000000 in
theorem mX10_isFront (l : Launch) (G : xr_G) (a0 : Int32)  (h h1 : hp_T) (r : Int32) (hF : fX10_isFront a0 h = some (r, h1)) : xr_M l G yX10_isFront cX10_isFront 1 (xr_R 0 0) (some .boolean) [.int a0] h (xr_Qi G r h1) := by
  refine xr_start rfl (Nat.le_of_ble_eq_true rfl) (fun K C => ?_)
  show xr_j l G K 1 h [(0, .int a0)] 0 []
  unfold fX10_isFront at hF
  refine xr_iload_n C 0 dX10_isFront_0 rfl rfl ?_
  refine xr_iconst (v := 2) C dX10_isFront_1 (by decide) ?_
  refine xr_icmp_lt C 14 dX10_isFront_2 (by decide) (fun c2 => ?_) (fun c2 => ?_)
  · have hF := fx_pos hF c2
    refine xr_iconst (v := 0) C dX10_isFront_14 (by decide) ?_
    cases hF
    exact xr_zret C rfl dX10_isFront_15
  · have hF := fx_neg hF c2
    refine xr_iload_n C 0 dX10_isFront_5 rfl rfl ?_
    refine xr_iconst (v := 4) C dX10_isFront_6 (by decide) ?_
    refine xr_icmp_gt C 14 dX10_isFront_7 (by decide) (fun c7 => ?_) (fun c7 => ?_)
    · have hF := fx_pos hF c7
      refine xr_iconst (v := 0) C dX10_isFront_14 (by decide) ?_
      cases hF
      exact xr_zret C rfl dX10_isFront_15
    · have hF := fx_neg hF c7
      refine xr_iconst (v := 1) C dX10_isFront_10 (by decide) ?_
      refine xr_goto C 15 dX10_isFront_11 (by decide) ?_
      cases hF
      exact xr_zret C rfl dX10_isFront_15
theorem dX10_stands0_0 : decode cX10_stands0 0 = .ok (.iconst 0, 1) := by decide +kernel
theorem dX10_stands0_1 : decode cX10_stands0 1 = .ok (.istore_n 1, 1) := by decide +kernel
theorem dX10_stands0_2 : decode cX10_stands0 2 = .ok (.iload_n 1, 1) := by decide +kernel
theorem dX10_stands0_3 : decode cX10_stands0 3 = .ok (.iconst 2, 1) := by decide +kernel
theorem dX10_stands0_4 : decode cX10_stands0 4 = .ok (.if_icmp .ge 99, 3) := by decide +kernel
theorem dX10_stands0_7 : decode cX10_stands0 7 = .ok (.iconst 1, 1) := by decide +kernel
theorem dX10_stands0_8 : decode cX10_stands0 8 = .ok (.istore_n 2, 1) := by decide +kernel
theorem dX10_stands0_9 : decode cX10_stands0 9 = .ok (.iload_n 2, 1) := by decide +kernel
theorem dX10_stands0_10 : decode cX10_stands0 10 = .ok (.bipush 6, 2) := by decide +kernel
theorem dX10_stands0_12 : decode cX10_stands0 12 = .ok (.if_icmp .gt 85, 3) := by decide +kernel
theorem dX10_stands0_15 : decode cX10_stands0 15 = .ok (.bipush 71, 2) := by decide +kernel
theorem dX10_stands0_17 : decode cX10_stands0 17 = .ok (.iconst 2, 1) := by decide +kernel
theorem dX10_stands0_18 : decode cX10_stands0 18 = .ok (.iload_n 1, 1) := by decide +kernel
theorem dX10_stands0_19 : decode cX10_stands0 19 = .ok (.iload_n 2, 1) := by decide +kernel
theorem dX10_stands0_20 : decode cX10_stands0 20 = .ok (.iconst 1, 1) := by decide +kernel
theorem dX10_stands0_21 : decode cX10_stands0 21 = .ok (.isub, 1) := by decide +kernel
theorem dX10_stands0_22 : decode cX10_stands0 22 = .ok (.bipush 6, 2) := by decide +kernel
theorem dX10_stands0_24 : decode cX10_stands0 24 = .ok (.invokestatic 167, 3) := by decide +kernel
theorem dX10_stands0_27 : decode cX10_stands0 27 = .ok (.imul, 1) := by decide +kernel
theorem dX10_stands0_28 : decode cX10_stands0 28 = .ok (.iadd, 1) := by decide +kernel
theorem dX10_stands0_29 : decode cX10_stands0 29 = .ok (.istore_n 3, 1) := by decide +kernel
theorem dX10_stands0_30 : decode cX10_stands0 30 = .ok (.aload_n 0, 1) := by decide +kernel
theorem dX10_stands0_31 : decode cX10_stands0 31 = .ok (.getfield 36, 3) := by decide +kernel
theorem dX10_stands0_34 : decode cX10_stands0 34 = .ok (.iload_n 3, 1) := by decide +kernel
theorem dX10_stands0_35 : decode cX10_stands0 35 = .ok (.iload_n 2, 1) := by decide +kernel
theorem dX10_stands0_36 : decode cX10_stands0 36 = .ok (.iconst 4, 1) := by decide +kernel
theorem dX10_stands0_37 : decode cX10_stands0 37 = .ok (.if_icmp .eq 8, 3) := by decide +kernel
theorem dX10_stands0_40 : decode cX10_stands0 40 = .ok (.iload_n 2, 1) := by decide +kernel
theorem dX10_stands0_41 : decode cX10_stands0 41 = .ok (.iconst 5, 1) := by decide +kernel
theorem dX10_stands0_42 : decode cX10_stands0 42 = .ok (.if_icmp .ne 8, 3) := by decide +kernel
theorem dX10_stands0_45 : decode cX10_stands0 45 = .ok (.bipush 20, 2) := by decide +kernel
theorem dX10_stands0_47 : decode cX10_stands0 47 = .ok (.goto 21, 3) := by decide +kernel
theorem dX10_stands0_50 : decode cX10_stands0 50 = .ok (.iload_n 2, 1) := by decide +kernel
theorem dX10_stands0_51 : decode cX10_stands0 51 = .ok (.iconst 3, 1) := by decide +kernel
theorem dX10_stands0_52 : decode cX10_stands0 52 = .ok (.if_icmp .eq 9, 3) := by decide +kernel
theorem dX10_stands0_55 : decode cX10_stands0 55 = .ok (.iload_n 2, 1) := by decide +kernel
theorem dX10_stands0_56 : decode cX10_stands0 56 = .ok (.bipush 6, 2) := by decide +kernel
theorem dX10_stands0_58 : decode cX10_stands0 58 = .ok (.if_icmp .ne 8, 3) := by decide +kernel
theorem dX10_stands0_61 : decode cX10_stands0 61 = .ok (.bipush 45, 2) := by decide +kernel
theorem dX10_stands0_63 : decode cX10_stands0 63 = .ok (.goto 5, 3) := by decide +kernel
theorem dX10_stands0_66 : decode cX10_stands0 66 = .ok (.bipush 70, 2) := by decide +kernel
theorem dX10_stands0_68 : decode cX10_stands0 68 = .ok (.iastore, 1) := by decide +kernel
theorem dX10_stands0_69 : decode cX10_stands0 69 = .ok (.aload_n 0, 1) := by decide +kernel
theorem dX10_stands0_70 : decode cX10_stands0 70 = .ok (.getfield 36, 3) := by decide +kernel
theorem dX10_stands0_73 : decode cX10_stands0 73 = .ok (.iload_n 3, 1) := by decide +kernel
theorem dX10_stands0_74 : decode cX10_stands0 74 = .ok (.iconst 1, 1) := by decide +kernel
theorem dX10_stands0_75 : decode cX10_stands0 75 = .ok (.iadd, 1) := by decide +kernel
theorem dX10_stands0_76 : decode cX10_stands0 76 = .ok (.iload_n 2, 1) := by decide +kernel
theorem dX10_stands0_77 : decode cX10_stands0 77 = .ok (.invokestatic 177, 3) := by decide +kernel
theorem dX10_stands0_80 : decode cX10_stands0 80 = .ok (.ifCond .eq 8, 3) := by decide +kernel
theorem dX10_stands0_83 : decode cX10_stands0 83 = .ok (.bipush 20, 2) := by decide +kernel
theorem dX10_stands0_85 : decode cX10_stands0 85 = .ok (.goto 5, 3) := by decide +kernel
theorem dX10_stands0_88 : decode cX10_stands0 88 = .ok (.bipush 70, 2) := by decide +kernel
theorem dX10_stands0_90 : decode cX10_stands0 90 = .ok (.iastore, 1) := by decide +kernel
theorem dX10_stands0_91 : decode cX10_stands0 91 = .ok (.iinc 2 1, 3) := by decide +kernel
theorem dX10_stands0_94 : decode cX10_stands0 94 = .ok (.goto (-85), 3) := by decide +kernel
theorem dX10_stands0_97 : decode cX10_stands0 97 = .ok (.iinc 1 1, 3) := by decide +kernel
theorem dX10_stands0_100 : decode cX10_stands0 100 = .ok (.goto (-98), 3) := by decide +kernel
theorem dX10_stands0_103 : decode cX10_stands0 103 = .ok (.return_, 1) := by decide +kernel
def fX10_stands0_90 (k2 : Nat → Int32 → hp_T → Option hp_T) (k9 : Nat → Int32 → Int32 → hp_T → Option hp_T) (a0 : Nat) (a1 : Int32) (a2 : Int32) (s0 : Nat) (s1 : Int32) (s2 : Int32) (h : hp_T) : Option hp_T := fx_g (fx_in s1 120) (fx_let (hp_sI h s0 (fx_ix s1) s2) fun (h90 : hp_T) => fx_let (a2 + (1 : Int32)) fun (x91 : Int32) => k9 a0 a1 x91 h90)
set_option maxRecDepth 100000 in
set_option maxHeartbeats 4000000 in
theorem bX10_stands0_90 {l : Launch} {G : xr_G} {K : xr_K} {h1 : hp_T} (C : xr_C G K cX10_stands0 RX10 4 (xr_R 1 22) none (some (xr_Qv G h1))) (k2 : Nat → Int32 → hp_T → Option hp_T) (j2 : ∀ (a0 : Nat) (a1 : Int32) (ta0 : hp_sh a0 = (10, 0)) (h : hp_T), k2 a0 a1 h = some h1 → xr_j l G K 4 h [(0, .ref (G.2.2.1 a0)), (1, .int a1)] 2 []) (k9 : Nat → Int32 → Int32 → hp_T → Option hp_T) (j9 : ∀ (a0 : Nat) (a1 : Int32) (a2 : Int32) (ta0 : hp_sh a0 = (10, 0)) (h : hp_T), k9 a0 a1 a2 h = some h1 → xr_j l G K 4 h [(0, .ref (G.2.2.1 a0)), (1, .int a1), (2, .int a2)] 9 []) (a0 : Nat) (a1 : Int32) (a2 : Int32) (s0 : Nat) (s1 : Int32) (s2 : Int32) (ta0 : hp_sh a0 = (10, 0)) (ts0 : hp_sh s0 = (20, 120)) (h : hp_T) (hF : fX10_stands0_90 k2 k9 a0 a1 a2 s0 s1 s2 h = some h1) : xr_j l G K 4 h [(0, .ref (G.2.2.1 a0)), (1, .int a1), (2, .int a2)] 90 [.int s2, .int s1, .ref (G.2.2.1 s0)] := by
  unfold fX10_stands0_90 at hF
  obtain ⟨g90, hF⟩ := fx_gE hF
  refine xr_iast C dX10_stands0_90 ts0 g90 (fun h90 e90 => ?_)
  have hF := fx_letE hF h90 e90
  obtain ⟨x91, e91⟩ : ∃ y : Int32, y = (a2 + (1 : Int32)) := ⟨_, rfl⟩
  have hF := fx_letE hF x91 e91
  refine xr_iinc C x91 2 [(2, .int x91), (0, .ref (G.2.2.1 a0)), (1, .int a1)] dX10_stands0_91 rfl (by rw [e91]; rfl) (Nat.le_of_ble_eq_true rfl) rfl ?_
  refine xr_goto C 9 dX10_stands0_94 (by decide) ?_
  refine xr_sub [1, 2, 0] [(0, .ref (G.2.2.1 a0)), (1, .int a1), (2, .int x91)] rfl ?_
  exact j9 a0 a1 x91 ta0 h90 hF
def fX10_stands0_68 (k2 : Nat → Int32 → hp_T → Option hp_T) (k9 : Nat → Int32 → Int32 → hp_T → Option hp_T) (a0 : Nat) (a1 : Int32) (a2 : Int32) (a3 : Int32) (s0 : Nat) (s1 : Int32) (s2 : Int32) (h : hp_T) : Option hp_T := fx_g (fx_in s1 120) (fx_let (hp_sI h s0 (fx_ix s1) s2) fun (h68 : hp_T) => fx_b2 (fX10_isFront a2 h68) fun (r77 : Int32) (h77 : hp_T) => if r77 = 0 then (fX10_stands0_90 k2 k9 a0 a1 a2 (h68.2.2 a0 20) (a3 + (1 : Int32)) (70 : Int32) h77) else (fX10_stands0_90 k2 k9 a0 a1 a2 (h68.2.2 a0 20) (a3 + (1 : Int32)) (20 : Int32) h77))
set_option maxRecDepth 100000 in
set_option maxHeartbeats 4000000 in
theorem bX10_stands0_68 {l : Launch} {G : xr_G} {K : xr_K} {h1 : hp_T} (C : xr_C G K cX10_stands0 RX10 4 (xr_R 1 22) none (some (xr_Qv G h1))) (k2 : Nat → Int32 → hp_T → Option hp_T) (j2 : ∀ (a0 : Nat) (a1 : Int32) (ta0 : hp_sh a0 = (10, 0)) (h : hp_T), k2 a0 a1 h = some h1 → xr_j l G K 4 h [(0, .ref (G.2.2.1 a0)), (1, .int a1)] 2 []) (k9 : Nat → Int32 → Int32 → hp_T → Option hp_T) (j9 : ∀ (a0 : Nat) (a1 : Int32) (a2 : Int32) (ta0 : hp_sh a0 = (10, 0)) (h : hp_T), k9 a0 a1 a2 h = some h1 → xr_j l G K 4 h [(0, .ref (G.2.2.1 a0)), (1, .int a1), (2, .int a2)] 9 []) (a0 : Nat) (a1 : Int32) (a2 : Int32) (a3 : Int32) (s0 : Nat) (s1 : Int32) (s2 : Int32) (ta0 : hp_sh a0 = (10, 0)) (ts0 : hp_sh s0 = (20, 120)) (h : hp_T) (hF : fX10_stands0_68 k2 k9 a0 a1 a2 a3 s0 s1 s2 h = some h1) : xr_j l G K 4 h [(0, .ref (G.2.2.1 a0)), (1, .int a1), (2, .int a2), (3, .int a3)] 68 [.int s2, .int s1, .ref (G.2.2.1 s0)] := by
  unfold fX10_stands0_68 at hF
  obtain ⟨g68, hF⟩ := fx_gE hF
  refine xr_iast C dX10_stands0_68 ts0 g68 (fun h68 e68 => ?_)
  have hF := fx_letE hF h68 e68
  refine xr_aload_n C 0 dX10_stands0_69 rfl rfl ?_
  refine xr_getr C flX10_36 rfl (by decide) dX10_stands0_70 ta0 (fun t70 => ?_)
  refine xr_iload_n C 3 dX10_stands0_73 rfl rfl ?_
  refine xr_iconst (v := 1) C dX10_stands0_74 (by decide) ?_
  refine xr_iadd C dX10_stands0_75 ?_
  refine xr_iload_n C 2 dX10_stands0_76 rfl rfl ?_
  obtain ⟨r77, h77, e77, hF⟩ := fx_b2E hF
  refine xr_callSi C mvX10_177 [.int a2] [.int (a3 + (1 : Int32)), .ref (G.2.2.1 (h68.2.2 a0 20))] (mX10_isFront l G a2  h68 h77 r77 e77) rfl ⟨rfl, rfl, (Nat.le_of_ble_eq_true rfl), (Nat.le_of_ble_eq_true rfl)⟩ rfl (Nat.le_of_ble_eq_true rfl) dX10_stands0_77 ?_
  refine xr_if_eq C 88 dX10_stands0_80 (by decide) (fun c80 => ?_) (fun c80 => ?_)
  · have hF := fx_pos hF c80
    refine xr_bipush (v := 70) C dX10_stands0_88 (by decide) ?_
    refine xr_sub [0, 1, 2] [(0, .ref (G.2.2.1 a0)), (1, .int a1), (2, .int a2)] rfl ?_
    exact bX10_stands0_90 C k2 j2 k9 j9  a0 a1 a2 (h68.2.2 a0 20) (a3 + (1 : Int32)) (70 : Int32) ta0 t70 h77 hF
  · have hF := fx_neg hF c80
    refine xr_bipush (v := 20) C dX10_stands0_83 (by decide) ?_
    refine xr_goto C 90 dX10_stands0_85 (by decide) ?_
    refine xr_sub [0, 1, 2] [(0, .ref (G.2.2.1 a0)), (1, .int a1), (2, .int a2)] rfl ?_
    exact bX10_stands0_90 C k2 j2 k9 j9  a0 a1 a2 (h68.2.2 a0 20) (a3 + (1 : Int32)) (20 : Int32) ta0 t70 h77 hF
def fX10_stands0_61 (k2 : Nat → Int32 → hp_T → Option hp_T) (k9 : Nat → Int32 → Int32 → hp_T → Option hp_T) (a0 : Nat) (a1 : Int32) (a2 : Int32) (a3 : Int32) (s0 : Nat) (s1 : Int32) (h : hp_T) : Option hp_T := fX10_stands0_68 k2 k9 a0 a1 a2 a3 s0 s1 (45 : Int32) h
set_option maxRecDepth 100000 in
set_option maxHeartbeats 4000000 in
theorem bX10_stands0_61 {l : Launch} {G : xr_G} {K : xr_K} {h1 : hp_T} (C : xr_C G K cX10_stands0 RX10 4 (xr_R 1 22) none (some (xr_Qv G h1))) (k2 : Nat → Int32 → hp_T → Option hp_T) (j2 : ∀ (a0 : Nat) (a1 : Int32) (ta0 : hp_sh a0 = (10, 0)) (h : hp_T), k2 a0 a1 h = some h1 → xr_j l G K 4 h [(0, .ref (G.2.2.1 a0)), (1, .int a1)] 2 []) (k9 : Nat → Int32 → Int32 → hp_T → Option hp_T) (j9 : ∀ (a0 : Nat) (a1 : Int32) (a2 : Int32) (ta0 : hp_sh a0 = (10, 0)) (h : hp_T), k9 a0 a1 a2 h = some h1 → xr_j l G K 4 h [(0, .ref (G.2.2.1 a0)), (1, .int a1), (2, .int a2)] 9 []) (a0 : Nat) (a1 : Int32) (a2 : Int32) (a3 : Int32) (s0 : Nat) (s1 : Int32) (ta0 : hp_sh a0 = (10, 0)) (ts0 : hp_sh s0 = (20, 120)) (h : hp_T) (hF : fX10_stands0_61 k2 k9 a0 a1 a2 a3 s0 s1 h = some h1) : xr_j l G K 4 h [(0, .ref (G.2.2.1 a0)), (1, .int a1), (2, .int a2), (3, .int a3)] 61 [.int s1, .ref (G.2.2.1 s0)] := by
  unfold fX10_stands0_61 at hF
  refine xr_bipush (v := 45) C dX10_stands0_61 (by decide) ?_
  refine xr_goto C 68 dX10_stands0_63 (by decide) ?_
  exact bX10_stands0_68 C k2 j2 k9 j9  a0 a1 a2 a3 s0 s1 (45 : Int32) ta0 ts0 h hF
def fX10_stands0_45 (k2 : Nat → Int32 → hp_T → Option hp_T) (k9 : Nat → Int32 → Int32 → hp_T → Option hp_T) (a0 : Nat) (a1 : Int32) (a2 : Int32) (a3 : Int32) (s0 : Nat) (s1 : Int32) (h : hp_T) : Option hp_T := fX10_stands0_68 k2 k9 a0 a1 a2 a3 s0 s1 (20 : Int32) h
set_option maxRecDepth 100000 in
set_option maxHeartbeats 4000000 in
theorem bX10_stands0_45 {l : Launch} {G : xr_G} {K : xr_K} {h1 : hp_T} (C : xr_C G K cX10_stands0 RX10 4 (xr_R 1 22) none (some (xr_Qv G h1))) (k2 : Nat → Int32 → hp_T → Option hp_T) (j2 : ∀ (a0 : Nat) (a1 : Int32) (ta0 : hp_sh a0 = (10, 0)) (h : hp_T), k2 a0 a1 h = some h1 → xr_j l G K 4 h [(0, .ref (G.2.2.1 a0)), (1, .int a1)] 2 []) (k9 : Nat → Int32 → Int32 → hp_T → Option hp_T) (j9 : ∀ (a0 : Nat) (a1 : Int32) (a2 : Int32) (ta0 : hp_sh a0 = (10, 0)) (h : hp_T), k9 a0 a1 a2 h = some h1 → xr_j l G K 4 h [(0, .ref (G.2.2.1 a0)), (1, .int a1), (2, .int a2)] 9 []) (a0 : Nat) (a1 : Int32) (a2 : Int32) (a3 : Int32) (s0 : Nat) (s1 : Int32) (ta0 : hp_sh a0 = (10, 0)) (ts0 : hp_sh s0 = (20, 120)) (h : hp_T) (hF : fX10_stands0_45 k2 k9 a0 a1 a2 a3 s0 s1 h = some h1) : xr_j l G K 4 h [(0, .ref (G.2.2.1 a0)), (1, .int a1), (2, .int a2), (3, .int a3)] 45 [.int s1, .ref (G.2.2.1 s0)] := by
  unfold fX10_stands0_45 at hF
  refine xr_bipush (v := 20) C dX10_stands0_45 (by decide) ?_
  refine xr_goto C 68 dX10_stands0_47 (by decide) ?_
  exact bX10_stands0_68 C k2 j2 k9 j9  a0 a1 a2 a3 s0 s1 (20 : Int32) ta0 ts0 h hF
def fX10_stands0_9 (k2 : Nat → Int32 → hp_T → Option hp_T) : Nat → Nat → Int32 → Int32 → hp_T → Option hp_T
  | 0, _, _, _, _ => none
  | n + 1, a0, a1, a2, h => if (6 : Int32) < a2 then (fx_let (a1 + (1 : Int32)) fun (x97 : Int32) => k2 a0 x97 h) else (fx_b2 (fX10_two a1 (a2 - (1 : Int32)) (6 : Int32) h) fun (r24 : Int32) (h24 : hp_T) => fx_let ((71 : Int32) + ((2 : Int32) * r24)) fun (x29 : Int32) => if a2 = (4 : Int32) then (fX10_stands0_45 k2 (fX10_stands0_9 k2 n) a0 a1 a2 x29 (h24.2.2 a0 20) x29 h24) else (if a2 = (5 : Int32) then (fX10_stands0_45 k2 (fX10_stands0_9 k2 n) a0 a1 a2 x29 (h24.2.2 a0 20) x29 h24) else (if a2 = (3 : Int32) then (fX10_stands0_61 k2 (fX10_stands0_9 k2 n) a0 a1 a2 x29 (h24.2.2 a0 20) x29 h24) else (if a2 = (6 : Int32) then (fX10_stands0_61 k2 (fX10_stands0_9 k2 n) a0 a1 a2 x29 (h24.2.2 a0 20) x29 h24) else (fX10_stands0_68 k2 (fX10_stands0_9 k2 n) a0 a1 a2 x29 (h24.2.2 a0 20) x29 (70 : Int32) h24)))))
set_option maxRecDepth 100000 in
set_option maxHeartbeats 4000000 in
theorem bX10_stands0_9 {l : Launch} {G : xr_G} {K : xr_K} {h1 : hp_T} (C : xr_C G K cX10_stands0 RX10 4 (xr_R 1 22) none (some (xr_Qv G h1))) (k2 : Nat → Int32 → hp_T → Option hp_T) (j2 : ∀ (a0 : Nat) (a1 : Int32) (ta0 : hp_sh a0 = (10, 0)) (h : hp_T), k2 a0 a1 h = some h1 → xr_j l G K 4 h [(0, .ref (G.2.2.1 a0)), (1, .int a1)] 2 []) : ∀ (n : Nat) (a0 : Nat) (a1 : Int32) (a2 : Int32) (ta0 : hp_sh a0 = (10, 0)) (h : hp_T), fX10_stands0_9 k2 n a0 a1 a2 h = some h1 → xr_j l G K 4 h [(0, .ref (G.2.2.1 a0)), (1, .int a1), (2, .int a2)] 9 [] := by
  intro n
  induction n with
  | zero =>
    intro a0 a1 a2 ta0 h hF
    cases hF
  | succ n ih =>
    intro a0 a1 a2 ta0 h hF
    rw [fX10_stands0_9] at hF
    refine xr_iload_n C 2 dX10_stands0_9 rfl rfl ?_
    refine xr_bipush (v := 6) C dX10_stands0_10 (by decide) ?_
    refine xr_icmp_gt C 97 dX10_stands0_12 (by decide) (fun c12 => ?_) (fun c12 => ?_)
    · have hF := fx_pos hF c12
      obtain ⟨x97, e97⟩ : ∃ y : Int32, y = (a1 + (1 : Int32)) := ⟨_, rfl⟩
      have hF := fx_letE hF x97 e97
      refine xr_iinc C x97 1 [(1, .int x97), (0, .ref (G.2.2.1 a0)), (2, .int a2)] dX10_stands0_97 rfl (by rw [e97]; rfl) (Nat.le_of_ble_eq_true rfl) rfl ?_
      refine xr_goto C 2 dX10_stands0_100 (by decide) ?_
      refine xr_sub [1, 0] [(0, .ref (G.2.2.1 a0)), (1, .int x97)] rfl ?_
      exact j2 a0 x97 ta0 h hF
    · have hF := fx_neg hF c12
      refine xr_bipush (v := 71) C dX10_stands0_15 (by decide) ?_
      refine xr_iconst (v := 2) C dX10_stands0_17 (by decide) ?_
      refine xr_iload_n C 1 dX10_stands0_18 rfl rfl ?_
      refine xr_iload_n C 2 dX10_stands0_19 rfl rfl ?_
      refine xr_iconst (v := 1) C dX10_stands0_20 (by decide) ?_
      refine xr_isub C dX10_stands0_21 ?_
      refine xr_bipush (v := 6) C dX10_stands0_22 (by decide) ?_
      obtain ⟨r24, h24, e24, hF⟩ := fx_b2E hF
      refine xr_callSi C mvX10_167 [.int a1, .int (a2 - (1 : Int32)), .int (6 : Int32)] [.int (2 : Int32), .int (71 : Int32)] (mX10_two l G a1 (a2 - (1 : Int32)) (6 : Int32)  h h24 r24 e24) rfl ⟨rfl, rfl, (Nat.le_of_ble_eq_true rfl), (Nat.le_of_ble_eq_true rfl)⟩ rfl (Nat.le_of_ble_eq_true rfl) dX10_stands0_24 ?_
      refine xr_imul C dX10_stands0_27 ?_
      refine xr_iadd C dX10_stands0_28 ?_
      refine xr_topi (fun x29 e29 => ?_)
      have hF := fx_letE hF x29 e29
      refine xr_istore_n C [(3, .int x29), (0, .ref (G.2.2.1 a0)), (1, .int a1), (2, .int a2)] dX10_stands0_29 rfl (Nat.le_of_ble_eq_true rfl) rfl ?_
      refine xr_aload_n C 1 dX10_stands0_30 rfl rfl ?_
      refine xr_getr C flX10_36 rfl (by decide) dX10_stands0_31 ta0 (fun t31 => ?_)
      refine xr_iload_n C 0 dX10_stands0_34 rfl rfl ?_
      refine xr_iload_n C 3 dX10_stands0_35 rfl rfl ?_
      refine xr_iconst (v := 4) C dX10_stands0_36 (by decide) ?_
      refine xr_icmp_eq C 45 dX10_stands0_37 (by decide) (fun c37 => ?_) (fun c37 => ?_)
      · have hF := fx_pos hF c37
        refine xr_sub [1, 2, 3, 0] [(0, .ref (G.2.2.1 a0)), (1, .int a1), (2, .int a2), (3, .int x29)] rfl ?_
        exact bX10_stands0_45 C k2 j2 (fX10_stands0_9 k2 n) (fun a0 a1 a2 ta0 h hF => ih a0 a1 a2 ta0 h hF)  a0 a1 a2 x29 (h24.2.2 a0 20) x29 ta0 t31 h24 hF
      · have hF := fx_neg hF c37
        refine xr_iload_n C 3 dX10_stands0_40 rfl rfl ?_
        refine xr_iconst (v := 5) C dX10_stands0_41 (by decide) ?_
        refine xr_icmp_ne C 50 dX10_stands0_42 (by decide) (fun c42 => ?_) (fun c42 => ?_)
        · have hF := fx_neg hF c42
          refine xr_iload_n C 3 dX10_stands0_50 rfl rfl ?_
          refine xr_iconst (v := 3) C dX10_stands0_51 (by decide) ?_
          refine xr_icmp_eq C 61 dX10_stands0_52 (by decide) (fun c52 => ?_) (fun c52 => ?_)
          · have hF := fx_pos hF c52
            refine xr_sub [1, 2, 3, 0] [(0, .ref (G.2.2.1 a0)), (1, .int a1), (2, .int a2), (3, .int x29)] rfl ?_
            exact bX10_stands0_61 C k2 j2 (fX10_stands0_9 k2 n) (fun a0 a1 a2 ta0 h hF => ih a0 a1 a2 ta0 h hF)  a0 a1 a2 x29 (h24.2.2 a0 20) x29 ta0 t31 h24 hF
          · have hF := fx_neg hF c52
            refine xr_iload_n C 3 dX10_stands0_55 rfl rfl ?_
            refine xr_bipush (v := 6) C dX10_stands0_56 (by decide) ?_
            refine xr_icmp_ne C 66 dX10_stands0_58 (by decide) (fun c58 => ?_) (fun c58 => ?_)
            · have hF := fx_neg hF c58
              refine xr_bipush (v := 70) C dX10_stands0_66 (by decide) ?_
              refine xr_sub [1, 2, 3, 0] [(0, .ref (G.2.2.1 a0)), (1, .int a1), (2, .int a2), (3, .int x29)] rfl ?_
              exact bX10_stands0_68 C k2 j2 (fX10_stands0_9 k2 n) (fun a0 a1 a2 ta0 h hF => ih a0 a1 a2 ta0 h hF)  a0 a1 a2 x29 (h24.2.2 a0 20) x29 (70 : Int32) ta0 t31 h24 hF
            · have hF := fx_pos hF c58
              refine xr_sub [1, 2, 3, 0] [(0, .ref (G.2.2.1 a0)), (1, .int a1), (2, .int a2), (3, .int x29)] rfl ?_
              exact bX10_stands0_61 C k2 j2 (fX10_stands0_9 k2 n) (fun a0 a1 a2 ta0 h hF => ih a0 a1 a2 ta0 h hF)  a0 a1 a2 x29 (h24.2.2 a0 20) x29 ta0 t31 h24 hF
        · have hF := fx_pos hF c42
          refine xr_sub [1, 2, 3, 0] [(0, .ref (G.2.2.1 a0)), (1, .int a1), (2, .int a2), (3, .int x29)] rfl ?_
          exact bX10_stands0_45 C k2 j2 (fX10_stands0_9 k2 n) (fun a0 a1 a2 ta0 h hF => ih a0 a1 a2 ta0 h hF)  a0 a1 a2 x29 (h24.2.2 a0 20) x29 ta0 t31 h24 hF
def fX10_stands0_2  : Nat → Nat → Int32 → hp_T → Option hp_T
  | 0, _, _, _ => none
  | n + 1, a0, a1, h => if (2 : Int32) ≤ a1 then (some h) else (fX10_stands0_9 (fX10_stands0_2 n) fx_N a0 a1 (1 : Int32) h)
set_option maxRecDepth 100000 in
set_option maxHeartbeats 4000000 in
theorem bX10_stands0_2 {l : Launch} {G : xr_G} {K : xr_K} {h1 : hp_T} (C : xr_C G K cX10_stands0 RX10 4 (xr_R 1 22) none (some (xr_Qv G h1)))  : ∀ (n : Nat) (a0 : Nat) (a1 : Int32) (ta0 : hp_sh a0 = (10, 0)) (h : hp_T), fX10_stands0_2 n a0 a1 h = some h1 → xr_j l G K 4 h [(0, .ref (G.2.2.1 a0)), (1, .int a1)] 2 [] := by
  intro n
  induction n with
  | zero =>
    intro a0 a1 ta0 h hF
    cases hF
  | succ n ih =>
    intro a0 a1 ta0 h hF
    rw [fX10_stands0_2] at hF
    refine xr_iload_n C 1 dX10_stands0_2 rfl rfl ?_
    refine xr_iconst (v := 2) C dX10_stands0_3 (by decide) ?_
    refine xr_icmp_ge C 103 dX10_stands0_4 (by decide) (fun c4 => ?_) (fun c4 => ?_)
    · have hF := fx_pos hF c4
      cases hF
      exact xr_vret C dX10_stands0_103
    · have hF := fx_neg hF c4
      refine xr_iconst (v := 1) C dX10_stands0_7 (by decide) ?_
      refine xr_istore_n C [(2, .int (1 : Int32)), (0, .ref (G.2.2.1 a0)), (1, .int a1)] dX10_stands0_8 rfl (Nat.le_of_ble_eq_true rfl) rfl ?_
      refine xr_sub [1, 2, 0] [(0, .ref (G.2.2.1 a0)), (1, .int a1), (2, .int (1 : Int32))] rfl ?_
      exact bX10_stands0_9 C (fX10_stands0_2 n) (fun a0 a1 ta0 h hF => ih a0 a1 ta0 h hF) fx_N a0 a1 (1 : Int32) ta0 h hF
def fX10_stands0 (a0 : Nat) (h : hp_T) : Option hp_T := fX10_stands0_2 fx_N a0 (0 : Int32) h
set_option maxRecDepth 100000 in
set_option maxHeartbeats 4000000 in
theorem mX10_stands0 (l : Launch) (G : xr_G) (a0 : Nat) (ta0 : hp_sh a0 = (10, 0)) (h h1 : hp_T) (hF : fX10_stands0 a0 h = some h1) : xr_M l G yX10_stands0 cX10_stands0 4 (xr_R 1 22) none [.ref (G.2.2.1 a0)] h (xr_Qv G h1) := by
  refine xr_start rfl (Nat.le_of_ble_eq_true rfl) (fun K C => ?_)
  show xr_j l G K 4 h [(0, .ref (G.2.2.1 a0))] 0 []
  unfold fX10_stands0 at hF
  refine xr_iconst (v := 0) C dX10_stands0_0 (by decide) ?_
  refine xr_istore_n C [(1, .int (0 : Int32)), (0, .ref (G.2.2.1 a0))] dX10_stands0_1 rfl (Nat.le_of_ble_eq_true rfl) rfl ?_
  refine xr_sub [1, 0] [(0, .ref (G.2.2.1 a0)), (1, .int (0 : Int32))] rfl ?_
  exact bX10_stands0_2 C  fx_N a0 (0 : Int32) ta0 h hF
theorem dX10_serveFirst_0 : decode cX10_serveFirst 0 = .ok (.iconst 0, 1) := by decide +kernel
theorem dX10_serveFirst_1 : decode cX10_serveFirst 1 = .ok (.istore_n 1, 1) := by decide +kernel
theorem dX10_serveFirst_2 : decode cX10_serveFirst 2 = .ok (.iload_n 1, 1) := by decide +kernel
theorem dX10_serveFirst_3 : decode cX10_serveFirst 3 = .ok (.bipush 120, 2) := by decide +kernel
theorem dX10_serveFirst_5 : decode cX10_serveFirst 5 = .ok (.if_icmp .ge 16, 3) := by decide +kernel
theorem dX10_serveFirst_8 : decode cX10_serveFirst 8 = .ok (.aload_n 0, 1) := by decide +kernel
theorem dX10_serveFirst_9 : decode cX10_serveFirst 9 = .ok (.getfield 36, 3) := by decide +kernel
theorem dX10_serveFirst_12 : decode cX10_serveFirst 12 = .ok (.iload_n 1, 1) := by decide +kernel
theorem dX10_serveFirst_13 : decode cX10_serveFirst 13 = .ok (.iconst 0, 1) := by decide +kernel
theorem dX10_serveFirst_14 : decode cX10_serveFirst 14 = .ok (.iastore, 1) := by decide +kernel
theorem dX10_serveFirst_15 : decode cX10_serveFirst 15 = .ok (.iinc 1 1, 3) := by decide +kernel
theorem dX10_serveFirst_18 : decode cX10_serveFirst 18 = .ok (.goto (-16), 3) := by decide +kernel
theorem dX10_serveFirst_21 : decode cX10_serveFirst 21 = .ok (.aload_n 0, 1) := by decide +kernel
theorem dX10_serveFirst_22 : decode cX10_serveFirst 22 = .ok (.getfield 36, 3) := by decide +kernel
theorem dX10_serveFirst_25 : decode cX10_serveFirst 25 = .ok (.iconst 2, 1) := by decide +kernel
theorem dX10_serveFirst_26 : decode cX10_serveFirst 26 = .ok (.aload_n 0, 1) := by decide +kernel
theorem dX10_serveFirst_27 : decode cX10_serveFirst 27 = .ok (.getfield 13, 3) := by decide +kernel
theorem dX10_serveFirst_30 : decode cX10_serveFirst 30 = .ok (.iconst 3, 1) := by decide +kernel
theorem dX10_serveFirst_31 : decode cX10_serveFirst 31 = .ok (.iaload, 1) := by decide +kernel
theorem dX10_serveFirst_32 : decode cX10_serveFirst 32 = .ok (.iastore, 1) := by decide +kernel
theorem dX10_serveFirst_33 : decode cX10_serveFirst 33 = .ok (.iconst 0, 1) := by decide +kernel
theorem dX10_serveFirst_34 : decode cX10_serveFirst 34 = .ok (.istore_n 1, 1) := by decide +kernel
theorem dX10_serveFirst_35 : decode cX10_serveFirst 35 = .ok (.iload_n 1, 1) := by decide +kernel
theorem dX10_serveFirst_36 : decode cX10_serveFirst 36 = .ok (.iconst 2, 1) := by decide +kernel
theorem dX10_serveFirst_37 : decode cX10_serveFirst 37 = .ok (.if_icmp .ge 108, 3) := by decide +kernel
theorem dX10_serveFirst_40 : decode cX10_serveFirst 40 = .ok (.aload_n 0, 1) := by decide +kernel
theorem dX10_serveFirst_41 : decode cX10_serveFirst 41 = .ok (.getfield 36, 3) := by decide +kernel
theorem dX10_serveFirst_44 : decode cX10_serveFirst 44 = .ok (.iconst 5, 1) := by decide +kernel
theorem dX10_serveFirst_45 : decode cX10_serveFirst 45 = .ok (.iload_n 1, 1) := by decide +kernel
theorem dX10_serveFirst_46 : decode cX10_serveFirst 46 = .ok (.iadd, 1) := by decide +kernel
theorem dX10_serveFirst_47 : decode cX10_serveFirst 47 = .ok (.aload_n 0, 1) := by decide +kernel
theorem dX10_serveFirst_48 : decode cX10_serveFirst 48 = .ok (.getfield 13, 3) := by decide +kernel
theorem dX10_serveFirst_51 : decode cX10_serveFirst 51 = .ok (.iconst 1, 1) := by decide +kernel
theorem dX10_serveFirst_52 : decode cX10_serveFirst 52 = .ok (.iaload, 1) := by decide +kernel
theorem dX10_serveFirst_53 : decode cX10_serveFirst 53 = .ok (.iastore, 1) := by decide +kernel
theorem dX10_serveFirst_54 : decode cX10_serveFirst 54 = .ok (.aload_n 0, 1) := by decide +kernel
theorem dX10_serveFirst_55 : decode cX10_serveFirst 55 = .ok (.getfield 36, 3) := by decide +kernel
theorem dX10_serveFirst_58 : decode cX10_serveFirst 58 = .ok (.bipush 7, 2) := by decide +kernel
theorem dX10_serveFirst_60 : decode cX10_serveFirst 60 = .ok (.iload_n 1, 1) := by decide +kernel
theorem dX10_serveFirst_61 : decode cX10_serveFirst 61 = .ok (.iadd, 1) := by decide +kernel
theorem dX10_serveFirst_62 : decode cX10_serveFirst 62 = .ok (.iconst (-1), 1) := by decide +kernel
theorem dX10_serveFirst_63 : decode cX10_serveFirst 63 = .ok (.iastore, 1) := by decide +kernel
theorem dX10_serveFirst_64 : decode cX10_serveFirst 64 = .ok (.iconst 0, 1) := by decide +kernel
theorem dX10_serveFirst_65 : decode cX10_serveFirst 65 = .ok (.istore_n 2, 1) := by decide +kernel
theorem dX10_serveFirst_66 : decode cX10_serveFirst 66 = .ok (.iload_n 2, 1) := by decide +kernel
theorem dX10_serveFirst_67 : decode cX10_serveFirst 67 = .ok (.bipush 6, 2) := by decide +kernel
theorem dX10_serveFirst_69 : decode cX10_serveFirst 69 = .ok (.if_icmp .ge 39, 3) := by decide +kernel
theorem dX10_serveFirst_72 : decode cX10_serveFirst 72 = .ok (.aload_n 0, 1) := by decide +kernel
theorem dX10_serveFirst_73 : decode cX10_serveFirst 73 = .ok (.getfield 36, 3) := by decide +kernel
theorem dX10_serveFirst_76 : decode cX10_serveFirst 76 = .ok (.bipush 11, 2) := by decide +kernel
theorem dX10_serveFirst_78 : decode cX10_serveFirst 78 = .ok (.iload_n 1, 1) := by decide +kernel
theorem dX10_serveFirst_79 : decode cX10_serveFirst 79 = .ok (.iload_n 2, 1) := by decide +kernel
theorem dX10_serveFirst_80 : decode cX10_serveFirst 80 = .ok (.bipush 6, 2) := by decide +kernel
theorem dX10_serveFirst_82 : decode cX10_serveFirst 82 = .ok (.invokestatic 167, 3) := by decide +kernel
theorem dX10_serveFirst_85 : decode cX10_serveFirst 85 = .ok (.iadd, 1) := by decide +kernel
theorem dX10_serveFirst_86 : decode cX10_serveFirst 86 = .ok (.aload_n 0, 1) := by decide +kernel
theorem dX10_serveFirst_87 : decode cX10_serveFirst 87 = .ok (.getfield 13, 3) := by decide +kernel
theorem dX10_serveFirst_90 : decode cX10_serveFirst 90 = .ok (.bipush 9, 2) := by decide +kernel
theorem dX10_serveFirst_92 : decode cX10_serveFirst 92 = .ok (.iload_n 1, 1) := by decide +kernel
theorem dX10_serveFirst_93 : decode cX10_serveFirst 93 = .ok (.iload_n 2, 1) := by decide +kernel
theorem dX10_serveFirst_94 : decode cX10_serveFirst 94 = .ok (.bipush 6, 2) := by decide +kernel
theorem dX10_serveFirst_96 : decode cX10_serveFirst 96 = .ok (.invokestatic 167, 3) := by decide +kernel
theorem dX10_serveFirst_99 : decode cX10_serveFirst 99 = .ok (.iadd, 1) := by decide +kernel
theorem dX10_serveFirst_100 : decode cX10_serveFirst 100 = .ok (.iaload, 1) := by decide +kernel
theorem dX10_serveFirst_101 : decode cX10_serveFirst 101 = .ok (.iastore, 1) := by decide +kernel
theorem dX10_serveFirst_102 : decode cX10_serveFirst 102 = .ok (.iinc 2 1, 3) := by decide +kernel
theorem dX10_serveFirst_105 : decode cX10_serveFirst 105 = .ok (.goto (-39), 3) := by decide +kernel
theorem dX10_serveFirst_108 : decode cX10_serveFirst 108 = .ok (.iconst 0, 1) := by decide +kernel
theorem dX10_serveFirst_109 : decode cX10_serveFirst 109 = .ok (.istore_n 2, 1) := by decide +kernel
theorem dX10_serveFirst_110 : decode cX10_serveFirst 110 = .ok (.iload_n 2, 1) := by decide +kernel
theorem dX10_serveFirst_111 : decode cX10_serveFirst 111 = .ok (.bipush 12, 2) := by decide +kernel
theorem dX10_serveFirst_113 : decode cX10_serveFirst 113 = .ok (.if_icmp .ge 26, 3) := by decide +kernel
theorem dX10_serveFirst_116 : decode cX10_serveFirst 116 = .ok (.aload_n 0, 1) := by decide +kernel
theorem dX10_serveFirst_117 : decode cX10_serveFirst 117 = .ok (.getfield 36, 3) := by decide +kernel
theorem dX10_serveFirst_120 : decode cX10_serveFirst 120 = .ok (.bipush 23, 2) := by decide +kernel
theorem dX10_serveFirst_122 : decode cX10_serveFirst 122 = .ok (.iload_n 1, 1) := by decide +kernel
theorem dX10_serveFirst_123 : decode cX10_serveFirst 123 = .ok (.iload_n 2, 1) := by decide +kernel
theorem dX10_serveFirst_124 : decode cX10_serveFirst 124 = .ok (.bipush 12, 2) := by decide +kernel
theorem dX10_serveFirst_126 : decode cX10_serveFirst 126 = .ok (.invokestatic 167, 3) := by decide +kernel
theorem dX10_serveFirst_129 : decode cX10_serveFirst 129 = .ok (.iadd, 1) := by decide +kernel
theorem dX10_serveFirst_130 : decode cX10_serveFirst 130 = .ok (.bipush (-2), 2) := by decide +kernel
theorem dX10_serveFirst_132 : decode cX10_serveFirst 132 = .ok (.iastore, 1) := by decide +kernel
theorem dX10_serveFirst_133 : decode cX10_serveFirst 133 = .ok (.iinc 2 1, 3) := by decide +kernel
theorem dX10_serveFirst_136 : decode cX10_serveFirst 136 = .ok (.goto (-26), 3) := by decide +kernel
theorem dX10_serveFirst_139 : decode cX10_serveFirst 139 = .ok (.iinc 1 1, 3) := by decide +kernel
theorem dX10_serveFirst_142 : decode cX10_serveFirst 142 = .ok (.goto (-107), 3) := by decide +kernel
theorem dX10_serveFirst_145 : decode cX10_serveFirst 145 = .ok (.aload_n 0, 1) := by decide +kernel
theorem dX10_serveFirst_146 : decode cX10_serveFirst 146 = .ok (.invokevirtual 171, 3) := by decide +kernel
theorem dX10_serveFirst_149 : decode cX10_serveFirst 149 = .ok (.aload_n 0, 1) := by decide +kernel
theorem dX10_serveFirst_150 : decode cX10_serveFirst 150 = .ok (.iconst 0, 1) := by decide +kernel
theorem dX10_serveFirst_151 : decode cX10_serveFirst 151 = .ok (.putfield 174, 3) := by decide +kernel
theorem dX10_serveFirst_154 : decode cX10_serveFirst 154 = .ok (.return_, 1) := by decide +kernel
def fX10_serveFirst_110 (k35 : Nat → Int32 → hp_T → Option hp_T) : Nat → Nat → Int32 → Int32 → hp_T → Option hp_T
  | 0, _, _, _, _ => none
  | n + 1, a0, a1, a2, h => if (12 : Int32) ≤ a2 then (fx_let (a1 + (1 : Int32)) fun (x139 : Int32) => k35 a0 x139 h) else (fx_b2 (fX10_two a1 a2 (12 : Int32) h) fun (r126 : Int32) (h126 : hp_T) => fx_g (fx_in ((23 : Int32) + r126) 120) (fx_let (hp_sI h126 (h.2.2 a0 20) (fx_ix ((23 : Int32) + r126)) (-2 : Int32)) fun (h132 : hp_T) => fx_let (a2 + (1 : Int32)) fun (x133 : Int32) => fX10_serveFirst_110 k35 n a0 a1 x133 h132))
set_option maxRecDepth 100000 in
set_option maxHeartbeats 4000000 in
theorem bX10_serveFirst_110 {l : Launch} {G : xr_G} {K : xr_K} {h1 : hp_T} (C : xr_C G K cX10_serveFirst RX10 3 (xr_R 2 45) none (some (xr_Qv G h1))) (k35 : Nat → Int32 → hp_T → Option hp_T) (j35 : ∀ (a0 : Nat) (a1 : Int32) (ta0 : hp_sh a0 = (10, 0)) (h : hp_T), k35 a0 a1 h = some h1 → xr_j l G K 3 h [(0, .ref (G.2.2.1 a0)), (1, .int a1)] 35 []) : ∀ (n : Nat) (a0 : Nat) (a1 : Int32) (a2 : Int32) (ta0 : hp_sh a0 = (10, 0)) (h : hp_T), fX10_serveFirst_110 k35 n a0 a1 a2 h = some h1 → xr_j l G K 3 h [(0, .ref (G.2.2.1 a0)), (1, .int a1), (2, .int a2)] 110 [] := by
  intro n
  induction n with
  | zero =>
    intro a0 a1 a2 ta0 h hF
    cases hF
  | succ n ih =>
    intro a0 a1 a2 ta0 h hF
    rw [fX10_serveFirst_110] at hF
    refine xr_iload_n C 2 dX10_serveFirst_110 rfl rfl ?_
    refine xr_bipush (v := 12) C dX10_serveFirst_111 (by decide) ?_
    refine xr_icmp_ge C 139 dX10_serveFirst_113 (by decide) (fun c113 => ?_) (fun c113 => ?_)
    · have hF := fx_pos hF c113
      obtain ⟨x139, e139⟩ : ∃ y : Int32, y = (a1 + (1 : Int32)) := ⟨_, rfl⟩
      have hF := fx_letE hF x139 e139
      refine xr_iinc C x139 1 [(1, .int x139), (0, .ref (G.2.2.1 a0)), (2, .int a2)] dX10_serveFirst_139 rfl (by rw [e139]; rfl) (Nat.le_of_ble_eq_true rfl) rfl ?_
      refine xr_goto C 35 dX10_serveFirst_142 (by decide) ?_
      refine xr_sub [1, 0] [(0, .ref (G.2.2.1 a0)), (1, .int x139)] rfl ?_
      exact j35 a0 x139 ta0 h hF
    · have hF := fx_neg hF c113
      refine xr_aload_n C 0 dX10_serveFirst_116 rfl rfl ?_
      refine xr_getr C flX10_36 rfl (by decide) dX10_serveFirst_117 ta0 (fun t117 => ?_)
      refine xr_bipush (v := 23) C dX10_serveFirst_120 (by decide) ?_
      refine xr_iload_n C 1 dX10_serveFirst_122 rfl rfl ?_
      refine xr_iload_n C 2 dX10_serveFirst_123 rfl rfl ?_
      refine xr_bipush (v := 12) C dX10_serveFirst_124 (by decide) ?_
      obtain ⟨r126, h126, e126, hF⟩ := fx_b2E hF
      refine xr_callSi C mvX10_167 [.int a1, .int a2, .int (12 : Int32)] [.int (23 : Int32), .ref (G.2.2.1 (h.2.2 a0 20))] (mX10_two l G a1 a2 (12 : Int32)  h h126 r126 e126) rfl ⟨rfl, rfl, (Nat.le_of_ble_eq_true rfl), (Nat.le_of_ble_eq_true rfl)⟩ rfl (Nat.le_of_ble_eq_true rfl) dX10_serveFirst_126 ?_
      refine xr_iadd C dX10_serveFirst_129 ?_
      refine xr_bipush (v := -2) C dX10_serveFirst_130 (by decide) ?_
      obtain ⟨g132, hF⟩ := fx_gE hF
      refine xr_iast C dX10_serveFirst_132 t117 g132 (fun h132 e132 => ?_)
      have hF := fx_letE hF h132 e132
      obtain ⟨x133, e133⟩ : ∃ y : Int32, y = (a2 + (1 : Int32)) := ⟨_, rfl⟩
      have hF := fx_letE hF x133 e133
      refine xr_iinc C x133 2 [(2, .int x133), (0, .ref (G.2.2.1 a0)), (1, .int a1)] dX10_serveFirst_133 rfl (by rw [e133]; rfl) (Nat.le_of_ble_eq_true rfl) rfl ?_
      refine xr_goto C 110 dX10_serveFirst_136 (by decide) ?_
      refine xr_sub [1, 2, 0] [(0, .ref (G.2.2.1 a0)), (1, .int a1), (2, .int x133)] rfl ?_
      exact ih a0 a1 x133 ta0 h132 hF
def fX10_serveFirst_66 (k35 : Nat → Int32 → hp_T → Option hp_T) : Nat → Nat → Int32 → Int32 → hp_T → Option hp_T
  | 0, _, _, _, _ => none
  | n + 1, a0, a1, a2, h => if (6 : Int32) ≤ a2 then (fX10_serveFirst_110 k35 fx_N a0 a1 (0 : Int32) h) else (fx_b2 (fX10_two a1 a2 (6 : Int32) h) fun (r82 : Int32) (h82 : hp_T) => fx_b2 (fX10_two a1 a2 (6 : Int32) h82) fun (r96 : Int32) (h96 : hp_T) => fx_g (fx_in ((9 : Int32) + r96) 117) (fx_g (fx_in ((11 : Int32) + r82) 120) (fx_let (hp_sI h96 (h.2.2 a0 20) (fx_ix ((11 : Int32) + r82)) (h96.1 (h82.2.2 a0 3) (fx_ix ((9 : Int32) + r96)))) fun (h101 : hp_T) => fx_let (a2 + (1 : Int32)) fun (x102 : Int32) => fX10_serveFirst_66 k35 n a0 a1 x102 h101)))
set_option maxRecDepth 100000 in
set_option maxHeartbeats 4000000 in
theorem bX10_serveFirst_66 {l : Launch} {G : xr_G} {K : xr_K} {h1 : hp_T} (C : xr_C G K cX10_serveFirst RX10 3 (xr_R 2 45) none (some (xr_Qv G h1))) (k35 : Nat → Int32 → hp_T → Option hp_T) (j35 : ∀ (a0 : Nat) (a1 : Int32) (ta0 : hp_sh a0 = (10, 0)) (h : hp_T), k35 a0 a1 h = some h1 → xr_j l G K 3 h [(0, .ref (G.2.2.1 a0)), (1, .int a1)] 35 []) : ∀ (n : Nat) (a0 : Nat) (a1 : Int32) (a2 : Int32) (ta0 : hp_sh a0 = (10, 0)) (h : hp_T), fX10_serveFirst_66 k35 n a0 a1 a2 h = some h1 → xr_j l G K 3 h [(0, .ref (G.2.2.1 a0)), (1, .int a1), (2, .int a2)] 66 [] := by
  intro n
  induction n with
  | zero =>
    intro a0 a1 a2 ta0 h hF
    cases hF
  | succ n ih =>
    intro a0 a1 a2 ta0 h hF
    rw [fX10_serveFirst_66] at hF
    refine xr_iload_n C 2 dX10_serveFirst_66 rfl rfl ?_
    refine xr_bipush (v := 6) C dX10_serveFirst_67 (by decide) ?_
    refine xr_icmp_ge C 108 dX10_serveFirst_69 (by decide) (fun c69 => ?_) (fun c69 => ?_)
    · have hF := fx_pos hF c69
      refine xr_iconst (v := 0) C dX10_serveFirst_108 (by decide) ?_
      refine xr_istore_n C [(2, .int (0 : Int32)), (0, .ref (G.2.2.1 a0)), (1, .int a1)] dX10_serveFirst_109 rfl (Nat.le_of_ble_eq_true rfl) rfl ?_
      refine xr_sub [1, 2, 0] [(0, .ref (G.2.2.1 a0)), (1, .int a1), (2, .int (0 : Int32))] rfl ?_
      exact bX10_serveFirst_110 C k35 j35 fx_N a0 a1 (0 : Int32) ta0 h hF
    · have hF := fx_neg hF c69
      refine xr_aload_n C 0 dX10_serveFirst_72 rfl rfl ?_
      refine xr_getr C flX10_36 rfl (by decide) dX10_serveFirst_73 ta0 (fun t73 => ?_)
      refine xr_bipush (v := 11) C dX10_serveFirst_76 (by decide) ?_
      refine xr_iload_n C 1 dX10_serveFirst_78 rfl rfl ?_
      refine xr_iload_n C 2 dX10_serveFirst_79 rfl rfl ?_
      refine xr_bipush (v := 6) C dX10_serveFirst_80 (by decide) ?_
      obtain ⟨r82, h82, e82, hF⟩ := fx_b2E hF
      refine xr_callSi C mvX10_167 [.int a1, .int a2, .int (6 : Int32)] [.int (11 : Int32), .ref (G.2.2.1 (h.2.2 a0 20))] (mX10_two l G a1 a2 (6 : Int32)  h h82 r82 e82) rfl ⟨rfl, rfl, (Nat.le_of_ble_eq_true rfl), (Nat.le_of_ble_eq_true rfl)⟩ rfl (Nat.le_of_ble_eq_true rfl) dX10_serveFirst_82 ?_
      refine xr_iadd C dX10_serveFirst_85 ?_
      refine xr_aload_n C 0 dX10_serveFirst_86 rfl rfl ?_
      refine xr_getr C flX10_13 rfl (by decide) dX10_serveFirst_87 ta0 (fun t87 => ?_)
      refine xr_bipush (v := 9) C dX10_serveFirst_90 (by decide) ?_
      refine xr_iload_n C 1 dX10_serveFirst_92 rfl rfl ?_
      refine xr_iload_n C 2 dX10_serveFirst_93 rfl rfl ?_
      refine xr_bipush (v := 6) C dX10_serveFirst_94 (by decide) ?_
      obtain ⟨r96, h96, e96, hF⟩ := fx_b2E hF
      refine xr_callSi C mvX10_167 [.int a1, .int a2, .int (6 : Int32)] [.int (9 : Int32), .ref (G.2.2.1 (h82.2.2 a0 3)), .int ((11 : Int32) + r82), .ref (G.2.2.1 (h.2.2 a0 20))] (mX10_two l G a1 a2 (6 : Int32)  h82 h96 r96 e96) rfl ⟨rfl, rfl, (Nat.le_of_ble_eq_true rfl), (Nat.le_of_ble_eq_true rfl)⟩ rfl (Nat.le_of_ble_eq_true rfl) dX10_serveFirst_96 ?_
      refine xr_iadd C dX10_serveFirst_99 ?_
      obtain ⟨g100, hF⟩ := fx_gE hF
      refine xr_iald C dX10_serveFirst_100 t87 g100 ?_
      obtain ⟨g101, hF⟩ := fx_gE hF
      refine xr_iast C dX10_serveFirst_101 t73 g101 (fun h101 e101 => ?_)
      have hF := fx_letE hF h101 e101
      obtain ⟨x102, e102⟩ : ∃ y : Int32, y = (a2 + (1 : Int32)) := ⟨_, rfl⟩
      have hF := fx_letE hF x102 e102
      refine xr_iinc C x102 2 [(2, .int x102), (0, .ref (G.2.2.1 a0)), (1, .int a1)] dX10_serveFirst_102 rfl (by rw [e102]; rfl) (Nat.le_of_ble_eq_true rfl) rfl ?_
      refine xr_goto C 66 dX10_serveFirst_105 (by decide) ?_
      refine xr_sub [1, 2, 0] [(0, .ref (G.2.2.1 a0)), (1, .int a1), (2, .int x102)] rfl ?_
      exact ih a0 a1 x102 ta0 h101 hF
def fX10_serveFirst_35  : Nat → Nat → Int32 → hp_T → Option hp_T
  | 0, _, _, _ => none
  | n + 1, a0, a1, h => if (2 : Int32) ≤ a1 then (fx_b1 (fX10_stands0 a0 h) fun (h146 : hp_T) => fx_let (hp_sI h146 a0 22 (0 : Int32)) fun (h151 : hp_T) => some h151) else (fx_g (fx_in ((5 : Int32) + a1) 120) (fx_let (hp_sI h (h.2.2 a0 20) (fx_ix ((5 : Int32) + a1)) (h.1 (h.2.2 a0 3) (fx_ix (1 : Int32)))) fun (h53 : hp_T) => fx_g (fx_in ((7 : Int32) + a1) 120) (fx_let (hp_sI h53 (h53.2.2 a0 20) (fx_ix ((7 : Int32) + a1)) (-1 : Int32)) fun (h63 : hp_T) => fX10_serveFirst_66 (fX10_serveFirst_35 n) fx_N a0 a1 (0 : Int32) h63)))
set_option maxRecDepth 100000 in
set_option maxHeartbeats 4000000 in
theorem bX10_serveFirst_35 {l : Launch} {G : xr_G} {K : xr_K} {h1 : hp_T} (C : xr_C G K cX10_serveFirst RX10 3 (xr_R 2 45) none (some (xr_Qv G h1)))  : ∀ (n : Nat) (a0 : Nat) (a1 : Int32) (ta0 : hp_sh a0 = (10, 0)) (h : hp_T), fX10_serveFirst_35 n a0 a1 h = some h1 → xr_j l G K 3 h [(0, .ref (G.2.2.1 a0)), (1, .int a1)] 35 [] := by
  intro n
  induction n with
  | zero =>
    intro a0 a1 ta0 h hF
    cases hF
  | succ n ih =>
    intro a0 a1 ta0 h hF
    rw [fX10_serveFirst_35] at hF
    refine xr_iload_n C 1 dX10_serveFirst_35 rfl rfl ?_
    refine xr_iconst (v := 2) C dX10_serveFirst_36 (by decide) ?_
    refine xr_icmp_ge C 145 dX10_serveFirst_37 (by decide) (fun c37 => ?_) (fun c37 => ?_)
    · have hF := fx_pos hF c37
      refine xr_aload_n C 0 dX10_serveFirst_145 rfl rfl ?_
      obtain ⟨h146, e146, hF⟩ := fx_b1E hF
      refine xr_callVv C mvX10_171 [] [] (mX10_stands0 l G a0 ta0 h h146 e146) ta0 (by decide) vc10 rfl ⟨rfl, rfl, (Nat.le_of_ble_eq_true rfl), (Nat.le_of_ble_eq_true rfl)⟩ rfl (Nat.le_of_ble_eq_true rfl) dX10_serveFirst_146 ?_
      refine xr_aload_n C 0 dX10_serveFirst_149 rfl rfl ?_
      refine xr_iconst (v := 0) C dX10_serveFirst_150 (by decide) ?_
      refine xr_puti C fpX10_174 rfl rfl rfl dX10_serveFirst_151 ta0 (fun h151 e151 => ?_)
      have hF := fx_letE hF h151 e151
      cases hF
      exact xr_vret C dX10_serveFirst_154
    · have hF := fx_neg hF c37
      refine xr_aload_n C 0 dX10_serveFirst_40 rfl rfl ?_
      refine xr_getr C flX10_36 rfl (by decide) dX10_serveFirst_41 ta0 (fun t41 => ?_)
      refine xr_iconst (v := 5) C dX10_serveFirst_44 (by decide) ?_
      refine xr_iload_n C 1 dX10_serveFirst_45 rfl rfl ?_
      refine xr_iadd C dX10_serveFirst_46 ?_
      refine xr_aload_n C 0 dX10_serveFirst_47 rfl rfl ?_
      refine xr_getr C flX10_13 rfl (by decide) dX10_serveFirst_48 ta0 (fun t48 => ?_)
      refine xr_iconst (v := 1) C dX10_serveFirst_51 (by decide) ?_
      refine xr_iald C dX10_serveFirst_52 t48 (by decide) ?_
      obtain ⟨g53, hF⟩ := fx_gE hF
      refine xr_iast C dX10_serveFirst_53 t41 g53 (fun h53 e53 => ?_)
      have hF := fx_letE hF h53 e53
      refine xr_aload_n C 0 dX10_serveFirst_54 rfl rfl ?_
      refine xr_getr C flX10_36 rfl (by decide) dX10_serveFirst_55 ta0 (fun t55 => ?_)
      refine xr_bipush (v := 7) C dX10_serveFirst_58 (by decide) ?_
      refine xr_iload_n C 1 dX10_serveFirst_60 rfl rfl ?_
      refine xr_iadd C dX10_serveFirst_61 ?_
      refine xr_iconst (v := -1) C dX10_serveFirst_62 (by decide) ?_
      obtain ⟨g63, hF⟩ := fx_gE hF
      refine xr_iast C dX10_serveFirst_63 t55 g63 (fun h63 e63 => ?_)
      have hF := fx_letE hF h63 e63
      refine xr_iconst (v := 0) C dX10_serveFirst_64 (by decide) ?_
      refine xr_istore_n C [(2, .int (0 : Int32)), (0, .ref (G.2.2.1 a0)), (1, .int a1)] dX10_serveFirst_65 rfl (Nat.le_of_ble_eq_true rfl) rfl ?_
      refine xr_sub [1, 2, 0] [(0, .ref (G.2.2.1 a0)), (1, .int a1), (2, .int (0 : Int32))] rfl ?_
      exact bX10_serveFirst_66 C (fX10_serveFirst_35 n) (fun a0 a1 ta0 h hF => ih a0 a1 ta0 h hF) fx_N a0 a1 (0 : Int32) ta0 h63 hF
def fX10_serveFirst_2  : Nat → Nat → Int32 → hp_T → Option hp_T
  | 0, _, _, _ => none
  | n + 1, a0, a1, h => if (120 : Int32) ≤ a1 then (fx_let (hp_sI h (h.2.2 a0 20) (fx_ix (2 : Int32)) (h.1 (h.2.2 a0 3) (fx_ix (3 : Int32)))) fun (h32 : hp_T) => fX10_serveFirst_35 fx_N a0 (0 : Int32) h32) else (fx_g (fx_in a1 120) (fx_let (hp_sI h (h.2.2 a0 20) (fx_ix a1) (0 : Int32)) fun (h14 : hp_T) => fx_let (a1 + (1 : Int32)) fun (x15 : Int32) => fX10_serveFirst_2 n a0 x15 h14))
set_option maxRecDepth 100000 in
set_option maxHeartbeats 4000000 in
theorem bX10_serveFirst_2 {l : Launch} {G : xr_G} {K : xr_K} {h1 : hp_T} (C : xr_C G K cX10_serveFirst RX10 3 (xr_R 2 45) none (some (xr_Qv G h1)))  : ∀ (n : Nat) (a0 : Nat) (a1 : Int32) (ta0 : hp_sh a0 = (10, 0)) (h : hp_T), fX10_serveFirst_2 n a0 a1 h = some h1 → xr_j l G K 3 h [(0, .ref (G.2.2.1 a0)), (1, .int a1)] 2 [] := by
  intro n
  induction n with
  | zero =>
    intro a0 a1 ta0 h hF
    cases hF
  | succ n ih =>
    intro a0 a1 ta0 h hF
    rw [fX10_serveFirst_2] at hF
    refine xr_iload_n C 1 dX10_serveFirst_2 rfl rfl ?_
    refine xr_bipush (v := 120) C dX10_serveFirst_3 (by decide) ?_
    refine xr_icmp_ge C 21 dX10_serveFirst_5 (by decide) (fun c5 => ?_) (fun c5 => ?_)
    · have hF := fx_pos hF c5
      refine xr_aload_n C 0 dX10_serveFirst_21 rfl rfl ?_
      refine xr_getr C flX10_36 rfl (by decide) dX10_serveFirst_22 ta0 (fun t22 => ?_)
      refine xr_iconst (v := 2) C dX10_serveFirst_25 (by decide) ?_
      refine xr_aload_n C 0 dX10_serveFirst_26 rfl rfl ?_
      refine xr_getr C flX10_13 rfl (by decide) dX10_serveFirst_27 ta0 (fun t27 => ?_)
      refine xr_iconst (v := 3) C dX10_serveFirst_30 (by decide) ?_
      refine xr_iald C dX10_serveFirst_31 t27 (by decide) ?_
      refine xr_iast C dX10_serveFirst_32 t22 (by decide) (fun h32 e32 => ?_)
      have hF := fx_letE hF h32 e32
      refine xr_iconst (v := 0) C dX10_serveFirst_33 (by decide) ?_
      refine xr_istore_n C [(1, .int (0 : Int32)), (0, .ref (G.2.2.1 a0))] dX10_serveFirst_34 rfl (Nat.le_of_ble_eq_true rfl) rfl ?_
      refine xr_sub [1, 0] [(0, .ref (G.2.2.1 a0)), (1, .int (0 : Int32))] rfl ?_
      exact bX10_serveFirst_35 C  fx_N a0 (0 : Int32) ta0 h32 hF
    · have hF := fx_neg hF c5
      refine xr_aload_n C 0 dX10_serveFirst_8 rfl rfl ?_
      refine xr_getr C flX10_36 rfl (by decide) dX10_serveFirst_9 ta0 (fun t9 => ?_)
      refine xr_iload_n C 1 dX10_serveFirst_12 rfl rfl ?_
      refine xr_iconst (v := 0) C dX10_serveFirst_13 (by decide) ?_
      obtain ⟨g14, hF⟩ := fx_gE hF
      refine xr_iast C dX10_serveFirst_14 t9 g14 (fun h14 e14 => ?_)
      have hF := fx_letE hF h14 e14
      obtain ⟨x15, e15⟩ : ∃ y : Int32, y = (a1 + (1 : Int32)) := ⟨_, rfl⟩
      have hF := fx_letE hF x15 e15
      refine xr_iinc C x15 1 [(1, .int x15), (0, .ref (G.2.2.1 a0))] dX10_serveFirst_15 rfl (by rw [e15]; rfl) (Nat.le_of_ble_eq_true rfl) rfl ?_
      refine xr_goto C 2 dX10_serveFirst_18 (by decide) ?_
      refine xr_sub [1, 0] [(0, .ref (G.2.2.1 a0)), (1, .int x15)] rfl ?_
      exact ih a0 x15 ta0 h14 hF
def fX10_serveFirst (a0 : Nat) (h : hp_T) : Option hp_T := fX10_serveFirst_2 fx_N a0 (0 : Int32) h
set_option maxRecDepth 100000 in
set_option maxHeartbeats 4000000 in
theorem mX10_serveFirst (l : Launch) (G : xr_G) (a0 : Nat) (ta0 : hp_sh a0 = (10, 0)) (h h1 : hp_T) (hF : fX10_serveFirst a0 h = some h1) : xr_M l G yX10_serveFirst cX10_serveFirst 3 (xr_R 2 45) none [.ref (G.2.2.1 a0)] h (xr_Qv G h1) := by
  refine xr_start rfl (Nat.le_of_ble_eq_true rfl) (fun K C => ?_)
  show xr_j l G K 3 h [(0, .ref (G.2.2.1 a0))] 0 []
  unfold fX10_serveFirst at hF
  refine xr_iconst (v := 0) C dX10_serveFirst_0 (by decide) ?_
  refine xr_istore_n C [(1, .int (0 : Int32)), (0, .ref (G.2.2.1 a0))] dX10_serveFirst_1 rfl (Nat.le_of_ble_eq_true rfl) rfl ?_
  refine xr_sub [1, 0] [(0, .ref (G.2.2.1 a0)), (1, .int (0 : Int32))] rfl ?_
  exact bX10_serveFirst_2 C  fx_N a0 (0 : Int32) ta0 h hF
theorem dX10_fault_0 : decode cX10_fault 0 = .ok (.aload_n 0, 1) := by decide +kernel
theorem dX10_fault_1 : decode cX10_fault 1 = .ok (.iconst 0, 1) := by decide +kernel
theorem dX10_fault_2 : decode cX10_fault 2 = .ok (.putfield 63, 3) := by decide +kernel
theorem dX10_fault_5 : decode cX10_fault 5 = .ok (.iload_n 1, 1) := by decide +kernel
theorem dX10_fault_6 : decode cX10_fault 6 = .ok (.ifCond .ne 10, 3) := by decide +kernel
theorem dX10_fault_9 : decode cX10_fault 9 = .ok (.aload_n 0, 1) := by decide +kernel
theorem dX10_fault_10 : decode cX10_fault 10 = .ok (.getfield 161, 3) := by decide +kernel
theorem dX10_fault_13 : decode cX10_fault 13 = .ok (.goto 16, 3) := by decide +kernel
theorem dX10_fault_16 : decode cX10_fault 16 = .ok (.iload_n 1, 1) := by decide +kernel
theorem dX10_fault_17 : decode cX10_fault 17 = .ok (.iconst 1, 1) := by decide +kernel
theorem dX10_fault_18 : decode cX10_fault 18 = .ok (.if_icmp .ne 10, 3) := by decide +kernel
theorem dX10_fault_21 : decode cX10_fault 21 = .ok (.aload_n 0, 1) := by decide +kernel
theorem dX10_fault_22 : decode cX10_fault 22 = .ok (.getfield 25, 3) := by decide +kernel
theorem dX10_fault_25 : decode cX10_fault 25 = .ok (.goto 4, 3) := by decide +kernel
theorem dX10_fault_28 : decode cX10_fault 28 = .ok (.iconst (-1), 1) := by decide +kernel
theorem dX10_fault_29 : decode cX10_fault 29 = .ok (.ireturn, 1) := by decide +kernel
def fX10_fault (a0 : Nat) (a1 : Int32) (h : hp_T) : Option (Int32 × hp_T) := fx_let (hp_sI h a0 0 (0 : Int32)) fun (h2 : hp_T) => if a1 = 0 then (some ((h2.1 a0 16), h2)) else (if a1 = (1 : Int32) then (some ((h2.1 a0 17), h2)) else (some ((-1 : Int32), h2)))
set_option maxRecDepth 100000 in
set_option maxHeartbeats 4000000 in
theorem mX10_fault (l : Launch) (G : xr_G) (a0 : Nat) (a1 : Int32) (ta0 : hp_sh a0 = (10, 0)) (h h1 : hp_T) (r : Int32) (hF : fX10_fault a0 a1 h = some (r, h1)) : xr_M l G yX10_fault cX10_fault 2 (xr_R 0 0) (some .int) [.ref (G.2.2.1 a0), .int a1] h (xr_Qi G r h1) := by
  refine xr_start rfl (Nat.le_of_ble_eq_true rfl) (fun K C => ?_)
  show xr_j l G K 2 h [(0, .ref (G.2.2.1 a0)), (1, .int a1)] 0 []
  unfold fX10_fault at hF
  refine xr_aload_n C 0 dX10_fault_0 rfl rfl ?_
  refine xr_iconst (v := 0) C dX10_fault_1 (by decide) ?_
  refine xr_puti C fpX10_63 rfl rfl rfl dX10_fault_2 ta0 (fun h2 e2 => ?_)
  have hF := fx_letE hF h2 e2
  refine xr_iload_n C 1 dX10_fault_5 rfl rfl ?_
  refine xr_if_ne C 16 dX10_fault_6 (by decide) (fun c6 => ?_) (fun c6 => ?_)
  · have hF := fx_neg hF c6
    refine xr_iload_n C 1 dX10_fault_16 rfl rfl ?_
    refine xr_iconst (v := 1) C dX10_fault_17 (by decide) ?_
    refine xr_icmp_ne C 28 dX10_fault_18 (by decide) (fun c18 => ?_) (fun c18 => ?_)
    · have hF := fx_neg hF c18
      refine xr_iconst (v := -1) C dX10_fault_28 (by decide) ?_
      cases hF
      exact xr_iret C dX10_fault_29
    · have hF := fx_pos hF c18
      refine xr_aload_n C 0 dX10_fault_21 rfl rfl ?_
      refine xr_geti C flX10_25 rfl dX10_fault_22 ta0 ?_
      refine xr_goto C 29 dX10_fault_25 (by decide) ?_
      cases hF
      exact xr_iret C dX10_fault_29
  · have hF := fx_pos hF c6
    refine xr_aload_n C 0 dX10_fault_9 rfl rfl ?_
    refine xr_geti C flX10_161 rfl dX10_fault_10 ta0 ?_
    refine xr_goto C 29 dX10_fault_13 (by decide) ?_
    cases hF
    exact xr_iret C dX10_fault_29
theorem dX10_isRear_0 : decode cX10_isRear 0 = .ok (.iload_n 0, 1) := by decide +kernel
theorem dX10_isRear_1 : decode cX10_isRear 1 = .ok (.iconst 1, 1) := by decide +kernel
theorem dX10_isRear_2 : decode cX10_isRear 2 = .ok (.if_icmp .eq 14, 3) := by decide +kernel
theorem dX10_isRear_5 : decode cX10_isRear 5 = .ok (.iload_n 0, 1) := by decide +kernel
theorem dX10_isRear_6 : decode cX10_isRear 6 = .ok (.iconst 5, 1) := by decide +kernel
theorem dX10_isRear_7 : decode cX10_isRear 7 = .ok (.if_icmp .eq 9, 3) := by decide +kernel
theorem dX10_isRear_10 : decode cX10_isRear 10 = .ok (.iload_n 0, 1) := by decide +kernel
theorem dX10_isRear_11 : decode cX10_isRear 11 = .ok (.bipush 6, 2) := by decide +kernel
theorem dX10_isRear_13 : decode cX10_isRear 13 = .ok (.if_icmp .ne 7, 3) := by decide +kernel
theorem dX10_isRear_16 : decode cX10_isRear 16 = .ok (.iconst 1, 1) := by decide +kernel
theorem dX10_isRear_17 : decode cX10_isRear 17 = .ok (.goto 4, 3) := by decide +kernel
theorem dX10_isRear_20 : decode cX10_isRear 20 = .ok (.iconst 0, 1) := by decide +kernel
theorem dX10_isRear_21 : decode cX10_isRear 21 = .ok (.ireturn, 1) := by decide +kernel
def fX10_isRear (a0 : Int32) (h : hp_T) : Option (Int32 × hp_T) := if a0 = (1 : Int32) then (some ((1 : Int32), h)) else (if a0 = (5 : Int32) then (some ((1 : Int32), h)) else (if a0 = (6 : Int32) then (some ((1 : Int32), h)) else (some ((0 : Int32), h))))
set_option maxRecDepth 100000 in
set_option maxHeartbeats 4000000 in
theorem mX10_isRear (l : Launch) (G : xr_G) (a0 : Int32)  (h h1 : hp_T) (r : Int32) (hF : fX10_isRear a0 h = some (r, h1)) : xr_M l G yX10_isRear cX10_isRear 1 (xr_R 0 0) (some .boolean) [.int a0] h (xr_Qi G r h1) := by
  refine xr_start rfl (Nat.le_of_ble_eq_true rfl) (fun K C => ?_)
  show xr_j l G K 1 h [(0, .int a0)] 0 []
  unfold fX10_isRear at hF
  refine xr_iload_n C 0 dX10_isRear_0 rfl rfl ?_
  refine xr_iconst (v := 1) C dX10_isRear_1 (by decide) ?_
  refine xr_icmp_eq C 16 dX10_isRear_2 (by decide) (fun c2 => ?_) (fun c2 => ?_)
  · have hF := fx_pos hF c2
    refine xr_iconst (v := 1) C dX10_isRear_16 (by decide) ?_
    refine xr_goto C 21 dX10_isRear_17 (by decide) ?_
    cases hF
    exact xr_zret C rfl dX10_isRear_21
  · have hF := fx_neg hF c2
    refine xr_iload_n C 0 dX10_isRear_5 rfl rfl ?_
    refine xr_iconst (v := 5) C dX10_isRear_6 (by decide) ?_
    refine xr_icmp_eq C 16 dX10_isRear_7 (by decide) (fun c7 => ?_) (fun c7 => ?_)
    · have hF := fx_pos hF c7
      refine xr_iconst (v := 1) C dX10_isRear_16 (by decide) ?_
      refine xr_goto C 21 dX10_isRear_17 (by decide) ?_
      cases hF
      exact xr_zret C rfl dX10_isRear_21
    · have hF := fx_neg hF c7
      refine xr_iload_n C 0 dX10_isRear_10 rfl rfl ?_
      refine xr_bipush (v := 6) C dX10_isRear_11 (by decide) ?_
      refine xr_icmp_ne C 20 dX10_isRear_13 (by decide) (fun c13 => ?_) (fun c13 => ?_)
      · have hF := fx_neg hF c13
        refine xr_iconst (v := 0) C dX10_isRear_20 (by decide) ?_
        cases hF
        exact xr_zret C rfl dX10_isRear_21
      · have hF := fx_pos hF c13
        refine xr_iconst (v := 1) C dX10_isRear_16 (by decide) ?_
        refine xr_goto C 21 dX10_isRear_17 (by decide) ?_
        cases hF
        exact xr_zret C rfl dX10_isRear_21
theorem dX10_isSide_0 : decode cX10_isSide 0 = .ok (.aload_n 0, 1) := by decide +kernel
theorem dX10_isSide_1 : decode cX10_isSide 1 = .ok (.getfield 59, 3) := by decide +kernel
theorem dX10_isSide_4 : decode cX10_isSide 4 = .ok (.ifCond .eq 16, 3) := by decide +kernel
theorem dX10_isSide_7 : decode cX10_isSide 7 = .ok (.iload_n 1, 1) := by decide +kernel
theorem dX10_isSide_8 : decode cX10_isSide 8 = .ok (.ifCond .eq 8, 3) := by decide +kernel
theorem dX10_isSide_11 : decode cX10_isSide 11 = .ok (.iload_n 1, 1) := by decide +kernel
theorem dX10_isSide_12 : decode cX10_isSide 12 = .ok (.iconst 1, 1) := by decide +kernel
theorem dX10_isSide_13 : decode cX10_isSide 13 = .ok (.if_icmp .ne 7, 3) := by decide +kernel
theorem dX10_isSide_16 : decode cX10_isSide 16 = .ok (.iconst 1, 1) := by decide +kernel
theorem dX10_isSide_17 : decode cX10_isSide 17 = .ok (.goto 4, 3) := by decide +kernel
theorem dX10_isSide_20 : decode cX10_isSide 20 = .ok (.iconst 0, 1) := by decide +kernel
theorem dX10_isSide_21 : decode cX10_isSide 21 = .ok (.ireturn, 1) := by decide +kernel
def fX10_isSide (a0 : Nat) (a1 : Int32) (h : hp_T) : Option (Int32 × hp_T) := if (h.1 a0 7) = 0 then (some ((0 : Int32), h)) else (if a1 = 0 then (some ((1 : Int32), h)) else (if a1 = (1 : Int32) then (some ((1 : Int32), h)) else (some ((0 : Int32), h))))
set_option maxRecDepth 100000 in
set_option maxHeartbeats 4000000 in
theorem mX10_isSide (l : Launch) (G : xr_G) (a0 : Nat) (a1 : Int32) (ta0 : hp_sh a0 = (10, 0)) (h h1 : hp_T) (r : Int32) (hF : fX10_isSide a0 a1 h = some (r, h1)) : xr_M l G yX10_isSide cX10_isSide 2 (xr_R 0 0) (some .boolean) [.ref (G.2.2.1 a0), .int a1] h (xr_Qi G r h1) := by
  refine xr_start rfl (Nat.le_of_ble_eq_true rfl) (fun K C => ?_)
  show xr_j l G K 2 h [(0, .ref (G.2.2.1 a0)), (1, .int a1)] 0 []
  unfold fX10_isSide at hF
  refine xr_aload_n C 0 dX10_isSide_0 rfl rfl ?_
  refine xr_geti C flX10_59 rfl dX10_isSide_1 ta0 ?_
  refine xr_if_eq C 20 dX10_isSide_4 (by decide) (fun c4 => ?_) (fun c4 => ?_)
  · have hF := fx_pos hF c4
    refine xr_iconst (v := 0) C dX10_isSide_20 (by decide) ?_
    cases hF
    exact xr_zret C rfl dX10_isSide_21
  · have hF := fx_neg hF c4
    refine xr_iload_n C 1 dX10_isSide_7 rfl rfl ?_
    refine xr_if_eq C 16 dX10_isSide_8 (by decide) (fun c8 => ?_) (fun c8 => ?_)
    · have hF := fx_pos hF c8
      refine xr_iconst (v := 1) C dX10_isSide_16 (by decide) ?_
      refine xr_goto C 21 dX10_isSide_17 (by decide) ?_
      cases hF
      exact xr_zret C rfl dX10_isSide_21
    · have hF := fx_neg hF c8
      refine xr_iload_n C 1 dX10_isSide_11 rfl rfl ?_
      refine xr_iconst (v := 1) C dX10_isSide_12 (by decide) ?_
      refine xr_icmp_ne C 20 dX10_isSide_13 (by decide) (fun c13 => ?_) (fun c13 => ?_)
      · have hF := fx_neg hF c13
        refine xr_iconst (v := 0) C dX10_isSide_20 (by decide) ?_
        cases hF
        exact xr_zret C rfl dX10_isSide_21
      · have hF := fx_pos hF c13
        refine xr_iconst (v := 1) C dX10_isSide_16 (by decide) ?_
        refine xr_goto C 21 dX10_isSide_17 (by decide) ?_
        cases hF
        exact xr_zret C rfl dX10_isSide_21
theorem dX10_isPlayer_0 : decode cX10_isPlayer 0 = .ok (.aload_n 0, 1) := by decide +kernel
theorem dX10_isPlayer_1 : decode cX10_isPlayer 1 = .ok (.iload_n 1, 1) := by decide +kernel
theorem dX10_isPlayer_2 : decode cX10_isPlayer 2 = .ok (.invokevirtual 180, 3) := by decide +kernel
theorem dX10_isPlayer_5 : decode cX10_isPlayer 5 = .ok (.ifCond .eq 23, 3) := by decide +kernel
theorem dX10_isPlayer_8 : decode cX10_isPlayer 8 = .ok (.iload_n 2, 1) := by decide +kernel
theorem dX10_isPlayer_9 : decode cX10_isPlayer 9 = .ok (.ifCond .lt 19, 3) := by decide +kernel
theorem dX10_isPlayer_12 : decode cX10_isPlayer 12 = .ok (.iload_n 2, 1) := by decide +kernel
theorem dX10_isPlayer_13 : decode cX10_isPlayer 13 = .ok (.aload_n 0, 1) := by decide +kernel
theorem dX10_isPlayer_14 : decode cX10_isPlayer 14 = .ok (.getfield 13, 3) := by decide +kernel
theorem dX10_isPlayer_17 : decode cX10_isPlayer 17 = .ok (.iconst 5, 1) := by decide +kernel
theorem dX10_isPlayer_18 : decode cX10_isPlayer 18 = .ok (.iload_n 1, 1) := by decide +kernel
theorem dX10_isPlayer_19 : decode cX10_isPlayer 19 = .ok (.iadd, 1) := by decide +kernel
theorem dX10_isPlayer_20 : decode cX10_isPlayer 20 = .ok (.iaload, 1) := by decide +kernel
theorem dX10_isPlayer_21 : decode cX10_isPlayer 21 = .ok (.if_icmp .ge 7, 3) := by decide +kernel
theorem dX10_isPlayer_24 : decode cX10_isPlayer 24 = .ok (.iconst 1, 1) := by decide +kernel
theorem dX10_isPlayer_25 : decode cX10_isPlayer 25 = .ok (.goto 4, 3) := by decide +kernel
theorem dX10_isPlayer_28 : decode cX10_isPlayer 28 = .ok (.iconst 0, 1) := by decide +kernel
theorem dX10_isPlayer_29 : decode cX10_isPlayer 29 = .ok (.ireturn, 1) := by decide +kernel
def fX10_isPlayer (a0 : Nat) (a1 : Int32) (a2 : Int32) (h : hp_T) : Option (Int32 × hp_T) := fx_b2 (fX10_isSide a0 a1 h) fun (r2 : Int32) (h2 : hp_T) => if r2 = 0 then (some ((0 : Int32), h2)) else (if a2 < 0 then (some ((0 : Int32), h2)) else (fx_g (fx_in ((5 : Int32) + a1) 117) (if (h2.1 (h2.2.2 a0 3) (fx_ix ((5 : Int32) + a1))) ≤ a2 then (some ((0 : Int32), h2)) else (some ((1 : Int32), h2)))))
set_option maxRecDepth 100000 in
set_option maxHeartbeats 4000000 in
theorem mX10_isPlayer (l : Launch) (G : xr_G) (a0 : Nat) (a1 : Int32) (a2 : Int32) (ta0 : hp_sh a0 = (10, 0)) (h h1 : hp_T) (r : Int32) (hF : fX10_isPlayer a0 a1 a2 h = some (r, h1)) : xr_M l G yX10_isPlayer cX10_isPlayer 3 (xr_R 1 21) (some .boolean) [.ref (G.2.2.1 a0), .int a1, .int a2] h (xr_Qi G r h1) := by
  refine xr_start rfl (Nat.le_of_ble_eq_true rfl) (fun K C => ?_)
  show xr_j l G K 3 h [(0, .ref (G.2.2.1 a0)), (1, .int a1), (2, .int a2)] 0 []
  unfold fX10_isPlayer at hF
  refine xr_aload_n C 0 dX10_isPlayer_0 rfl rfl ?_
  refine xr_iload_n C 1 dX10_isPlayer_1 rfl rfl ?_
  obtain ⟨r2, h2, e2, hF⟩ := fx_b2E hF
  refine xr_callVi C mvX10_180 [.int a1] [] (mX10_isSide l G a0 a1 ta0 h h2 r2 e2) ta0 (by decide) vc10 rfl ⟨rfl, rfl, (Nat.le_of_ble_eq_true rfl), (Nat.le_of_ble_eq_true rfl)⟩ rfl (Nat.le_of_ble_eq_true rfl) dX10_isPlayer_2 ?_
  refine xr_if_eq C 28 dX10_isPlayer_5 (by decide) (fun c5 => ?_) (fun c5 => ?_)
  · have hF := fx_pos hF c5
    refine xr_iconst (v := 0) C dX10_isPlayer_28 (by decide) ?_
    cases hF
    exact xr_zret C rfl dX10_isPlayer_29
  · have hF := fx_neg hF c5
    refine xr_iload_n C 2 dX10_isPlayer_8 rfl rfl ?_
    refine xr_if_lt C 28 dX10_isPlayer_9 (by decide) (fun c9 => ?_) (fun c9 => ?_)
    · have hF := fx_pos hF c9
      refine xr_iconst (v := 0) C dX10_isPlayer_28 (by decide) ?_
      cases hF
      exact xr_zret C rfl dX10_isPlayer_29
    · have hF := fx_neg hF c9
      refine xr_iload_n C 2 dX10_isPlayer_12 rfl rfl ?_
      refine xr_aload_n C 0 dX10_isPlayer_13 rfl rfl ?_
      refine xr_getr C flX10_13 rfl (by decide) dX10_isPlayer_14 ta0 (fun t14 => ?_)
      refine xr_iconst (v := 5) C dX10_isPlayer_17 (by decide) ?_
      refine xr_iload_n C 1 dX10_isPlayer_18 rfl rfl ?_
      refine xr_iadd C dX10_isPlayer_19 ?_
      obtain ⟨g20, hF⟩ := fx_gE hF
      refine xr_iald C dX10_isPlayer_20 t14 g20 ?_
      refine xr_icmp_ge C 28 dX10_isPlayer_21 (by decide) (fun c21 => ?_) (fun c21 => ?_)
      · have hF := fx_pos hF c21
        refine xr_iconst (v := 0) C dX10_isPlayer_28 (by decide) ?_
        cases hF
        exact xr_zret C rfl dX10_isPlayer_29
      · have hF := fx_neg hF c21
        refine xr_iconst (v := 1) C dX10_isPlayer_24 (by decide) ?_
        refine xr_goto C 29 dX10_isPlayer_25 (by decide) ?_
        cases hF
        exact xr_zret C rfl dX10_isPlayer_29
theorem dX10_isSpot_0 : decode cX10_isSpot 0 = .ok (.iload_n 0, 1) := by decide +kernel
theorem dX10_isSpot_1 : decode cX10_isSpot 1 = .ok (.iconst 1, 1) := by decide +kernel
theorem dX10_isSpot_2 : decode cX10_isSpot 2 = .ok (.if_icmp .lt 13, 3) := by decide +kernel
theorem dX10_isSpot_5 : decode cX10_isSpot 5 = .ok (.iload_n 0, 1) := by decide +kernel
theorem dX10_isSpot_6 : decode cX10_isSpot 6 = .ok (.bipush 6, 2) := by decide +kernel
theorem dX10_isSpot_8 : decode cX10_isSpot 8 = .ok (.if_icmp .gt 7, 3) := by decide +kernel
theorem dX10_isSpot_11 : decode cX10_isSpot 11 = .ok (.iconst 1, 1) := by decide +kernel
theorem dX10_isSpot_12 : decode cX10_isSpot 12 = .ok (.goto 4, 3) := by decide +kernel
theorem dX10_isSpot_15 : decode cX10_isSpot 15 = .ok (.iconst 0, 1) := by decide +kernel
theorem dX10_isSpot_16 : decode cX10_isSpot 16 = .ok (.ireturn, 1) := by decide +kernel
def fX10_isSpot (a0 : Int32) (h : hp_T) : Option (Int32 × hp_T) := if a0 < (1 : Int32) then (some ((0 : Int32), h)) else (if (6 : Int32) < a0 then (some ((0 : Int32), h)) else (some ((1 : Int32), h)))
set_option maxRecDepth 100000 in
set_option maxHeartbeats 4000000 in
theorem mX10_isSpot (l : Launch) (G : xr_G) (a0 : Int32)  (h h1 : hp_T) (r : Int32) (hF : fX10_isSpot a0 h = some (r, h1)) : xr_M l G yX10_isSpot cX10_isSpot 1 (xr_R 0 0) (some .boolean) [.int a0] h (xr_Qi G r h1) := by
  refine xr_start rfl (Nat.le_of_ble_eq_true rfl) (fun K C => ?_)
  show xr_j l G K 1 h [(0, .int a0)] 0 []
  unfold fX10_isSpot at hF
  refine xr_iload_n C 0 dX10_isSpot_0 rfl rfl ?_
  refine xr_iconst (v := 1) C dX10_isSpot_1 (by decide) ?_
  refine xr_icmp_lt C 15 dX10_isSpot_2 (by decide) (fun c2 => ?_) (fun c2 => ?_)
  · have hF := fx_pos hF c2
    refine xr_iconst (v := 0) C dX10_isSpot_15 (by decide) ?_
    cases hF
    exact xr_zret C rfl dX10_isSpot_16
  · have hF := fx_neg hF c2
    refine xr_iload_n C 0 dX10_isSpot_5 rfl rfl ?_
    refine xr_bipush (v := 6) C dX10_isSpot_6 (by decide) ?_
    refine xr_icmp_gt C 15 dX10_isSpot_8 (by decide) (fun c8 => ?_) (fun c8 => ?_)
    · have hF := fx_pos hF c8
      refine xr_iconst (v := 0) C dX10_isSpot_15 (by decide) ?_
      cases hF
      exact xr_zret C rfl dX10_isSpot_16
    · have hF := fx_neg hF c8
      refine xr_iconst (v := 1) C dX10_isSpot_11 (by decide) ?_
      refine xr_goto C 16 dX10_isSpot_12 (by decide) ?_
      cases hF
      exact xr_zret C rfl dX10_isSpot_16
theorem dX10_isOver_0 : decode cX10_isOver 0 = .ok (.aload_n 0, 1) := by decide +kernel
theorem dX10_isOver_1 : decode cX10_isOver 1 = .ok (.getfield 36, 3) := by decide +kernel
theorem dX10_isOver_4 : decode cX10_isOver 4 = .ok (.iconst 0, 1) := by decide +kernel
theorem dX10_isOver_5 : decode cX10_isOver 5 = .ok (.iaload, 1) := by decide +kernel
theorem dX10_isOver_6 : decode cX10_isOver 6 = .ok (.aload_n 0, 1) := by decide +kernel
theorem dX10_isOver_7 : decode cX10_isOver 7 = .ok (.getfield 13, 3) := by decide +kernel
theorem dX10_isOver_10 : decode cX10_isOver 10 = .ok (.iconst 0, 1) := by decide +kernel
theorem dX10_isOver_11 : decode cX10_isOver 11 = .ok (.iaload, 1) := by decide +kernel
theorem dX10_isOver_12 : decode cX10_isOver 12 = .ok (.if_icmp .eq 18, 3) := by decide +kernel
theorem dX10_isOver_15 : decode cX10_isOver 15 = .ok (.aload_n 0, 1) := by decide +kernel
theorem dX10_isOver_16 : decode cX10_isOver 16 = .ok (.getfield 36, 3) := by decide +kernel
theorem dX10_isOver_19 : decode cX10_isOver 19 = .ok (.iconst 1, 1) := by decide +kernel
theorem dX10_isOver_20 : decode cX10_isOver 20 = .ok (.iaload, 1) := by decide +kernel
theorem dX10_isOver_21 : decode cX10_isOver 21 = .ok (.aload_n 0, 1) := by decide +kernel
theorem dX10_isOver_22 : decode cX10_isOver 22 = .ok (.getfield 13, 3) := by decide +kernel
theorem dX10_isOver_25 : decode cX10_isOver 25 = .ok (.iconst 0, 1) := by decide +kernel
theorem dX10_isOver_26 : decode cX10_isOver 26 = .ok (.iaload, 1) := by decide +kernel
theorem dX10_isOver_27 : decode cX10_isOver 27 = .ok (.if_icmp .ne 7, 3) := by decide +kernel
theorem dX10_isOver_30 : decode cX10_isOver 30 = .ok (.iconst 1, 1) := by decide +kernel
theorem dX10_isOver_31 : decode cX10_isOver 31 = .ok (.goto 4, 3) := by decide +kernel
theorem dX10_isOver_34 : decode cX10_isOver 34 = .ok (.iconst 0, 1) := by decide +kernel
theorem dX10_isOver_35 : decode cX10_isOver 35 = .ok (.ireturn, 1) := by decide +kernel
def fX10_isOver (a0 : Nat) (h : hp_T) : Option (Int32 × hp_T) := if (h.1 (h.2.2 a0 20) (fx_ix (0 : Int32))) = (h.1 (h.2.2 a0 3) (fx_ix (0 : Int32))) then (some ((1 : Int32), h)) else (if (h.1 (h.2.2 a0 20) (fx_ix (1 : Int32))) = (h.1 (h.2.2 a0 3) (fx_ix (0 : Int32))) then (some ((1 : Int32), h)) else (some ((0 : Int32), h)))
set_option maxRecDepth 100000 in
set_option maxHeartbeats 4000000 in
theorem mX10_isOver (l : Launch) (G : xr_G) (a0 : Nat) (ta0 : hp_sh a0 = (10, 0)) (h h1 : hp_T) (r : Int32) (hF : fX10_isOver a0 h = some (r, h1)) : xr_M l G yX10_isOver cX10_isOver 1 (xr_R 0 0) (some .boolean) [.ref (G.2.2.1 a0)] h (xr_Qi G r h1) := by
  refine xr_start rfl (Nat.le_of_ble_eq_true rfl) (fun K C => ?_)
  show xr_j l G K 1 h [(0, .ref (G.2.2.1 a0))] 0 []
  unfold fX10_isOver at hF
  refine xr_aload_n C 0 dX10_isOver_0 rfl rfl ?_
  refine xr_getr C flX10_36 rfl (by decide) dX10_isOver_1 ta0 (fun t1 => ?_)
  refine xr_iconst (v := 0) C dX10_isOver_4 (by decide) ?_
  refine xr_iald C dX10_isOver_5 t1 (by decide) ?_
  refine xr_aload_n C 0 dX10_isOver_6 rfl rfl ?_
  refine xr_getr C flX10_13 rfl (by decide) dX10_isOver_7 ta0 (fun t7 => ?_)
  refine xr_iconst (v := 0) C dX10_isOver_10 (by decide) ?_
  refine xr_iald C dX10_isOver_11 t7 (by decide) ?_
  refine xr_icmp_eq C 30 dX10_isOver_12 (by decide) (fun c12 => ?_) (fun c12 => ?_)
  · have hF := fx_pos hF c12
    refine xr_iconst (v := 1) C dX10_isOver_30 (by decide) ?_
    refine xr_goto C 35 dX10_isOver_31 (by decide) ?_
    cases hF
    exact xr_zret C rfl dX10_isOver_35
  · have hF := fx_neg hF c12
    refine xr_aload_n C 0 dX10_isOver_15 rfl rfl ?_
    refine xr_getr C flX10_36 rfl (by decide) dX10_isOver_16 ta0 (fun t16 => ?_)
    refine xr_iconst (v := 1) C dX10_isOver_19 (by decide) ?_
    refine xr_iald C dX10_isOver_20 t16 (by decide) ?_
    refine xr_aload_n C 0 dX10_isOver_21 rfl rfl ?_
    refine xr_getr C flX10_13 rfl (by decide) dX10_isOver_22 ta0 (fun t22 => ?_)
    refine xr_iconst (v := 0) C dX10_isOver_25 (by decide) ?_
    refine xr_iald C dX10_isOver_26 t22 (by decide) ?_
    refine xr_icmp_ne C 34 dX10_isOver_27 (by decide) (fun c27 => ?_) (fun c27 => ?_)
    · have hF := fx_neg hF c27
      refine xr_iconst (v := 0) C dX10_isOver_34 (by decide) ?_
      cases hF
      exact xr_zret C rfl dX10_isOver_35
    · have hF := fx_pos hF c27
      refine xr_iconst (v := 1) C dX10_isOver_30 (by decide) ?_
      refine xr_goto C 35 dX10_isOver_31 (by decide) ?_
      cases hF
      exact xr_zret C rfl dX10_isOver_35
theorem dX10_court_0 : decode cX10_court 0 = .ok (.aload_n 0, 1) := by decide +kernel
theorem dX10_court_1 : decode cX10_court 1 = .ok (.getfield 36, 3) := by decide +kernel
theorem dX10_court_4 : decode cX10_court 4 = .ok (.bipush 11, 2) := by decide +kernel
theorem dX10_court_6 : decode cX10_court 6 = .ok (.iload_n 1, 1) := by decide +kernel
theorem dX10_court_7 : decode cX10_court 7 = .ok (.iload_n 2, 1) := by decide +kernel
theorem dX10_court_8 : decode cX10_court 8 = .ok (.iconst 1, 1) := by decide +kernel
theorem dX10_court_9 : decode cX10_court 9 = .ok (.isub, 1) := by decide +kernel
theorem dX10_court_10 : decode cX10_court 10 = .ok (.bipush 6, 2) := by decide +kernel
theorem dX10_court_12 : decode cX10_court 12 = .ok (.invokestatic 167, 3) := by decide +kernel
theorem dX10_court_15 : decode cX10_court 15 = .ok (.iadd, 1) := by decide +kernel
theorem dX10_court_16 : decode cX10_court 16 = .ok (.iaload, 1) := by decide +kernel
theorem dX10_court_17 : decode cX10_court 17 = .ok (.ireturn, 1) := by decide +kernel
def fX10_court (a0 : Nat) (a1 : Int32) (a2 : Int32) (h : hp_T) : Option (Int32 × hp_T) := fx_b2 (fX10_two a1 (a2 - (1 : Int32)) (6 : Int32) h) fun (r12 : Int32) (h12 : hp_T) => fx_g (fx_in ((11 : Int32) + r12) 120) (some ((h12.1 (h.2.2 a0 20) (fx_ix ((11 : Int32) + r12))), h12))
set_option maxRecDepth 100000 in
set_option maxHeartbeats 4000000 in
theorem mX10_court (l : Launch) (G : xr_G) (a0 : Nat) (a1 : Int32) (a2 : Int32) (ta0 : hp_sh a0 = (10, 0)) (h h1 : hp_T) (r : Int32) (hF : fX10_court a0 a1 a2 h = some (r, h1)) : xr_M l G yX10_court cX10_court 3 (xr_R 1 22) (some .int) [.ref (G.2.2.1 a0), .int a1, .int a2] h (xr_Qi G r h1) := by
  refine xr_start rfl (Nat.le_of_ble_eq_true rfl) (fun K C => ?_)
  show xr_j l G K 3 h [(0, .ref (G.2.2.1 a0)), (1, .int a1), (2, .int a2)] 0 []
  unfold fX10_court at hF
  refine xr_aload_n C 0 dX10_court_0 rfl rfl ?_
  refine xr_getr C flX10_36 rfl (by decide) dX10_court_1 ta0 (fun t1 => ?_)
  refine xr_bipush (v := 11) C dX10_court_4 (by decide) ?_
  refine xr_iload_n C 1 dX10_court_6 rfl rfl ?_
  refine xr_iload_n C 2 dX10_court_7 rfl rfl ?_
  refine xr_iconst (v := 1) C dX10_court_8 (by decide) ?_
  refine xr_isub C dX10_court_9 ?_
  refine xr_bipush (v := 6) C dX10_court_10 (by decide) ?_
  obtain ⟨r12, h12, e12, hF⟩ := fx_b2E hF
  refine xr_callSi C mvX10_167 [.int a1, .int (a2 - (1 : Int32)), .int (6 : Int32)] [.int (11 : Int32), .ref (G.2.2.1 (h.2.2 a0 20))] (mX10_two l G a1 (a2 - (1 : Int32)) (6 : Int32)  h h12 r12 e12) rfl ⟨rfl, rfl, (Nat.le_of_ble_eq_true rfl), (Nat.le_of_ble_eq_true rfl)⟩ rfl (Nat.le_of_ble_eq_true rfl) dX10_court_12 ?_
  refine xr_iadd C dX10_court_15 ?_
  obtain ⟨g16, hF⟩ := fx_gE hF
  refine xr_iald C dX10_court_16 t1 g16 ?_
  cases hF
  exact xr_iret C dX10_court_17
theorem dX10_puts_0 : decode cX10_puts 0 = .ok (.aload_n 0, 1) := by decide +kernel
theorem dX10_puts_1 : decode cX10_puts 1 = .ok (.getfield 36, 3) := by decide +kernel
theorem dX10_puts_4 : decode cX10_puts 4 = .ok (.bipush 11, 2) := by decide +kernel
theorem dX10_puts_6 : decode cX10_puts 6 = .ok (.iload_n 1, 1) := by decide +kernel
theorem dX10_puts_7 : decode cX10_puts 7 = .ok (.iload_n 2, 1) := by decide +kernel
theorem dX10_puts_8 : decode cX10_puts 8 = .ok (.iconst 1, 1) := by decide +kernel
theorem dX10_puts_9 : decode cX10_puts 9 = .ok (.isub, 1) := by decide +kernel
theorem dX10_puts_10 : decode cX10_puts 10 = .ok (.bipush 6, 2) := by decide +kernel
theorem dX10_puts_12 : decode cX10_puts 12 = .ok (.invokestatic 167, 3) := by decide +kernel
theorem dX10_puts_15 : decode cX10_puts 15 = .ok (.iadd, 1) := by decide +kernel
theorem dX10_puts_16 : decode cX10_puts 16 = .ok (.iload_n 3, 1) := by decide +kernel
theorem dX10_puts_17 : decode cX10_puts 17 = .ok (.iastore, 1) := by decide +kernel
theorem dX10_puts_18 : decode cX10_puts 18 = .ok (.return_, 1) := by decide +kernel
def fX10_puts (a0 : Nat) (a1 : Int32) (a2 : Int32) (a3 : Int32) (h : hp_T) : Option hp_T := fx_b2 (fX10_two a1 (a2 - (1 : Int32)) (6 : Int32) h) fun (r12 : Int32) (h12 : hp_T) => fx_g (fx_in ((11 : Int32) + r12) 120) (fx_let (hp_sI h12 (h.2.2 a0 20) (fx_ix ((11 : Int32) + r12)) a3) fun (h17 : hp_T) => some h17)
set_option maxRecDepth 100000 in
set_option maxHeartbeats 4000000 in
theorem mX10_puts (l : Launch) (G : xr_G) (a0 : Nat) (a1 : Int32) (a2 : Int32) (a3 : Int32) (ta0 : hp_sh a0 = (10, 0)) (h h1 : hp_T) (hF : fX10_puts a0 a1 a2 a3 h = some h1) : xr_M l G yX10_puts cX10_puts 4 (xr_R 1 22) none [.ref (G.2.2.1 a0), .int a1, .int a2, .int a3] h (xr_Qv G h1) := by
  refine xr_start rfl (Nat.le_of_ble_eq_true rfl) (fun K C => ?_)
  show xr_j l G K 4 h [(0, .ref (G.2.2.1 a0)), (1, .int a1), (2, .int a2), (3, .int a3)] 0 []
  unfold fX10_puts at hF
  refine xr_aload_n C 0 dX10_puts_0 rfl rfl ?_
  refine xr_getr C flX10_36 rfl (by decide) dX10_puts_1 ta0 (fun t1 => ?_)
  refine xr_bipush (v := 11) C dX10_puts_4 (by decide) ?_
  refine xr_iload_n C 1 dX10_puts_6 rfl rfl ?_
  refine xr_iload_n C 2 dX10_puts_7 rfl rfl ?_
  refine xr_iconst (v := 1) C dX10_puts_8 (by decide) ?_
  refine xr_isub C dX10_puts_9 ?_
  refine xr_bipush (v := 6) C dX10_puts_10 (by decide) ?_
  obtain ⟨r12, h12, e12, hF⟩ := fx_b2E hF
  refine xr_callSi C mvX10_167 [.int a1, .int (a2 - (1 : Int32)), .int (6 : Int32)] [.int (11 : Int32), .ref (G.2.2.1 (h.2.2 a0 20))] (mX10_two l G a1 (a2 - (1 : Int32)) (6 : Int32)  h h12 r12 e12) rfl ⟨rfl, rfl, (Nat.le_of_ble_eq_true rfl), (Nat.le_of_ble_eq_true rfl)⟩ rfl (Nat.le_of_ble_eq_true rfl) dX10_puts_12 ?_
  refine xr_iadd C dX10_puts_15 ?_
  refine xr_iload_n C 3 dX10_puts_16 rfl rfl ?_
  obtain ⟨g17, hF⟩ := fx_gE hF
  refine xr_iast C dX10_puts_17 t1 g17 (fun h17 e17 => ?_)
  have hF := fx_letE hF h17 e17
  cases hF
  exact xr_vret C dX10_puts_18
theorem dX10_spotOf_0 : decode cX10_spotOf 0 = .ok (.iconst 1, 1) := by decide +kernel
theorem dX10_spotOf_1 : decode cX10_spotOf 1 = .ok (.istore_n 3, 1) := by decide +kernel
theorem dX10_spotOf_2 : decode cX10_spotOf 2 = .ok (.iload_n 3, 1) := by decide +kernel
theorem dX10_spotOf_3 : decode cX10_spotOf 3 = .ok (.bipush 6, 2) := by decide +kernel
theorem dX10_spotOf_5 : decode cX10_spotOf 5 = .ok (.if_icmp .gt 21, 3) := by decide +kernel
theorem dX10_spotOf_8 : decode cX10_spotOf 8 = .ok (.aload_n 0, 1) := by decide +kernel
theorem dX10_spotOf_9 : decode cX10_spotOf 9 = .ok (.iload_n 1, 1) := by decide +kernel
theorem dX10_spotOf_10 : decode cX10_spotOf 10 = .ok (.iload_n 3, 1) := by decide +kernel
theorem dX10_spotOf_11 : decode cX10_spotOf 11 = .ok (.invokevirtual 183, 3) := by decide +kernel
theorem dX10_spotOf_14 : decode cX10_spotOf 14 = .ok (.iload_n 2, 1) := by decide +kernel
theorem dX10_spotOf_15 : decode cX10_spotOf 15 = .ok (.if_icmp .ne 5, 3) := by decide +kernel
theorem dX10_spotOf_18 : decode cX10_spotOf 18 = .ok (.iload_n 3, 1) := by decide +kernel
theorem dX10_spotOf_19 : decode cX10_spotOf 19 = .ok (.ireturn, 1) := by decide +kernel
theorem dX10_spotOf_20 : decode cX10_spotOf 20 = .ok (.iinc 3 1, 3) := by decide +kernel
theorem dX10_spotOf_23 : decode cX10_spotOf 23 = .ok (.goto (-21), 3) := by decide +kernel
theorem dX10_spotOf_26 : decode cX10_spotOf 26 = .ok (.iconst 0, 1) := by decide +kernel
theorem dX10_spotOf_27 : decode cX10_spotOf 27 = .ok (.ireturn, 1) := by decide +kernel
def fX10_spotOf_2  : Nat → Nat → Int32 → Int32 → Int32 → hp_T → Option (Int32 × hp_T)
  | 0, _, _, _, _, _ => none
  | n + 1, a0, a1, a2, a3, h => if (6 : Int32) < a3 then (some ((0 : Int32), h)) else (fx_b2 (fX10_court a0 a1 a3 h) fun (r11 : Int32) (h11 : hp_T) => if r11 = a2 then (some (a3, h11)) else (fx_let (a3 + (1 : Int32)) fun (x20 : Int32) => fX10_spotOf_2 n a0 a1 a2 x20 h11))
set_option maxRecDepth 100000 in
set_option maxHeartbeats 4000000 in
theorem bX10_spotOf_2 {l : Launch} {G : xr_G} {K : xr_K} {r : Int32} {h1 : hp_T} (C : xr_C G K cX10_spotOf RX10 4 (xr_R 2 44) (some .int) (some (xr_Qi G r h1)))  : ∀ (n : Nat) (a0 : Nat) (a1 : Int32) (a2 : Int32) (a3 : Int32) (ta0 : hp_sh a0 = (10, 0)) (h : hp_T), fX10_spotOf_2 n a0 a1 a2 a3 h = some (r, h1) → xr_j l G K 4 h [(0, .ref (G.2.2.1 a0)), (1, .int a1), (2, .int a2), (3, .int a3)] 2 [] := by
  intro n
  induction n with
  | zero =>
    intro a0 a1 a2 a3 ta0 h hF
    cases hF
  | succ n ih =>
    intro a0 a1 a2 a3 ta0 h hF
    rw [fX10_spotOf_2] at hF
    refine xr_iload_n C 3 dX10_spotOf_2 rfl rfl ?_
    refine xr_bipush (v := 6) C dX10_spotOf_3 (by decide) ?_
    refine xr_icmp_gt C 26 dX10_spotOf_5 (by decide) (fun c5 => ?_) (fun c5 => ?_)
    · have hF := fx_pos hF c5
      refine xr_iconst (v := 0) C dX10_spotOf_26 (by decide) ?_
      cases hF
      exact xr_iret C dX10_spotOf_27
    · have hF := fx_neg hF c5
      refine xr_aload_n C 0 dX10_spotOf_8 rfl rfl ?_
      refine xr_iload_n C 1 dX10_spotOf_9 rfl rfl ?_
      refine xr_iload_n C 3 dX10_spotOf_10 rfl rfl ?_
      obtain ⟨r11, h11, e11, hF⟩ := fx_b2E hF
      refine xr_callVi C mvX10_183 [.int a1, .int a3] [] (mX10_court l G a0 a1 a3 ta0 h h11 r11 e11) ta0 (by decide) vc10 rfl ⟨rfl, rfl, (Nat.le_of_ble_eq_true rfl), (Nat.le_of_ble_eq_true rfl)⟩ rfl (Nat.le_of_ble_eq_true rfl) dX10_spotOf_11 ?_
      refine xr_iload_n C 2 dX10_spotOf_14 rfl rfl ?_
      refine xr_icmp_ne C 20 dX10_spotOf_15 (by decide) (fun c15 => ?_) (fun c15 => ?_)
      · have hF := fx_neg hF c15
        obtain ⟨x20, e20⟩ : ∃ y : Int32, y = (a3 + (1 : Int32)) := ⟨_, rfl⟩
        have hF := fx_letE hF x20 e20
        refine xr_iinc C x20 3 [(3, .int x20), (0, .ref (G.2.2.1 a0)), (1, .int a1), (2, .int a2)] dX10_spotOf_20 rfl (by rw [e20]; rfl) (Nat.le_of_ble_eq_true rfl) rfl ?_
        refine xr_goto C 2 dX10_spotOf_23 (by decide) ?_
        refine xr_sub [1, 2, 3, 0] [(0, .ref (G.2.2.1 a0)), (1, .int a1), (2, .int a2), (3, .int x20)] rfl ?_
        exact ih a0 a1 a2 x20 ta0 h11 hF
      · have hF := fx_pos hF c15
        refine xr_iload_n C 3 dX10_spotOf_18 rfl rfl ?_
        cases hF
        exact xr_iret C dX10_spotOf_19
def fX10_spotOf (a0 : Nat) (a1 : Int32) (a2 : Int32) (h : hp_T) : Option (Int32 × hp_T) := fX10_spotOf_2 fx_N a0 a1 a2 (1 : Int32) h
set_option maxRecDepth 100000 in
set_option maxHeartbeats 4000000 in
theorem mX10_spotOf (l : Launch) (G : xr_G) (a0 : Nat) (a1 : Int32) (a2 : Int32) (ta0 : hp_sh a0 = (10, 0)) (h h1 : hp_T) (r : Int32) (hF : fX10_spotOf a0 a1 a2 h = some (r, h1)) : xr_M l G yX10_spotOf cX10_spotOf 4 (xr_R 2 44) (some .int) [.ref (G.2.2.1 a0), .int a1, .int a2] h (xr_Qi G r h1) := by
  refine xr_start rfl (Nat.le_of_ble_eq_true rfl) (fun K C => ?_)
  show xr_j l G K 4 h [(0, .ref (G.2.2.1 a0)), (1, .int a1), (2, .int a2)] 0 []
  unfold fX10_spotOf at hF
  refine xr_iconst (v := 1) C dX10_spotOf_0 (by decide) ?_
  refine xr_istore_n C [(3, .int (1 : Int32)), (0, .ref (G.2.2.1 a0)), (1, .int a1), (2, .int a2)] dX10_spotOf_1 rfl (Nat.le_of_ble_eq_true rfl) rfl ?_
  refine xr_sub [1, 2, 3, 0] [(0, .ref (G.2.2.1 a0)), (1, .int a1), (2, .int a2), (3, .int (1 : Int32))] rfl ?_
  exact bX10_spotOf_2 C  fx_N a0 a1 a2 (1 : Int32) ta0 h hF
theorem dX10_lined_0 : decode cX10_lined 0 = .ok (.aload_n 0, 1) := by decide +kernel
theorem dX10_lined_1 : decode cX10_lined 1 = .ok (.iload_n 1, 1) := by decide +kernel
theorem dX10_lined_2 : decode cX10_lined 2 = .ok (.iload_n 2, 1) := by decide +kernel
theorem dX10_lined_3 : decode cX10_lined 3 = .ok (.invokevirtual 183, 3) := by decide +kernel
theorem dX10_lined_6 : decode cX10_lined 6 = .ok (.istore_n 3, 1) := by decide +kernel
theorem dX10_lined_7 : decode cX10_lined 7 = .ok (.iload_n 3, 1) := by decide +kernel
theorem dX10_lined_8 : decode cX10_lined 8 = .ok (.aload_n 0, 1) := by decide +kernel
theorem dX10_lined_9 : decode cX10_lined 9 = .ok (.getfield 13, 3) := by decide +kernel
theorem dX10_lined_12 : decode cX10_lined 12 = .ok (.bipush 7, 2) := by decide +kernel
theorem dX10_lined_14 : decode cX10_lined 14 = .ok (.iload_n 1, 1) := by decide +kernel
theorem dX10_lined_15 : decode cX10_lined 15 = .ok (.iadd, 1) := by decide +kernel
theorem dX10_lined_16 : decode cX10_lined 16 = .ok (.iaload, 1) := by decide +kernel
theorem dX10_lined_17 : decode cX10_lined 17 = .ok (.if_icmp .ne 15, 3) := by decide +kernel
theorem dX10_lined_20 : decode cX10_lined 20 = .ok (.aload_n 0, 1) := by decide +kernel
theorem dX10_lined_21 : decode cX10_lined 21 = .ok (.getfield 36, 3) := by decide +kernel
theorem dX10_lined_24 : decode cX10_lined 24 = .ok (.bipush 7, 2) := by decide +kernel
theorem dX10_lined_26 : decode cX10_lined 26 = .ok (.iload_n 1, 1) := by decide +kernel
theorem dX10_lined_27 : decode cX10_lined 27 = .ok (.iadd, 1) := by decide +kernel
theorem dX10_lined_28 : decode cX10_lined 28 = .ok (.iaload, 1) := by decide +kernel
theorem dX10_lined_29 : decode cX10_lined 29 = .ok (.goto 4, 3) := by decide +kernel
theorem dX10_lined_32 : decode cX10_lined 32 = .ok (.iload_n 3, 1) := by decide +kernel
theorem dX10_lined_33 : decode cX10_lined 33 = .ok (.ireturn, 1) := by decide +kernel
def fX10_lined (a0 : Nat) (a1 : Int32) (a2 : Int32) (h : hp_T) : Option (Int32 × hp_T) := fx_b2 (fX10_court a0 a1 a2 h) fun (r3 : Int32) (h3 : hp_T) => fx_g (fx_in ((7 : Int32) + a1) 117) (if r3 = (h3.1 (h3.2.2 a0 3) (fx_ix ((7 : Int32) + a1))) then (fx_g (fx_in ((7 : Int32) + a1) 120) (some ((h3.1 (h3.2.2 a0 20) (fx_ix ((7 : Int32) + a1))), h3))) else (some (r3, h3)))
set_option maxRecDepth 100000 in
set_option maxHeartbeats 4000000 in
theorem mX10_lined (l : Launch) (G : xr_G) (a0 : Nat) (a1 : Int32) (a2 : Int32) (ta0 : hp_sh a0 = (10, 0)) (h h1 : hp_T) (r : Int32) (hF : fX10_lined a0 a1 a2 h = some (r, h1)) : xr_M l G yX10_lined cX10_lined 4 (xr_R 2 44) (some .int) [.ref (G.2.2.1 a0), .int a1, .int a2] h (xr_Qi G r h1) := by
  refine xr_start rfl (Nat.le_of_ble_eq_true rfl) (fun K C => ?_)
  show xr_j l G K 4 h [(0, .ref (G.2.2.1 a0)), (1, .int a1), (2, .int a2)] 0 []
  unfold fX10_lined at hF
  refine xr_aload_n C 0 dX10_lined_0 rfl rfl ?_
  refine xr_iload_n C 1 dX10_lined_1 rfl rfl ?_
  refine xr_iload_n C 2 dX10_lined_2 rfl rfl ?_
  obtain ⟨r3, h3, e3, hF⟩ := fx_b2E hF
  refine xr_callVi C mvX10_183 [.int a1, .int a2] [] (mX10_court l G a0 a1 a2 ta0 h h3 r3 e3) ta0 (by decide) vc10 rfl ⟨rfl, rfl, (Nat.le_of_ble_eq_true rfl), (Nat.le_of_ble_eq_true rfl)⟩ rfl (Nat.le_of_ble_eq_true rfl) dX10_lined_3 ?_
  refine xr_istore_n C [(3, .int r3), (0, .ref (G.2.2.1 a0)), (1, .int a1), (2, .int a2)] dX10_lined_6 rfl (Nat.le_of_ble_eq_true rfl) rfl ?_
  refine xr_iload_n C 0 dX10_lined_7 rfl rfl ?_
  refine xr_aload_n C 1 dX10_lined_8 rfl rfl ?_
  refine xr_getr C flX10_13 rfl (by decide) dX10_lined_9 ta0 (fun t9 => ?_)
  refine xr_bipush (v := 7) C dX10_lined_12 (by decide) ?_
  refine xr_iload_n C 2 dX10_lined_14 rfl rfl ?_
  refine xr_iadd C dX10_lined_15 ?_
  obtain ⟨g16, hF⟩ := fx_gE hF
  refine xr_iald C dX10_lined_16 t9 g16 ?_
  refine xr_icmp_ne C 32 dX10_lined_17 (by decide) (fun c17 => ?_) (fun c17 => ?_)
  · have hF := fx_neg hF c17
    refine xr_iload_n C 0 dX10_lined_32 rfl rfl ?_
    cases hF
    exact xr_iret C dX10_lined_33
  · have hF := fx_pos hF c17
    refine xr_aload_n C 1 dX10_lined_20 rfl rfl ?_
    refine xr_getr C flX10_36 rfl (by decide) dX10_lined_21 ta0 (fun t21 => ?_)
    refine xr_bipush (v := 7) C dX10_lined_24 (by decide) ?_
    refine xr_iload_n C 2 dX10_lined_26 rfl rfl ?_
    refine xr_iadd C dX10_lined_27 ?_
    obtain ⟨g28, hF⟩ := fx_gE hF
    refine xr_iald C dX10_lined_28 t21 g28 ?_
    refine xr_goto C 33 dX10_lined_29 (by decide) ?_
    cases hF
    exact xr_iret C dX10_lined_33
theorem dX10_skill_0 : decode cX10_skill 0 = .ok (.aload_n 0, 1) := by decide +kernel
theorem dX10_skill_1 : decode cX10_skill 1 = .ok (.getfield 13, 3) := by decide +kernel
theorem dX10_skill_4 : decode cX10_skill 4 = .ok (.bipush 21, 2) := by decide +kernel
theorem dX10_skill_6 : decode cX10_skill 6 = .ok (.iconst 4, 1) := by decide +kernel
theorem dX10_skill_7 : decode cX10_skill 7 = .ok (.iload_n 1, 1) := by decide +kernel
theorem dX10_skill_8 : decode cX10_skill 8 = .ok (.iload_n 2, 1) := by decide +kernel
theorem dX10_skill_9 : decode cX10_skill 9 = .ok (.bipush 12, 2) := by decide +kernel
theorem dX10_skill_11 : decode cX10_skill 11 = .ok (.invokestatic 167, 3) := by decide +kernel
theorem dX10_skill_14 : decode cX10_skill 14 = .ok (.imul, 1) := by decide +kernel
theorem dX10_skill_15 : decode cX10_skill 15 = .ok (.iadd, 1) := by decide +kernel
theorem dX10_skill_16 : decode cX10_skill 16 = .ok (.iload_n 3, 1) := by decide +kernel
theorem dX10_skill_17 : decode cX10_skill 17 = .ok (.iadd, 1) := by decide +kernel
theorem dX10_skill_18 : decode cX10_skill 18 = .ok (.iaload, 1) := by decide +kernel
theorem dX10_skill_19 : decode cX10_skill 19 = .ok (.ireturn, 1) := by decide +kernel
def fX10_skill (a0 : Nat) (a1 : Int32) (a2 : Int32) (a3 : Int32) (h : hp_T) : Option (Int32 × hp_T) := fx_b2 (fX10_two a1 a2 (12 : Int32) h) fun (r11 : Int32) (h11 : hp_T) => fx_g (fx_in (((21 : Int32) + ((4 : Int32) * r11)) + a3) 117) (some ((h11.1 (h.2.2 a0 3) (fx_ix (((21 : Int32) + ((4 : Int32) * r11)) + a3))), h11))
set_option maxRecDepth 100000 in
set_option maxHeartbeats 4000000 in
theorem mX10_skill (l : Launch) (G : xr_G) (a0 : Nat) (a1 : Int32) (a2 : Int32) (a3 : Int32) (ta0 : hp_sh a0 = (10, 0)) (h h1 : hp_T) (r : Int32) (hF : fX10_skill a0 a1 a2 a3 h = some (r, h1)) : xr_M l G yX10_skill cX10_skill 4 (xr_R 1 22) (some .int) [.ref (G.2.2.1 a0), .int a1, .int a2, .int a3] h (xr_Qi G r h1) := by
  refine xr_start rfl (Nat.le_of_ble_eq_true rfl) (fun K C => ?_)
  show xr_j l G K 4 h [(0, .ref (G.2.2.1 a0)), (1, .int a1), (2, .int a2), (3, .int a3)] 0 []
  unfold fX10_skill at hF
  refine xr_aload_n C 0 dX10_skill_0 rfl rfl ?_
  refine xr_getr C flX10_13 rfl (by decide) dX10_skill_1 ta0 (fun t1 => ?_)
  refine xr_bipush (v := 21) C dX10_skill_4 (by decide) ?_
  refine xr_iconst (v := 4) C dX10_skill_6 (by decide) ?_
  refine xr_iload_n C 1 dX10_skill_7 rfl rfl ?_
  refine xr_iload_n C 2 dX10_skill_8 rfl rfl ?_
  refine xr_bipush (v := 12) C dX10_skill_9 (by decide) ?_
  obtain ⟨r11, h11, e11, hF⟩ := fx_b2E hF
  refine xr_callSi C mvX10_167 [.int a1, .int a2, .int (12 : Int32)] [.int (4 : Int32), .int (21 : Int32), .ref (G.2.2.1 (h.2.2 a0 3))] (mX10_two l G a1 a2 (12 : Int32)  h h11 r11 e11) rfl ⟨rfl, rfl, (Nat.le_of_ble_eq_true rfl), (Nat.le_of_ble_eq_true rfl)⟩ rfl (Nat.le_of_ble_eq_true rfl) dX10_skill_11 ?_
  refine xr_imul C dX10_skill_14 ?_
  refine xr_iadd C dX10_skill_15 ?_
  refine xr_iload_n C 3 dX10_skill_16 rfl rfl ?_
  refine xr_iadd C dX10_skill_17 ?_
  obtain ⟨g18, hF⟩ := fx_gE hF
  refine xr_iald C dX10_skill_18 t1 g18 ?_
  cases hF
  exact xr_iret C dX10_skill_19
theorem dX10_isStarter_0 : decode cX10_isStarter 0 = .ok (.iconst 0, 1) := by decide +kernel
theorem dX10_isStarter_1 : decode cX10_isStarter 1 = .ok (.istore_n 3, 1) := by decide +kernel
theorem dX10_isStarter_2 : decode cX10_isStarter 2 = .ok (.iload_n 3, 1) := by decide +kernel
theorem dX10_isStarter_3 : decode cX10_isStarter 3 = .ok (.bipush 6, 2) := by decide +kernel
theorem dX10_isStarter_5 : decode cX10_isStarter 5 = .ok (.if_icmp .ge 30, 3) := by decide +kernel
theorem dX10_isStarter_8 : decode cX10_isStarter 8 = .ok (.aload_n 0, 1) := by decide +kernel
theorem dX10_isStarter_9 : decode cX10_isStarter 9 = .ok (.getfield 13, 3) := by decide +kernel
theorem dX10_isStarter_12 : decode cX10_isStarter 12 = .ok (.bipush 9, 2) := by decide +kernel
theorem dX10_isStarter_14 : decode cX10_isStarter 14 = .ok (.iload_n 1, 1) := by decide +kernel
theorem dX10_isStarter_15 : decode cX10_isStarter 15 = .ok (.iload_n 3, 1) := by decide +kernel
theorem dX10_isStarter_16 : decode cX10_isStarter 16 = .ok (.bipush 6, 2) := by decide +kernel
theorem dX10_isStarter_18 : decode cX10_isStarter 18 = .ok (.invokestatic 167, 3) := by decide +kernel
theorem dX10_isStarter_21 : decode cX10_isStarter 21 = .ok (.iadd, 1) := by decide +kernel
theorem dX10_isStarter_22 : decode cX10_isStarter 22 = .ok (.iaload, 1) := by decide +kernel
theorem dX10_isStarter_23 : decode cX10_isStarter 23 = .ok (.iload_n 2, 1) := by decide +kernel
theorem dX10_isStarter_24 : decode cX10_isStarter 24 = .ok (.if_icmp .ne 5, 3) := by decide +kernel
theorem dX10_isStarter_27 : decode cX10_isStarter 27 = .ok (.iconst 1, 1) := by decide +kernel
theorem dX10_isStarter_28 : decode cX10_isStarter 28 = .ok (.ireturn, 1) := by decide +kernel
theorem dX10_isStarter_29 : decode cX10_isStarter 29 = .ok (.iinc 3 1, 3) := by decide +kernel
theorem dX10_isStarter_32 : decode cX10_isStarter 32 = .ok (.goto (-30), 3) := by decide +kernel
theorem dX10_isStarter_35 : decode cX10_isStarter 35 = .ok (.iconst 0, 1) := by decide +kernel
theorem dX10_isStarter_36 : decode cX10_isStarter 36 = .ok (.ireturn, 1) := by decide +kernel
def fX10_isStarter_2  : Nat → Nat → Int32 → Int32 → Int32 → hp_T → Option (Int32 × hp_T)
  | 0, _, _, _, _, _ => none
  | n + 1, a0, a1, a2, a3, h => if (6 : Int32) ≤ a3 then (some ((0 : Int32), h)) else (fx_b2 (fX10_two a1 a3 (6 : Int32) h) fun (r18 : Int32) (h18 : hp_T) => fx_g (fx_in ((9 : Int32) + r18) 117) (if (h18.1 (h.2.2 a0 3) (fx_ix ((9 : Int32) + r18))) = a2 then (some ((1 : Int32), h18)) else (fx_let (a3 + (1 : Int32)) fun (x29 : Int32) => fX10_isStarter_2 n a0 a1 a2 x29 h18)))
set_option maxRecDepth 100000 in
set_option maxHeartbeats 4000000 in
theorem bX10_isStarter_2 {l : Launch} {G : xr_G} {K : xr_K} {r : Int32} {h1 : hp_T} (C : xr_C G K cX10_isStarter RX10 4 (xr_R 1 22) (some .boolean) (some (xr_Qi G r h1)))  : ∀ (n : Nat) (a0 : Nat) (a1 : Int32) (a2 : Int32) (a3 : Int32) (ta0 : hp_sh a0 = (10, 0)) (h : hp_T), fX10_isStarter_2 n a0 a1 a2 a3 h = some (r, h1) → xr_j l G K 4 h [(0, .ref (G.2.2.1 a0)), (1, .int a1), (2, .int a2), (3, .int a3)] 2 [] := by
  intro n
  induction n with
  | zero =>
    intro a0 a1 a2 a3 ta0 h hF
    cases hF
  | succ n ih =>
    intro a0 a1 a2 a3 ta0 h hF
    rw [fX10_isStarter_2] at hF
    refine xr_iload_n C 3 dX10_isStarter_2 rfl rfl ?_
    refine xr_bipush (v := 6) C dX10_isStarter_3 (by decide) ?_
    refine xr_icmp_ge C 35 dX10_isStarter_5 (by decide) (fun c5 => ?_) (fun c5 => ?_)
    · have hF := fx_pos hF c5
      refine xr_iconst (v := 0) C dX10_isStarter_35 (by decide) ?_
      cases hF
      exact xr_zret C rfl dX10_isStarter_36
    · have hF := fx_neg hF c5
      refine xr_aload_n C 0 dX10_isStarter_8 rfl rfl ?_
      refine xr_getr C flX10_13 rfl (by decide) dX10_isStarter_9 ta0 (fun t9 => ?_)
      refine xr_bipush (v := 9) C dX10_isStarter_12 (by decide) ?_
      refine xr_iload_n C 1 dX10_isStarter_14 rfl rfl ?_
      refine xr_iload_n C 3 dX10_isStarter_15 rfl rfl ?_
      refine xr_bipush (v := 6) C dX10_isStarter_16 (by decide) ?_
      obtain ⟨r18, h18, e18, hF⟩ := fx_b2E hF
      refine xr_callSi C mvX10_167 [.int a1, .int a3, .int (6 : Int32)] [.int (9 : Int32), .ref (G.2.2.1 (h.2.2 a0 3))] (mX10_two l G a1 a3 (6 : Int32)  h h18 r18 e18) rfl ⟨rfl, rfl, (Nat.le_of_ble_eq_true rfl), (Nat.le_of_ble_eq_true rfl)⟩ rfl (Nat.le_of_ble_eq_true rfl) dX10_isStarter_18 ?_
      refine xr_iadd C dX10_isStarter_21 ?_
      obtain ⟨g22, hF⟩ := fx_gE hF
      refine xr_iald C dX10_isStarter_22 t9 g22 ?_
      refine xr_iload_n C 2 dX10_isStarter_23 rfl rfl ?_
      refine xr_icmp_ne C 29 dX10_isStarter_24 (by decide) (fun c24 => ?_) (fun c24 => ?_)
      · have hF := fx_neg hF c24
        obtain ⟨x29, e29⟩ : ∃ y : Int32, y = (a3 + (1 : Int32)) := ⟨_, rfl⟩
        have hF := fx_letE hF x29 e29
        refine xr_iinc C x29 3 [(3, .int x29), (0, .ref (G.2.2.1 a0)), (1, .int a1), (2, .int a2)] dX10_isStarter_29 rfl (by rw [e29]; rfl) (Nat.le_of_ble_eq_true rfl) rfl ?_
        refine xr_goto C 2 dX10_isStarter_32 (by decide) ?_
        refine xr_sub [1, 2, 3, 0] [(0, .ref (G.2.2.1 a0)), (1, .int a1), (2, .int a2), (3, .int x29)] rfl ?_
        exact ih a0 a1 a2 x29 ta0 h18 hF
      · have hF := fx_pos hF c24
        refine xr_iconst (v := 1) C dX10_isStarter_27 (by decide) ?_
        cases hF
        exact xr_zret C rfl dX10_isStarter_28
def fX10_isStarter (a0 : Nat) (a1 : Int32) (a2 : Int32) (h : hp_T) : Option (Int32 × hp_T) := fX10_isStarter_2 fx_N a0 a1 a2 (0 : Int32) h
set_option maxRecDepth 100000 in
set_option maxHeartbeats 4000000 in
theorem mX10_isStarter (l : Launch) (G : xr_G) (a0 : Nat) (a1 : Int32) (a2 : Int32) (ta0 : hp_sh a0 = (10, 0)) (h h1 : hp_T) (r : Int32) (hF : fX10_isStarter a0 a1 a2 h = some (r, h1)) : xr_M l G yX10_isStarter cX10_isStarter 4 (xr_R 1 22) (some .boolean) [.ref (G.2.2.1 a0), .int a1, .int a2] h (xr_Qi G r h1) := by
  refine xr_start rfl (Nat.le_of_ble_eq_true rfl) (fun K C => ?_)
  show xr_j l G K 4 h [(0, .ref (G.2.2.1 a0)), (1, .int a1), (2, .int a2)] 0 []
  unfold fX10_isStarter at hF
  refine xr_iconst (v := 0) C dX10_isStarter_0 (by decide) ?_
  refine xr_istore_n C [(3, .int (0 : Int32)), (0, .ref (G.2.2.1 a0)), (1, .int a1), (2, .int a2)] dX10_isStarter_1 rfl (Nat.le_of_ble_eq_true rfl) rfl ?_
  refine xr_sub [1, 2, 3, 0] [(0, .ref (G.2.2.1 a0)), (1, .int a1), (2, .int a2), (3, .int (0 : Int32))] rfl ?_
  exact bX10_isStarter_2 C  fx_N a0 a1 a2 (0 : Int32) ta0 h hF
theorem dX10_mate_0 : decode cX10_mate 0 = .ok (.aload_n 0, 1) := by decide +kernel
theorem dX10_mate_1 : decode cX10_mate 1 = .ok (.getfield 36, 3) := by decide +kernel
theorem dX10_mate_4 : decode cX10_mate 4 = .ok (.bipush 23, 2) := by decide +kernel
theorem dX10_mate_6 : decode cX10_mate 6 = .ok (.iload_n 1, 1) := by decide +kernel
theorem dX10_mate_7 : decode cX10_mate 7 = .ok (.iload_n 2, 1) := by decide +kernel
theorem dX10_mate_8 : decode cX10_mate 8 = .ok (.bipush 12, 2) := by decide +kernel
theorem dX10_mate_10 : decode cX10_mate 10 = .ok (.invokestatic 167, 3) := by decide +kernel
theorem dX10_mate_13 : decode cX10_mate 13 = .ok (.iadd, 1) := by decide +kernel
theorem dX10_mate_14 : decode cX10_mate 14 = .ok (.iaload, 1) := by decide +kernel
theorem dX10_mate_15 : decode cX10_mate 15 = .ok (.ireturn, 1) := by decide +kernel
def fX10_mate (a0 : Nat) (a1 : Int32) (a2 : Int32) (h : hp_T) : Option (Int32 × hp_T) := fx_b2 (fX10_two a1 a2 (12 : Int32) h) fun (r10 : Int32) (h10 : hp_T) => fx_g (fx_in ((23 : Int32) + r10) 120) (some ((h10.1 (h.2.2 a0 20) (fx_ix ((23 : Int32) + r10))), h10))
set_option maxRecDepth 100000 in
set_option maxHeartbeats 4000000 in
theorem mX10_mate (l : Launch) (G : xr_G) (a0 : Nat) (a1 : Int32) (a2 : Int32) (ta0 : hp_sh a0 = (10, 0)) (h h1 : hp_T) (r : Int32) (hF : fX10_mate a0 a1 a2 h = some (r, h1)) : xr_M l G yX10_mate cX10_mate 3 (xr_R 1 22) (some .int) [.ref (G.2.2.1 a0), .int a1, .int a2] h (xr_Qi G r h1) := by
  refine xr_start rfl (Nat.le_of_ble_eq_true rfl) (fun K C => ?_)
  show xr_j l G K 3 h [(0, .ref (G.2.2.1 a0)), (1, .int a1), (2, .int a2)] 0 []
  unfold fX10_mate at hF
  refine xr_aload_n C 0 dX10_mate_0 rfl rfl ?_
  refine xr_getr C flX10_36 rfl (by decide) dX10_mate_1 ta0 (fun t1 => ?_)
  refine xr_bipush (v := 23) C dX10_mate_4 (by decide) ?_
  refine xr_iload_n C 1 dX10_mate_6 rfl rfl ?_
  refine xr_iload_n C 2 dX10_mate_7 rfl rfl ?_
  refine xr_bipush (v := 12) C dX10_mate_8 (by decide) ?_
  obtain ⟨r10, h10, e10, hF⟩ := fx_b2E hF
  refine xr_callSi C mvX10_167 [.int a1, .int a2, .int (12 : Int32)] [.int (23 : Int32), .ref (G.2.2.1 (h.2.2 a0 20))] (mX10_two l G a1 a2 (12 : Int32)  h h10 r10 e10) rfl ⟨rfl, rfl, (Nat.le_of_ble_eq_true rfl), (Nat.le_of_ble_eq_true rfl)⟩ rfl (Nat.le_of_ble_eq_true rfl) dX10_mate_10 ?_
  refine xr_iadd C dX10_mate_13 ?_
  obtain ⟨g14, hF⟩ := fx_gE hF
  refine xr_iald C dX10_mate_14 t1 g14 ?_
  cases hF
  exact xr_iret C dX10_mate_15
theorem dX10_roleOf_0 : decode cX10_roleOf 0 = .ok (.aload_n 0, 1) := by decide +kernel
theorem dX10_roleOf_1 : decode cX10_roleOf 1 = .ok (.iload_n 1, 1) := by decide +kernel
theorem dX10_roleOf_2 : decode cX10_roleOf 2 = .ok (.iload_n 2, 1) := by decide +kernel
theorem dX10_roleOf_3 : decode cX10_roleOf 3 = .ok (.invokevirtual 186, 3) := by decide +kernel
theorem dX10_roleOf_6 : decode cX10_roleOf 6 = .ok (.ifCond .eq 7, 3) := by decide +kernel
theorem dX10_roleOf_9 : decode cX10_roleOf 9 = .ok (.iconst 0, 1) := by decide +kernel
theorem dX10_roleOf_10 : decode cX10_roleOf 10 = .ok (.goto 19, 3) := by decide +kernel
theorem dX10_roleOf_13 : decode cX10_roleOf 13 = .ok (.aload_n 0, 1) := by decide +kernel
theorem dX10_roleOf_14 : decode cX10_roleOf 14 = .ok (.iload_n 1, 1) := by decide +kernel
theorem dX10_roleOf_15 : decode cX10_roleOf 15 = .ok (.iload_n 2, 1) := by decide +kernel
theorem dX10_roleOf_16 : decode cX10_roleOf 16 = .ok (.invokevirtual 190, 3) := by decide +kernel
theorem dX10_roleOf_19 : decode cX10_roleOf 19 = .ok (.bipush (-2), 2) := by decide +kernel
theorem dX10_roleOf_21 : decode cX10_roleOf 21 = .ok (.if_icmp .eq 7, 3) := by decide +kernel
theorem dX10_roleOf_24 : decode cX10_roleOf 24 = .ok (.iconst 1, 1) := by decide +kernel
theorem dX10_roleOf_25 : decode cX10_roleOf 25 = .ok (.goto 4, 3) := by decide +kernel
theorem dX10_roleOf_28 : decode cX10_roleOf 28 = .ok (.iconst 2, 1) := by decide +kernel
theorem dX10_roleOf_29 : decode cX10_roleOf 29 = .ok (.ireturn, 1) := by decide +kernel
def fX10_roleOf (a0 : Nat) (a1 : Int32) (a2 : Int32) (h : hp_T) : Option (Int32 × hp_T) := fx_b2 (fX10_isStarter a0 a1 a2 h) fun (r3 : Int32) (h3 : hp_T) => if r3 = 0 then (fx_b2 (fX10_mate a0 a1 a2 h3) fun (r16 : Int32) (h16 : hp_T) => if r16 = (-2 : Int32) then (some ((2 : Int32), h16)) else (some ((1 : Int32), h16))) else (some ((0 : Int32), h3))
set_option maxRecDepth 100000 in
set_option maxHeartbeats 4000000 in
theorem mX10_roleOf (l : Launch) (G : xr_G) (a0 : Nat) (a1 : Int32) (a2 : Int32) (ta0 : hp_sh a0 = (10, 0)) (h h1 : hp_T) (r : Int32) (hF : fX10_roleOf a0 a1 a2 h = some (r, h1)) : xr_M l G yX10_roleOf cX10_roleOf 3 (xr_R 2 45) (some .int) [.ref (G.2.2.1 a0), .int a1, .int a2] h (xr_Qi G r h1) := by
  refine xr_start rfl (Nat.le_of_ble_eq_true rfl) (fun K C => ?_)
  show xr_j l G K 3 h [(0, .ref (G.2.2.1 a0)), (1, .int a1), (2, .int a2)] 0 []
  unfold fX10_roleOf at hF
  refine xr_aload_n C 0 dX10_roleOf_0 rfl rfl ?_
  refine xr_iload_n C 1 dX10_roleOf_1 rfl rfl ?_
  refine xr_iload_n C 2 dX10_roleOf_2 rfl rfl ?_
  obtain ⟨r3, h3, e3, hF⟩ := fx_b2E hF
  refine xr_callVi C mvX10_186 [.int a1, .int a2] [] (mX10_isStarter l G a0 a1 a2 ta0 h h3 r3 e3) ta0 (by decide) vc10 rfl ⟨rfl, rfl, (Nat.le_of_ble_eq_true rfl), (Nat.le_of_ble_eq_true rfl)⟩ rfl (Nat.le_of_ble_eq_true rfl) dX10_roleOf_3 ?_
  refine xr_if_eq C 13 dX10_roleOf_6 (by decide) (fun c6 => ?_) (fun c6 => ?_)
  · have hF := fx_pos hF c6
    refine xr_aload_n C 0 dX10_roleOf_13 rfl rfl ?_
    refine xr_iload_n C 1 dX10_roleOf_14 rfl rfl ?_
    refine xr_iload_n C 2 dX10_roleOf_15 rfl rfl ?_
    obtain ⟨r16, h16, e16, hF⟩ := fx_b2E hF
    refine xr_callVi C mvX10_190 [.int a1, .int a2] [] (mX10_mate l G a0 a1 a2 ta0 h3 h16 r16 e16) ta0 (by decide) vc10 rfl ⟨rfl, rfl, (Nat.le_of_ble_eq_true rfl), (Nat.le_of_ble_eq_true rfl)⟩ rfl (Nat.le_of_ble_eq_true rfl) dX10_roleOf_16 ?_
    refine xr_bipush (v := -2) C dX10_roleOf_19 (by decide) ?_
    refine xr_icmp_eq C 28 dX10_roleOf_21 (by decide) (fun c21 => ?_) (fun c21 => ?_)
    · have hF := fx_pos hF c21
      refine xr_iconst (v := 2) C dX10_roleOf_28 (by decide) ?_
      cases hF
      exact xr_iret C dX10_roleOf_29
    · have hF := fx_neg hF c21
      refine xr_iconst (v := 1) C dX10_roleOf_24 (by decide) ?_
      refine xr_goto C 29 dX10_roleOf_25 (by decide) ?_
      cases hF
      exact xr_iret C dX10_roleOf_29
  · have hF := fx_neg hF c6
    refine xr_iconst (v := 0) C dX10_roleOf_9 (by decide) ?_
    refine xr_goto C 29 dX10_roleOf_10 (by decide) ?_
    cases hF
    exact xr_iret C dX10_roleOf_29
theorem dX10_player_0 : decode cX10_player 0 = .ok (.aload_n 0, 1) := by decide +kernel
theorem dX10_player_1 : decode cX10_player 1 = .ok (.iconst 0, 1) := by decide +kernel
theorem dX10_player_2 : decode cX10_player 2 = .ok (.putfield 63, 3) := by decide +kernel
theorem dX10_player_5 : decode cX10_player 5 = .ok (.aload_n 0, 1) := by decide +kernel
theorem dX10_player_6 : decode cX10_player 6 = .ok (.iload_n 1, 1) := by decide +kernel
theorem dX10_player_7 : decode cX10_player 7 = .ok (.iload_n 2, 1) := by decide +kernel
theorem dX10_player_8 : decode cX10_player 8 = .ok (.invokevirtual 193, 3) := by decide +kernel
theorem dX10_player_11 : decode cX10_player 11 = .ok (.ifCond .ne 10, 3) := by decide +kernel
theorem dX10_player_14 : decode cX10_player 14 = .ok (.aload_n 0, 1) := by decide +kernel
theorem dX10_player_15 : decode cX10_player 15 = .ok (.iconst 1, 1) := by decide +kernel
theorem dX10_player_16 : decode cX10_player 16 = .ok (.putfield 63, 3) := by decide +kernel
theorem dX10_player_19 : decode cX10_player 19 = .ok (.iconst 0, 1) := by decide +kernel
theorem dX10_player_20 : decode cX10_player 20 = .ok (.ireturn, 1) := by decide +kernel
theorem dX10_player_21 : decode cX10_player 21 = .ok (.iload_n 3, 1) := by decide +kernel
theorem dX10_player_22 : decode cX10_player 22 = .ok (.tableswitch 110 0 7 #[46, 46, 46, 54, 73, 80, 87, 94], 46) := by decide +kernel
theorem dX10_player_68 : decode cX10_player 68 = .ok (.aload_n 0, 1) := by decide +kernel
theorem dX10_player_69 : decode cX10_player 69 = .ok (.iload_n 1, 1) := by decide +kernel
theorem dX10_player_70 : decode cX10_player 70 = .ok (.iload_n 2, 1) := by decide +kernel
theorem dX10_player_71 : decode cX10_player 71 = .ok (.iload_n 3, 1) := by decide +kernel
theorem dX10_player_72 : decode cX10_player 72 = .ok (.invokevirtual 196, 3) := by decide +kernel
theorem dX10_player_75 : decode cX10_player 75 = .ok (.ireturn, 1) := by decide +kernel
theorem dX10_player_76 : decode cX10_player 76 = .ok (.aload_n 0, 1) := by decide +kernel
theorem dX10_player_77 : decode cX10_player 77 = .ok (.getfield 13, 3) := by decide +kernel
theorem dX10_player_80 : decode cX10_player 80 = .ok (.bipush 7, 2) := by decide +kernel
theorem dX10_player_82 : decode cX10_player 82 = .ok (.iload_n 1, 1) := by decide +kernel
theorem dX10_player_83 : decode cX10_player 83 = .ok (.iadd, 1) := by decide +kernel
theorem dX10_player_84 : decode cX10_player 84 = .ok (.iaload, 1) := by decide +kernel
theorem dX10_player_85 : decode cX10_player 85 = .ok (.iload_n 2, 1) := by decide +kernel
theorem dX10_player_86 : decode cX10_player 86 = .ok (.if_icmp .ne 7, 3) := by decide +kernel
theorem dX10_player_89 : decode cX10_player 89 = .ok (.iconst 1, 1) := by decide +kernel
theorem dX10_player_90 : decode cX10_player 90 = .ok (.goto 4, 3) := by decide +kernel
theorem dX10_player_93 : decode cX10_player 93 = .ok (.iconst 0, 1) := by decide +kernel
theorem dX10_player_94 : decode cX10_player 94 = .ok (.ireturn, 1) := by decide +kernel
theorem dX10_player_95 : decode cX10_player 95 = .ok (.aload_n 0, 1) := by decide +kernel
theorem dX10_player_96 : decode cX10_player 96 = .ok (.iload_n 1, 1) := by decide +kernel
theorem dX10_player_97 : decode cX10_player 97 = .ok (.iload_n 2, 1) := by decide +kernel
theorem dX10_player_98 : decode cX10_player 98 = .ok (.invokevirtual 199, 3) := by decide +kernel
theorem dX10_player_101 : decode cX10_player 101 = .ok (.ireturn, 1) := by decide +kernel
theorem dX10_player_102 : decode cX10_player 102 = .ok (.aload_n 0, 1) := by decide +kernel
theorem dX10_player_103 : decode cX10_player 103 = .ok (.iload_n 1, 1) := by decide +kernel
theorem dX10_player_104 : decode cX10_player 104 = .ok (.iload_n 2, 1) := by decide +kernel
theorem dX10_player_105 : decode cX10_player 105 = .ok (.invokevirtual 202, 3) := by decide +kernel
theorem dX10_player_108 : decode cX10_player 108 = .ok (.ireturn, 1) := by decide +kernel
theorem dX10_player_109 : decode cX10_player 109 = .ok (.aload_n 0, 1) := by decide +kernel
theorem dX10_player_110 : decode cX10_player 110 = .ok (.iload_n 1, 1) := by decide +kernel
theorem dX10_player_111 : decode cX10_player 111 = .ok (.iload_n 2, 1) := by decide +kernel
theorem dX10_player_112 : decode cX10_player 112 = .ok (.invokevirtual 190, 3) := by decide +kernel
theorem dX10_player_115 : decode cX10_player 115 = .ok (.ireturn, 1) := by decide +kernel
theorem dX10_player_116 : decode cX10_player 116 = .ok (.aload_n 0, 1) := by decide +kernel
theorem dX10_player_117 : decode cX10_player 117 = .ok (.getfield 36, 3) := by decide +kernel
theorem dX10_player_120 : decode cX10_player 120 = .ok (.bipush 95, 2) := by decide +kernel
theorem dX10_player_122 : decode cX10_player 122 = .ok (.iload_n 1, 1) := by decide +kernel
theorem dX10_player_123 : decode cX10_player 123 = .ok (.iload_n 2, 1) := by decide +kernel
theorem dX10_player_124 : decode cX10_player 124 = .ok (.bipush 12, 2) := by decide +kernel
theorem dX10_player_126 : decode cX10_player 126 = .ok (.invokestatic 167, 3) := by decide +kernel
theorem dX10_player_129 : decode cX10_player 129 = .ok (.iadd, 1) := by decide +kernel
theorem dX10_player_130 : decode cX10_player 130 = .ok (.iaload, 1) := by decide +kernel
theorem dX10_player_131 : decode cX10_player 131 = .ok (.ireturn, 1) := by decide +kernel
theorem dX10_player_132 : decode cX10_player 132 = .ok (.aload_n 0, 1) := by decide +kernel
theorem dX10_player_133 : decode cX10_player 133 = .ok (.iconst 2, 1) := by decide +kernel
theorem dX10_player_134 : decode cX10_player 134 = .ok (.putfield 63, 3) := by decide +kernel
theorem dX10_player_137 : decode cX10_player 137 = .ok (.iconst 0, 1) := by decide +kernel
theorem dX10_player_138 : decode cX10_player 138 = .ok (.ireturn, 1) := by decide +kernel
def fX10_player_68  (a0 : Nat) (a1 : Int32) (a2 : Int32) (a3 : Int32) (h : hp_T) : Option (Int32 × hp_T) := fx_b2 (fX10_skill a0 a1 a2 a3 h) fun (r72 : Int32) (h72 : hp_T) => some (r72, h72)
set_option maxRecDepth 100000 in
set_option maxHeartbeats 4000000 in
theorem bX10_player_68 {l : Launch} {G : xr_G} {K : xr_K} {r : Int32} {h1 : hp_T} (C : xr_C G K cX10_player RX10 4 (xr_R 3 67) (some .int) (some (xr_Qi G r h1)))  (a0 : Nat) (a1 : Int32) (a2 : Int32) (a3 : Int32) (ta0 : hp_sh a0 = (10, 0)) (h : hp_T) (hF : fX10_player_68 a0 a1 a2 a3 h = some (r, h1)) : xr_j l G K 4 h [(0, .ref (G.2.2.1 a0)), (1, .int a1), (2, .int a2), (3, .int a3)] 68 [] := by
  unfold fX10_player_68 at hF
  refine xr_aload_n C 0 dX10_player_68 rfl rfl ?_
  refine xr_iload_n C 1 dX10_player_69 rfl rfl ?_
  refine xr_iload_n C 2 dX10_player_70 rfl rfl ?_
  refine xr_iload_n C 3 dX10_player_71 rfl rfl ?_
  obtain ⟨r72, h72, e72, hF⟩ := fx_b2E hF
  refine xr_callVi C mvX10_196 [.int a1, .int a2, .int a3] [] (mX10_skill l G a0 a1 a2 a3 ta0 h h72 r72 e72) ta0 (by decide) vc10 rfl ⟨rfl, rfl, (Nat.le_of_ble_eq_true rfl), (Nat.le_of_ble_eq_true rfl)⟩ rfl (Nat.le_of_ble_eq_true rfl) dX10_player_72 ?_
  cases hF
  exact xr_iret C dX10_player_75
def fX10_player (a0 : Nat) (a1 : Int32) (a2 : Int32) (a3 : Int32) (h : hp_T) : Option (Int32 × hp_T) := fx_let (hp_sI h a0 0 (0 : Int32)) fun (h2 : hp_T) => fx_b2 (fX10_isPlayer a0 a1 a2 h2) fun (r8 : Int32) (h8 : hp_T) => if r8 = 0 then (fx_let (hp_sI h8 a0 0 (1 : Int32)) fun (h16 : hp_T) => some ((0 : Int32), h16)) else (if a3 = 0 then (fX10_player_68 a0 a1 a2 a3 h8) else if a3 = 1 then (fX10_player_68 a0 a1 a2 a3 h8) else if a3 = 2 then (fX10_player_68 a0 a1 a2 a3 h8) else if a3 = 3 then (fx_g (fx_in ((7 : Int32) + a1) 117) (if (h8.1 (h8.2.2 a0 3) (fx_ix ((7 : Int32) + a1))) = a2 then (some ((1 : Int32), h8)) else (some ((0 : Int32), h8)))) else if a3 = 4 then (fx_b2 (fX10_spotOf a0 a1 a2 h8) fun (r98 : Int32) (h98 : hp_T) => some (r98, h98)) else if a3 = 5 then (fx_b2 (fX10_roleOf a0 a1 a2 h8) fun (r105 : Int32) (h105 : hp_T) => some (r105, h105)) else if a3 = 6 then (fx_b2 (fX10_mate a0 a1 a2 h8) fun (r112 : Int32) (h112 : hp_T) => some (r112, h112)) else if a3 = 7 then (fx_b2 (fX10_two a1 a2 (12 : Int32) h8) fun (r126 : Int32) (h126 : hp_T) => fx_g (fx_in ((95 : Int32) + r126) 120) (some ((h126.1 (h8.2.2 a0 20) (fx_ix ((95 : Int32) + r126))), h126))) else (fx_let (hp_sI h8 a0 0 (2 : Int32)) fun (h134 : hp_T) => some ((0 : Int32), h134)))
set_option maxRecDepth 100000 in
set_option maxHeartbeats 4000000 in
theorem mX10_player (l : Launch) (G : xr_G) (a0 : Nat) (a1 : Int32) (a2 : Int32) (a3 : Int32) (ta0 : hp_sh a0 = (10, 0)) (h h1 : hp_T) (r : Int32) (hF : fX10_player a0 a1 a2 a3 h = some (r, h1)) : xr_M l G yX10_player cX10_player 4 (xr_R 3 67) (some .int) [.ref (G.2.2.1 a0), .int a1, .int a2, .int a3] h (xr_Qi G r h1) := by
  refine xr_start rfl (Nat.le_of_ble_eq_true rfl) (fun K C => ?_)
  show xr_j l G K 4 h [(0, .ref (G.2.2.1 a0)), (1, .int a1), (2, .int a2), (3, .int a3)] 0 []
  unfold fX10_player at hF
  refine xr_aload_n C 0 dX10_player_0 rfl rfl ?_
  refine xr_iconst (v := 0) C dX10_player_1 (by decide) ?_
  refine xr_puti C fpX10_63 rfl rfl rfl dX10_player_2 ta0 (fun h2 e2 => ?_)
  have hF := fx_letE hF h2 e2
  refine xr_aload_n C 0 dX10_player_5 rfl rfl ?_
  refine xr_iload_n C 1 dX10_player_6 rfl rfl ?_
  refine xr_iload_n C 2 dX10_player_7 rfl rfl ?_
  obtain ⟨r8, h8, e8, hF⟩ := fx_b2E hF
  refine xr_callVi C mvX10_193 [.int a1, .int a2] [] (mX10_isPlayer l G a0 a1 a2 ta0 h2 h8 r8 e8) ta0 (by decide) vc10 rfl ⟨rfl, rfl, (Nat.le_of_ble_eq_true rfl), (Nat.le_of_ble_eq_true rfl)⟩ rfl (Nat.le_of_ble_eq_true rfl) dX10_player_8 ?_
  refine xr_if_ne C 21 dX10_player_11 (by decide) (fun c11 => ?_) (fun c11 => ?_)
  · have hF := fx_neg hF c11
    refine xr_iload_n C 3 dX10_player_21 rfl rfl ?_
    by_cases c22_0 : a3 = 0
    · have hF := fx_pos hF c22_0
      refine xr_tableIn C 68 dX10_player_22 (by rw [c22_0]; decide) (by rw [c22_0]; decide) (by rw [c22_0]; first | done | rfl) (by decide) ?_
      exact bX10_player_68 C   a0 a1 a2 a3 ta0 h8 hF
    have hF := fx_neg hF c22_0
    by_cases c22_1 : a3 = 1
    · have hF := fx_pos hF c22_1
      refine xr_tableIn C 68 dX10_player_22 (by rw [c22_1]; decide) (by rw [c22_1]; decide) (by rw [c22_1]; first | done | rfl) (by decide) ?_
      exact bX10_player_68 C   a0 a1 a2 a3 ta0 h8 hF
    have hF := fx_neg hF c22_1
    by_cases c22_2 : a3 = 2
    · have hF := fx_pos hF c22_2
      refine xr_tableIn C 68 dX10_player_22 (by rw [c22_2]; decide) (by rw [c22_2]; decide) (by rw [c22_2]; first | done | rfl) (by decide) ?_
      exact bX10_player_68 C   a0 a1 a2 a3 ta0 h8 hF
    have hF := fx_neg hF c22_2
    by_cases c22_3 : a3 = 3
    · have hF := fx_pos hF c22_3
      refine xr_tableIn C 76 dX10_player_22 (by rw [c22_3]; decide) (by rw [c22_3]; decide) (by rw [c22_3]; first | done | rfl) (by decide) ?_
      refine xr_aload_n C 0 dX10_player_76 rfl rfl ?_
      refine xr_getr C flX10_13 rfl (by decide) dX10_player_77 ta0 (fun t77 => ?_)
      refine xr_bipush (v := 7) C dX10_player_80 (by decide) ?_
      refine xr_iload_n C 1 dX10_player_82 rfl rfl ?_
      refine xr_iadd C dX10_player_83 ?_
      obtain ⟨g84, hF⟩ := fx_gE hF
      refine xr_iald C dX10_player_84 t77 g84 ?_
      refine xr_iload_n C 2 dX10_player_85 rfl rfl ?_
      refine xr_icmp_ne C 93 dX10_player_86 (by decide) (fun c86 => ?_) (fun c86 => ?_)
      · have hF := fx_neg hF c86
        refine xr_iconst (v := 0) C dX10_player_93 (by decide) ?_
        cases hF
        exact xr_iret C dX10_player_94
      · have hF := fx_pos hF c86
        refine xr_iconst (v := 1) C dX10_player_89 (by decide) ?_
        refine xr_goto C 94 dX10_player_90 (by decide) ?_
        cases hF
        exact xr_iret C dX10_player_94
    have hF := fx_neg hF c22_3
    by_cases c22_4 : a3 = 4
    · have hF := fx_pos hF c22_4
      refine xr_tableIn C 95 dX10_player_22 (by rw [c22_4]; decide) (by rw [c22_4]; decide) (by rw [c22_4]; first | done | rfl) (by decide) ?_
      refine xr_aload_n C 0 dX10_player_95 rfl rfl ?_
      refine xr_iload_n C 1 dX10_player_96 rfl rfl ?_
      refine xr_iload_n C 2 dX10_player_97 rfl rfl ?_
      obtain ⟨r98, h98, e98, hF⟩ := fx_b2E hF
      refine xr_callVi C mvX10_199 [.int a1, .int a2] [] (mX10_spotOf l G a0 a1 a2 ta0 h8 h98 r98 e98) ta0 (by decide) vc10 rfl ⟨rfl, rfl, (Nat.le_of_ble_eq_true rfl), (Nat.le_of_ble_eq_true rfl)⟩ rfl (Nat.le_of_ble_eq_true rfl) dX10_player_98 ?_
      cases hF
      exact xr_iret C dX10_player_101
    have hF := fx_neg hF c22_4
    by_cases c22_5 : a3 = 5
    · have hF := fx_pos hF c22_5
      refine xr_tableIn C 102 dX10_player_22 (by rw [c22_5]; decide) (by rw [c22_5]; decide) (by rw [c22_5]; first | done | rfl) (by decide) ?_
      refine xr_aload_n C 0 dX10_player_102 rfl rfl ?_
      refine xr_iload_n C 1 dX10_player_103 rfl rfl ?_
      refine xr_iload_n C 2 dX10_player_104 rfl rfl ?_
      obtain ⟨r105, h105, e105, hF⟩ := fx_b2E hF
      refine xr_callVi C mvX10_202 [.int a1, .int a2] [] (mX10_roleOf l G a0 a1 a2 ta0 h8 h105 r105 e105) ta0 (by decide) vc10 rfl ⟨rfl, rfl, (Nat.le_of_ble_eq_true rfl), (Nat.le_of_ble_eq_true rfl)⟩ rfl (Nat.le_of_ble_eq_true rfl) dX10_player_105 ?_
      cases hF
      exact xr_iret C dX10_player_108
    have hF := fx_neg hF c22_5
    by_cases c22_6 : a3 = 6
    · have hF := fx_pos hF c22_6
      refine xr_tableIn C 109 dX10_player_22 (by rw [c22_6]; decide) (by rw [c22_6]; decide) (by rw [c22_6]; first | done | rfl) (by decide) ?_
      refine xr_aload_n C 0 dX10_player_109 rfl rfl ?_
      refine xr_iload_n C 1 dX10_player_110 rfl rfl ?_
      refine xr_iload_n C 2 dX10_player_111 rfl rfl ?_
      obtain ⟨r112, h112, e112, hF⟩ := fx_b2E hF
      refine xr_callVi C mvX10_190 [.int a1, .int a2] [] (mX10_mate l G a0 a1 a2 ta0 h8 h112 r112 e112) ta0 (by decide) vc10 rfl ⟨rfl, rfl, (Nat.le_of_ble_eq_true rfl), (Nat.le_of_ble_eq_true rfl)⟩ rfl (Nat.le_of_ble_eq_true rfl) dX10_player_112 ?_
      cases hF
      exact xr_iret C dX10_player_115
    have hF := fx_neg hF c22_6
    by_cases c22_7 : a3 = 7
    · have hF := fx_pos hF c22_7
      refine xr_tableIn C 116 dX10_player_22 (by rw [c22_7]; decide) (by rw [c22_7]; decide) (by rw [c22_7]; first | done | rfl) (by decide) ?_
      refine xr_aload_n C 0 dX10_player_116 rfl rfl ?_
      refine xr_getr C flX10_36 rfl (by decide) dX10_player_117 ta0 (fun t117 => ?_)
      refine xr_bipush (v := 95) C dX10_player_120 (by decide) ?_
      refine xr_iload_n C 1 dX10_player_122 rfl rfl ?_
      refine xr_iload_n C 2 dX10_player_123 rfl rfl ?_
      refine xr_bipush (v := 12) C dX10_player_124 (by decide) ?_
      obtain ⟨r126, h126, e126, hF⟩ := fx_b2E hF
      refine xr_callSi C mvX10_167 [.int a1, .int a2, .int (12 : Int32)] [.int (95 : Int32), .ref (G.2.2.1 (h8.2.2 a0 20))] (mX10_two l G a1 a2 (12 : Int32)  h8 h126 r126 e126) rfl ⟨rfl, rfl, (Nat.le_of_ble_eq_true rfl), (Nat.le_of_ble_eq_true rfl)⟩ rfl (Nat.le_of_ble_eq_true rfl) dX10_player_126 ?_
      refine xr_iadd C dX10_player_129 ?_
      obtain ⟨g130, hF⟩ := fx_gE hF
      refine xr_iald C dX10_player_130 t117 g130 ?_
      cases hF
      exact xr_iret C dX10_player_131
    have hF := fx_neg hF c22_7
    refine xr_tableOut C 132 dX10_player_22 (fx_out8 c22_0 c22_1 c22_2 c22_3 c22_4 c22_5 c22_6 c22_7) (by decide) ?_
    refine xr_aload_n C 0 dX10_player_132 rfl rfl ?_
    refine xr_iconst (v := 2) C dX10_player_133 (by decide) ?_
    refine xr_puti C fpX10_63 rfl rfl rfl dX10_player_134 ta0 (fun h134 e134 => ?_)
    have hF := fx_letE hF h134 e134
    refine xr_iconst (v := 0) C dX10_player_137 (by decide) ?_
    cases hF
    exact xr_iret C dX10_player_138
  · have hF := fx_pos hF c11
    refine xr_aload_n C 0 dX10_player_14 rfl rfl ?_
    refine xr_iconst (v := 1) C dX10_player_15 (by decide) ?_
    refine xr_puti C fpX10_63 rfl rfl rfl dX10_player_16 ta0 (fun h16 e16 => ?_)
    have hF := fx_letE hF h16 e16
    refine xr_iconst (v := 0) C dX10_player_19 (by decide) ?_
    cases hF
    exact xr_iret C dX10_player_20
theorem dX10_on_0 : decode cX10_on 0 = .ok (.aload_n 0, 1) := by decide +kernel
theorem dX10_on_1 : decode cX10_on 1 = .ok (.iconst 0, 1) := by decide +kernel
theorem dX10_on_2 : decode cX10_on 2 = .ok (.putfield 63, 3) := by decide +kernel
theorem dX10_on_5 : decode cX10_on 5 = .ok (.aload_n 0, 1) := by decide +kernel
theorem dX10_on_6 : decode cX10_on 6 = .ok (.iload_n 1, 1) := by decide +kernel
theorem dX10_on_7 : decode cX10_on 7 = .ok (.invokevirtual 180, 3) := by decide +kernel
theorem dX10_on_10 : decode cX10_on 10 = .ok (.ifCond .eq 19, 3) := by decide +kernel
theorem dX10_on_13 : decode cX10_on 13 = .ok (.iload_n 2, 1) := by decide +kernel
theorem dX10_on_14 : decode cX10_on 14 = .ok (.invokestatic 205, 3) := by decide +kernel
theorem dX10_on_17 : decode cX10_on 17 = .ok (.ifCond .eq 12, 3) := by decide +kernel
theorem dX10_on_20 : decode cX10_on 20 = .ok (.aload_n 0, 1) := by decide +kernel
theorem dX10_on_21 : decode cX10_on 21 = .ok (.iload_n 1, 1) := by decide +kernel
theorem dX10_on_22 : decode cX10_on 22 = .ok (.iload_n 2, 1) := by decide +kernel
theorem dX10_on_23 : decode cX10_on 23 = .ok (.invokevirtual 183, 3) := by decide +kernel
theorem dX10_on_26 : decode cX10_on 26 = .ok (.goto 4, 3) := by decide +kernel
theorem dX10_on_29 : decode cX10_on 29 = .ok (.iconst (-1), 1) := by decide +kernel
theorem dX10_on_30 : decode cX10_on 30 = .ok (.ireturn, 1) := by decide +kernel
def fX10_on (a0 : Nat) (a1 : Int32) (a2 : Int32) (h : hp_T) : Option (Int32 × hp_T) := fx_let (hp_sI h a0 0 (0 : Int32)) fun (h2 : hp_T) => fx_b2 (fX10_isSide a0 a1 h2) fun (r7 : Int32) (h7 : hp_T) => if r7 = 0 then (some ((-1 : Int32), h7)) else (fx_b2 (fX10_isSpot a2 h7) fun (r14 : Int32) (h14 : hp_T) => if r14 = 0 then (some ((-1 : Int32), h14)) else (fx_b2 (fX10_court a0 a1 a2 h14) fun (r23 : Int32) (h23 : hp_T) => some (r23, h23)))
set_option maxRecDepth 100000 in
set_option maxHeartbeats 4000000 in
theorem mX10_on (l : Launch) (G : xr_G) (a0 : Nat) (a1 : Int32) (a2 : Int32) (ta0 : hp_sh a0 = (10, 0)) (h h1 : hp_T) (r : Int32) (hF : fX10_on a0 a1 a2 h = some (r, h1)) : xr_M l G yX10_on cX10_on 3 (xr_R 2 44) (some .int) [.ref (G.2.2.1 a0), .int a1, .int a2] h (xr_Qi G r h1) := by
  refine xr_start rfl (Nat.le_of_ble_eq_true rfl) (fun K C => ?_)
  show xr_j l G K 3 h [(0, .ref (G.2.2.1 a0)), (1, .int a1), (2, .int a2)] 0 []
  unfold fX10_on at hF
  refine xr_aload_n C 0 dX10_on_0 rfl rfl ?_
  refine xr_iconst (v := 0) C dX10_on_1 (by decide) ?_
  refine xr_puti C fpX10_63 rfl rfl rfl dX10_on_2 ta0 (fun h2 e2 => ?_)
  have hF := fx_letE hF h2 e2
  refine xr_aload_n C 0 dX10_on_5 rfl rfl ?_
  refine xr_iload_n C 1 dX10_on_6 rfl rfl ?_
  obtain ⟨r7, h7, e7, hF⟩ := fx_b2E hF
  refine xr_callVi C mvX10_180 [.int a1] [] (mX10_isSide l G a0 a1 ta0 h2 h7 r7 e7) ta0 (by decide) vc10 rfl ⟨rfl, rfl, (Nat.le_of_ble_eq_true rfl), (Nat.le_of_ble_eq_true rfl)⟩ rfl (Nat.le_of_ble_eq_true rfl) dX10_on_7 ?_
  refine xr_if_eq C 29 dX10_on_10 (by decide) (fun c10 => ?_) (fun c10 => ?_)
  · have hF := fx_pos hF c10
    refine xr_iconst (v := -1) C dX10_on_29 (by decide) ?_
    cases hF
    exact xr_iret C dX10_on_30
  · have hF := fx_neg hF c10
    refine xr_iload_n C 2 dX10_on_13 rfl rfl ?_
    obtain ⟨r14, h14, e14, hF⟩ := fx_b2E hF
    refine xr_callSi C mvX10_205 [.int a2] [] (mX10_isSpot l G a2  h7 h14 r14 e14) rfl ⟨rfl, rfl, (Nat.le_of_ble_eq_true rfl), (Nat.le_of_ble_eq_true rfl)⟩ rfl (Nat.le_of_ble_eq_true rfl) dX10_on_14 ?_
    refine xr_if_eq C 29 dX10_on_17 (by decide) (fun c17 => ?_) (fun c17 => ?_)
    · have hF := fx_pos hF c17
      refine xr_iconst (v := -1) C dX10_on_29 (by decide) ?_
      cases hF
      exact xr_iret C dX10_on_30
    · have hF := fx_neg hF c17
      refine xr_aload_n C 0 dX10_on_20 rfl rfl ?_
      refine xr_iload_n C 1 dX10_on_21 rfl rfl ?_
      refine xr_iload_n C 2 dX10_on_22 rfl rfl ?_
      obtain ⟨r23, h23, e23, hF⟩ := fx_b2E hF
      refine xr_callVi C mvX10_183 [.int a1, .int a2] [] (mX10_court l G a0 a1 a2 ta0 h14 h23 r23 e23) ta0 (by decide) vc10 rfl ⟨rfl, rfl, (Nat.le_of_ble_eq_true rfl), (Nat.le_of_ble_eq_true rfl)⟩ rfl (Nat.le_of_ble_eq_true rfl) dX10_on_23 ?_
      refine xr_goto C 30 dX10_on_26 (by decide) ?_
      cases hF
      exact xr_iret C dX10_on_30
theorem dX10_lineUp_0 : decode cX10_lineUp 0 = .ok (.aload_n 0, 1) := by decide +kernel
theorem dX10_lineUp_1 : decode cX10_lineUp 1 = .ok (.iconst 0, 1) := by decide +kernel
theorem dX10_lineUp_2 : decode cX10_lineUp 2 = .ok (.putfield 63, 3) := by decide +kernel
theorem dX10_lineUp_5 : decode cX10_lineUp 5 = .ok (.aload_n 0, 1) := by decide +kernel
theorem dX10_lineUp_6 : decode cX10_lineUp 6 = .ok (.iload_n 1, 1) := by decide +kernel
theorem dX10_lineUp_7 : decode cX10_lineUp 7 = .ok (.invokevirtual 180, 3) := by decide +kernel
theorem dX10_lineUp_10 : decode cX10_lineUp 10 = .ok (.ifCond .eq 19, 3) := by decide +kernel
theorem dX10_lineUp_13 : decode cX10_lineUp 13 = .ok (.iload_n 2, 1) := by decide +kernel
theorem dX10_lineUp_14 : decode cX10_lineUp 14 = .ok (.invokestatic 205, 3) := by decide +kernel
theorem dX10_lineUp_17 : decode cX10_lineUp 17 = .ok (.ifCond .eq 12, 3) := by decide +kernel
theorem dX10_lineUp_20 : decode cX10_lineUp 20 = .ok (.aload_n 0, 1) := by decide +kernel
theorem dX10_lineUp_21 : decode cX10_lineUp 21 = .ok (.iload_n 1, 1) := by decide +kernel
theorem dX10_lineUp_22 : decode cX10_lineUp 22 = .ok (.iload_n 2, 1) := by decide +kernel
theorem dX10_lineUp_23 : decode cX10_lineUp 23 = .ok (.invokevirtual 208, 3) := by decide +kernel
theorem dX10_lineUp_26 : decode cX10_lineUp 26 = .ok (.goto 4, 3) := by decide +kernel
theorem dX10_lineUp_29 : decode cX10_lineUp 29 = .ok (.iconst (-1), 1) := by decide +kernel
theorem dX10_lineUp_30 : decode cX10_lineUp 30 = .ok (.ireturn, 1) := by decide +kernel
def fX10_lineUp (a0 : Nat) (a1 : Int32) (a2 : Int32) (h : hp_T) : Option (Int32 × hp_T) := fx_let (hp_sI h a0 0 (0 : Int32)) fun (h2 : hp_T) => fx_b2 (fX10_isSide a0 a1 h2) fun (r7 : Int32) (h7 : hp_T) => if r7 = 0 then (some ((-1 : Int32), h7)) else (fx_b2 (fX10_isSpot a2 h7) fun (r14 : Int32) (h14 : hp_T) => if r14 = 0 then (some ((-1 : Int32), h14)) else (fx_b2 (fX10_lined a0 a1 a2 h14) fun (r23 : Int32) (h23 : hp_T) => some (r23, h23)))
set_option maxRecDepth 100000 in
set_option maxHeartbeats 4000000 in
theorem mX10_lineUp (l : Launch) (G : xr_G) (a0 : Nat) (a1 : Int32) (a2 : Int32) (ta0 : hp_sh a0 = (10, 0)) (h h1 : hp_T) (r : Int32) (hF : fX10_lineUp a0 a1 a2 h = some (r, h1)) : xr_M l G yX10_lineUp cX10_lineUp 3 (xr_R 3 67) (some .int) [.ref (G.2.2.1 a0), .int a1, .int a2] h (xr_Qi G r h1) := by
  refine xr_start rfl (Nat.le_of_ble_eq_true rfl) (fun K C => ?_)
  show xr_j l G K 3 h [(0, .ref (G.2.2.1 a0)), (1, .int a1), (2, .int a2)] 0 []
  unfold fX10_lineUp at hF
  refine xr_aload_n C 0 dX10_lineUp_0 rfl rfl ?_
  refine xr_iconst (v := 0) C dX10_lineUp_1 (by decide) ?_
  refine xr_puti C fpX10_63 rfl rfl rfl dX10_lineUp_2 ta0 (fun h2 e2 => ?_)
  have hF := fx_letE hF h2 e2
  refine xr_aload_n C 0 dX10_lineUp_5 rfl rfl ?_
  refine xr_iload_n C 1 dX10_lineUp_6 rfl rfl ?_
  obtain ⟨r7, h7, e7, hF⟩ := fx_b2E hF
  refine xr_callVi C mvX10_180 [.int a1] [] (mX10_isSide l G a0 a1 ta0 h2 h7 r7 e7) ta0 (by decide) vc10 rfl ⟨rfl, rfl, (Nat.le_of_ble_eq_true rfl), (Nat.le_of_ble_eq_true rfl)⟩ rfl (Nat.le_of_ble_eq_true rfl) dX10_lineUp_7 ?_
  refine xr_if_eq C 29 dX10_lineUp_10 (by decide) (fun c10 => ?_) (fun c10 => ?_)
  · have hF := fx_pos hF c10
    refine xr_iconst (v := -1) C dX10_lineUp_29 (by decide) ?_
    cases hF
    exact xr_iret C dX10_lineUp_30
  · have hF := fx_neg hF c10
    refine xr_iload_n C 2 dX10_lineUp_13 rfl rfl ?_
    obtain ⟨r14, h14, e14, hF⟩ := fx_b2E hF
    refine xr_callSi C mvX10_205 [.int a2] [] (mX10_isSpot l G a2  h7 h14 r14 e14) rfl ⟨rfl, rfl, (Nat.le_of_ble_eq_true rfl), (Nat.le_of_ble_eq_true rfl)⟩ rfl (Nat.le_of_ble_eq_true rfl) dX10_lineUp_14 ?_
    refine xr_if_eq C 29 dX10_lineUp_17 (by decide) (fun c17 => ?_) (fun c17 => ?_)
    · have hF := fx_pos hF c17
      refine xr_iconst (v := -1) C dX10_lineUp_29 (by decide) ?_
      cases hF
      exact xr_iret C dX10_lineUp_30
    · have hF := fx_neg hF c17
      refine xr_aload_n C 0 dX10_lineUp_20 rfl rfl ?_
      refine xr_iload_n C 1 dX10_lineUp_21 rfl rfl ?_
      refine xr_iload_n C 2 dX10_lineUp_22 rfl rfl ?_
      obtain ⟨r23, h23, e23, hF⟩ := fx_b2E hF
      refine xr_callVi C mvX10_208 [.int a1, .int a2] [] (mX10_lined l G a0 a1 a2 ta0 h14 h23 r23 e23) ta0 (by decide) vc10 rfl ⟨rfl, rfl, (Nat.le_of_ble_eq_true rfl), (Nat.le_of_ble_eq_true rfl)⟩ rfl (Nat.le_of_ble_eq_true rfl) dX10_lineUp_23 ?_
      refine xr_goto C 30 dX10_lineUp_26 (by decide) ?_
      cases hF
      exact xr_iret C dX10_lineUp_30
theorem dX10_keeps_0 : decode cX10_keeps 0 = .ok (.aload_n 0, 1) := by decide +kernel
theorem dX10_keeps_1 : decode cX10_keeps 1 = .ok (.getfield 174, 3) := by decide +kernel
theorem dX10_keeps_4 : decode cX10_keeps 4 = .ok (.bipush 20, 2) := by decide +kernel
theorem dX10_keeps_6 : decode cX10_keeps 6 = .ok (.if_icmp .ne 44, 3) := by decide +kernel
theorem dX10_keeps_9 : decode cX10_keeps 9 = .ok (.bipush 120, 2) := by decide +kernel
theorem dX10_keeps_11 : decode cX10_keeps 11 = .ok (.istore_n 1, 1) := by decide +kernel
theorem dX10_keeps_12 : decode cX10_keeps 12 = .ok (.iload_n 1, 1) := by decide +kernel
theorem dX10_keeps_13 : decode cX10_keeps 13 = .ok (.sipush 2400, 3) := by decide +kernel
theorem dX10_keeps_16 : decode cX10_keeps 16 = .ok (.if_icmp .ge 24, 3) := by decide +kernel
theorem dX10_keeps_19 : decode cX10_keeps 19 = .ok (.aload_n 0, 1) := by decide +kernel
theorem dX10_keeps_20 : decode cX10_keeps 20 = .ok (.getfield 39, 3) := by decide +kernel
theorem dX10_keeps_23 : decode cX10_keeps 23 = .ok (.iload_n 1, 1) := by decide +kernel
theorem dX10_keeps_24 : decode cX10_keeps 24 = .ok (.bipush 120, 2) := by decide +kernel
theorem dX10_keeps_26 : decode cX10_keeps 26 = .ok (.isub, 1) := by decide +kernel
theorem dX10_keeps_27 : decode cX10_keeps 27 = .ok (.aload_n 0, 1) := by decide +kernel
theorem dX10_keeps_28 : decode cX10_keeps 28 = .ok (.getfield 39, 3) := by decide +kernel
theorem dX10_keeps_31 : decode cX10_keeps 31 = .ok (.iload_n 1, 1) := by decide +kernel
theorem dX10_keeps_32 : decode cX10_keeps 32 = .ok (.iaload, 1) := by decide +kernel
theorem dX10_keeps_33 : decode cX10_keeps 33 = .ok (.iastore, 1) := by decide +kernel
theorem dX10_keeps_34 : decode cX10_keeps 34 = .ok (.iinc 1 1, 3) := by decide +kernel
theorem dX10_keeps_37 : decode cX10_keeps 37 = .ok (.goto (-25), 3) := by decide +kernel
theorem dX10_keeps_40 : decode cX10_keeps 40 = .ok (.aload_n 0, 1) := by decide +kernel
theorem dX10_keeps_41 : decode cX10_keeps 41 = .ok (.dup, 1) := by decide +kernel
theorem dX10_keeps_42 : decode cX10_keeps 42 = .ok (.getfield 174, 3) := by decide +kernel
theorem dX10_keeps_45 : decode cX10_keeps 45 = .ok (.iconst 1, 1) := by decide +kernel
theorem dX10_keeps_46 : decode cX10_keeps 46 = .ok (.isub, 1) := by decide +kernel
theorem dX10_keeps_47 : decode cX10_keeps 47 = .ok (.putfield 174, 3) := by decide +kernel
theorem dX10_keeps_50 : decode cX10_keeps 50 = .ok (.iconst 0, 1) := by decide +kernel
theorem dX10_keeps_51 : decode cX10_keeps 51 = .ok (.istore_n 1, 1) := by decide +kernel
theorem dX10_keeps_52 : decode cX10_keeps 52 = .ok (.iload_n 1, 1) := by decide +kernel
theorem dX10_keeps_53 : decode cX10_keeps 53 = .ok (.bipush 120, 2) := by decide +kernel
theorem dX10_keeps_55 : decode cX10_keeps 55 = .ok (.if_icmp .ge 29, 3) := by decide +kernel
theorem dX10_keeps_58 : decode cX10_keeps 58 = .ok (.aload_n 0, 1) := by decide +kernel
theorem dX10_keeps_59 : decode cX10_keeps 59 = .ok (.getfield 39, 3) := by decide +kernel
theorem dX10_keeps_62 : decode cX10_keeps 62 = .ok (.bipush 120, 2) := by decide +kernel
theorem dX10_keeps_64 : decode cX10_keeps 64 = .ok (.aload_n 0, 1) := by decide +kernel
theorem dX10_keeps_65 : decode cX10_keeps 65 = .ok (.getfield 174, 3) := by decide +kernel
theorem dX10_keeps_68 : decode cX10_keeps 68 = .ok (.imul, 1) := by decide +kernel
theorem dX10_keeps_69 : decode cX10_keeps 69 = .ok (.iload_n 1, 1) := by decide +kernel
theorem dX10_keeps_70 : decode cX10_keeps 70 = .ok (.iadd, 1) := by decide +kernel
theorem dX10_keeps_71 : decode cX10_keeps 71 = .ok (.aload_n 0, 1) := by decide +kernel
theorem dX10_keeps_72 : decode cX10_keeps 72 = .ok (.getfield 36, 3) := by decide +kernel
theorem dX10_keeps_75 : decode cX10_keeps 75 = .ok (.iload_n 1, 1) := by decide +kernel
theorem dX10_keeps_76 : decode cX10_keeps 76 = .ok (.iaload, 1) := by decide +kernel
theorem dX10_keeps_77 : decode cX10_keeps 77 = .ok (.iastore, 1) := by decide +kernel
theorem dX10_keeps_78 : decode cX10_keeps 78 = .ok (.iinc 1 1, 3) := by decide +kernel
theorem dX10_keeps_81 : decode cX10_keeps 81 = .ok (.goto (-29), 3) := by decide +kernel
theorem dX10_keeps_84 : decode cX10_keeps 84 = .ok (.aload_n 0, 1) := by decide +kernel
theorem dX10_keeps_85 : decode cX10_keeps 85 = .ok (.dup, 1) := by decide +kernel
theorem dX10_keeps_86 : decode cX10_keeps 86 = .ok (.getfield 174, 3) := by decide +kernel
theorem dX10_keeps_89 : decode cX10_keeps 89 = .ok (.iconst 1, 1) := by decide +kernel
theorem dX10_keeps_90 : decode cX10_keeps 90 = .ok (.iadd, 1) := by decide +kernel
theorem dX10_keeps_91 : decode cX10_keeps 91 = .ok (.putfield 174, 3) := by decide +kernel
theorem dX10_keeps_94 : decode cX10_keeps 94 = .ok (.return_, 1) := by decide +kernel
def fX10_keeps_52  : Nat → Nat → Int32 → hp_T → Option hp_T
  | 0, _, _, _ => none
  | n + 1, a0, a1, h => if (120 : Int32) ≤ a1 then (fx_let (hp_sI h a0 22 ((h.1 a0 22) + (1 : Int32))) fun (h91 : hp_T) => some h91) else (fx_g (fx_in a1 120) (fx_g (fx_in (((120 : Int32) * (h.1 a0 22)) + a1) 2400) (fx_let (hp_sI h (h.2.2 a0 21) (fx_ix (((120 : Int32) * (h.1 a0 22)) + a1)) (h.1 (h.2.2 a0 20) (fx_ix a1))) fun (h77 : hp_T) => fx_let (a1 + (1 : Int32)) fun (x78 : Int32) => fX10_keeps_52 n a0 x78 h77)))
set_option maxRecDepth 100000 in
set_option maxHeartbeats 4000000 in
theorem bX10_keeps_52 {l : Launch} {G : xr_G} {K : xr_K} {h1 : hp_T} (C : xr_C G K cX10_keeps RX10 2 (xr_R 0 0) none (some (xr_Qv G h1)))  : ∀ (n : Nat) (a0 : Nat) (a1 : Int32) (ta0 : hp_sh a0 = (10, 0)) (h : hp_T), fX10_keeps_52 n a0 a1 h = some h1 → xr_j l G K 2 h [(0, .ref (G.2.2.1 a0)), (1, .int a1)] 52 [] := by
  intro n
  induction n with
  | zero =>
    intro a0 a1 ta0 h hF
    cases hF
  | succ n ih =>
    intro a0 a1 ta0 h hF
    rw [fX10_keeps_52] at hF
    refine xr_iload_n C 1 dX10_keeps_52 rfl rfl ?_
    refine xr_bipush (v := 120) C dX10_keeps_53 (by decide) ?_
    refine xr_icmp_ge C 84 dX10_keeps_55 (by decide) (fun c55 => ?_) (fun c55 => ?_)
    · have hF := fx_pos hF c55
      refine xr_aload_n C 0 dX10_keeps_84 rfl rfl ?_
      refine xr_dup C dX10_keeps_85 rfl ?_
      refine xr_geti C flX10_174 rfl dX10_keeps_86 ta0 ?_
      refine xr_iconst (v := 1) C dX10_keeps_89 (by decide) ?_
      refine xr_iadd C dX10_keeps_90 ?_
      refine xr_puti C fpX10_174 rfl rfl rfl dX10_keeps_91 ta0 (fun h91 e91 => ?_)
      have hF := fx_letE hF h91 e91
      cases hF
      exact xr_vret C dX10_keeps_94
    · have hF := fx_neg hF c55
      refine xr_aload_n C 0 dX10_keeps_58 rfl rfl ?_
      refine xr_getr C flX10_39 rfl (by decide) dX10_keeps_59 ta0 (fun t59 => ?_)
      refine xr_bipush (v := 120) C dX10_keeps_62 (by decide) ?_
      refine xr_aload_n C 0 dX10_keeps_64 rfl rfl ?_
      refine xr_geti C flX10_174 rfl dX10_keeps_65 ta0 ?_
      refine xr_imul C dX10_keeps_68 ?_
      refine xr_iload_n C 1 dX10_keeps_69 rfl rfl ?_
      refine xr_iadd C dX10_keeps_70 ?_
      refine xr_aload_n C 0 dX10_keeps_71 rfl rfl ?_
      refine xr_getr C flX10_36 rfl (by decide) dX10_keeps_72 ta0 (fun t72 => ?_)
      refine xr_iload_n C 1 dX10_keeps_75 rfl rfl ?_
      obtain ⟨g76, hF⟩ := fx_gE hF
      refine xr_iald C dX10_keeps_76 t72 g76 ?_
      obtain ⟨g77, hF⟩ := fx_gE hF
      refine xr_iast C dX10_keeps_77 t59 g77 (fun h77 e77 => ?_)
      have hF := fx_letE hF h77 e77
      obtain ⟨x78, e78⟩ : ∃ y : Int32, y = (a1 + (1 : Int32)) := ⟨_, rfl⟩
      have hF := fx_letE hF x78 e78
      refine xr_iinc C x78 1 [(1, .int x78), (0, .ref (G.2.2.1 a0))] dX10_keeps_78 rfl (by rw [e78]; rfl) (Nat.le_of_ble_eq_true rfl) rfl ?_
      refine xr_goto C 52 dX10_keeps_81 (by decide) ?_
      refine xr_sub [1, 0] [(0, .ref (G.2.2.1 a0)), (1, .int x78)] rfl ?_
      exact ih a0 x78 ta0 h77 hF
def fX10_keeps_50  (a0 : Nat) (h : hp_T) : Option hp_T := fX10_keeps_52 fx_N a0 (0 : Int32) h
set_option maxRecDepth 100000 in
set_option maxHeartbeats 4000000 in
theorem bX10_keeps_50 {l : Launch} {G : xr_G} {K : xr_K} {h1 : hp_T} (C : xr_C G K cX10_keeps RX10 2 (xr_R 0 0) none (some (xr_Qv G h1)))  (a0 : Nat) (ta0 : hp_sh a0 = (10, 0)) (h : hp_T) (hF : fX10_keeps_50 a0 h = some h1) : xr_j l G K 2 h [(0, .ref (G.2.2.1 a0))] 50 [] := by
  unfold fX10_keeps_50 at hF
  refine xr_iconst (v := 0) C dX10_keeps_50 (by decide) ?_
  refine xr_istore_n C [(1, .int (0 : Int32)), (0, .ref (G.2.2.1 a0))] dX10_keeps_51 rfl (Nat.le_of_ble_eq_true rfl) rfl ?_
  refine xr_sub [1, 0] [(0, .ref (G.2.2.1 a0)), (1, .int (0 : Int32))] rfl ?_
  exact bX10_keeps_52 C  fx_N a0 (0 : Int32) ta0 h hF
def fX10_keeps_12  : Nat → Nat → Int32 → hp_T → Option hp_T
  | 0, _, _, _ => none
  | n + 1, a0, a1, h => if (2400 : Int32) ≤ a1 then (fx_let (hp_sI h a0 22 ((h.1 a0 22) - (1 : Int32))) fun (h47 : hp_T) => fX10_keeps_50 a0 h47) else (fx_g (fx_in a1 2400) (fx_g (fx_in (a1 - (120 : Int32)) 2400) (fx_let (hp_sI h (h.2.2 a0 21) (fx_ix (a1 - (120 : Int32))) (h.1 (h.2.2 a0 21) (fx_ix a1))) fun (h33 : hp_T) => fx_let (a1 + (1 : Int32)) fun (x34 : Int32) => fX10_keeps_12 n a0 x34 h33)))
set_option maxRecDepth 100000 in
set_option maxHeartbeats 4000000 in
theorem bX10_keeps_12 {l : Launch} {G : xr_G} {K : xr_K} {h1 : hp_T} (C : xr_C G K cX10_keeps RX10 2 (xr_R 0 0) none (some (xr_Qv G h1)))  : ∀ (n : Nat) (a0 : Nat) (a1 : Int32) (ta0 : hp_sh a0 = (10, 0)) (h : hp_T), fX10_keeps_12 n a0 a1 h = some h1 → xr_j l G K 2 h [(0, .ref (G.2.2.1 a0)), (1, .int a1)] 12 [] := by
  intro n
  induction n with
  | zero =>
    intro a0 a1 ta0 h hF
    cases hF
  | succ n ih =>
    intro a0 a1 ta0 h hF
    rw [fX10_keeps_12] at hF
    refine xr_iload_n C 1 dX10_keeps_12 rfl rfl ?_
    refine xr_sipush (v := 2400) C dX10_keeps_13 (by decide) ?_
    refine xr_icmp_ge C 40 dX10_keeps_16 (by decide) (fun c16 => ?_) (fun c16 => ?_)
    · have hF := fx_pos hF c16
      refine xr_aload_n C 0 dX10_keeps_40 rfl rfl ?_
      refine xr_dup C dX10_keeps_41 rfl ?_
      refine xr_geti C flX10_174 rfl dX10_keeps_42 ta0 ?_
      refine xr_iconst (v := 1) C dX10_keeps_45 (by decide) ?_
      refine xr_isub C dX10_keeps_46 ?_
      refine xr_puti C fpX10_174 rfl rfl rfl dX10_keeps_47 ta0 (fun h47 e47 => ?_)
      have hF := fx_letE hF h47 e47
      refine xr_sub [0] [(0, .ref (G.2.2.1 a0))] rfl ?_
      exact bX10_keeps_50 C   a0 ta0 h47 hF
    · have hF := fx_neg hF c16
      refine xr_aload_n C 0 dX10_keeps_19 rfl rfl ?_
      refine xr_getr C flX10_39 rfl (by decide) dX10_keeps_20 ta0 (fun t20 => ?_)
      refine xr_iload_n C 1 dX10_keeps_23 rfl rfl ?_
      refine xr_bipush (v := 120) C dX10_keeps_24 (by decide) ?_
      refine xr_isub C dX10_keeps_26 ?_
      refine xr_aload_n C 0 dX10_keeps_27 rfl rfl ?_
      refine xr_getr C flX10_39 rfl (by decide) dX10_keeps_28 ta0 (fun t28 => ?_)
      refine xr_iload_n C 1 dX10_keeps_31 rfl rfl ?_
      obtain ⟨g32, hF⟩ := fx_gE hF
      refine xr_iald C dX10_keeps_32 t28 g32 ?_
      obtain ⟨g33, hF⟩ := fx_gE hF
      refine xr_iast C dX10_keeps_33 t20 g33 (fun h33 e33 => ?_)
      have hF := fx_letE hF h33 e33
      obtain ⟨x34, e34⟩ : ∃ y : Int32, y = (a1 + (1 : Int32)) := ⟨_, rfl⟩
      have hF := fx_letE hF x34 e34
      refine xr_iinc C x34 1 [(1, .int x34), (0, .ref (G.2.2.1 a0))] dX10_keeps_34 rfl (by rw [e34]; rfl) (Nat.le_of_ble_eq_true rfl) rfl ?_
      refine xr_goto C 12 dX10_keeps_37 (by decide) ?_
      refine xr_sub [1, 0] [(0, .ref (G.2.2.1 a0)), (1, .int x34)] rfl ?_
      exact ih a0 x34 ta0 h33 hF
def fX10_keeps (a0 : Nat) (h : hp_T) : Option hp_T := if (h.1 a0 22) = (20 : Int32) then (fX10_keeps_12 fx_N a0 (120 : Int32) h) else (fX10_keeps_50 a0 h)
set_option maxRecDepth 100000 in
set_option maxHeartbeats 4000000 in
theorem mX10_keeps (l : Launch) (G : xr_G) (a0 : Nat) (ta0 : hp_sh a0 = (10, 0)) (h h1 : hp_T) (hF : fX10_keeps a0 h = some h1) : xr_M l G yX10_keeps cX10_keeps 2 (xr_R 0 0) none [.ref (G.2.2.1 a0)] h (xr_Qv G h1) := by
  refine xr_start rfl (Nat.le_of_ble_eq_true rfl) (fun K C => ?_)
  show xr_j l G K 2 h [(0, .ref (G.2.2.1 a0))] 0 []
  unfold fX10_keeps at hF
  refine xr_aload_n C 0 dX10_keeps_0 rfl rfl ?_
  refine xr_geti C flX10_174 rfl dX10_keeps_1 ta0 ?_
  refine xr_bipush (v := 20) C dX10_keeps_4 (by decide) ?_
  refine xr_icmp_ne C 50 dX10_keeps_6 (by decide) (fun c6 => ?_) (fun c6 => ?_)
  · have hF := fx_neg hF c6
    exact bX10_keeps_50 C   a0 ta0 h hF
  · have hF := fx_pos hF c6
    refine xr_bipush (v := 120) C dX10_keeps_9 (by decide) ?_
    refine xr_istore_n C [(1, .int (120 : Int32)), (0, .ref (G.2.2.1 a0))] dX10_keeps_11 rfl (Nat.le_of_ble_eq_true rfl) rfl ?_
    refine xr_sub [1, 0] [(0, .ref (G.2.2.1 a0)), (1, .int (120 : Int32))] rfl ?_
    exact bX10_keeps_12 C  fx_N a0 (120 : Int32) ta0 h hF
