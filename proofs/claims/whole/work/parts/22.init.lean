theorem dfX0 : ∀ j, j < 4 → defaultValue (tyX0 j) = if ((hp_F.getD 0 []).getD j none).isSome then .null else .int 0 := by decide +kernel
theorem dfX1 : ∀ j, j < 4 → defaultValue (tyX1 j) = if ((hp_F.getD 1 []).getD j none).isSome then .null else .int 0 := by decide +kernel
theorem dfX2 : ∀ j, j < 3 → defaultValue (tyX2 j) = if ((hp_F.getD 2 []).getD j none).isSome then .null else .int 0 := by decide +kernel
theorem dfX3 : ∀ j, j < 3 → defaultValue (tyX3 j) = if ((hp_F.getD 3 []).getD j none).isSome then .null else .int 0 := by decide +kernel
theorem dfX4 : ∀ j, j < 10 → defaultValue (tyX4 j) = if ((hp_F.getD 4 []).getD j none).isSome then .null else .int 0 := by decide +kernel
theorem dfX5 : ∀ j, j < 9 → defaultValue (tyX5 j) = if ((hp_F.getD 5 []).getD j none).isSome then .null else .int 0 := by decide +kernel
theorem dfX6 : ∀ j, j < 9 → defaultValue (tyX6 j) = if ((hp_F.getD 6 []).getD j none).isSome then .null else .int 0 := by decide +kernel
theorem dfX7 : ∀ j, j < 8 → defaultValue (tyX7 j) = if ((hp_F.getD 7 []).getD j none).isSome then .null else .int 0 := by decide +kernel
theorem dfX8 : ∀ j, j < 7 → defaultValue (tyX8 j) = if ((hp_F.getD 8 []).getD j none).isSome then .null else .int 0 := by decide +kernel
theorem dfX9 : ∀ j, j < 17 → defaultValue (tyX9 j) = if ((hp_F.getD 9 []).getD j none).isSome then .null else .int 0 := by decide +kernel
theorem dfX10 : ∀ j, j < 28 → defaultValue (tyX10 j) = if ((hp_F.getD 10 []).getD j none).isSome then .null else .int 0 := by decide +kernel
def hp_0 : hp_T := (fun _ _ => 0, fun _ _ => 0, fun _ _ => 999)
theorem dX0_init_0 : decode cX0_init 0 = .ok (.aload_n 0, 1) := by decide +kernel
theorem dX0_init_1 : decode cX0_init 1 = .ok (.invokespecial 1, 3) := by decide +kernel
theorem dX0_init_4 : decode cX0_init 4 = .ok (.return_, 1) := by decide +kernel
theorem miX0_init : xi_mi yX0_init cX0_init 1 := ⟨⟨(hp_pl 8 (by decide +kernel) rfl), (hp_pl 222 (by decide +kernel) rfl), by decide +kernel, by decide +kernel, by decide +kernel⟩, rfl, (hp_pl 221 (by decide +kernel) rfl)⟩
def iX0_init (a n : Nat) (h : hp_T) : hp_T := h
set_option maxRecDepth 100000 in
set_option maxHeartbeats 4000000 in
theorem iX0_init_ok (l : Launch) (g : xi_G) (a n : Nat) (h : hp_T) (han : a < n) (hn9 : n + 0 < 999) (sa : hp_sh a = (0, 0))  : xi_M l g yX0_init cX0_init 1 ({ frames := 1, cells := 0, slots := 0, locals := 14 } : Room) [.ref (xi_ad g.2.2.1 a)] n h (n + 0) (iX0_init a n h) := by
  refine xi_start rfl rfl (Nat.le_of_ble_eq_true rfl) (fun K C => ?_)
  show xi_j l g K 1 0 0 n h [(0, .ref (xi_ad g.2.2.1 a))] 0 []
  refine xi_aload_n C 0 dX0_init_0 rfl rfl ?_
  refine xi_obj C ⟨(hp_pl 223 (by decide +kernel) rfl), (hp_pl 30 (by decide +kernel) rfl), (hp_pl 31 (by decide +kernel) rfl)⟩ (Nat.le_of_ble_eq_true rfl) (Nat.le_of_ble_eq_true rfl) dX0_init_1 ?_
  exact xi_vret (n1 := 0) (h1 := h) C rfl rfl dX0_init_4
theorem dX6_init_0 : decode cX6_init 0 = .ok (.aload_n 0, 1) := by decide +kernel
theorem dX6_init_1 : decode cX6_init 1 = .ok (.invokespecial 3, 3) := by decide +kernel
theorem dX6_init_4 : decode cX6_init 4 = .ok (.aload_n 0, 1) := by decide +kernel
theorem dX6_init_5 : decode cX6_init 5 = .ok (.bipush 6, 2) := by decide +kernel
theorem dX6_init_7 : decode cX6_init 7 = .ok (.newarray .int, 2) := by decide +kernel
theorem dX6_init_9 : decode cX6_init 9 = .ok (.putfield 9, 3) := by decide +kernel
theorem dX6_init_12 : decode cX6_init 12 = .ok (.aload_n 0, 1) := by decide +kernel
theorem dX6_init_13 : decode cX6_init 13 = .ok (.bipush 12, 2) := by decide +kernel
theorem dX6_init_15 : decode cX6_init 15 = .ok (.newarray .int, 2) := by decide +kernel
theorem dX6_init_17 : decode cX6_init 17 = .ok (.putfield 15, 3) := by decide +kernel
theorem dX6_init_20 : decode cX6_init 20 = .ok (.aload_n 0, 1) := by decide +kernel
theorem dX6_init_21 : decode cX6_init 21 = .ok (.bipush 6, 2) := by decide +kernel
theorem dX6_init_23 : decode cX6_init 23 = .ok (.newarray .int, 2) := by decide +kernel
theorem dX6_init_25 : decode cX6_init 25 = .ok (.putfield 18, 3) := by decide +kernel
theorem dX6_init_28 : decode cX6_init 28 = .ok (.aload_n 0, 1) := by decide +kernel
theorem dX6_init_29 : decode cX6_init 29 = .ok (.bipush 6, 2) := by decide +kernel
theorem dX6_init_31 : decode cX6_init 31 = .ok (.newarray .int, 2) := by decide +kernel
theorem dX6_init_33 : decode cX6_init 33 = .ok (.putfield 21, 3) := by decide +kernel
theorem dX6_init_36 : decode cX6_init 36 = .ok (.return_, 1) := by decide +kernel
theorem miX6_init : xi_mi yX6_init cX6_init 1 := ⟨⟨(hp_pl 7 (by decide +kernel) rfl), (hp_pl 159 (by decide +kernel) rfl), by decide +kernel, by decide +kernel, by decide +kernel⟩, rfl, (hp_pl 158 (by decide +kernel) rfl)⟩
def iX6_init (a n : Nat) (h : hp_T) : hp_T := (hp_sR (hp_sR (hp_sR (hp_sR h a 0 n) a 1 (n + 1)) a 2 (n + 2)) a 3 (n + 3))
set_option maxRecDepth 100000 in
set_option maxHeartbeats 4000000 in
theorem iX6_init_ok (l : Launch) (g : xi_G) (a n : Nat) (h : hp_T) (han : a < n) (hn9 : n + 4 < 999) (sa : hp_sh a = (6, 0)) (s0 : hp_sh (n + 0) = (20, 6)) (s1 : hp_sh (n + 1) = (20, 12)) (s2 : hp_sh (n + 2) = (20, 6)) (s3 : hp_sh (n + 3) = (20, 6)) : xi_M l g yX6_init cX6_init 1 ({ frames := 1, cells := 4, slots := 30, locals := 14 } : Room) [.ref (xi_ad g.2.2.1 a)] n h (n + 4) (iX6_init a n h) := by
  refine xi_start rfl rfl (Nat.le_of_ble_eq_true rfl) (fun K C => ?_)
  show xi_j l g K 1 0 0 n h [(0, .ref (xi_ad g.2.2.1 a))] 0 []
  refine xi_aload_n C 0 dX6_init_0 rfl rfl ?_
  refine xi_obj C ⟨(hp_pl 160 (by decide +kernel) rfl), (hp_pl 30 (by decide +kernel) rfl), (hp_pl 31 (by decide +kernel) rfl)⟩ (Nat.le_of_ble_eq_true rfl) (Nat.le_of_ble_eq_true rfl) dX6_init_1 ?_
  refine xi_aload_n C 0 dX6_init_4 rfl rfl ?_
  refine xi_bipush (v := 6) C dX6_init_5 (by decide) ?_
  refine xi_newa_int (N := 6) C (n + 1) rfl (hp_pl 69 (by decide +kernel) rfl) (by decide) (by decide) (Nat.le_of_ble_eq_true rfl) s0 1 6 rfl rfl (Nat.le_of_ble_eq_true rfl) (Nat.le_of_ble_eq_true rfl) dX6_init_7 ?_
  refine xi_putF (ty0 := (.array .int)) C rfl ⟨fdX6_0, (hp_pl 161 (by decide +kernel) rfl), rfl, by decide +kernel⟩ rfl rfl (by omega) (fun _ => rfl) (fun _ => rfl) dX6_init_9 sa (by omega) ?_
  refine xi_aload_n C 0 dX6_init_12 rfl rfl ?_
  refine xi_bipush (v := 12) C dX6_init_13 (by decide) ?_
  refine xi_newa_int (N := 12) C (n + 2) rfl (hp_pl 69 (by decide +kernel) rfl) (by decide) (by decide) (Nat.le_of_ble_eq_true rfl) s1 2 18 rfl rfl (Nat.le_of_ble_eq_true rfl) (Nat.le_of_ble_eq_true rfl) dX6_init_15 ?_
  refine xi_putF (ty0 := (.array .int)) C rfl ⟨fdX6_1, (hp_pl 163 (by decide +kernel) rfl), rfl, by decide +kernel⟩ rfl rfl (by omega) (fun _ => rfl) (fun _ => rfl) dX6_init_17 sa (by omega) ?_
  refine xi_aload_n C 0 dX6_init_20 rfl rfl ?_
  refine xi_bipush (v := 6) C dX6_init_21 (by decide) ?_
  refine xi_newa_int (N := 6) C (n + 3) rfl (hp_pl 69 (by decide +kernel) rfl) (by decide) (by decide) (Nat.le_of_ble_eq_true rfl) s2 3 24 rfl rfl (Nat.le_of_ble_eq_true rfl) (Nat.le_of_ble_eq_true rfl) dX6_init_23 ?_
  refine xi_putF (ty0 := (.array .int)) C rfl ⟨fdX6_2, (hp_pl 165 (by decide +kernel) rfl), rfl, by decide +kernel⟩ rfl rfl (by omega) (fun _ => rfl) (fun _ => rfl) dX6_init_25 sa (by omega) ?_
  refine xi_aload_n C 0 dX6_init_28 rfl rfl ?_
  refine xi_bipush (v := 6) C dX6_init_29 (by decide) ?_
  refine xi_newa_int (N := 6) C (n + 4) rfl (hp_pl 69 (by decide +kernel) rfl) (by decide) (by decide) (Nat.le_of_ble_eq_true rfl) s3 4 30 rfl rfl (Nat.le_of_ble_eq_true rfl) (Nat.le_of_ble_eq_true rfl) dX6_init_31 ?_
  refine xi_putF (ty0 := (.array .int)) C rfl ⟨fdX6_3, (hp_pl 167 (by decide +kernel) rfl), rfl, by decide +kernel⟩ rfl rfl (by omega) (fun _ => rfl) (fun _ => rfl) dX6_init_33 sa (by omega) ?_
  exact xi_vret (n1 := 0) (h1 := h) C rfl rfl dX6_init_36
theorem dX1_init_0 : decode cX1_init 0 = .ok (.aload_n 0, 1) := by decide +kernel
theorem dX1_init_1 : decode cX1_init 1 = .ok (.invokespecial 1, 3) := by decide +kernel
theorem dX1_init_4 : decode cX1_init 4 = .ok (.aload_n 0, 1) := by decide +kernel
theorem dX1_init_5 : decode cX1_init 5 = .ok (.new 7, 3) := by decide +kernel
theorem dX1_init_8 : decode cX1_init 8 = .ok (.dup, 1) := by decide +kernel
theorem dX1_init_9 : decode cX1_init 9 = .ok (.invokespecial 9, 3) := by decide +kernel
theorem dX1_init_12 : decode cX1_init 12 = .ok (.putfield 10, 3) := by decide +kernel
theorem dX1_init_15 : decode cX1_init 15 = .ok (.aload_n 0, 1) := by decide +kernel
theorem dX1_init_16 : decode cX1_init 16 = .ok (.new 7, 3) := by decide +kernel
theorem dX1_init_19 : decode cX1_init 19 = .ok (.dup, 1) := by decide +kernel
theorem dX1_init_20 : decode cX1_init 20 = .ok (.invokespecial 9, 3) := by decide +kernel
theorem dX1_init_23 : decode cX1_init 23 = .ok (.putfield 16, 3) := by decide +kernel
theorem dX1_init_26 : decode cX1_init 26 = .ok (.return_, 1) := by decide +kernel
theorem miX1_init : xi_mi yX1_init cX1_init 1 := ⟨⟨(hp_pl 6 (by decide +kernel) rfl), (hp_pl 153 (by decide +kernel) rfl), by decide +kernel, by decide +kernel, by decide +kernel⟩, rfl, (hp_pl 152 (by decide +kernel) rfl)⟩
def iX1_init (a n : Nat) (h : hp_T) : hp_T := (hp_sR (iX6_init (n + 5) (n + 6) (hp_sR (iX6_init n (n + 1) h) a 0 n)) a 1 (n + 5))
set_option maxRecDepth 100000 in
set_option maxHeartbeats 4000000 in
theorem iX1_init_ok (l : Launch) (g : xi_G) (a n : Nat) (h : hp_T) (han : a < n) (hn9 : n + 10 < 999) (sa : hp_sh a = (1, 0)) (s0 : hp_sh (n + 0) = (6, 0)) (s1 : hp_sh (n + 1) = (20, 6)) (s2 : hp_sh (n + 2) = (20, 12)) (s3 : hp_sh (n + 3) = (20, 6)) (s4 : hp_sh (n + 4) = (20, 6)) (s5 : hp_sh (n + 5) = (6, 0)) (s6 : hp_sh (n + 6) = (20, 6)) (s7 : hp_sh (n + 7) = (20, 12)) (s8 : hp_sh (n + 8) = (20, 6)) (s9 : hp_sh (n + 9) = (20, 6)) : xi_M l g yX1_init cX1_init 1 ({ frames := 2, cells := 10, slots := 78, locals := 34 } : Room) [.ref (xi_ad g.2.2.1 a)] n h (n + 10) (iX1_init a n h) := by
  refine xi_start rfl rfl (Nat.le_of_ble_eq_true rfl) (fun K C => ?_)
  show xi_j l g K 1 0 0 n h [(0, .ref (xi_ad g.2.2.1 a))] 0 []
  refine xi_aload_n C 0 dX1_init_0 rfl rfl ?_
  refine xi_obj C ⟨(hp_pl 154 (by decide +kernel) rfl), (hp_pl 30 (by decide +kernel) rfl), (hp_pl 31 (by decide +kernel) rfl)⟩ (Nat.le_of_ble_eq_true rfl) (Nat.le_of_ble_eq_true rfl) dX1_init_1 ?_
  refine xi_aload_n C 0 dX1_init_4 rfl rfl ?_
  refine xi_new C (n + 1) rfl vc6 (by decide) (by decide +kernel) inX6 tyX6_ok dfX6 ⟨(hp_pl 155 (by decide +kernel) rfl), (hp_pl 156 (by decide +kernel) rfl), (hp_pl 7 (by decide +kernel) rfl)⟩ s0 1 9 rfl rfl (Nat.le_of_ble_eq_true rfl) (Nat.le_of_ble_eq_true rfl) dX1_init_5 ?_
  refine xi_dup C dX1_init_8 rfl ?_
  refine xi_callN C ⟨miX6_init, by decide +kernel⟩ (iX6_init_ok l g n (n + 1) h (by omega) (by omega) s0 s1 s2 s3 s4) ⟨Nat.le_of_ble_eq_true rfl, Nat.le_of_ble_eq_true rfl⟩ 5 39 rfl rfl (Nat.le_of_ble_eq_true rfl) (Nat.le_of_ble_eq_true rfl) (Nat.le_of_ble_eq_true rfl) dX1_init_9 ?_
  refine xi_putF (ty0 := (.object "CourtSix$Side")) C rfl ⟨fdX1_0, (hp_pl 200 (by decide +kernel) rfl), rfl, by decide +kernel⟩ rfl rfl (by omega) (fun _ => rfl) (fun _ => rfl) dX1_init_12 sa (by omega) ?_
  refine xi_aload_n C 0 dX1_init_15 rfl rfl ?_
  refine xi_new C (n + 6) rfl vc6 (by decide) (by decide +kernel) inX6 tyX6_ok dfX6 ⟨(hp_pl 155 (by decide +kernel) rfl), (hp_pl 156 (by decide +kernel) rfl), (hp_pl 7 (by decide +kernel) rfl)⟩ s5 6 48 rfl rfl (Nat.le_of_ble_eq_true rfl) (Nat.le_of_ble_eq_true rfl) dX1_init_16 ?_
  refine xi_dup C dX1_init_19 rfl ?_
  refine xi_callN C ⟨miX6_init, by decide +kernel⟩ (iX6_init_ok l g (n + 5) (n + 6) (hp_sR (iX6_init n (n + 1) h) a 0 n) (by omega) (by omega) s5 s6 s7 s8 s9) ⟨Nat.le_of_ble_eq_true rfl, Nat.le_of_ble_eq_true rfl⟩ 10 78 rfl rfl (Nat.le_of_ble_eq_true rfl) (Nat.le_of_ble_eq_true rfl) (Nat.le_of_ble_eq_true rfl) dX1_init_20 ?_
  refine xi_putF (ty0 := (.object "CourtSix$Side")) C rfl ⟨fdX1_1, (hp_pl 202 (by decide +kernel) rfl), rfl, by decide +kernel⟩ rfl rfl (by omega) (fun _ => rfl) (fun _ => rfl) dX1_init_23 sa (by omega) ?_
  exact xi_vret (n1 := 0) (h1 := h) C rfl rfl dX1_init_26
theorem dX2_init_0 : decode cX2_init 0 = .ok (.aload_n 0, 1) := by decide +kernel
theorem dX2_init_1 : decode cX2_init 1 = .ok (.invokespecial 3, 3) := by decide +kernel
theorem dX2_init_4 : decode cX2_init 4 = .ok (.aload_n 0, 1) := by decide +kernel
theorem dX2_init_5 : decode cX2_init 5 = .ok (.bipush 6, 2) := by decide +kernel
theorem dX2_init_7 : decode cX2_init 7 = .ok (.newarray .int, 2) := by decide +kernel
theorem dX2_init_9 : decode cX2_init 9 = .ok (.putfield 9, 3) := by decide +kernel
theorem dX2_init_12 : decode cX2_init 12 = .ok (.aload_n 0, 1) := by decide +kernel
theorem dX2_init_13 : decode cX2_init 13 = .ok (.bipush 6, 2) := by decide +kernel
theorem dX2_init_15 : decode cX2_init 15 = .ok (.newarray .int, 2) := by decide +kernel
theorem dX2_init_17 : decode cX2_init 17 = .ok (.putfield 15, 3) := by decide +kernel
theorem dX2_init_20 : decode cX2_init 20 = .ok (.aload_n 0, 1) := by decide +kernel
theorem dX2_init_21 : decode cX2_init 21 = .ok (.bipush 6, 2) := by decide +kernel
theorem dX2_init_23 : decode cX2_init 23 = .ok (.newarray .int, 2) := by decide +kernel
theorem dX2_init_25 : decode cX2_init 25 = .ok (.putfield 18, 3) := by decide +kernel
theorem dX2_init_28 : decode cX2_init 28 = .ok (.return_, 1) := by decide +kernel
theorem miX2_init : xi_mi yX2_init cX2_init 1 := ⟨⟨(hp_pl 4 (by decide +kernel) rfl), (hp_pl 80 (by decide +kernel) rfl), by decide +kernel, by decide +kernel, by decide +kernel⟩, rfl, (hp_pl 79 (by decide +kernel) rfl)⟩
def iX2_init (a n : Nat) (h : hp_T) : hp_T := (hp_sR (hp_sR (hp_sR h a 0 n) a 1 (n + 1)) a 2 (n + 2))
set_option maxRecDepth 100000 in
set_option maxHeartbeats 4000000 in
theorem iX2_init_ok (l : Launch) (g : xi_G) (a n : Nat) (h : hp_T) (han : a < n) (hn9 : n + 3 < 999) (sa : hp_sh a = (2, 0)) (s0 : hp_sh (n + 0) = (20, 6)) (s1 : hp_sh (n + 1) = (20, 6)) (s2 : hp_sh (n + 2) = (20, 6)) : xi_M l g yX2_init cX2_init 1 ({ frames := 1, cells := 3, slots := 18, locals := 14 } : Room) [.ref (xi_ad g.2.2.1 a)] n h (n + 3) (iX2_init a n h) := by
  refine xi_start rfl rfl (Nat.le_of_ble_eq_true rfl) (fun K C => ?_)
  show xi_j l g K 1 0 0 n h [(0, .ref (xi_ad g.2.2.1 a))] 0 []
  refine xi_aload_n C 0 dX2_init_0 rfl rfl ?_
  refine xi_obj C ⟨(hp_pl 81 (by decide +kernel) rfl), (hp_pl 30 (by decide +kernel) rfl), (hp_pl 31 (by decide +kernel) rfl)⟩ (Nat.le_of_ble_eq_true rfl) (Nat.le_of_ble_eq_true rfl) dX2_init_1 ?_
  refine xi_aload_n C 0 dX2_init_4 rfl rfl ?_
  refine xi_bipush (v := 6) C dX2_init_5 (by decide) ?_
  refine xi_newa_int (N := 6) C (n + 1) rfl (hp_pl 69 (by decide +kernel) rfl) (by decide) (by decide) (Nat.le_of_ble_eq_true rfl) s0 1 6 rfl rfl (Nat.le_of_ble_eq_true rfl) (Nat.le_of_ble_eq_true rfl) dX2_init_7 ?_
  refine xi_putF (ty0 := (.array .int)) C rfl ⟨fdX2_0, (hp_pl 82 (by decide +kernel) rfl), rfl, by decide +kernel⟩ rfl rfl (by omega) (fun _ => rfl) (fun _ => rfl) dX2_init_9 sa (by omega) ?_
  refine xi_aload_n C 0 dX2_init_12 rfl rfl ?_
  refine xi_bipush (v := 6) C dX2_init_13 (by decide) ?_
  refine xi_newa_int (N := 6) C (n + 2) rfl (hp_pl 69 (by decide +kernel) rfl) (by decide) (by decide) (Nat.le_of_ble_eq_true rfl) s1 2 12 rfl rfl (Nat.le_of_ble_eq_true rfl) (Nat.le_of_ble_eq_true rfl) dX2_init_15 ?_
  refine xi_putF (ty0 := (.array .int)) C rfl ⟨fdX2_1, (hp_pl 85 (by decide +kernel) rfl), rfl, by decide +kernel⟩ rfl rfl (by omega) (fun _ => rfl) (fun _ => rfl) dX2_init_17 sa (by omega) ?_
  refine xi_aload_n C 0 dX2_init_20 rfl rfl ?_
  refine xi_bipush (v := 6) C dX2_init_21 (by decide) ?_
  refine xi_newa_int (N := 6) C (n + 3) rfl (hp_pl 69 (by decide +kernel) rfl) (by decide) (by decide) (Nat.le_of_ble_eq_true rfl) s2 3 18 rfl rfl (Nat.le_of_ble_eq_true rfl) (Nat.le_of_ble_eq_true rfl) dX2_init_23 ?_
  refine xi_putF (ty0 := (.array .int)) C rfl ⟨fdX2_2, (hp_pl 88 (by decide +kernel) rfl), rfl, by decide +kernel⟩ rfl rfl (by omega) (fun _ => rfl) (fun _ => rfl) dX2_init_25 sa (by omega) ?_
  exact xi_vret (n1 := 0) (h1 := h) C rfl rfl dX2_init_28
theorem dX3_init_0 : decode cX3_init 0 = .ok (.aload_n 0, 1) := by decide +kernel
theorem dX3_init_1 : decode cX3_init 1 = .ok (.invokespecial 3, 3) := by decide +kernel
theorem dX3_init_4 : decode cX3_init 4 = .ok (.aload_n 0, 1) := by decide +kernel
theorem dX3_init_5 : decode cX3_init 5 = .ok (.bipush 49, 2) := by decide +kernel
theorem dX3_init_7 : decode cX3_init 7 = .ok (.newarray .int, 2) := by decide +kernel
theorem dX3_init_9 : decode cX3_init 9 = .ok (.putfield 11, 3) := by decide +kernel
theorem dX3_init_12 : decode cX3_init 12 = .ok (.aload_n 0, 1) := by decide +kernel
theorem dX3_init_13 : decode cX3_init 13 = .ok (.bipush 49, 2) := by decide +kernel
theorem dX3_init_15 : decode cX3_init 15 = .ok (.newarray .int, 2) := by decide +kernel
theorem dX3_init_17 : decode cX3_init 17 = .ok (.putfield 15, 3) := by decide +kernel
theorem dX3_init_20 : decode cX3_init 20 = .ok (.aload_n 0, 1) := by decide +kernel
theorem dX3_init_21 : decode cX3_init 21 = .ok (.bipush 49, 2) := by decide +kernel
theorem dX3_init_23 : decode cX3_init 23 = .ok (.newarray .int, 2) := by decide +kernel
theorem dX3_init_25 : decode cX3_init 25 = .ok (.putfield 18, 3) := by decide +kernel
theorem dX3_init_28 : decode cX3_init 28 = .ok (.return_, 1) := by decide +kernel
theorem miX3_init : xi_mi yX3_init cX3_init 1 := ⟨⟨(hp_pl 5 (by decide +kernel) rfl), (hp_pl 134 (by decide +kernel) rfl), by decide +kernel, by decide +kernel, by decide +kernel⟩, rfl, (hp_pl 133 (by decide +kernel) rfl)⟩
def iX3_init (a n : Nat) (h : hp_T) : hp_T := (hp_sR (hp_sR (hp_sR h a 0 n) a 1 (n + 1)) a 2 (n + 2))
set_option maxRecDepth 100000 in
set_option maxHeartbeats 4000000 in
theorem iX3_init_ok (l : Launch) (g : xi_G) (a n : Nat) (h : hp_T) (han : a < n) (hn9 : n + 3 < 999) (sa : hp_sh a = (3, 0)) (s0 : hp_sh (n + 0) = (20, 49)) (s1 : hp_sh (n + 1) = (20, 49)) (s2 : hp_sh (n + 2) = (20, 49)) : xi_M l g yX3_init cX3_init 1 ({ frames := 1, cells := 3, slots := 147, locals := 14 } : Room) [.ref (xi_ad g.2.2.1 a)] n h (n + 3) (iX3_init a n h) := by
  refine xi_start rfl rfl (Nat.le_of_ble_eq_true rfl) (fun K C => ?_)
  show xi_j l g K 1 0 0 n h [(0, .ref (xi_ad g.2.2.1 a))] 0 []
  refine xi_aload_n C 0 dX3_init_0 rfl rfl ?_
  refine xi_obj C ⟨(hp_pl 135 (by decide +kernel) rfl), (hp_pl 30 (by decide +kernel) rfl), (hp_pl 31 (by decide +kernel) rfl)⟩ (Nat.le_of_ble_eq_true rfl) (Nat.le_of_ble_eq_true rfl) dX3_init_1 ?_
  refine xi_aload_n C 0 dX3_init_4 rfl rfl ?_
  refine xi_bipush (v := 49) C dX3_init_5 (by decide) ?_
  refine xi_newa_int (N := 49) C (n + 1) rfl (hp_pl 69 (by decide +kernel) rfl) (by decide) (by decide) (Nat.le_of_ble_eq_true rfl) s0 1 49 rfl rfl (Nat.le_of_ble_eq_true rfl) (Nat.le_of_ble_eq_true rfl) dX3_init_7 ?_
  refine xi_putF (ty0 := (.array .int)) C rfl ⟨fdX3_0, (hp_pl 136 (by decide +kernel) rfl), rfl, by decide +kernel⟩ rfl rfl (by omega) (fun _ => rfl) (fun _ => rfl) dX3_init_9 sa (by omega) ?_
  refine xi_aload_n C 0 dX3_init_12 rfl rfl ?_
  refine xi_bipush (v := 49) C dX3_init_13 (by decide) ?_
  refine xi_newa_int (N := 49) C (n + 2) rfl (hp_pl 69 (by decide +kernel) rfl) (by decide) (by decide) (Nat.le_of_ble_eq_true rfl) s1 2 98 rfl rfl (Nat.le_of_ble_eq_true rfl) (Nat.le_of_ble_eq_true rfl) dX3_init_15 ?_
  refine xi_putF (ty0 := (.array .int)) C rfl ⟨fdX3_1, (hp_pl 138 (by decide +kernel) rfl), rfl, by decide +kernel⟩ rfl rfl (by omega) (fun _ => rfl) (fun _ => rfl) dX3_init_17 sa (by omega) ?_
  refine xi_aload_n C 0 dX3_init_20 rfl rfl ?_
  refine xi_bipush (v := 49) C dX3_init_21 (by decide) ?_
  refine xi_newa_int (N := 49) C (n + 3) rfl (hp_pl 69 (by decide +kernel) rfl) (by decide) (by decide) (Nat.le_of_ble_eq_true rfl) s2 3 147 rfl rfl (Nat.le_of_ble_eq_true rfl) (Nat.le_of_ble_eq_true rfl) dX3_init_23 ?_
  refine xi_putF (ty0 := (.array .int)) C rfl ⟨fdX3_2, (hp_pl 140 (by decide +kernel) rfl), rfl, by decide +kernel⟩ rfl rfl (by omega) (fun _ => rfl) (fun _ => rfl) dX3_init_25 sa (by omega) ?_
  exact xi_vret (n1 := 0) (h1 := h) C rfl rfl dX3_init_28
theorem dX4_init_0 : decode cX4_init 0 = .ok (.aload_n 0, 1) := by decide +kernel
theorem dX4_init_1 : decode cX4_init 1 = .ok (.invokespecial 3, 3) := by decide +kernel
theorem dX4_init_4 : decode cX4_init 4 = .ok (.aload_n 0, 1) := by decide +kernel
theorem dX4_init_5 : decode cX4_init 5 = .ok (.new 9, 3) := by decide +kernel
theorem dX4_init_8 : decode cX4_init 8 = .ok (.dup, 1) := by decide +kernel
theorem dX4_init_9 : decode cX4_init 9 = .ok (.invokespecial 11, 3) := by decide +kernel
theorem dX4_init_12 : decode cX4_init 12 = .ok (.putfield 12, 3) := by decide +kernel
theorem dX4_init_15 : decode cX4_init 15 = .ok (.aload_n 0, 1) := by decide +kernel
theorem dX4_init_16 : decode cX4_init 16 = .ok (.new 9, 3) := by decide +kernel
theorem dX4_init_19 : decode cX4_init 19 = .ok (.dup, 1) := by decide +kernel
theorem dX4_init_20 : decode cX4_init 20 = .ok (.invokespecial 11, 3) := by decide +kernel
theorem dX4_init_23 : decode cX4_init 23 = .ok (.putfield 18, 3) := by decide +kernel
theorem dX4_init_26 : decode cX4_init 26 = .ok (.aload_n 0, 1) := by decide +kernel
theorem dX4_init_27 : decode cX4_init 27 = .ok (.bipush 12, 2) := by decide +kernel
theorem dX4_init_29 : decode cX4_init 29 = .ok (.newarray .int, 2) := by decide +kernel
theorem dX4_init_31 : decode cX4_init 31 = .ok (.putfield 21, 3) := by decide +kernel
theorem dX4_init_34 : decode cX4_init 34 = .ok (.aload_n 0, 1) := by decide +kernel
theorem dX4_init_35 : decode cX4_init 35 = .ok (.sipush 676, 3) := by decide +kernel
theorem dX4_init_38 : decode cX4_init 38 = .ok (.newarray .long, 2) := by decide +kernel
theorem dX4_init_40 : decode cX4_init 40 = .ok (.putfield 25, 3) := by decide +kernel
theorem dX4_init_43 : decode cX4_init 43 = .ok (.aload_n 0, 1) := by decide +kernel
theorem dX4_init_44 : decode cX4_init 44 = .ok (.sipush 312, 3) := by decide +kernel
theorem dX4_init_47 : decode cX4_init 47 = .ok (.newarray .int, 2) := by decide +kernel
theorem dX4_init_49 : decode cX4_init 49 = .ok (.putfield 29, 3) := by decide +kernel
theorem dX4_init_52 : decode cX4_init 52 = .ok (.aload_n 0, 1) := by decide +kernel
theorem dX4_init_53 : decode cX4_init 53 = .ok (.sipush 312, 3) := by decide +kernel
theorem dX4_init_56 : decode cX4_init 56 = .ok (.newarray .int, 2) := by decide +kernel
theorem dX4_init_58 : decode cX4_init 58 = .ok (.putfield 32, 3) := by decide +kernel
theorem dX4_init_61 : decode cX4_init 61 = .ok (.aload_n 0, 1) := by decide +kernel
theorem dX4_init_62 : decode cX4_init 62 = .ok (.sipush 312, 3) := by decide +kernel
theorem dX4_init_65 : decode cX4_init 65 = .ok (.newarray .long, 2) := by decide +kernel
theorem dX4_init_67 : decode cX4_init 67 = .ok (.putfield 35, 3) := by decide +kernel
theorem dX4_init_70 : decode cX4_init 70 = .ok (.aload_n 0, 1) := by decide +kernel
theorem dX4_init_71 : decode cX4_init 71 = .ok (.sipush 312, 3) := by decide +kernel
theorem dX4_init_74 : decode cX4_init 74 = .ok (.newarray .long, 2) := by decide +kernel
theorem dX4_init_76 : decode cX4_init 76 = .ok (.putfield 38, 3) := by decide +kernel
theorem dX4_init_79 : decode cX4_init 79 = .ok (.return_, 1) := by decide +kernel
theorem miX4_init : xi_mi yX4_init cX4_init 1 := ⟨⟨(hp_pl 3 (by decide +kernel) rfl), (hp_pl 74 (by decide +kernel) rfl), by decide +kernel, by decide +kernel, by decide +kernel⟩, rfl, (hp_pl 73 (by decide +kernel) rfl)⟩
def iX4_init (a n : Nat) (h : hp_T) : hp_T := (hp_sR (hp_sR (hp_sR (hp_sR (hp_sR (hp_sR (hp_sR (iX2_init (n + 4) (n + 5) (hp_sR (iX2_init n (n + 1) h) a 0 n)) a 1 (n + 4)) a 2 (n + 8)) a 3 (n + 9)) a 4 (n + 10)) a 5 (n + 11)) a 6 (n + 12)) a 7 (n + 13))
set_option maxRecDepth 100000 in
set_option maxHeartbeats 4000000 in
theorem iX4_init_ok (l : Launch) (g : xi_G) (a n : Nat) (h : hp_T) (han : a < n) (hn9 : n + 14 < 999) (sa : hp_sh a = (4, 0)) (s0 : hp_sh (n + 0) = (2, 0)) (s1 : hp_sh (n + 1) = (20, 6)) (s2 : hp_sh (n + 2) = (20, 6)) (s3 : hp_sh (n + 3) = (20, 6)) (s4 : hp_sh (n + 4) = (2, 0)) (s5 : hp_sh (n + 5) = (20, 6)) (s6 : hp_sh (n + 6) = (20, 6)) (s7 : hp_sh (n + 7) = (20, 6)) (s8 : hp_sh (n + 8) = (20, 12)) (s9 : hp_sh (n + 9) = (21, 676)) (s10 : hp_sh (n + 10) = (20, 312)) (s11 : hp_sh (n + 11) = (20, 312)) (s12 : hp_sh (n + 12) = (21, 312)) (s13 : hp_sh (n + 13) = (21, 312)) : xi_M l g yX4_init cX4_init 1 ({ frames := 2, cells := 14, slots := 1978, locals := 34 } : Room) [.ref (xi_ad g.2.2.1 a)] n h (n + 14) (iX4_init a n h) := by
  refine xi_start rfl rfl (Nat.le_of_ble_eq_true rfl) (fun K C => ?_)
  show xi_j l g K 1 0 0 n h [(0, .ref (xi_ad g.2.2.1 a))] 0 []
  refine xi_aload_n C 0 dX4_init_0 rfl rfl ?_
  refine xi_obj C ⟨(hp_pl 75 (by decide +kernel) rfl), (hp_pl 30 (by decide +kernel) rfl), (hp_pl 31 (by decide +kernel) rfl)⟩ (Nat.le_of_ble_eq_true rfl) (Nat.le_of_ble_eq_true rfl) dX4_init_1 ?_
  refine xi_aload_n C 0 dX4_init_4 rfl rfl ?_
  refine xi_new C (n + 1) rfl vc2 (by decide) (by decide +kernel) inX2 tyX2_ok dfX2 ⟨(hp_pl 76 (by decide +kernel) rfl), (hp_pl 77 (by decide +kernel) rfl), (hp_pl 4 (by decide +kernel) rfl)⟩ s0 1 3 rfl rfl (Nat.le_of_ble_eq_true rfl) (Nat.le_of_ble_eq_true rfl) dX4_init_5 ?_
  refine xi_dup C dX4_init_8 rfl ?_
  refine xi_callN C ⟨miX2_init, by decide +kernel⟩ (iX2_init_ok l g n (n + 1) h (by omega) (by omega) s0 s1 s2 s3) ⟨Nat.le_of_ble_eq_true rfl, Nat.le_of_ble_eq_true rfl⟩ 4 21 rfl rfl (Nat.le_of_ble_eq_true rfl) (Nat.le_of_ble_eq_true rfl) (Nat.le_of_ble_eq_true rfl) dX4_init_9 ?_
  refine xi_putF (ty0 := (.object "CourtSix$Force")) C rfl ⟨fdX4_0, (hp_pl 98 (by decide +kernel) rfl), rfl, by decide +kernel⟩ rfl rfl (by omega) (fun _ => rfl) (fun _ => rfl) dX4_init_12 sa (by omega) ?_
  refine xi_aload_n C 0 dX4_init_15 rfl rfl ?_
  refine xi_new C (n + 5) rfl vc2 (by decide) (by decide +kernel) inX2 tyX2_ok dfX2 ⟨(hp_pl 76 (by decide +kernel) rfl), (hp_pl 77 (by decide +kernel) rfl), (hp_pl 4 (by decide +kernel) rfl)⟩ s4 5 24 rfl rfl (Nat.le_of_ble_eq_true rfl) (Nat.le_of_ble_eq_true rfl) dX4_init_16 ?_
  refine xi_dup C dX4_init_19 rfl ?_
  refine xi_callN C ⟨miX2_init, by decide +kernel⟩ (iX2_init_ok l g (n + 4) (n + 5) (hp_sR (iX2_init n (n + 1) h) a 0 n) (by omega) (by omega) s4 s5 s6 s7) ⟨Nat.le_of_ble_eq_true rfl, Nat.le_of_ble_eq_true rfl⟩ 8 42 rfl rfl (Nat.le_of_ble_eq_true rfl) (Nat.le_of_ble_eq_true rfl) (Nat.le_of_ble_eq_true rfl) dX4_init_20 ?_
  refine xi_putF (ty0 := (.object "CourtSix$Force")) C rfl ⟨fdX4_1, (hp_pl 99 (by decide +kernel) rfl), rfl, by decide +kernel⟩ rfl rfl (by omega) (fun _ => rfl) (fun _ => rfl) dX4_init_23 sa (by omega) ?_
  refine xi_aload_n C 0 dX4_init_26 rfl rfl ?_
  refine xi_bipush (v := 12) C dX4_init_27 (by decide) ?_
  refine xi_newa_int (N := 12) C (n + 9) rfl (hp_pl 69 (by decide +kernel) rfl) (by decide) (by decide) (Nat.le_of_ble_eq_true rfl) s8 9 54 rfl rfl (Nat.le_of_ble_eq_true rfl) (Nat.le_of_ble_eq_true rfl) dX4_init_29 ?_
  refine xi_putF (ty0 := (.array .int)) C rfl ⟨fdX4_2, (hp_pl 100 (by decide +kernel) rfl), rfl, by decide +kernel⟩ rfl rfl (by omega) (fun _ => rfl) (fun _ => rfl) dX4_init_31 sa (by omega) ?_
  refine xi_aload_n C 0 dX4_init_34 rfl rfl ?_
  refine xi_sipush (v := 676) C dX4_init_35 (by decide) ?_
  refine xi_newa_long (N := 676) C (n + 10) rfl (hp_pl 129 (by decide +kernel) rfl) (by decide) (by decide) (Nat.le_of_ble_eq_true rfl) s9 10 730 rfl rfl (Nat.le_of_ble_eq_true rfl) (Nat.le_of_ble_eq_true rfl) dX4_init_38 ?_
  refine xi_putF (ty0 := (.array .long)) C rfl ⟨fdX4_3, (hp_pl 101 (by decide +kernel) rfl), rfl, by decide +kernel⟩ rfl rfl (by omega) (fun _ => rfl) (fun _ => rfl) dX4_init_40 sa (by omega) ?_
  refine xi_aload_n C 0 dX4_init_43 rfl rfl ?_
  refine xi_sipush (v := 312) C dX4_init_44 (by decide) ?_
  refine xi_newa_int (N := 312) C (n + 11) rfl (hp_pl 69 (by decide +kernel) rfl) (by decide) (by decide) (Nat.le_of_ble_eq_true rfl) s10 11 1042 rfl rfl (Nat.le_of_ble_eq_true rfl) (Nat.le_of_ble_eq_true rfl) dX4_init_47 ?_
  refine xi_putR (ty0 := (.array .int)) C rfl ⟨fdX4_4, (hp_pl 102 (by decide +kernel) rfl), rfl, by decide +kernel⟩ rfl rfl (by omega) (fun _ => rfl) (fun _ => rfl) dX4_init_49 sa (by omega) ?_
  refine xi_aload_n C 0 dX4_init_52 rfl rfl ?_
  refine xi_sipush (v := 312) C dX4_init_53 (by decide) ?_
  refine xi_newa_int (N := 312) C (n + 12) rfl (hp_pl 69 (by decide +kernel) rfl) (by decide) (by decide) (Nat.le_of_ble_eq_true rfl) s11 12 1354 rfl rfl (Nat.le_of_ble_eq_true rfl) (Nat.le_of_ble_eq_true rfl) dX4_init_56 ?_
  refine xi_putR (ty0 := (.array .int)) C rfl ⟨fdX4_5, (hp_pl 103 (by decide +kernel) rfl), rfl, by decide +kernel⟩ rfl rfl (by omega) (fun _ => rfl) (fun _ => rfl) dX4_init_58 sa (by omega) ?_
  refine xi_aload_n C 0 dX4_init_61 rfl rfl ?_
  refine xi_sipush (v := 312) C dX4_init_62 (by decide) ?_
  refine xi_newa_long (N := 312) C (n + 13) rfl (hp_pl 129 (by decide +kernel) rfl) (by decide) (by decide) (Nat.le_of_ble_eq_true rfl) s12 13 1666 rfl rfl (Nat.le_of_ble_eq_true rfl) (Nat.le_of_ble_eq_true rfl) dX4_init_65 ?_
  refine xi_putR (ty0 := (.array .long)) C rfl ⟨fdX4_6, (hp_pl 104 (by decide +kernel) rfl), rfl, by decide +kernel⟩ rfl rfl (by omega) (fun _ => rfl) (fun _ => rfl) dX4_init_67 sa (by omega) ?_
  refine xi_aload_n C 0 dX4_init_70 rfl rfl ?_
  refine xi_sipush (v := 312) C dX4_init_71 (by decide) ?_
  refine xi_newa_long (N := 312) C (n + 14) rfl (hp_pl 129 (by decide +kernel) rfl) (by decide) (by decide) (Nat.le_of_ble_eq_true rfl) s13 14 1978 rfl rfl (Nat.le_of_ble_eq_true rfl) (Nat.le_of_ble_eq_true rfl) dX4_init_74 ?_
  refine xi_putR (ty0 := (.array .long)) C rfl ⟨fdX4_7, (hp_pl 105 (by decide +kernel) rfl), rfl, by decide +kernel⟩ rfl rfl (by omega) (fun _ => rfl) (fun _ => rfl) dX4_init_76 sa (by omega) ?_
  exact xi_vret (n1 := 0) (h1 := h) C rfl rfl dX4_init_79
theorem dX5_init_0 : decode cX5_init 0 = .ok (.aload_n 0, 1) := by decide +kernel
theorem dX5_init_1 : decode cX5_init 1 = .ok (.invokespecial 3, 3) := by decide +kernel
theorem dX5_init_4 : decode cX5_init 4 = .ok (.aload_n 0, 1) := by decide +kernel
theorem dX5_init_5 : decode cX5_init 5 = .ok (.sipush 900, 3) := by decide +kernel
theorem dX5_init_8 : decode cX5_init 8 = .ok (.newarray .int, 2) := by decide +kernel
theorem dX5_init_10 : decode cX5_init 10 = .ok (.putfield 9, 3) := by decide +kernel
theorem dX5_init_13 : decode cX5_init 13 = .ok (.aload_n 0, 1) := by decide +kernel
theorem dX5_init_14 : decode cX5_init 14 = .ok (.iconst (-1), 1) := by decide +kernel
theorem dX5_init_15 : decode cX5_init 15 = .ok (.putfield 15, 3) := by decide +kernel
theorem dX5_init_18 : decode cX5_init 18 = .ok (.return_, 1) := by decide +kernel
theorem miX5_init : xi_mi yX5_init cX5_init 1 := ⟨⟨(hp_pl 2 (by decide +kernel) rfl), (hp_pl 36 (by decide +kernel) rfl), by decide +kernel, by decide +kernel, by decide +kernel⟩, rfl, (hp_pl 35 (by decide +kernel) rfl)⟩
def iX5_init (a n : Nat) (h : hp_T) : hp_T := (hp_sI (hp_sR h a 0 n) a 3 (-1 : Int32))
set_option maxRecDepth 100000 in
set_option maxHeartbeats 4000000 in
theorem iX5_init_ok (l : Launch) (g : xi_G) (a n : Nat) (h : hp_T) (han : a < n) (hn9 : n + 1 < 999) (sa : hp_sh a = (5, 0)) (s0 : hp_sh (n + 0) = (20, 900)) : xi_M l g yX5_init cX5_init 1 ({ frames := 1, cells := 1, slots := 900, locals := 14 } : Room) [.ref (xi_ad g.2.2.1 a)] n h (n + 1) (iX5_init a n h) := by
  refine xi_start rfl rfl (Nat.le_of_ble_eq_true rfl) (fun K C => ?_)
  show xi_j l g K 1 0 0 n h [(0, .ref (xi_ad g.2.2.1 a))] 0 []
  refine xi_aload_n C 0 dX5_init_0 rfl rfl ?_
  refine xi_obj C ⟨(hp_pl 37 (by decide +kernel) rfl), (hp_pl 30 (by decide +kernel) rfl), (hp_pl 31 (by decide +kernel) rfl)⟩ (Nat.le_of_ble_eq_true rfl) (Nat.le_of_ble_eq_true rfl) dX5_init_1 ?_
  refine xi_aload_n C 0 dX5_init_4 rfl rfl ?_
  refine xi_sipush (v := 900) C dX5_init_5 (by decide) ?_
  refine xi_newa_int (N := 900) C (n + 1) rfl (hp_pl 69 (by decide +kernel) rfl) (by decide) (by decide) (Nat.le_of_ble_eq_true rfl) s0 1 900 rfl rfl (Nat.le_of_ble_eq_true rfl) (Nat.le_of_ble_eq_true rfl) dX5_init_8 ?_
  refine xi_putF (ty0 := (.array .int)) C rfl ⟨fdX5_0, (hp_pl 38 (by decide +kernel) rfl), rfl, by decide +kernel⟩ rfl rfl (by omega) (fun _ => rfl) (fun _ => rfl) dX5_init_10 sa (by omega) ?_
  refine xi_aload_n C 0 dX5_init_13 rfl rfl ?_
  refine xi_iconst (v := -1) C dX5_init_14 (by decide) ?_
  refine xi_putI (ty0 := .int) C ⟨fdX5_3, (hp_pl 43 (by decide +kernel) rfl), rfl, by decide +kernel⟩ rfl rfl rfl dX5_init_15 sa (by omega) ?_
  exact xi_vret (n1 := 0) (h1 := h) C rfl rfl dX5_init_18
theorem dX7_init_0 : decode cX7_init 0 = .ok (.aload_n 0, 1) := by decide +kernel
theorem dX7_init_1 : decode cX7_init 1 = .ok (.invokespecial 3, 3) := by decide +kernel
theorem dX7_init_4 : decode cX7_init 4 = .ok (.aload_n 0, 1) := by decide +kernel
theorem dX7_init_5 : decode cX7_init 5 = .ok (.bipush 12, 2) := by decide +kernel
theorem dX7_init_7 : decode cX7_init 7 = .ok (.newarray .int, 2) := by decide +kernel
theorem dX7_init_9 : decode cX7_init 9 = .ok (.putfield 9, 3) := by decide +kernel
theorem dX7_init_12 : decode cX7_init 12 = .ok (.aload_n 0, 1) := by decide +kernel
theorem dX7_init_13 : decode cX7_init 13 = .ok (.bipush 12, 2) := by decide +kernel
theorem dX7_init_15 : decode cX7_init 15 = .ok (.newarray .int, 2) := by decide +kernel
theorem dX7_init_17 : decode cX7_init 17 = .ok (.putfield 15, 3) := by decide +kernel
theorem dX7_init_20 : decode cX7_init 20 = .ok (.aload_n 0, 1) := by decide +kernel
theorem dX7_init_21 : decode cX7_init 21 = .ok (.bipush 12, 2) := by decide +kernel
theorem dX7_init_23 : decode cX7_init 23 = .ok (.newarray .int, 2) := by decide +kernel
theorem dX7_init_25 : decode cX7_init 25 = .ok (.putfield 18, 3) := by decide +kernel
theorem dX7_init_28 : decode cX7_init 28 = .ok (.aload_n 0, 1) := by decide +kernel
theorem dX7_init_29 : decode cX7_init 29 = .ok (.bipush 12, 2) := by decide +kernel
theorem dX7_init_31 : decode cX7_init 31 = .ok (.newarray .int, 2) := by decide +kernel
theorem dX7_init_33 : decode cX7_init 33 = .ok (.putfield 21, 3) := by decide +kernel
theorem dX7_init_36 : decode cX7_init 36 = .ok (.aload_n 0, 1) := by decide +kernel
theorem dX7_init_37 : decode cX7_init 37 = .ok (.bipush 6, 2) := by decide +kernel
theorem dX7_init_39 : decode cX7_init 39 = .ok (.newarray .int, 2) := by decide +kernel
theorem dX7_init_41 : decode cX7_init 41 = .ok (.putfield 24, 3) := by decide +kernel
theorem dX7_init_44 : decode cX7_init 44 = .ok (.aload_n 0, 1) := by decide +kernel
theorem dX7_init_45 : decode cX7_init 45 = .ok (.iconst (-1), 1) := by decide +kernel
theorem dX7_init_46 : decode cX7_init 46 = .ok (.putfield 27, 3) := by decide +kernel
theorem dX7_init_49 : decode cX7_init 49 = .ok (.return_, 1) := by decide +kernel
theorem miX7_init : xi_mi yX7_init cX7_init 1 := ⟨⟨(hp_pl 10 (by decide +kernel) rfl), (hp_pl 252 (by decide +kernel) rfl), by decide +kernel, by decide +kernel, by decide +kernel⟩, rfl, (hp_pl 251 (by decide +kernel) rfl)⟩
def iX7_init (a n : Nat) (h : hp_T) : hp_T := (hp_sI (hp_sR (hp_sR (hp_sR (hp_sR (hp_sR h a 0 n) a 1 (n + 1)) a 2 (n + 2)) a 3 (n + 3)) a 4 (n + 4)) a 7 (-1 : Int32))
set_option maxRecDepth 100000 in
set_option maxHeartbeats 4000000 in
theorem iX7_init_ok (l : Launch) (g : xi_G) (a n : Nat) (h : hp_T) (han : a < n) (hn9 : n + 5 < 999) (sa : hp_sh a = (7, 0)) (s0 : hp_sh (n + 0) = (20, 12)) (s1 : hp_sh (n + 1) = (20, 12)) (s2 : hp_sh (n + 2) = (20, 12)) (s3 : hp_sh (n + 3) = (20, 12)) (s4 : hp_sh (n + 4) = (20, 6)) : xi_M l g yX7_init cX7_init 1 ({ frames := 1, cells := 5, slots := 54, locals := 14 } : Room) [.ref (xi_ad g.2.2.1 a)] n h (n + 5) (iX7_init a n h) := by
  refine xi_start rfl rfl (Nat.le_of_ble_eq_true rfl) (fun K C => ?_)
  show xi_j l g K 1 0 0 n h [(0, .ref (xi_ad g.2.2.1 a))] 0 []
  refine xi_aload_n C 0 dX7_init_0 rfl rfl ?_
  refine xi_obj C ⟨(hp_pl 253 (by decide +kernel) rfl), (hp_pl 30 (by decide +kernel) rfl), (hp_pl 31 (by decide +kernel) rfl)⟩ (Nat.le_of_ble_eq_true rfl) (Nat.le_of_ble_eq_true rfl) dX7_init_1 ?_
  refine xi_aload_n C 0 dX7_init_4 rfl rfl ?_
  refine xi_bipush (v := 12) C dX7_init_5 (by decide) ?_
  refine xi_newa_int (N := 12) C (n + 1) rfl (hp_pl 69 (by decide +kernel) rfl) (by decide) (by decide) (Nat.le_of_ble_eq_true rfl) s0 1 12 rfl rfl (Nat.le_of_ble_eq_true rfl) (Nat.le_of_ble_eq_true rfl) dX7_init_7 ?_
  refine xi_putF (ty0 := (.array .int)) C rfl ⟨fdX7_0, (hp_pl 254 (by decide +kernel) rfl), rfl, by decide +kernel⟩ rfl rfl (by omega) (fun _ => rfl) (fun _ => rfl) dX7_init_9 sa (by omega) ?_
  refine xi_aload_n C 0 dX7_init_12 rfl rfl ?_
  refine xi_bipush (v := 12) C dX7_init_13 (by decide) ?_
  refine xi_newa_int (N := 12) C (n + 2) rfl (hp_pl 69 (by decide +kernel) rfl) (by decide) (by decide) (Nat.le_of_ble_eq_true rfl) s1 2 24 rfl rfl (Nat.le_of_ble_eq_true rfl) (Nat.le_of_ble_eq_true rfl) dX7_init_15 ?_
  refine xi_putF (ty0 := (.array .int)) C rfl ⟨fdX7_1, (hp_pl 255 (by decide +kernel) rfl), rfl, by decide +kernel⟩ rfl rfl (by omega) (fun _ => rfl) (fun _ => rfl) dX7_init_17 sa (by omega) ?_
  refine xi_aload_n C 0 dX7_init_20 rfl rfl ?_
  refine xi_bipush (v := 12) C dX7_init_21 (by decide) ?_
  refine xi_newa_int (N := 12) C (n + 3) rfl (hp_pl 69 (by decide +kernel) rfl) (by decide) (by decide) (Nat.le_of_ble_eq_true rfl) s2 3 36 rfl rfl (Nat.le_of_ble_eq_true rfl) (Nat.le_of_ble_eq_true rfl) dX7_init_23 ?_
  refine xi_putF (ty0 := (.array .int)) C rfl ⟨fdX7_2, (hp_pl 258 (by decide +kernel) rfl), rfl, by decide +kernel⟩ rfl rfl (by omega) (fun _ => rfl) (fun _ => rfl) dX7_init_25 sa (by omega) ?_
  refine xi_aload_n C 0 dX7_init_28 rfl rfl ?_
  refine xi_bipush (v := 12) C dX7_init_29 (by decide) ?_
  refine xi_newa_int (N := 12) C (n + 4) rfl (hp_pl 69 (by decide +kernel) rfl) (by decide) (by decide) (Nat.le_of_ble_eq_true rfl) s3 4 48 rfl rfl (Nat.le_of_ble_eq_true rfl) (Nat.le_of_ble_eq_true rfl) dX7_init_31 ?_
  refine xi_putF (ty0 := (.array .int)) C rfl ⟨fdX7_3, (hp_pl 261 (by decide +kernel) rfl), rfl, by decide +kernel⟩ rfl rfl (by omega) (fun _ => rfl) (fun _ => rfl) dX7_init_33 sa (by omega) ?_
  refine xi_aload_n C 0 dX7_init_36 rfl rfl ?_
  refine xi_bipush (v := 6) C dX7_init_37 (by decide) ?_
  refine xi_newa_int (N := 6) C (n + 5) rfl (hp_pl 69 (by decide +kernel) rfl) (by decide) (by decide) (Nat.le_of_ble_eq_true rfl) s4 5 54 rfl rfl (Nat.le_of_ble_eq_true rfl) (Nat.le_of_ble_eq_true rfl) dX7_init_39 ?_
  refine xi_putF (ty0 := (.array .int)) C rfl ⟨fdX7_4, (hp_pl 264 (by decide +kernel) rfl), rfl, by decide +kernel⟩ rfl rfl (by omega) (fun _ => rfl) (fun _ => rfl) dX7_init_41 sa (by omega) ?_
  refine xi_aload_n C 0 dX7_init_44 rfl rfl ?_
  refine xi_iconst (v := -1) C dX7_init_45 (by decide) ?_
  refine xi_putI (ty0 := .int) C ⟨fdX7_7, (hp_pl 272 (by decide +kernel) rfl), rfl, by decide +kernel⟩ rfl rfl rfl dX7_init_46 sa (by omega) ?_
  exact xi_vret (n1 := 0) (h1 := h) C rfl rfl dX7_init_49
theorem dX8_init_0 : decode cX8_init 0 = .ok (.aload_n 0, 1) := by decide +kernel
theorem dX8_init_1 : decode cX8_init 1 = .ok (.invokespecial 3, 3) := by decide +kernel
theorem dX8_init_4 : decode cX8_init 4 = .ok (.aload_n 0, 1) := by decide +kernel
theorem dX8_init_5 : decode cX8_init 5 = .ok (.new 9, 3) := by decide +kernel
theorem dX8_init_8 : decode cX8_init 8 = .ok (.dup, 1) := by decide +kernel
theorem dX8_init_9 : decode cX8_init 9 = .ok (.invokespecial 11, 3) := by decide +kernel
theorem dX8_init_12 : decode cX8_init 12 = .ok (.putfield 12, 3) := by decide +kernel
theorem dX8_init_15 : decode cX8_init 15 = .ok (.aload_n 0, 1) := by decide +kernel
theorem dX8_init_16 : decode cX8_init 16 = .ok (.new 9, 3) := by decide +kernel
theorem dX8_init_19 : decode cX8_init 19 = .ok (.dup, 1) := by decide +kernel
theorem dX8_init_20 : decode cX8_init 20 = .ok (.invokespecial 11, 3) := by decide +kernel
theorem dX8_init_23 : decode cX8_init 23 = .ok (.putfield 18, 3) := by decide +kernel
theorem dX8_init_26 : decode cX8_init 26 = .ok (.return_, 1) := by decide +kernel
theorem miX8_init : xi_mi yX8_init cX8_init 1 := ⟨⟨(hp_pl 9 (by decide +kernel) rfl), (hp_pl 246 (by decide +kernel) rfl), by decide +kernel, by decide +kernel, by decide +kernel⟩, rfl, (hp_pl 245 (by decide +kernel) rfl)⟩
def iX8_init (a n : Nat) (h : hp_T) : hp_T := (hp_sR (iX7_init (n + 6) (n + 7) (hp_sR (iX7_init n (n + 1) h) a 0 n)) a 1 (n + 6))
set_option maxRecDepth 100000 in
set_option maxHeartbeats 4000000 in
theorem iX8_init_ok (l : Launch) (g : xi_G) (a n : Nat) (h : hp_T) (han : a < n) (hn9 : n + 12 < 999) (sa : hp_sh a = (8, 0)) (s0 : hp_sh (n + 0) = (7, 0)) (s1 : hp_sh (n + 1) = (20, 12)) (s2 : hp_sh (n + 2) = (20, 12)) (s3 : hp_sh (n + 3) = (20, 12)) (s4 : hp_sh (n + 4) = (20, 12)) (s5 : hp_sh (n + 5) = (20, 6)) (s6 : hp_sh (n + 6) = (7, 0)) (s7 : hp_sh (n + 7) = (20, 12)) (s8 : hp_sh (n + 8) = (20, 12)) (s9 : hp_sh (n + 9) = (20, 12)) (s10 : hp_sh (n + 10) = (20, 12)) (s11 : hp_sh (n + 11) = (20, 6)) : xi_M l g yX8_init cX8_init 1 ({ frames := 2, cells := 12, slots := 124, locals := 34 } : Room) [.ref (xi_ad g.2.2.1 a)] n h (n + 12) (iX8_init a n h) := by
  refine xi_start rfl rfl (Nat.le_of_ble_eq_true rfl) (fun K C => ?_)
  show xi_j l g K 1 0 0 n h [(0, .ref (xi_ad g.2.2.1 a))] 0 []
  refine xi_aload_n C 0 dX8_init_0 rfl rfl ?_
  refine xi_obj C ⟨(hp_pl 247 (by decide +kernel) rfl), (hp_pl 30 (by decide +kernel) rfl), (hp_pl 31 (by decide +kernel) rfl)⟩ (Nat.le_of_ble_eq_true rfl) (Nat.le_of_ble_eq_true rfl) dX8_init_1 ?_
  refine xi_aload_n C 0 dX8_init_4 rfl rfl ?_
  refine xi_new C (n + 1) rfl vc7 (by decide) (by decide +kernel) inX7 tyX7_ok dfX7 ⟨(hp_pl 248 (by decide +kernel) rfl), (hp_pl 249 (by decide +kernel) rfl), (hp_pl 10 (by decide +kernel) rfl)⟩ s0 1 8 rfl rfl (Nat.le_of_ble_eq_true rfl) (Nat.le_of_ble_eq_true rfl) dX8_init_5 ?_
  refine xi_dup C dX8_init_8 rfl ?_
  refine xi_callN C ⟨miX7_init, by decide +kernel⟩ (iX7_init_ok l g n (n + 1) h (by omega) (by omega) s0 s1 s2 s3 s4 s5) ⟨Nat.le_of_ble_eq_true rfl, Nat.le_of_ble_eq_true rfl⟩ 6 62 rfl rfl (Nat.le_of_ble_eq_true rfl) (Nat.le_of_ble_eq_true rfl) (Nat.le_of_ble_eq_true rfl) dX8_init_9 ?_
  refine xi_putF (ty0 := (.object "CourtSix$Squad")) C rfl ⟨fdX8_0, (hp_pl 292 (by decide +kernel) rfl), rfl, by decide +kernel⟩ rfl rfl (by omega) (fun _ => rfl) (fun _ => rfl) dX8_init_12 sa (by omega) ?_
  refine xi_aload_n C 0 dX8_init_15 rfl rfl ?_
  refine xi_new C (n + 7) rfl vc7 (by decide) (by decide +kernel) inX7 tyX7_ok dfX7 ⟨(hp_pl 248 (by decide +kernel) rfl), (hp_pl 249 (by decide +kernel) rfl), (hp_pl 10 (by decide +kernel) rfl)⟩ s6 7 70 rfl rfl (Nat.le_of_ble_eq_true rfl) (Nat.le_of_ble_eq_true rfl) dX8_init_16 ?_
  refine xi_dup C dX8_init_19 rfl ?_
  refine xi_callN C ⟨miX7_init, by decide +kernel⟩ (iX7_init_ok l g (n + 6) (n + 7) (hp_sR (iX7_init n (n + 1) h) a 0 n) (by omega) (by omega) s6 s7 s8 s9 s10 s11) ⟨Nat.le_of_ble_eq_true rfl, Nat.le_of_ble_eq_true rfl⟩ 12 124 rfl rfl (Nat.le_of_ble_eq_true rfl) (Nat.le_of_ble_eq_true rfl) (Nat.le_of_ble_eq_true rfl) dX8_init_20 ?_
  refine xi_putF (ty0 := (.object "CourtSix$Squad")) C rfl ⟨fdX8_1, (hp_pl 297 (by decide +kernel) rfl), rfl, by decide +kernel⟩ rfl rfl (by omega) (fun _ => rfl) (fun _ => rfl) dX8_init_23 sa (by omega) ?_
  exact xi_vret (n1 := 0) (h1 := h) C rfl rfl dX8_init_26
theorem fzX9_37 : xr_fl RX9 37 9 4 := ⟨RX9, TX9, 17, tyX9, fdX9_4, hp_pl 340 (by decide +kernel) rfl⟩
theorem fzX9_58 : xr_fl RX9 58 9 9 := ⟨RX9, TX9, 17, tyX9, fdX9_9, hp_pl 345 (by decide +kernel) rfl⟩
theorem fzX9_62 : xr_fl RX9 62 9 10 := ⟨RX9, TX9, 17, tyX9, fdX9_10, hp_pl 346 (by decide +kernel) rfl⟩
theorem dX9_init_0 : decode cX9_init 0 = .ok (.aload_n 0, 1) := by decide +kernel
theorem dX9_init_1 : decode cX9_init 1 = .ok (.invokespecial 3, 3) := by decide +kernel
theorem dX9_init_4 : decode cX9_init 4 = .ok (.aload_n 0, 1) := by decide +kernel
theorem dX9_init_5 : decode cX9_init 5 = .ok (.new 9, 3) := by decide +kernel
theorem dX9_init_8 : decode cX9_init 8 = .ok (.dup, 1) := by decide +kernel
theorem dX9_init_9 : decode cX9_init 9 = .ok (.invokespecial 11, 3) := by decide +kernel
theorem dX9_init_12 : decode cX9_init 12 = .ok (.putfield 12, 3) := by decide +kernel
theorem dX9_init_15 : decode cX9_init 15 = .ok (.aload_n 0, 1) := by decide +kernel
theorem dX9_init_16 : decode cX9_init 16 = .ok (.new 16, 3) := by decide +kernel
theorem dX9_init_19 : decode cX9_init 19 = .ok (.dup, 1) := by decide +kernel
theorem dX9_init_20 : decode cX9_init 20 = .ok (.invokespecial 18, 3) := by decide +kernel
theorem dX9_init_23 : decode cX9_init 23 = .ok (.putfield 19, 3) := by decide +kernel
theorem dX9_init_26 : decode cX9_init 26 = .ok (.aload_n 0, 1) := by decide +kernel
theorem dX9_init_27 : decode cX9_init 27 = .ok (.new 23, 3) := by decide +kernel
theorem dX9_init_30 : decode cX9_init 30 = .ok (.dup, 1) := by decide +kernel
theorem dX9_init_31 : decode cX9_init 31 = .ok (.invokespecial 25, 3) := by decide +kernel
theorem dX9_init_34 : decode cX9_init 34 = .ok (.putfield 26, 3) := by decide +kernel
theorem dX9_init_37 : decode cX9_init 37 = .ok (.aload_n 0, 1) := by decide +kernel
theorem dX9_init_38 : decode cX9_init 38 = .ok (.new 30, 3) := by decide +kernel
theorem dX9_init_41 : decode cX9_init 41 = .ok (.dup, 1) := by decide +kernel
theorem dX9_init_42 : decode cX9_init 42 = .ok (.invokespecial 32, 3) := by decide +kernel
theorem dX9_init_45 : decode cX9_init 45 = .ok (.putfield 33, 3) := by decide +kernel
theorem dX9_init_48 : decode cX9_init 48 = .ok (.aload_n 0, 1) := by decide +kernel
theorem dX9_init_49 : decode cX9_init 49 = .ok (.bipush 20, 2) := by decide +kernel
theorem dX9_init_51 : decode cX9_init 51 = .ok (.anewarray 30, 3) := by decide +kernel
theorem dX9_init_54 : decode cX9_init 54 = .ok (.putfield 37, 3) := by decide +kernel
theorem dX9_init_57 : decode cX9_init 57 = .ok (.aload_n 0, 1) := by decide +kernel
theorem dX9_init_58 : decode cX9_init 58 = .ok (.bipush 36, 2) := by decide +kernel
theorem dX9_init_60 : decode cX9_init 60 = .ok (.newarray .int, 2) := by decide +kernel
theorem dX9_init_62 : decode cX9_init 62 = .ok (.putfield 41, 3) := by decide +kernel
theorem dX9_init_65 : decode cX9_init 65 = .ok (.aload_n 0, 1) := by decide +kernel
theorem dX9_init_66 : decode cX9_init 66 = .ok (.bipush 6, 2) := by decide +kernel
theorem dX9_init_68 : decode cX9_init 68 = .ok (.newarray .int, 2) := by decide +kernel
theorem dX9_init_70 : decode cX9_init 70 = .ok (.putfield 45, 3) := by decide +kernel
theorem dX9_init_73 : decode cX9_init 73 = .ok (.aload_n 0, 1) := by decide +kernel
theorem dX9_init_74 : decode cX9_init 74 = .ok (.bipush 6, 2) := by decide +kernel
theorem dX9_init_76 : decode cX9_init 76 = .ok (.newarray .int, 2) := by decide +kernel
theorem dX9_init_78 : decode cX9_init 78 = .ok (.putfield 48, 3) := by decide +kernel
theorem dX9_init_81 : decode cX9_init 81 = .ok (.aload_n 0, 1) := by decide +kernel
theorem dX9_init_82 : decode cX9_init 82 = .ok (.new 51, 3) := by decide +kernel
theorem dX9_init_85 : decode cX9_init 85 = .ok (.dup, 1) := by decide +kernel
theorem dX9_init_86 : decode cX9_init 86 = .ok (.invokespecial 53, 3) := by decide +kernel
theorem dX9_init_89 : decode cX9_init 89 = .ok (.putfield 54, 3) := by decide +kernel
theorem dX9_init_92 : decode cX9_init 92 = .ok (.aload_n 0, 1) := by decide +kernel
theorem dX9_init_93 : decode cX9_init 93 = .ok (.iconst 2, 1) := by decide +kernel
theorem dX9_init_94 : decode cX9_init 94 = .ok (.anewarray 51, 3) := by decide +kernel
theorem dX9_init_97 : decode cX9_init 97 = .ok (.putfield 58, 3) := by decide +kernel
theorem dX9_init_100 : decode cX9_init 100 = .ok (.aload_n 0, 1) := by decide +kernel
theorem dX9_init_101 : decode cX9_init 101 = .ok (.iconst 2, 1) := by decide +kernel
theorem dX9_init_102 : decode cX9_init 102 = .ok (.anewarray 51, 3) := by decide +kernel
theorem dX9_init_105 : decode cX9_init 105 = .ok (.putfield 62, 3) := by decide +kernel
theorem dX9_init_108 : decode cX9_init 108 = .ok (.aload_n 0, 1) := by decide +kernel
theorem dX9_init_109 : decode cX9_init 109 = .ok (.new 65, 3) := by decide +kernel
theorem dX9_init_112 : decode cX9_init 112 = .ok (.dup, 1) := by decide +kernel
theorem dX9_init_113 : decode cX9_init 113 = .ok (.invokespecial 67, 3) := by decide +kernel
theorem dX9_init_116 : decode cX9_init 116 = .ok (.putfield 68, 3) := by decide +kernel
theorem dX9_init_119 : decode cX9_init 119 = .ok (.aload_n 0, 1) := by decide +kernel
theorem dX9_init_120 : decode cX9_init 120 = .ok (.new 65, 3) := by decide +kernel
theorem dX9_init_123 : decode cX9_init 123 = .ok (.dup, 1) := by decide +kernel
theorem dX9_init_124 : decode cX9_init 124 = .ok (.invokespecial 67, 3) := by decide +kernel
theorem dX9_init_127 : decode cX9_init 127 = .ok (.putfield 72, 3) := by decide +kernel
theorem dX9_init_130 : decode cX9_init 130 = .ok (.iconst 0, 1) := by decide +kernel
theorem dX9_init_131 : decode cX9_init 131 = .ok (.istore_n 1, 1) := by decide +kernel
theorem dX9_init_132 : decode cX9_init 132 = .ok (.iload_n 1, 1) := by decide +kernel
theorem dX9_init_133 : decode cX9_init 133 = .ok (.bipush 20, 2) := by decide +kernel
theorem dX9_init_135 : decode cX9_init 135 = .ok (.if_icmp .ge 22, 3) := by decide +kernel
theorem dX9_init_138 : decode cX9_init 138 = .ok (.aload_n 0, 1) := by decide +kernel
theorem dX9_init_139 : decode cX9_init 139 = .ok (.getfield 37, 3) := by decide +kernel
theorem dX9_init_142 : decode cX9_init 142 = .ok (.iload_n 1, 1) := by decide +kernel
theorem dX9_init_143 : decode cX9_init 143 = .ok (.new 30, 3) := by decide +kernel
theorem dX9_init_146 : decode cX9_init 146 = .ok (.dup, 1) := by decide +kernel
theorem dX9_init_147 : decode cX9_init 147 = .ok (.invokespecial 32, 3) := by decide +kernel
theorem dX9_init_150 : decode cX9_init 150 = .ok (.aastore, 1) := by decide +kernel
theorem dX9_init_151 : decode cX9_init 151 = .ok (.iinc 1 1, 3) := by decide +kernel
theorem dX9_init_154 : decode cX9_init 154 = .ok (.goto (-22), 3) := by decide +kernel
theorem dX9_init_157 : decode cX9_init 157 = .ok (.iconst 0, 1) := by decide +kernel
theorem dX9_init_158 : decode cX9_init 158 = .ok (.istore_n 1, 1) := by decide +kernel
theorem dX9_init_159 : decode cX9_init 159 = .ok (.iload_n 1, 1) := by decide +kernel
theorem dX9_init_160 : decode cX9_init 160 = .ok (.iconst 2, 1) := by decide +kernel
theorem dX9_init_161 : decode cX9_init 161 = .ok (.if_icmp .ge 35, 3) := by decide +kernel
theorem dX9_init_164 : decode cX9_init 164 = .ok (.aload_n 0, 1) := by decide +kernel
theorem dX9_init_165 : decode cX9_init 165 = .ok (.getfield 58, 3) := by decide +kernel
theorem dX9_init_168 : decode cX9_init 168 = .ok (.iload_n 1, 1) := by decide +kernel
theorem dX9_init_169 : decode cX9_init 169 = .ok (.new 51, 3) := by decide +kernel
theorem dX9_init_172 : decode cX9_init 172 = .ok (.dup, 1) := by decide +kernel
theorem dX9_init_173 : decode cX9_init 173 = .ok (.invokespecial 53, 3) := by decide +kernel
theorem dX9_init_176 : decode cX9_init 176 = .ok (.aastore, 1) := by decide +kernel
theorem dX9_init_177 : decode cX9_init 177 = .ok (.aload_n 0, 1) := by decide +kernel
theorem dX9_init_178 : decode cX9_init 178 = .ok (.getfield 62, 3) := by decide +kernel
theorem dX9_init_181 : decode cX9_init 181 = .ok (.iload_n 1, 1) := by decide +kernel
theorem dX9_init_182 : decode cX9_init 182 = .ok (.new 51, 3) := by decide +kernel
theorem dX9_init_185 : decode cX9_init 185 = .ok (.dup, 1) := by decide +kernel
theorem dX9_init_186 : decode cX9_init 186 = .ok (.invokespecial 53, 3) := by decide +kernel
theorem dX9_init_189 : decode cX9_init 189 = .ok (.aastore, 1) := by decide +kernel
theorem dX9_init_190 : decode cX9_init 190 = .ok (.iinc 1 1, 3) := by decide +kernel
theorem dX9_init_193 : decode cX9_init 193 = .ok (.goto (-34), 3) := by decide +kernel
theorem dX9_init_196 : decode cX9_init 196 = .ok (.return_, 1) := by decide +kernel
theorem miX9_init : xi_mi yX9_init cX9_init 2 := ⟨⟨(hp_pl 1 (by decide +kernel) rfl), (hp_pl 28 (by decide +kernel) rfl), by decide +kernel, by decide +kernel, by decide +kernel⟩, rfl, (hp_pl 27 (by decide +kernel) rfl)⟩
def iX9_init : hp_T := (hp_sR (iX0_init 289 290 (hp_sR (iX0_init 288 289 (hp_sR (iX0_init 287 288 (hp_sR (iX0_init 286 287 (hp_sR (iX1_init 275 276 (hp_sR (iX1_init 264 265 (hp_sR (iX1_init 253 254 (hp_sR (iX1_init 242 243 (hp_sR (iX1_init 231 232 (hp_sR (iX1_init 220 221 (hp_sR (iX1_init 209 210 (hp_sR (iX1_init 198 199 (hp_sR (iX1_init 187 188 (hp_sR (iX1_init 176 177 (hp_sR (iX1_init 165 166 (hp_sR (iX1_init 154 155 (hp_sR (iX1_init 143 144 (hp_sR (iX1_init 132 133 (hp_sR (iX1_init 121 122 (hp_sR (iX1_init 110 111 (hp_sR (iX1_init 99 100 (hp_sR (iX1_init 88 89 (hp_sR (iX1_init 77 78 (hp_sR (iX1_init 66 67 (hp_sR (iX8_init 53 54 (hp_sR (iX8_init 40 41 (hp_sR (hp_sR (hp_sR (iX0_init 37 38 (hp_sR (hp_sR (hp_sR (hp_sR (hp_sR (iX1_init 22 23 (hp_sR (iX3_init 18 19 (hp_sR (iX4_init 3 4 (hp_sR (iX5_init 1 2 hp_0) 0 0 1)) 0 1 3)) 0 2 18)) 0 3 22) 0 4 33) 0 5 34) 0 6 35) 0 7 36)) 0 8 37) 0 9 38) 0 10 39)) 0 11 40)) 0 12 53)) 33 (fx_ix (0 : Int32)) 66)) 33 (fx_ix (1 : Int32)) 77)) 33 (fx_ix (2 : Int32)) 88)) 33 (fx_ix (3 : Int32)) 99)) 33 (fx_ix (4 : Int32)) 110)) 33 (fx_ix (5 : Int32)) 121)) 33 (fx_ix (6 : Int32)) 132)) 33 (fx_ix (7 : Int32)) 143)) 33 (fx_ix (8 : Int32)) 154)) 33 (fx_ix (9 : Int32)) 165)) 33 (fx_ix (10 : Int32)) 176)) 33 (fx_ix (11 : Int32)) 187)) 33 (fx_ix (12 : Int32)) 198)) 33 (fx_ix (13 : Int32)) 209)) 33 (fx_ix (14 : Int32)) 220)) 33 (fx_ix (15 : Int32)) 231)) 33 (fx_ix (16 : Int32)) 242)) 33 (fx_ix (17 : Int32)) 253)) 33 (fx_ix (18 : Int32)) 264)) 33 (fx_ix (19 : Int32)) 275)) 38 (fx_ix (0 : Int32)) 286)) 39 (fx_ix (0 : Int32)) 287)) 38 (fx_ix (1 : Int32)) 288)) 39 (fx_ix (1 : Int32)) 289)
set_option maxRecDepth 100000 in
set_option maxHeartbeats 4000000 in
theorem iX9_init_ok (l : Launch) (g : xi_G) : xi_M l g yX9_init cX9_init 2 ({ frames := 3, cells := 289, slots := 5123, locals := 54 } : Room) [.ref (xi_ad g.2.2.1 0)] 1 hp_0 290 iX9_init := by
  refine xi_start rfl rfl (Nat.le_of_ble_eq_true rfl) (fun K C => ?_)
  show xi_j l g K 2 0 0 1 hp_0 [(0, .ref (xi_ad g.2.2.1 0))] 0 []
  refine xi_aload_n C 0 dX9_init_0 rfl rfl ?_
  refine xi_obj C ⟨(hp_pl 29 (by decide +kernel) rfl), (hp_pl 30 (by decide +kernel) rfl), (hp_pl 31 (by decide +kernel) rfl)⟩ (Nat.le_of_ble_eq_true rfl) (Nat.le_of_ble_eq_true rfl) dX9_init_1 ?_
  refine xi_aload_n C 0 dX9_init_4 rfl rfl ?_
  refine xi_new C 2 rfl vc5 (by decide) (by decide +kernel) inX5 tyX5_ok dfX5 ⟨(hp_pl 32 (by decide +kernel) rfl), (hp_pl 33 (by decide +kernel) rfl), (hp_pl 2 (by decide +kernel) rfl)⟩ (by decide +kernel) 1 9 rfl rfl (Nat.le_of_ble_eq_true rfl) (Nat.le_of_ble_eq_true rfl) dX9_init_5 ?_
  refine xi_dup C dX9_init_8 rfl ?_
  refine xi_callN C ⟨miX5_init, by decide +kernel⟩ (iX5_init_ok l g 1 2 hp_0 (by decide) (by decide) (by decide +kernel) (by decide +kernel)) ⟨Nat.le_of_ble_eq_true rfl, Nat.le_of_ble_eq_true rfl⟩ 2 909 rfl rfl (Nat.le_of_ble_eq_true rfl) (Nat.le_of_ble_eq_true rfl) (Nat.le_of_ble_eq_true rfl) dX9_init_9 ?_
  refine xi_putF (ty0 := (.object "CourtSix$Reader")) C rfl ⟨fdX9_0, (hp_pl 336 (by decide +kernel) rfl), rfl, by decide +kernel⟩ rfl rfl (by decide) (fun _ => rfl) (fun _ => rfl) dX9_init_12 (by decide +kernel) (by decide) ?_
  refine xi_aload_n C 0 dX9_init_15 rfl rfl ?_
  refine xi_new C 4 rfl vc4 (by decide) (by decide +kernel) inX4 tyX4_ok dfX4 ⟨(hp_pl 70 (by decide +kernel) rfl), (hp_pl 71 (by decide +kernel) rfl), (hp_pl 3 (by decide +kernel) rfl)⟩ (by decide +kernel) 3 919 rfl rfl (Nat.le_of_ble_eq_true rfl) (Nat.le_of_ble_eq_true rfl) dX9_init_16 ?_
  refine xi_dup C dX9_init_19 rfl ?_
  refine xi_callN C ⟨miX4_init, by decide +kernel⟩ (iX4_init_ok l g 3 4 (hp_sR (iX5_init 1 2 hp_0) 0 0 1) (by decide) (by decide) (by decide +kernel) (by decide +kernel) (by decide +kernel) (by decide +kernel) (by decide +kernel) (by decide +kernel) (by decide +kernel) (by decide +kernel) (by decide +kernel) (by decide +kernel) (by decide +kernel) (by decide +kernel) (by decide +kernel) (by decide +kernel) (by decide +kernel)) ⟨Nat.le_of_ble_eq_true rfl, Nat.le_of_ble_eq_true rfl⟩ 17 2897 rfl rfl (Nat.le_of_ble_eq_true rfl) (Nat.le_of_ble_eq_true rfl) (Nat.le_of_ble_eq_true rfl) dX9_init_20 ?_
  refine xi_putF (ty0 := (.object "CourtSix$Odds")) C rfl ⟨fdX9_1, (hp_pl 337 (by decide +kernel) rfl), rfl, by decide +kernel⟩ rfl rfl (by decide) (fun _ => rfl) (fun _ => rfl) dX9_init_23 (by decide +kernel) (by decide) ?_
  refine xi_aload_n C 0 dX9_init_26 rfl rfl ?_
  refine xi_new C 19 rfl vc3 (by decide) (by decide +kernel) inX3 tyX3_ok dfX3 ⟨(hp_pl 130 (by decide +kernel) rfl), (hp_pl 131 (by decide +kernel) rfl), (hp_pl 5 (by decide +kernel) rfl)⟩ (by decide +kernel) 18 2900 rfl rfl (Nat.le_of_ble_eq_true rfl) (Nat.le_of_ble_eq_true rfl) dX9_init_27 ?_
  refine xi_dup C dX9_init_30 rfl ?_
  refine xi_callN C ⟨miX3_init, by decide +kernel⟩ (iX3_init_ok l g 18 19 (hp_sR (iX4_init 3 4 (hp_sR (iX5_init 1 2 hp_0) 0 0 1)) 0 1 3) (by decide) (by decide) (by decide +kernel) (by decide +kernel) (by decide +kernel) (by decide +kernel)) ⟨Nat.le_of_ble_eq_true rfl, Nat.le_of_ble_eq_true rfl⟩ 21 3047 rfl rfl (Nat.le_of_ble_eq_true rfl) (Nat.le_of_ble_eq_true rfl) (Nat.le_of_ble_eq_true rfl) dX9_init_31 ?_
  refine xi_putF (ty0 := (.object "CourtSix$Log")) C rfl ⟨fdX9_2, (hp_pl 338 (by decide +kernel) rfl), rfl, by decide +kernel⟩ rfl rfl (by decide) (fun _ => rfl) (fun _ => rfl) dX9_init_34 (by decide +kernel) (by decide) ?_
  refine xi_aload_n C 0 dX9_init_37 rfl rfl ?_
  refine xi_new C 23 rfl vc1 (by decide) (by decide +kernel) inX1 tyX1_ok dfX1 ⟨(hp_pl 149 (by decide +kernel) rfl), (hp_pl 150 (by decide +kernel) rfl), (hp_pl 6 (by decide +kernel) rfl)⟩ (by decide +kernel) 22 3051 rfl rfl (Nat.le_of_ble_eq_true rfl) (Nat.le_of_ble_eq_true rfl) dX9_init_38 ?_
  refine xi_dup C dX9_init_41 rfl ?_
  refine xi_callN C ⟨miX1_init, by decide +kernel⟩ (iX1_init_ok l g 22 23 (hp_sR (iX3_init 18 19 (hp_sR (iX4_init 3 4 (hp_sR (iX5_init 1 2 hp_0) 0 0 1)) 0 1 3)) 0 2 18) (by decide) (by decide) (by decide +kernel) (by decide +kernel) (by decide +kernel) (by decide +kernel) (by decide +kernel) (by decide +kernel) (by decide +kernel) (by decide +kernel) (by decide +kernel) (by decide +kernel) (by decide +kernel)) ⟨Nat.le_of_ble_eq_true rfl, Nat.le_of_ble_eq_true rfl⟩ 32 3129 rfl rfl (Nat.le_of_ble_eq_true rfl) (Nat.le_of_ble_eq_true rfl) (Nat.le_of_ble_eq_true rfl) dX9_init_42 ?_
  refine xi_putF (ty0 := (.object "CourtSix$Court")) C rfl ⟨fdX9_3, (hp_pl 339 (by decide +kernel) rfl), rfl, by decide +kernel⟩ rfl rfl (by decide) (fun _ => rfl) (fun _ => rfl) dX9_init_45 (by decide +kernel) (by decide) ?_
  refine xi_aload_n C 0 dX9_init_48 rfl rfl ?_
  refine xi_bipush (v := 20) C dX9_init_49 (by decide) ?_
  refine xi_newq23 (N := 20) C 34 rfl (hp_pl 149 (by decide +kernel) rfl) (by decide) (by decide) (Nat.le_of_ble_eq_true rfl) (by decide +kernel) 33 3149 rfl rfl (Nat.le_of_ble_eq_true rfl) (Nat.le_of_ble_eq_true rfl) dX9_init_51 ?_
  refine xi_putF (ty0 := (.array (.object "CourtSix$Court"))) C rfl ⟨fdX9_4, (hp_pl 340 (by decide +kernel) rfl), rfl, by decide +kernel⟩ rfl rfl (by decide) (fun _ => rfl) (fun _ => rfl) dX9_init_54 (by decide +kernel) (by decide) ?_
  refine xi_aload_n C 0 dX9_init_57 rfl rfl ?_
  refine xi_bipush (v := 36) C dX9_init_58 (by decide) ?_
  refine xi_newa_int (N := 36) C 35 rfl (hp_pl 69 (by decide +kernel) rfl) (by decide) (by decide) (Nat.le_of_ble_eq_true rfl) (by decide +kernel) 34 3185 rfl rfl (Nat.le_of_ble_eq_true rfl) (Nat.le_of_ble_eq_true rfl) dX9_init_60 ?_
  refine xi_putF (ty0 := (.array .int)) C rfl ⟨fdX9_5, (hp_pl 341 (by decide +kernel) rfl), rfl, by decide +kernel⟩ rfl rfl (by decide) (fun _ => rfl) (fun _ => rfl) dX9_init_62 (by decide +kernel) (by decide) ?_
  refine xi_aload_n C 0 dX9_init_65 rfl rfl ?_
  refine xi_bipush (v := 6) C dX9_init_66 (by decide) ?_
  refine xi_newa_int (N := 6) C 36 rfl (hp_pl 69 (by decide +kernel) rfl) (by decide) (by decide) (Nat.le_of_ble_eq_true rfl) (by decide +kernel) 35 3191 rfl rfl (Nat.le_of_ble_eq_true rfl) (Nat.le_of_ble_eq_true rfl) dX9_init_68 ?_
  refine xi_putF (ty0 := (.array .int)) C rfl ⟨fdX9_6, (hp_pl 342 (by decide +kernel) rfl), rfl, by decide +kernel⟩ rfl rfl (by decide) (fun _ => rfl) (fun _ => rfl) dX9_init_70 (by decide +kernel) (by decide) ?_
  refine xi_aload_n C 0 dX9_init_73 rfl rfl ?_
  refine xi_bipush (v := 6) C dX9_init_74 (by decide) ?_
  refine xi_newa_int (N := 6) C 37 rfl (hp_pl 69 (by decide +kernel) rfl) (by decide) (by decide) (Nat.le_of_ble_eq_true rfl) (by decide +kernel) 36 3197 rfl rfl (Nat.le_of_ble_eq_true rfl) (Nat.le_of_ble_eq_true rfl) dX9_init_76 ?_
  refine xi_putF (ty0 := (.array .int)) C rfl ⟨fdX9_7, (hp_pl 343 (by decide +kernel) rfl), rfl, by decide +kernel⟩ rfl rfl (by decide) (fun _ => rfl) (fun _ => rfl) dX9_init_78 (by decide +kernel) (by decide) ?_
  refine xi_aload_n C 0 dX9_init_81 rfl rfl ?_
  refine xi_new C 38 rfl vc0 (by decide) (by decide +kernel) inX0 tyX0_ok dfX0 ⟨(hp_pl 218 (by decide +kernel) rfl), (hp_pl 219 (by decide +kernel) rfl), (hp_pl 8 (by decide +kernel) rfl)⟩ (by decide +kernel) 37 3201 rfl rfl (Nat.le_of_ble_eq_true rfl) (Nat.le_of_ble_eq_true rfl) dX9_init_82 ?_
  refine xi_dup C dX9_init_85 rfl ?_
  refine xi_callN C ⟨miX0_init, by decide +kernel⟩ (iX0_init_ok l g 37 38 (hp_sR (hp_sR (hp_sR (hp_sR (hp_sR (iX1_init 22 23 (hp_sR (iX3_init 18 19 (hp_sR (iX4_init 3 4 (hp_sR (iX5_init 1 2 hp_0) 0 0 1)) 0 1 3)) 0 2 18)) 0 3 22) 0 4 33) 0 5 34) 0 6 35) 0 7 36) (by decide) (by decide) (by decide +kernel) ) ⟨Nat.le_of_ble_eq_true rfl, Nat.le_of_ble_eq_true rfl⟩ 37 3201 rfl rfl (Nat.le_of_ble_eq_true rfl) (Nat.le_of_ble_eq_true rfl) (Nat.le_of_ble_eq_true rfl) dX9_init_86 ?_
  refine xi_putF (ty0 := (.object "CourtSix$Best")) C rfl ⟨fdX9_8, (hp_pl 344 (by decide +kernel) rfl), rfl, by decide +kernel⟩ rfl rfl (by decide) (fun _ => rfl) (fun _ => rfl) dX9_init_89 (by decide +kernel) (by decide) ?_
  refine xi_aload_n C 0 dX9_init_92 rfl rfl ?_
  refine xi_iconst (v := 2) C dX9_init_93 (by decide) ?_
  refine xi_newq24 (N := 2) C 39 rfl (hp_pl 218 (by decide +kernel) rfl) (by decide) (by decide) (Nat.le_of_ble_eq_true rfl) (by decide +kernel) 38 3203 rfl rfl (Nat.le_of_ble_eq_true rfl) (Nat.le_of_ble_eq_true rfl) dX9_init_94 ?_
  refine xi_putF (ty0 := (.array (.object "CourtSix$Best"))) C rfl ⟨fdX9_9, (hp_pl 345 (by decide +kernel) rfl), rfl, by decide +kernel⟩ rfl rfl (by decide) (fun _ => rfl) (fun _ => rfl) dX9_init_97 (by decide +kernel) (by decide) ?_
  refine xi_aload_n C 0 dX9_init_100 rfl rfl ?_
  refine xi_iconst (v := 2) C dX9_init_101 (by decide) ?_
  refine xi_newq24 (N := 2) C 40 rfl (hp_pl 218 (by decide +kernel) rfl) (by decide) (by decide) (Nat.le_of_ble_eq_true rfl) (by decide +kernel) 39 3205 rfl rfl (Nat.le_of_ble_eq_true rfl) (Nat.le_of_ble_eq_true rfl) dX9_init_102 ?_
  refine xi_putF (ty0 := (.array (.object "CourtSix$Best"))) C rfl ⟨fdX9_10, (hp_pl 346 (by decide +kernel) rfl), rfl, by decide +kernel⟩ rfl rfl (by decide) (fun _ => rfl) (fun _ => rfl) dX9_init_105 (by decide +kernel) (by decide) ?_
  refine xi_aload_n C 0 dX9_init_108 rfl rfl ?_
  refine xi_new C 41 rfl vc8 (by decide) (by decide +kernel) inX8 tyX8_ok dfX8 ⟨(hp_pl 242 (by decide +kernel) rfl), (hp_pl 243 (by decide +kernel) rfl), (hp_pl 9 (by decide +kernel) rfl)⟩ (by decide +kernel) 40 3212 rfl rfl (Nat.le_of_ble_eq_true rfl) (Nat.le_of_ble_eq_true rfl) dX9_init_109 ?_
  refine xi_dup C dX9_init_112 rfl ?_
  refine xi_callN C ⟨miX8_init, by decide +kernel⟩ (iX8_init_ok l g 40 41 (hp_sR (hp_sR (hp_sR (iX0_init 37 38 (hp_sR (hp_sR (hp_sR (hp_sR (hp_sR (iX1_init 22 23 (hp_sR (iX3_init 18 19 (hp_sR (iX4_init 3 4 (hp_sR (iX5_init 1 2 hp_0) 0 0 1)) 0 1 3)) 0 2 18)) 0 3 22) 0 4 33) 0 5 34) 0 6 35) 0 7 36)) 0 8 37) 0 9 38) 0 10 39) (by decide) (by decide) (by decide +kernel) (by decide +kernel) (by decide +kernel) (by decide +kernel) (by decide +kernel) (by decide +kernel) (by decide +kernel) (by decide +kernel) (by decide +kernel) (by decide +kernel) (by decide +kernel) (by decide +kernel) (by decide +kernel)) ⟨Nat.le_of_ble_eq_true rfl, Nat.le_of_ble_eq_true rfl⟩ 52 3336 rfl rfl (Nat.le_of_ble_eq_true rfl) (Nat.le_of_ble_eq_true rfl) (Nat.le_of_ble_eq_true rfl) dX9_init_113 ?_
  refine xi_putR (ty0 := (.object "CourtSix$Told")) C rfl ⟨fdX9_11, (hp_pl 347 (by decide +kernel) rfl), rfl, by decide +kernel⟩ rfl rfl (by decide) (fun _ => rfl) (fun _ => rfl) dX9_init_116 (by decide +kernel) (by decide) ?_
  refine xi_aload_n C 0 dX9_init_119 rfl rfl ?_
  refine xi_new C 54 rfl vc8 (by decide) (by decide +kernel) inX8 tyX8_ok dfX8 ⟨(hp_pl 242 (by decide +kernel) rfl), (hp_pl 243 (by decide +kernel) rfl), (hp_pl 9 (by decide +kernel) rfl)⟩ (by decide +kernel) 53 3343 rfl rfl (Nat.le_of_ble_eq_true rfl) (Nat.le_of_ble_eq_true rfl) dX9_init_120 ?_
  refine xi_dup C dX9_init_123 rfl ?_
  refine xi_callN C ⟨miX8_init, by decide +kernel⟩ (iX8_init_ok l g 53 54 (hp_sR (iX8_init 40 41 (hp_sR (hp_sR (hp_sR (iX0_init 37 38 (hp_sR (hp_sR (hp_sR (hp_sR (hp_sR (iX1_init 22 23 (hp_sR (iX3_init 18 19 (hp_sR (iX4_init 3 4 (hp_sR (iX5_init 1 2 hp_0) 0 0 1)) 0 1 3)) 0 2 18)) 0 3 22) 0 4 33) 0 5 34) 0 6 35) 0 7 36)) 0 8 37) 0 9 38) 0 10 39)) 0 11 40) (by decide) (by decide) (by decide +kernel) (by decide +kernel) (by decide +kernel) (by decide +kernel) (by decide +kernel) (by decide +kernel) (by decide +kernel) (by decide +kernel) (by decide +kernel) (by decide +kernel) (by decide +kernel) (by decide +kernel) (by decide +kernel)) ⟨Nat.le_of_ble_eq_true rfl, Nat.le_of_ble_eq_true rfl⟩ 65 3467 rfl rfl (Nat.le_of_ble_eq_true rfl) (Nat.le_of_ble_eq_true rfl) (Nat.le_of_ble_eq_true rfl) dX9_init_124 ?_
  refine xi_putR (ty0 := (.object "CourtSix$Told")) C rfl ⟨fdX9_12, (hp_pl 348 (by decide +kernel) rfl), rfl, by decide +kernel⟩ rfl rfl (by decide) (fun _ => rfl) (fun _ => rfl) dX9_init_127 (by decide +kernel) (by decide) ?_
  refine xi_iconst (v := 0) C dX9_init_130 (by decide) ?_
  refine xi_istore_n C [(1, .int (0 : Int32)), (0, .ref (xi_ad g.2.2.1 0))] dX9_init_131 rfl (Nat.le_of_ble_eq_true rfl) rfl ?_
  refine xi_iload_n C 0 dX9_init_132 rfl rfl ?_
  refine xi_bipush (v := 20) C dX9_init_133 (by decide) ?_
  refine xi_icmp_ge C 157 dX9_init_135 (by decide) (fun c => absurd c (by decide)) (fun _ => ?_)
  refine xi_aload_n C 1 dX9_init_138 rfl rfl ?_
  refine xi_getr (v := 33) C fzX9_37 rfl dX9_init_139 (by decide +kernel) (by decide) (by decide +kernel) (by decide) ?_
  refine xi_iload_n C 0 dX9_init_142 rfl rfl ?_
  refine xi_new C 67 rfl vc1 (by decide) (by decide +kernel) inX1 tyX1_ok dfX1 ⟨(hp_pl 149 (by decide +kernel) rfl), (hp_pl 150 (by decide +kernel) rfl), (hp_pl 6 (by decide +kernel) rfl)⟩ (by decide +kernel) 66 3471 rfl rfl (Nat.le_of_ble_eq_true rfl) (Nat.le_of_ble_eq_true rfl) dX9_init_143 ?_
  refine xi_dup C dX9_init_146 rfl ?_
  refine xi_callN C ⟨miX1_init, by decide +kernel⟩ (iX1_init_ok l g 66 67 (hp_sR (iX8_init 53 54 (hp_sR (iX8_init 40 41 (hp_sR (hp_sR (hp_sR (iX0_init 37 38 (hp_sR (hp_sR (hp_sR (hp_sR (hp_sR (iX1_init 22 23 (hp_sR (iX3_init 18 19 (hp_sR (iX4_init 3 4 (hp_sR (iX5_init 1 2 hp_0) 0 0 1)) 0 1 3)) 0 2 18)) 0 3 22) 0 4 33) 0 5 34) 0 6 35) 0 7 36)) 0 8 37) 0 9 38) 0 10 39)) 0 11 40)) 0 12 53) (by decide) (by decide) (by decide +kernel) (by decide +kernel) (by decide +kernel) (by decide +kernel) (by decide +kernel) (by decide +kernel) (by decide +kernel) (by decide +kernel) (by decide +kernel) (by decide +kernel) (by decide +kernel)) ⟨Nat.le_of_ble_eq_true rfl, Nat.le_of_ble_eq_true rfl⟩ 76 3549 rfl rfl (Nat.le_of_ble_eq_true rfl) (Nat.le_of_ble_eq_true rfl) (Nat.le_of_ble_eq_true rfl) dX9_init_147 ?_
  refine xi_aast23 (N := 20) C dX9_init_150 (by decide +kernel) (by decide) (by decide) (by decide +kernel) (by decide) (by decide) ?_
  refine xi_iinc C 1 0 [(1, .int (1 : Int32)), (0, .ref (xi_ad g.2.2.1 0))] dX9_init_151 rfl (by decide) (Nat.le_of_ble_eq_true rfl) rfl ?_
  refine xi_goto C 132 dX9_init_154 (by decide) ?_
  refine xi_iload_n C 0 dX9_init_132 rfl rfl ?_
  refine xi_bipush (v := 20) C dX9_init_133 (by decide) ?_
  refine xi_icmp_ge C 157 dX9_init_135 (by decide) (fun c => absurd c (by decide)) (fun _ => ?_)
  refine xi_aload_n C 1 dX9_init_138 rfl rfl ?_
  refine xi_getr (v := 33) C fzX9_37 rfl dX9_init_139 (by decide +kernel) (by decide) (by decide +kernel) (by decide) ?_
  refine xi_iload_n C 0 dX9_init_142 rfl rfl ?_
  refine xi_new C 78 rfl vc1 (by decide) (by decide +kernel) inX1 tyX1_ok dfX1 ⟨(hp_pl 149 (by decide +kernel) rfl), (hp_pl 150 (by decide +kernel) rfl), (hp_pl 6 (by decide +kernel) rfl)⟩ (by decide +kernel) 77 3553 rfl rfl (Nat.le_of_ble_eq_true rfl) (Nat.le_of_ble_eq_true rfl) dX9_init_143 ?_
  refine xi_dup C dX9_init_146 rfl ?_
  refine xi_callN C ⟨miX1_init, by decide +kernel⟩ (iX1_init_ok l g 77 78 (hp_sR (iX1_init 66 67 (hp_sR (iX8_init 53 54 (hp_sR (iX8_init 40 41 (hp_sR (hp_sR (hp_sR (iX0_init 37 38 (hp_sR (hp_sR (hp_sR (hp_sR (hp_sR (iX1_init 22 23 (hp_sR (iX3_init 18 19 (hp_sR (iX4_init 3 4 (hp_sR (iX5_init 1 2 hp_0) 0 0 1)) 0 1 3)) 0 2 18)) 0 3 22) 0 4 33) 0 5 34) 0 6 35) 0 7 36)) 0 8 37) 0 9 38) 0 10 39)) 0 11 40)) 0 12 53)) 33 (fx_ix (0 : Int32)) 66) (by decide) (by decide) (by decide +kernel) (by decide +kernel) (by decide +kernel) (by decide +kernel) (by decide +kernel) (by decide +kernel) (by decide +kernel) (by decide +kernel) (by decide +kernel) (by decide +kernel) (by decide +kernel)) ⟨Nat.le_of_ble_eq_true rfl, Nat.le_of_ble_eq_true rfl⟩ 87 3631 rfl rfl (Nat.le_of_ble_eq_true rfl) (Nat.le_of_ble_eq_true rfl) (Nat.le_of_ble_eq_true rfl) dX9_init_147 ?_
  refine xi_aast23 (N := 20) C dX9_init_150 (by decide +kernel) (by decide) (by decide) (by decide +kernel) (by decide) (by decide) ?_
  refine xi_iinc C 2 0 [(1, .int (2 : Int32)), (0, .ref (xi_ad g.2.2.1 0))] dX9_init_151 rfl (by decide) (Nat.le_of_ble_eq_true rfl) rfl ?_
  refine xi_goto C 132 dX9_init_154 (by decide) ?_
  refine xi_iload_n C 0 dX9_init_132 rfl rfl ?_
  refine xi_bipush (v := 20) C dX9_init_133 (by decide) ?_
  refine xi_icmp_ge C 157 dX9_init_135 (by decide) (fun c => absurd c (by decide)) (fun _ => ?_)
  refine xi_aload_n C 1 dX9_init_138 rfl rfl ?_
  refine xi_getr (v := 33) C fzX9_37 rfl dX9_init_139 (by decide +kernel) (by decide) (by decide +kernel) (by decide) ?_
  refine xi_iload_n C 0 dX9_init_142 rfl rfl ?_
  refine xi_new C 89 rfl vc1 (by decide) (by decide +kernel) inX1 tyX1_ok dfX1 ⟨(hp_pl 149 (by decide +kernel) rfl), (hp_pl 150 (by decide +kernel) rfl), (hp_pl 6 (by decide +kernel) rfl)⟩ (by decide +kernel) 88 3635 rfl rfl (Nat.le_of_ble_eq_true rfl) (Nat.le_of_ble_eq_true rfl) dX9_init_143 ?_
  refine xi_dup C dX9_init_146 rfl ?_
  refine xi_callN C ⟨miX1_init, by decide +kernel⟩ (iX1_init_ok l g 88 89 (hp_sR (iX1_init 77 78 (hp_sR (iX1_init 66 67 (hp_sR (iX8_init 53 54 (hp_sR (iX8_init 40 41 (hp_sR (hp_sR (hp_sR (iX0_init 37 38 (hp_sR (hp_sR (hp_sR (hp_sR (hp_sR (iX1_init 22 23 (hp_sR (iX3_init 18 19 (hp_sR (iX4_init 3 4 (hp_sR (iX5_init 1 2 hp_0) 0 0 1)) 0 1 3)) 0 2 18)) 0 3 22) 0 4 33) 0 5 34) 0 6 35) 0 7 36)) 0 8 37) 0 9 38) 0 10 39)) 0 11 40)) 0 12 53)) 33 (fx_ix (0 : Int32)) 66)) 33 (fx_ix (1 : Int32)) 77) (by decide) (by decide) (by decide +kernel) (by decide +kernel) (by decide +kernel) (by decide +kernel) (by decide +kernel) (by decide +kernel) (by decide +kernel) (by decide +kernel) (by decide +kernel) (by decide +kernel) (by decide +kernel)) ⟨Nat.le_of_ble_eq_true rfl, Nat.le_of_ble_eq_true rfl⟩ 98 3713 rfl rfl (Nat.le_of_ble_eq_true rfl) (Nat.le_of_ble_eq_true rfl) (Nat.le_of_ble_eq_true rfl) dX9_init_147 ?_
  refine xi_aast23 (N := 20) C dX9_init_150 (by decide +kernel) (by decide) (by decide) (by decide +kernel) (by decide) (by decide) ?_
  refine xi_iinc C 3 0 [(1, .int (3 : Int32)), (0, .ref (xi_ad g.2.2.1 0))] dX9_init_151 rfl (by decide) (Nat.le_of_ble_eq_true rfl) rfl ?_
  refine xi_goto C 132 dX9_init_154 (by decide) ?_
  refine xi_iload_n C 0 dX9_init_132 rfl rfl ?_
  refine xi_bipush (v := 20) C dX9_init_133 (by decide) ?_
  refine xi_icmp_ge C 157 dX9_init_135 (by decide) (fun c => absurd c (by decide)) (fun _ => ?_)
  refine xi_aload_n C 1 dX9_init_138 rfl rfl ?_
  refine xi_getr (v := 33) C fzX9_37 rfl dX9_init_139 (by decide +kernel) (by decide) (by decide +kernel) (by decide) ?_
  refine xi_iload_n C 0 dX9_init_142 rfl rfl ?_
  refine xi_new C 100 rfl vc1 (by decide) (by decide +kernel) inX1 tyX1_ok dfX1 ⟨(hp_pl 149 (by decide +kernel) rfl), (hp_pl 150 (by decide +kernel) rfl), (hp_pl 6 (by decide +kernel) rfl)⟩ (by decide +kernel) 99 3717 rfl rfl (Nat.le_of_ble_eq_true rfl) (Nat.le_of_ble_eq_true rfl) dX9_init_143 ?_
  refine xi_dup C dX9_init_146 rfl ?_
  refine xi_callN C ⟨miX1_init, by decide +kernel⟩ (iX1_init_ok l g 99 100 (hp_sR (iX1_init 88 89 (hp_sR (iX1_init 77 78 (hp_sR (iX1_init 66 67 (hp_sR (iX8_init 53 54 (hp_sR (iX8_init 40 41 (hp_sR (hp_sR (hp_sR (iX0_init 37 38 (hp_sR (hp_sR (hp_sR (hp_sR (hp_sR (iX1_init 22 23 (hp_sR (iX3_init 18 19 (hp_sR (iX4_init 3 4 (hp_sR (iX5_init 1 2 hp_0) 0 0 1)) 0 1 3)) 0 2 18)) 0 3 22) 0 4 33) 0 5 34) 0 6 35) 0 7 36)) 0 8 37) 0 9 38) 0 10 39)) 0 11 40)) 0 12 53)) 33 (fx_ix (0 : Int32)) 66)) 33 (fx_ix (1 : Int32)) 77)) 33 (fx_ix (2 : Int32)) 88) (by decide) (by decide) (by decide +kernel) (by decide +kernel) (by decide +kernel) (by decide +kernel) (by decide +kernel) (by decide +kernel) (by decide +kernel) (by decide +kernel) (by decide +kernel) (by decide +kernel) (by decide +kernel)) ⟨Nat.le_of_ble_eq_true rfl, Nat.le_of_ble_eq_true rfl⟩ 109 3795 rfl rfl (Nat.le_of_ble_eq_true rfl) (Nat.le_of_ble_eq_true rfl) (Nat.le_of_ble_eq_true rfl) dX9_init_147 ?_
  refine xi_aast23 (N := 20) C dX9_init_150 (by decide +kernel) (by decide) (by decide) (by decide +kernel) (by decide) (by decide) ?_
  refine xi_iinc C 4 0 [(1, .int (4 : Int32)), (0, .ref (xi_ad g.2.2.1 0))] dX9_init_151 rfl (by decide) (Nat.le_of_ble_eq_true rfl) rfl ?_
  refine xi_goto C 132 dX9_init_154 (by decide) ?_
  refine xi_iload_n C 0 dX9_init_132 rfl rfl ?_
  refine xi_bipush (v := 20) C dX9_init_133 (by decide) ?_
  refine xi_icmp_ge C 157 dX9_init_135 (by decide) (fun c => absurd c (by decide)) (fun _ => ?_)
  refine xi_aload_n C 1 dX9_init_138 rfl rfl ?_
  refine xi_getr (v := 33) C fzX9_37 rfl dX9_init_139 (by decide +kernel) (by decide) (by decide +kernel) (by decide) ?_
  refine xi_iload_n C 0 dX9_init_142 rfl rfl ?_
  refine xi_new C 111 rfl vc1 (by decide) (by decide +kernel) inX1 tyX1_ok dfX1 ⟨(hp_pl 149 (by decide +kernel) rfl), (hp_pl 150 (by decide +kernel) rfl), (hp_pl 6 (by decide +kernel) rfl)⟩ (by decide +kernel) 110 3799 rfl rfl (Nat.le_of_ble_eq_true rfl) (Nat.le_of_ble_eq_true rfl) dX9_init_143 ?_
  refine xi_dup C dX9_init_146 rfl ?_
  refine xi_callN C ⟨miX1_init, by decide +kernel⟩ (iX1_init_ok l g 110 111 (hp_sR (iX1_init 99 100 (hp_sR (iX1_init 88 89 (hp_sR (iX1_init 77 78 (hp_sR (iX1_init 66 67 (hp_sR (iX8_init 53 54 (hp_sR (iX8_init 40 41 (hp_sR (hp_sR (hp_sR (iX0_init 37 38 (hp_sR (hp_sR (hp_sR (hp_sR (hp_sR (iX1_init 22 23 (hp_sR (iX3_init 18 19 (hp_sR (iX4_init 3 4 (hp_sR (iX5_init 1 2 hp_0) 0 0 1)) 0 1 3)) 0 2 18)) 0 3 22) 0 4 33) 0 5 34) 0 6 35) 0 7 36)) 0 8 37) 0 9 38) 0 10 39)) 0 11 40)) 0 12 53)) 33 (fx_ix (0 : Int32)) 66)) 33 (fx_ix (1 : Int32)) 77)) 33 (fx_ix (2 : Int32)) 88)) 33 (fx_ix (3 : Int32)) 99) (by decide) (by decide) (by decide +kernel) (by decide +kernel) (by decide +kernel) (by decide +kernel) (by decide +kernel) (by decide +kernel) (by decide +kernel) (by decide +kernel) (by decide +kernel) (by decide +kernel) (by decide +kernel)) ⟨Nat.le_of_ble_eq_true rfl, Nat.le_of_ble_eq_true rfl⟩ 120 3877 rfl rfl (Nat.le_of_ble_eq_true rfl) (Nat.le_of_ble_eq_true rfl) (Nat.le_of_ble_eq_true rfl) dX9_init_147 ?_
  refine xi_aast23 (N := 20) C dX9_init_150 (by decide +kernel) (by decide) (by decide) (by decide +kernel) (by decide) (by decide) ?_
  refine xi_iinc C 5 0 [(1, .int (5 : Int32)), (0, .ref (xi_ad g.2.2.1 0))] dX9_init_151 rfl (by decide) (Nat.le_of_ble_eq_true rfl) rfl ?_
  refine xi_goto C 132 dX9_init_154 (by decide) ?_
  refine xi_iload_n C 0 dX9_init_132 rfl rfl ?_
  refine xi_bipush (v := 20) C dX9_init_133 (by decide) ?_
  refine xi_icmp_ge C 157 dX9_init_135 (by decide) (fun c => absurd c (by decide)) (fun _ => ?_)
  refine xi_aload_n C 1 dX9_init_138 rfl rfl ?_
  refine xi_getr (v := 33) C fzX9_37 rfl dX9_init_139 (by decide +kernel) (by decide) (by decide +kernel) (by decide) ?_
  refine xi_iload_n C 0 dX9_init_142 rfl rfl ?_
  refine xi_new C 122 rfl vc1 (by decide) (by decide +kernel) inX1 tyX1_ok dfX1 ⟨(hp_pl 149 (by decide +kernel) rfl), (hp_pl 150 (by decide +kernel) rfl), (hp_pl 6 (by decide +kernel) rfl)⟩ (by decide +kernel) 121 3881 rfl rfl (Nat.le_of_ble_eq_true rfl) (Nat.le_of_ble_eq_true rfl) dX9_init_143 ?_
  refine xi_dup C dX9_init_146 rfl ?_
  refine xi_callN C ⟨miX1_init, by decide +kernel⟩ (iX1_init_ok l g 121 122 (hp_sR (iX1_init 110 111 (hp_sR (iX1_init 99 100 (hp_sR (iX1_init 88 89 (hp_sR (iX1_init 77 78 (hp_sR (iX1_init 66 67 (hp_sR (iX8_init 53 54 (hp_sR (iX8_init 40 41 (hp_sR (hp_sR (hp_sR (iX0_init 37 38 (hp_sR (hp_sR (hp_sR (hp_sR (hp_sR (iX1_init 22 23 (hp_sR (iX3_init 18 19 (hp_sR (iX4_init 3 4 (hp_sR (iX5_init 1 2 hp_0) 0 0 1)) 0 1 3)) 0 2 18)) 0 3 22) 0 4 33) 0 5 34) 0 6 35) 0 7 36)) 0 8 37) 0 9 38) 0 10 39)) 0 11 40)) 0 12 53)) 33 (fx_ix (0 : Int32)) 66)) 33 (fx_ix (1 : Int32)) 77)) 33 (fx_ix (2 : Int32)) 88)) 33 (fx_ix (3 : Int32)) 99)) 33 (fx_ix (4 : Int32)) 110) (by decide) (by decide) (by decide +kernel) (by decide +kernel) (by decide +kernel) (by decide +kernel) (by decide +kernel) (by decide +kernel) (by decide +kernel) (by decide +kernel) (by decide +kernel) (by decide +kernel) (by decide +kernel)) ⟨Nat.le_of_ble_eq_true rfl, Nat.le_of_ble_eq_true rfl⟩ 131 3959 rfl rfl (Nat.le_of_ble_eq_true rfl) (Nat.le_of_ble_eq_true rfl) (Nat.le_of_ble_eq_true rfl) dX9_init_147 ?_
  refine xi_aast23 (N := 20) C dX9_init_150 (by decide +kernel) (by decide) (by decide) (by decide +kernel) (by decide) (by decide) ?_
  refine xi_iinc C 6 0 [(1, .int (6 : Int32)), (0, .ref (xi_ad g.2.2.1 0))] dX9_init_151 rfl (by decide) (Nat.le_of_ble_eq_true rfl) rfl ?_
  refine xi_goto C 132 dX9_init_154 (by decide) ?_
  refine xi_iload_n C 0 dX9_init_132 rfl rfl ?_
  refine xi_bipush (v := 20) C dX9_init_133 (by decide) ?_
  refine xi_icmp_ge C 157 dX9_init_135 (by decide) (fun c => absurd c (by decide)) (fun _ => ?_)
  refine xi_aload_n C 1 dX9_init_138 rfl rfl ?_
  refine xi_getr (v := 33) C fzX9_37 rfl dX9_init_139 (by decide +kernel) (by decide) (by decide +kernel) (by decide) ?_
  refine xi_iload_n C 0 dX9_init_142 rfl rfl ?_
  refine xi_new C 133 rfl vc1 (by decide) (by decide +kernel) inX1 tyX1_ok dfX1 ⟨(hp_pl 149 (by decide +kernel) rfl), (hp_pl 150 (by decide +kernel) rfl), (hp_pl 6 (by decide +kernel) rfl)⟩ (by decide +kernel) 132 3963 rfl rfl (Nat.le_of_ble_eq_true rfl) (Nat.le_of_ble_eq_true rfl) dX9_init_143 ?_
  refine xi_dup C dX9_init_146 rfl ?_
  refine xi_callN C ⟨miX1_init, by decide +kernel⟩ (iX1_init_ok l g 132 133 (hp_sR (iX1_init 121 122 (hp_sR (iX1_init 110 111 (hp_sR (iX1_init 99 100 (hp_sR (iX1_init 88 89 (hp_sR (iX1_init 77 78 (hp_sR (iX1_init 66 67 (hp_sR (iX8_init 53 54 (hp_sR (iX8_init 40 41 (hp_sR (hp_sR (hp_sR (iX0_init 37 38 (hp_sR (hp_sR (hp_sR (hp_sR (hp_sR (iX1_init 22 23 (hp_sR (iX3_init 18 19 (hp_sR (iX4_init 3 4 (hp_sR (iX5_init 1 2 hp_0) 0 0 1)) 0 1 3)) 0 2 18)) 0 3 22) 0 4 33) 0 5 34) 0 6 35) 0 7 36)) 0 8 37) 0 9 38) 0 10 39)) 0 11 40)) 0 12 53)) 33 (fx_ix (0 : Int32)) 66)) 33 (fx_ix (1 : Int32)) 77)) 33 (fx_ix (2 : Int32)) 88)) 33 (fx_ix (3 : Int32)) 99)) 33 (fx_ix (4 : Int32)) 110)) 33 (fx_ix (5 : Int32)) 121) (by decide) (by decide) (by decide +kernel) (by decide +kernel) (by decide +kernel) (by decide +kernel) (by decide +kernel) (by decide +kernel) (by decide +kernel) (by decide +kernel) (by decide +kernel) (by decide +kernel) (by decide +kernel)) ⟨Nat.le_of_ble_eq_true rfl, Nat.le_of_ble_eq_true rfl⟩ 142 4041 rfl rfl (Nat.le_of_ble_eq_true rfl) (Nat.le_of_ble_eq_true rfl) (Nat.le_of_ble_eq_true rfl) dX9_init_147 ?_
  refine xi_aast23 (N := 20) C dX9_init_150 (by decide +kernel) (by decide) (by decide) (by decide +kernel) (by decide) (by decide) ?_
  refine xi_iinc C 7 0 [(1, .int (7 : Int32)), (0, .ref (xi_ad g.2.2.1 0))] dX9_init_151 rfl (by decide) (Nat.le_of_ble_eq_true rfl) rfl ?_
  refine xi_goto C 132 dX9_init_154 (by decide) ?_
  refine xi_iload_n C 0 dX9_init_132 rfl rfl ?_
  refine xi_bipush (v := 20) C dX9_init_133 (by decide) ?_
  refine xi_icmp_ge C 157 dX9_init_135 (by decide) (fun c => absurd c (by decide)) (fun _ => ?_)
  refine xi_aload_n C 1 dX9_init_138 rfl rfl ?_
  refine xi_getr (v := 33) C fzX9_37 rfl dX9_init_139 (by decide +kernel) (by decide) (by decide +kernel) (by decide) ?_
  refine xi_iload_n C 0 dX9_init_142 rfl rfl ?_
  refine xi_new C 144 rfl vc1 (by decide) (by decide +kernel) inX1 tyX1_ok dfX1 ⟨(hp_pl 149 (by decide +kernel) rfl), (hp_pl 150 (by decide +kernel) rfl), (hp_pl 6 (by decide +kernel) rfl)⟩ (by decide +kernel) 143 4045 rfl rfl (Nat.le_of_ble_eq_true rfl) (Nat.le_of_ble_eq_true rfl) dX9_init_143 ?_
  refine xi_dup C dX9_init_146 rfl ?_
  refine xi_callN C ⟨miX1_init, by decide +kernel⟩ (iX1_init_ok l g 143 144 (hp_sR (iX1_init 132 133 (hp_sR (iX1_init 121 122 (hp_sR (iX1_init 110 111 (hp_sR (iX1_init 99 100 (hp_sR (iX1_init 88 89 (hp_sR (iX1_init 77 78 (hp_sR (iX1_init 66 67 (hp_sR (iX8_init 53 54 (hp_sR (iX8_init 40 41 (hp_sR (hp_sR (hp_sR (iX0_init 37 38 (hp_sR (hp_sR (hp_sR (hp_sR (hp_sR (iX1_init 22 23 (hp_sR (iX3_init 18 19 (hp_sR (iX4_init 3 4 (hp_sR (iX5_init 1 2 hp_0) 0 0 1)) 0 1 3)) 0 2 18)) 0 3 22) 0 4 33) 0 5 34) 0 6 35) 0 7 36)) 0 8 37) 0 9 38) 0 10 39)) 0 11 40)) 0 12 53)) 33 (fx_ix (0 : Int32)) 66)) 33 (fx_ix (1 : Int32)) 77)) 33 (fx_ix (2 : Int32)) 88)) 33 (fx_ix (3 : Int32)) 99)) 33 (fx_ix (4 : Int32)) 110)) 33 (fx_ix (5 : Int32)) 121)) 33 (fx_ix (6 : Int32)) 132) (by decide) (by decide) (by decide +kernel) (by decide +kernel) (by decide +kernel) (by decide +kernel) (by decide +kernel) (by decide +kernel) (by decide +kernel) (by decide +kernel) (by decide +kernel) (by decide +kernel) (by decide +kernel)) ⟨Nat.le_of_ble_eq_true rfl, Nat.le_of_ble_eq_true rfl⟩ 153 4123 rfl rfl (Nat.le_of_ble_eq_true rfl) (Nat.le_of_ble_eq_true rfl) (Nat.le_of_ble_eq_true rfl) dX9_init_147 ?_
  refine xi_aast23 (N := 20) C dX9_init_150 (by decide +kernel) (by decide) (by decide) (by decide +kernel) (by decide) (by decide) ?_
  refine xi_iinc C 8 0 [(1, .int (8 : Int32)), (0, .ref (xi_ad g.2.2.1 0))] dX9_init_151 rfl (by decide) (Nat.le_of_ble_eq_true rfl) rfl ?_
  refine xi_goto C 132 dX9_init_154 (by decide) ?_
  refine xi_iload_n C 0 dX9_init_132 rfl rfl ?_
  refine xi_bipush (v := 20) C dX9_init_133 (by decide) ?_
  refine xi_icmp_ge C 157 dX9_init_135 (by decide) (fun c => absurd c (by decide)) (fun _ => ?_)
  refine xi_aload_n C 1 dX9_init_138 rfl rfl ?_
  refine xi_getr (v := 33) C fzX9_37 rfl dX9_init_139 (by decide +kernel) (by decide) (by decide +kernel) (by decide) ?_
  refine xi_iload_n C 0 dX9_init_142 rfl rfl ?_
  refine xi_new C 155 rfl vc1 (by decide) (by decide +kernel) inX1 tyX1_ok dfX1 ⟨(hp_pl 149 (by decide +kernel) rfl), (hp_pl 150 (by decide +kernel) rfl), (hp_pl 6 (by decide +kernel) rfl)⟩ (by decide +kernel) 154 4127 rfl rfl (Nat.le_of_ble_eq_true rfl) (Nat.le_of_ble_eq_true rfl) dX9_init_143 ?_
  refine xi_dup C dX9_init_146 rfl ?_
  refine xi_callN C ⟨miX1_init, by decide +kernel⟩ (iX1_init_ok l g 154 155 (hp_sR (iX1_init 143 144 (hp_sR (iX1_init 132 133 (hp_sR (iX1_init 121 122 (hp_sR (iX1_init 110 111 (hp_sR (iX1_init 99 100 (hp_sR (iX1_init 88 89 (hp_sR (iX1_init 77 78 (hp_sR (iX1_init 66 67 (hp_sR (iX8_init 53 54 (hp_sR (iX8_init 40 41 (hp_sR (hp_sR (hp_sR (iX0_init 37 38 (hp_sR (hp_sR (hp_sR (hp_sR (hp_sR (iX1_init 22 23 (hp_sR (iX3_init 18 19 (hp_sR (iX4_init 3 4 (hp_sR (iX5_init 1 2 hp_0) 0 0 1)) 0 1 3)) 0 2 18)) 0 3 22) 0 4 33) 0 5 34) 0 6 35) 0 7 36)) 0 8 37) 0 9 38) 0 10 39)) 0 11 40)) 0 12 53)) 33 (fx_ix (0 : Int32)) 66)) 33 (fx_ix (1 : Int32)) 77)) 33 (fx_ix (2 : Int32)) 88)) 33 (fx_ix (3 : Int32)) 99)) 33 (fx_ix (4 : Int32)) 110)) 33 (fx_ix (5 : Int32)) 121)) 33 (fx_ix (6 : Int32)) 132)) 33 (fx_ix (7 : Int32)) 143) (by decide) (by decide) (by decide +kernel) (by decide +kernel) (by decide +kernel) (by decide +kernel) (by decide +kernel) (by decide +kernel) (by decide +kernel) (by decide +kernel) (by decide +kernel) (by decide +kernel) (by decide +kernel)) ⟨Nat.le_of_ble_eq_true rfl, Nat.le_of_ble_eq_true rfl⟩ 164 4205 rfl rfl (Nat.le_of_ble_eq_true rfl) (Nat.le_of_ble_eq_true rfl) (Nat.le_of_ble_eq_true rfl) dX9_init_147 ?_
  refine xi_aast23 (N := 20) C dX9_init_150 (by decide +kernel) (by decide) (by decide) (by decide +kernel) (by decide) (by decide) ?_
  refine xi_iinc C 9 0 [(1, .int (9 : Int32)), (0, .ref (xi_ad g.2.2.1 0))] dX9_init_151 rfl (by decide) (Nat.le_of_ble_eq_true rfl) rfl ?_
  refine xi_goto C 132 dX9_init_154 (by decide) ?_
  refine xi_iload_n C 0 dX9_init_132 rfl rfl ?_
  refine xi_bipush (v := 20) C dX9_init_133 (by decide) ?_
  refine xi_icmp_ge C 157 dX9_init_135 (by decide) (fun c => absurd c (by decide)) (fun _ => ?_)
  refine xi_aload_n C 1 dX9_init_138 rfl rfl ?_
  refine xi_getr (v := 33) C fzX9_37 rfl dX9_init_139 (by decide +kernel) (by decide) (by decide +kernel) (by decide) ?_
  refine xi_iload_n C 0 dX9_init_142 rfl rfl ?_
  refine xi_new C 166 rfl vc1 (by decide) (by decide +kernel) inX1 tyX1_ok dfX1 ⟨(hp_pl 149 (by decide +kernel) rfl), (hp_pl 150 (by decide +kernel) rfl), (hp_pl 6 (by decide +kernel) rfl)⟩ (by decide +kernel) 165 4209 rfl rfl (Nat.le_of_ble_eq_true rfl) (Nat.le_of_ble_eq_true rfl) dX9_init_143 ?_
  refine xi_dup C dX9_init_146 rfl ?_
  refine xi_callN C ⟨miX1_init, by decide +kernel⟩ (iX1_init_ok l g 165 166 (hp_sR (iX1_init 154 155 (hp_sR (iX1_init 143 144 (hp_sR (iX1_init 132 133 (hp_sR (iX1_init 121 122 (hp_sR (iX1_init 110 111 (hp_sR (iX1_init 99 100 (hp_sR (iX1_init 88 89 (hp_sR (iX1_init 77 78 (hp_sR (iX1_init 66 67 (hp_sR (iX8_init 53 54 (hp_sR (iX8_init 40 41 (hp_sR (hp_sR (hp_sR (iX0_init 37 38 (hp_sR (hp_sR (hp_sR (hp_sR (hp_sR (iX1_init 22 23 (hp_sR (iX3_init 18 19 (hp_sR (iX4_init 3 4 (hp_sR (iX5_init 1 2 hp_0) 0 0 1)) 0 1 3)) 0 2 18)) 0 3 22) 0 4 33) 0 5 34) 0 6 35) 0 7 36)) 0 8 37) 0 9 38) 0 10 39)) 0 11 40)) 0 12 53)) 33 (fx_ix (0 : Int32)) 66)) 33 (fx_ix (1 : Int32)) 77)) 33 (fx_ix (2 : Int32)) 88)) 33 (fx_ix (3 : Int32)) 99)) 33 (fx_ix (4 : Int32)) 110)) 33 (fx_ix (5 : Int32)) 121)) 33 (fx_ix (6 : Int32)) 132)) 33 (fx_ix (7 : Int32)) 143)) 33 (fx_ix (8 : Int32)) 154) (by decide) (by decide) (by decide +kernel) (by decide +kernel) (by decide +kernel) (by decide +kernel) (by decide +kernel) (by decide +kernel) (by decide +kernel) (by decide +kernel) (by decide +kernel) (by decide +kernel) (by decide +kernel)) ⟨Nat.le_of_ble_eq_true rfl, Nat.le_of_ble_eq_true rfl⟩ 175 4287 rfl rfl (Nat.le_of_ble_eq_true rfl) (Nat.le_of_ble_eq_true rfl) (Nat.le_of_ble_eq_true rfl) dX9_init_147 ?_
  refine xi_aast23 (N := 20) C dX9_init_150 (by decide +kernel) (by decide) (by decide) (by decide +kernel) (by decide) (by decide) ?_
  refine xi_iinc C 10 0 [(1, .int (10 : Int32)), (0, .ref (xi_ad g.2.2.1 0))] dX9_init_151 rfl (by decide) (Nat.le_of_ble_eq_true rfl) rfl ?_
  refine xi_goto C 132 dX9_init_154 (by decide) ?_
  refine xi_iload_n C 0 dX9_init_132 rfl rfl ?_
  refine xi_bipush (v := 20) C dX9_init_133 (by decide) ?_
  refine xi_icmp_ge C 157 dX9_init_135 (by decide) (fun c => absurd c (by decide)) (fun _ => ?_)
  refine xi_aload_n C 1 dX9_init_138 rfl rfl ?_
  refine xi_getr (v := 33) C fzX9_37 rfl dX9_init_139 (by decide +kernel) (by decide) (by decide +kernel) (by decide) ?_
  refine xi_iload_n C 0 dX9_init_142 rfl rfl ?_
  refine xi_new C 177 rfl vc1 (by decide) (by decide +kernel) inX1 tyX1_ok dfX1 ⟨(hp_pl 149 (by decide +kernel) rfl), (hp_pl 150 (by decide +kernel) rfl), (hp_pl 6 (by decide +kernel) rfl)⟩ (by decide +kernel) 176 4291 rfl rfl (Nat.le_of_ble_eq_true rfl) (Nat.le_of_ble_eq_true rfl) dX9_init_143 ?_
  refine xi_dup C dX9_init_146 rfl ?_
  refine xi_callN C ⟨miX1_init, by decide +kernel⟩ (iX1_init_ok l g 176 177 (hp_sR (iX1_init 165 166 (hp_sR (iX1_init 154 155 (hp_sR (iX1_init 143 144 (hp_sR (iX1_init 132 133 (hp_sR (iX1_init 121 122 (hp_sR (iX1_init 110 111 (hp_sR (iX1_init 99 100 (hp_sR (iX1_init 88 89 (hp_sR (iX1_init 77 78 (hp_sR (iX1_init 66 67 (hp_sR (iX8_init 53 54 (hp_sR (iX8_init 40 41 (hp_sR (hp_sR (hp_sR (iX0_init 37 38 (hp_sR (hp_sR (hp_sR (hp_sR (hp_sR (iX1_init 22 23 (hp_sR (iX3_init 18 19 (hp_sR (iX4_init 3 4 (hp_sR (iX5_init 1 2 hp_0) 0 0 1)) 0 1 3)) 0 2 18)) 0 3 22) 0 4 33) 0 5 34) 0 6 35) 0 7 36)) 0 8 37) 0 9 38) 0 10 39)) 0 11 40)) 0 12 53)) 33 (fx_ix (0 : Int32)) 66)) 33 (fx_ix (1 : Int32)) 77)) 33 (fx_ix (2 : Int32)) 88)) 33 (fx_ix (3 : Int32)) 99)) 33 (fx_ix (4 : Int32)) 110)) 33 (fx_ix (5 : Int32)) 121)) 33 (fx_ix (6 : Int32)) 132)) 33 (fx_ix (7 : Int32)) 143)) 33 (fx_ix (8 : Int32)) 154)) 33 (fx_ix (9 : Int32)) 165) (by decide) (by decide) (by decide +kernel) (by decide +kernel) (by decide +kernel) (by decide +kernel) (by decide +kernel) (by decide +kernel) (by decide +kernel) (by decide +kernel) (by decide +kernel) (by decide +kernel) (by decide +kernel)) ⟨Nat.le_of_ble_eq_true rfl, Nat.le_of_ble_eq_true rfl⟩ 186 4369 rfl rfl (Nat.le_of_ble_eq_true rfl) (Nat.le_of_ble_eq_true rfl) (Nat.le_of_ble_eq_true rfl) dX9_init_147 ?_
  refine xi_aast23 (N := 20) C dX9_init_150 (by decide +kernel) (by decide) (by decide) (by decide +kernel) (by decide) (by decide) ?_
  refine xi_iinc C 11 0 [(1, .int (11 : Int32)), (0, .ref (xi_ad g.2.2.1 0))] dX9_init_151 rfl (by decide) (Nat.le_of_ble_eq_true rfl) rfl ?_
  refine xi_goto C 132 dX9_init_154 (by decide) ?_
  refine xi_iload_n C 0 dX9_init_132 rfl rfl ?_
  refine xi_bipush (v := 20) C dX9_init_133 (by decide) ?_
  refine xi_icmp_ge C 157 dX9_init_135 (by decide) (fun c => absurd c (by decide)) (fun _ => ?_)
  refine xi_aload_n C 1 dX9_init_138 rfl rfl ?_
  refine xi_getr (v := 33) C fzX9_37 rfl dX9_init_139 (by decide +kernel) (by decide) (by decide +kernel) (by decide) ?_
  refine xi_iload_n C 0 dX9_init_142 rfl rfl ?_
  refine xi_new C 188 rfl vc1 (by decide) (by decide +kernel) inX1 tyX1_ok dfX1 ⟨(hp_pl 149 (by decide +kernel) rfl), (hp_pl 150 (by decide +kernel) rfl), (hp_pl 6 (by decide +kernel) rfl)⟩ (by decide +kernel) 187 4373 rfl rfl (Nat.le_of_ble_eq_true rfl) (Nat.le_of_ble_eq_true rfl) dX9_init_143 ?_
  refine xi_dup C dX9_init_146 rfl ?_
  refine xi_callN C ⟨miX1_init, by decide +kernel⟩ (iX1_init_ok l g 187 188 (hp_sR (iX1_init 176 177 (hp_sR (iX1_init 165 166 (hp_sR (iX1_init 154 155 (hp_sR (iX1_init 143 144 (hp_sR (iX1_init 132 133 (hp_sR (iX1_init 121 122 (hp_sR (iX1_init 110 111 (hp_sR (iX1_init 99 100 (hp_sR (iX1_init 88 89 (hp_sR (iX1_init 77 78 (hp_sR (iX1_init 66 67 (hp_sR (iX8_init 53 54 (hp_sR (iX8_init 40 41 (hp_sR (hp_sR (hp_sR (iX0_init 37 38 (hp_sR (hp_sR (hp_sR (hp_sR (hp_sR (iX1_init 22 23 (hp_sR (iX3_init 18 19 (hp_sR (iX4_init 3 4 (hp_sR (iX5_init 1 2 hp_0) 0 0 1)) 0 1 3)) 0 2 18)) 0 3 22) 0 4 33) 0 5 34) 0 6 35) 0 7 36)) 0 8 37) 0 9 38) 0 10 39)) 0 11 40)) 0 12 53)) 33 (fx_ix (0 : Int32)) 66)) 33 (fx_ix (1 : Int32)) 77)) 33 (fx_ix (2 : Int32)) 88)) 33 (fx_ix (3 : Int32)) 99)) 33 (fx_ix (4 : Int32)) 110)) 33 (fx_ix (5 : Int32)) 121)) 33 (fx_ix (6 : Int32)) 132)) 33 (fx_ix (7 : Int32)) 143)) 33 (fx_ix (8 : Int32)) 154)) 33 (fx_ix (9 : Int32)) 165)) 33 (fx_ix (10 : Int32)) 176) (by decide) (by decide) (by decide +kernel) (by decide +kernel) (by decide +kernel) (by decide +kernel) (by decide +kernel) (by decide +kernel) (by decide +kernel) (by decide +kernel) (by decide +kernel) (by decide +kernel) (by decide +kernel)) ⟨Nat.le_of_ble_eq_true rfl, Nat.le_of_ble_eq_true rfl⟩ 197 4451 rfl rfl (Nat.le_of_ble_eq_true rfl) (Nat.le_of_ble_eq_true rfl) (Nat.le_of_ble_eq_true rfl) dX9_init_147 ?_
  refine xi_aast23 (N := 20) C dX9_init_150 (by decide +kernel) (by decide) (by decide) (by decide +kernel) (by decide) (by decide) ?_
  refine xi_iinc C 12 0 [(1, .int (12 : Int32)), (0, .ref (xi_ad g.2.2.1 0))] dX9_init_151 rfl (by decide) (Nat.le_of_ble_eq_true rfl) rfl ?_
  refine xi_goto C 132 dX9_init_154 (by decide) ?_
  refine xi_iload_n C 0 dX9_init_132 rfl rfl ?_
  refine xi_bipush (v := 20) C dX9_init_133 (by decide) ?_
  refine xi_icmp_ge C 157 dX9_init_135 (by decide) (fun c => absurd c (by decide)) (fun _ => ?_)
  refine xi_aload_n C 1 dX9_init_138 rfl rfl ?_
  refine xi_getr (v := 33) C fzX9_37 rfl dX9_init_139 (by decide +kernel) (by decide) (by decide +kernel) (by decide) ?_
  refine xi_iload_n C 0 dX9_init_142 rfl rfl ?_
  refine xi_new C 199 rfl vc1 (by decide) (by decide +kernel) inX1 tyX1_ok dfX1 ⟨(hp_pl 149 (by decide +kernel) rfl), (hp_pl 150 (by decide +kernel) rfl), (hp_pl 6 (by decide +kernel) rfl)⟩ (by decide +kernel) 198 4455 rfl rfl (Nat.le_of_ble_eq_true rfl) (Nat.le_of_ble_eq_true rfl) dX9_init_143 ?_
  refine xi_dup C dX9_init_146 rfl ?_
  refine xi_callN C ⟨miX1_init, by decide +kernel⟩ (iX1_init_ok l g 198 199 (hp_sR (iX1_init 187 188 (hp_sR (iX1_init 176 177 (hp_sR (iX1_init 165 166 (hp_sR (iX1_init 154 155 (hp_sR (iX1_init 143 144 (hp_sR (iX1_init 132 133 (hp_sR (iX1_init 121 122 (hp_sR (iX1_init 110 111 (hp_sR (iX1_init 99 100 (hp_sR (iX1_init 88 89 (hp_sR (iX1_init 77 78 (hp_sR (iX1_init 66 67 (hp_sR (iX8_init 53 54 (hp_sR (iX8_init 40 41 (hp_sR (hp_sR (hp_sR (iX0_init 37 38 (hp_sR (hp_sR (hp_sR (hp_sR (hp_sR (iX1_init 22 23 (hp_sR (iX3_init 18 19 (hp_sR (iX4_init 3 4 (hp_sR (iX5_init 1 2 hp_0) 0 0 1)) 0 1 3)) 0 2 18)) 0 3 22) 0 4 33) 0 5 34) 0 6 35) 0 7 36)) 0 8 37) 0 9 38) 0 10 39)) 0 11 40)) 0 12 53)) 33 (fx_ix (0 : Int32)) 66)) 33 (fx_ix (1 : Int32)) 77)) 33 (fx_ix (2 : Int32)) 88)) 33 (fx_ix (3 : Int32)) 99)) 33 (fx_ix (4 : Int32)) 110)) 33 (fx_ix (5 : Int32)) 121)) 33 (fx_ix (6 : Int32)) 132)) 33 (fx_ix (7 : Int32)) 143)) 33 (fx_ix (8 : Int32)) 154)) 33 (fx_ix (9 : Int32)) 165)) 33 (fx_ix (10 : Int32)) 176)) 33 (fx_ix (11 : Int32)) 187) (by decide) (by decide) (by decide +kernel) (by decide +kernel) (by decide +kernel) (by decide +kernel) (by decide +kernel) (by decide +kernel) (by decide +kernel) (by decide +kernel) (by decide +kernel) (by decide +kernel) (by decide +kernel)) ⟨Nat.le_of_ble_eq_true rfl, Nat.le_of_ble_eq_true rfl⟩ 208 4533 rfl rfl (Nat.le_of_ble_eq_true rfl) (Nat.le_of_ble_eq_true rfl) (Nat.le_of_ble_eq_true rfl) dX9_init_147 ?_
  refine xi_aast23 (N := 20) C dX9_init_150 (by decide +kernel) (by decide) (by decide) (by decide +kernel) (by decide) (by decide) ?_
  refine xi_iinc C 13 0 [(1, .int (13 : Int32)), (0, .ref (xi_ad g.2.2.1 0))] dX9_init_151 rfl (by decide) (Nat.le_of_ble_eq_true rfl) rfl ?_
  refine xi_goto C 132 dX9_init_154 (by decide) ?_
  refine xi_iload_n C 0 dX9_init_132 rfl rfl ?_
  refine xi_bipush (v := 20) C dX9_init_133 (by decide) ?_
  refine xi_icmp_ge C 157 dX9_init_135 (by decide) (fun c => absurd c (by decide)) (fun _ => ?_)
  refine xi_aload_n C 1 dX9_init_138 rfl rfl ?_
  refine xi_getr (v := 33) C fzX9_37 rfl dX9_init_139 (by decide +kernel) (by decide) (by decide +kernel) (by decide) ?_
  refine xi_iload_n C 0 dX9_init_142 rfl rfl ?_
  refine xi_new C 210 rfl vc1 (by decide) (by decide +kernel) inX1 tyX1_ok dfX1 ⟨(hp_pl 149 (by decide +kernel) rfl), (hp_pl 150 (by decide +kernel) rfl), (hp_pl 6 (by decide +kernel) rfl)⟩ (by decide +kernel) 209 4537 rfl rfl (Nat.le_of_ble_eq_true rfl) (Nat.le_of_ble_eq_true rfl) dX9_init_143 ?_
  refine xi_dup C dX9_init_146 rfl ?_
  refine xi_callN C ⟨miX1_init, by decide +kernel⟩ (iX1_init_ok l g 209 210 (hp_sR (iX1_init 198 199 (hp_sR (iX1_init 187 188 (hp_sR (iX1_init 176 177 (hp_sR (iX1_init 165 166 (hp_sR (iX1_init 154 155 (hp_sR (iX1_init 143 144 (hp_sR (iX1_init 132 133 (hp_sR (iX1_init 121 122 (hp_sR (iX1_init 110 111 (hp_sR (iX1_init 99 100 (hp_sR (iX1_init 88 89 (hp_sR (iX1_init 77 78 (hp_sR (iX1_init 66 67 (hp_sR (iX8_init 53 54 (hp_sR (iX8_init 40 41 (hp_sR (hp_sR (hp_sR (iX0_init 37 38 (hp_sR (hp_sR (hp_sR (hp_sR (hp_sR (iX1_init 22 23 (hp_sR (iX3_init 18 19 (hp_sR (iX4_init 3 4 (hp_sR (iX5_init 1 2 hp_0) 0 0 1)) 0 1 3)) 0 2 18)) 0 3 22) 0 4 33) 0 5 34) 0 6 35) 0 7 36)) 0 8 37) 0 9 38) 0 10 39)) 0 11 40)) 0 12 53)) 33 (fx_ix (0 : Int32)) 66)) 33 (fx_ix (1 : Int32)) 77)) 33 (fx_ix (2 : Int32)) 88)) 33 (fx_ix (3 : Int32)) 99)) 33 (fx_ix (4 : Int32)) 110)) 33 (fx_ix (5 : Int32)) 121)) 33 (fx_ix (6 : Int32)) 132)) 33 (fx_ix (7 : Int32)) 143)) 33 (fx_ix (8 : Int32)) 154)) 33 (fx_ix (9 : Int32)) 165)) 33 (fx_ix (10 : Int32)) 176)) 33 (fx_ix (11 : Int32)) 187)) 33 (fx_ix (12 : Int32)) 198) (by decide) (by decide) (by decide +kernel) (by decide +kernel) (by decide +kernel) (by decide +kernel) (by decide +kernel) (by decide +kernel) (by decide +kernel) (by decide +kernel) (by decide +kernel) (by decide +kernel) (by decide +kernel)) ⟨Nat.le_of_ble_eq_true rfl, Nat.le_of_ble_eq_true rfl⟩ 219 4615 rfl rfl (Nat.le_of_ble_eq_true rfl) (Nat.le_of_ble_eq_true rfl) (Nat.le_of_ble_eq_true rfl) dX9_init_147 ?_
  refine xi_aast23 (N := 20) C dX9_init_150 (by decide +kernel) (by decide) (by decide) (by decide +kernel) (by decide) (by decide) ?_
  refine xi_iinc C 14 0 [(1, .int (14 : Int32)), (0, .ref (xi_ad g.2.2.1 0))] dX9_init_151 rfl (by decide) (Nat.le_of_ble_eq_true rfl) rfl ?_
  refine xi_goto C 132 dX9_init_154 (by decide) ?_
  refine xi_iload_n C 0 dX9_init_132 rfl rfl ?_
  refine xi_bipush (v := 20) C dX9_init_133 (by decide) ?_
  refine xi_icmp_ge C 157 dX9_init_135 (by decide) (fun c => absurd c (by decide)) (fun _ => ?_)
  refine xi_aload_n C 1 dX9_init_138 rfl rfl ?_
  refine xi_getr (v := 33) C fzX9_37 rfl dX9_init_139 (by decide +kernel) (by decide) (by decide +kernel) (by decide) ?_
  refine xi_iload_n C 0 dX9_init_142 rfl rfl ?_
  refine xi_new C 221 rfl vc1 (by decide) (by decide +kernel) inX1 tyX1_ok dfX1 ⟨(hp_pl 149 (by decide +kernel) rfl), (hp_pl 150 (by decide +kernel) rfl), (hp_pl 6 (by decide +kernel) rfl)⟩ (by decide +kernel) 220 4619 rfl rfl (Nat.le_of_ble_eq_true rfl) (Nat.le_of_ble_eq_true rfl) dX9_init_143 ?_
  refine xi_dup C dX9_init_146 rfl ?_
  refine xi_callN C ⟨miX1_init, by decide +kernel⟩ (iX1_init_ok l g 220 221 (hp_sR (iX1_init 209 210 (hp_sR (iX1_init 198 199 (hp_sR (iX1_init 187 188 (hp_sR (iX1_init 176 177 (hp_sR (iX1_init 165 166 (hp_sR (iX1_init 154 155 (hp_sR (iX1_init 143 144 (hp_sR (iX1_init 132 133 (hp_sR (iX1_init 121 122 (hp_sR (iX1_init 110 111 (hp_sR (iX1_init 99 100 (hp_sR (iX1_init 88 89 (hp_sR (iX1_init 77 78 (hp_sR (iX1_init 66 67 (hp_sR (iX8_init 53 54 (hp_sR (iX8_init 40 41 (hp_sR (hp_sR (hp_sR (iX0_init 37 38 (hp_sR (hp_sR (hp_sR (hp_sR (hp_sR (iX1_init 22 23 (hp_sR (iX3_init 18 19 (hp_sR (iX4_init 3 4 (hp_sR (iX5_init 1 2 hp_0) 0 0 1)) 0 1 3)) 0 2 18)) 0 3 22) 0 4 33) 0 5 34) 0 6 35) 0 7 36)) 0 8 37) 0 9 38) 0 10 39)) 0 11 40)) 0 12 53)) 33 (fx_ix (0 : Int32)) 66)) 33 (fx_ix (1 : Int32)) 77)) 33 (fx_ix (2 : Int32)) 88)) 33 (fx_ix (3 : Int32)) 99)) 33 (fx_ix (4 : Int32)) 110)) 33 (fx_ix (5 : Int32)) 121)) 33 (fx_ix (6 : Int32)) 132)) 33 (fx_ix (7 : Int32)) 143)) 33 (fx_ix (8 : Int32)) 154)) 33 (fx_ix (9 : Int32)) 165)) 33 (fx_ix (10 : Int32)) 176)) 33 (fx_ix (11 : Int32)) 187)) 33 (fx_ix (12 : Int32)) 198)) 33 (fx_ix (13 : Int32)) 209) (by decide) (by decide) (by decide +kernel) (by decide +kernel) (by decide +kernel) (by decide +kernel) (by decide +kernel) (by decide +kernel) (by decide +kernel) (by decide +kernel) (by decide +kernel) (by decide +kernel) (by decide +kernel)) ⟨Nat.le_of_ble_eq_true rfl, Nat.le_of_ble_eq_true rfl⟩ 230 4697 rfl rfl (Nat.le_of_ble_eq_true rfl) (Nat.le_of_ble_eq_true rfl) (Nat.le_of_ble_eq_true rfl) dX9_init_147 ?_
  refine xi_aast23 (N := 20) C dX9_init_150 (by decide +kernel) (by decide) (by decide) (by decide +kernel) (by decide) (by decide) ?_
  refine xi_iinc C 15 0 [(1, .int (15 : Int32)), (0, .ref (xi_ad g.2.2.1 0))] dX9_init_151 rfl (by decide) (Nat.le_of_ble_eq_true rfl) rfl ?_
  refine xi_goto C 132 dX9_init_154 (by decide) ?_
  refine xi_iload_n C 0 dX9_init_132 rfl rfl ?_
  refine xi_bipush (v := 20) C dX9_init_133 (by decide) ?_
  refine xi_icmp_ge C 157 dX9_init_135 (by decide) (fun c => absurd c (by decide)) (fun _ => ?_)
  refine xi_aload_n C 1 dX9_init_138 rfl rfl ?_
  refine xi_getr (v := 33) C fzX9_37 rfl dX9_init_139 (by decide +kernel) (by decide) (by decide +kernel) (by decide) ?_
  refine xi_iload_n C 0 dX9_init_142 rfl rfl ?_
  refine xi_new C 232 rfl vc1 (by decide) (by decide +kernel) inX1 tyX1_ok dfX1 ⟨(hp_pl 149 (by decide +kernel) rfl), (hp_pl 150 (by decide +kernel) rfl), (hp_pl 6 (by decide +kernel) rfl)⟩ (by decide +kernel) 231 4701 rfl rfl (Nat.le_of_ble_eq_true rfl) (Nat.le_of_ble_eq_true rfl) dX9_init_143 ?_
  refine xi_dup C dX9_init_146 rfl ?_
  refine xi_callN C ⟨miX1_init, by decide +kernel⟩ (iX1_init_ok l g 231 232 (hp_sR (iX1_init 220 221 (hp_sR (iX1_init 209 210 (hp_sR (iX1_init 198 199 (hp_sR (iX1_init 187 188 (hp_sR (iX1_init 176 177 (hp_sR (iX1_init 165 166 (hp_sR (iX1_init 154 155 (hp_sR (iX1_init 143 144 (hp_sR (iX1_init 132 133 (hp_sR (iX1_init 121 122 (hp_sR (iX1_init 110 111 (hp_sR (iX1_init 99 100 (hp_sR (iX1_init 88 89 (hp_sR (iX1_init 77 78 (hp_sR (iX1_init 66 67 (hp_sR (iX8_init 53 54 (hp_sR (iX8_init 40 41 (hp_sR (hp_sR (hp_sR (iX0_init 37 38 (hp_sR (hp_sR (hp_sR (hp_sR (hp_sR (iX1_init 22 23 (hp_sR (iX3_init 18 19 (hp_sR (iX4_init 3 4 (hp_sR (iX5_init 1 2 hp_0) 0 0 1)) 0 1 3)) 0 2 18)) 0 3 22) 0 4 33) 0 5 34) 0 6 35) 0 7 36)) 0 8 37) 0 9 38) 0 10 39)) 0 11 40)) 0 12 53)) 33 (fx_ix (0 : Int32)) 66)) 33 (fx_ix (1 : Int32)) 77)) 33 (fx_ix (2 : Int32)) 88)) 33 (fx_ix (3 : Int32)) 99)) 33 (fx_ix (4 : Int32)) 110)) 33 (fx_ix (5 : Int32)) 121)) 33 (fx_ix (6 : Int32)) 132)) 33 (fx_ix (7 : Int32)) 143)) 33 (fx_ix (8 : Int32)) 154)) 33 (fx_ix (9 : Int32)) 165)) 33 (fx_ix (10 : Int32)) 176)) 33 (fx_ix (11 : Int32)) 187)) 33 (fx_ix (12 : Int32)) 198)) 33 (fx_ix (13 : Int32)) 209)) 33 (fx_ix (14 : Int32)) 220) (by decide) (by decide) (by decide +kernel) (by decide +kernel) (by decide +kernel) (by decide +kernel) (by decide +kernel) (by decide +kernel) (by decide +kernel) (by decide +kernel) (by decide +kernel) (by decide +kernel) (by decide +kernel)) ⟨Nat.le_of_ble_eq_true rfl, Nat.le_of_ble_eq_true rfl⟩ 241 4779 rfl rfl (Nat.le_of_ble_eq_true rfl) (Nat.le_of_ble_eq_true rfl) (Nat.le_of_ble_eq_true rfl) dX9_init_147 ?_
  refine xi_aast23 (N := 20) C dX9_init_150 (by decide +kernel) (by decide) (by decide) (by decide +kernel) (by decide) (by decide) ?_
  refine xi_iinc C 16 0 [(1, .int (16 : Int32)), (0, .ref (xi_ad g.2.2.1 0))] dX9_init_151 rfl (by decide) (Nat.le_of_ble_eq_true rfl) rfl ?_
  refine xi_goto C 132 dX9_init_154 (by decide) ?_
  refine xi_iload_n C 0 dX9_init_132 rfl rfl ?_
  refine xi_bipush (v := 20) C dX9_init_133 (by decide) ?_
  refine xi_icmp_ge C 157 dX9_init_135 (by decide) (fun c => absurd c (by decide)) (fun _ => ?_)
  refine xi_aload_n C 1 dX9_init_138 rfl rfl ?_
  refine xi_getr (v := 33) C fzX9_37 rfl dX9_init_139 (by decide +kernel) (by decide) (by decide +kernel) (by decide) ?_
  refine xi_iload_n C 0 dX9_init_142 rfl rfl ?_
  refine xi_new C 243 rfl vc1 (by decide) (by decide +kernel) inX1 tyX1_ok dfX1 ⟨(hp_pl 149 (by decide +kernel) rfl), (hp_pl 150 (by decide +kernel) rfl), (hp_pl 6 (by decide +kernel) rfl)⟩ (by decide +kernel) 242 4783 rfl rfl (Nat.le_of_ble_eq_true rfl) (Nat.le_of_ble_eq_true rfl) dX9_init_143 ?_
  refine xi_dup C dX9_init_146 rfl ?_
  refine xi_callN C ⟨miX1_init, by decide +kernel⟩ (iX1_init_ok l g 242 243 (hp_sR (iX1_init 231 232 (hp_sR (iX1_init 220 221 (hp_sR (iX1_init 209 210 (hp_sR (iX1_init 198 199 (hp_sR (iX1_init 187 188 (hp_sR (iX1_init 176 177 (hp_sR (iX1_init 165 166 (hp_sR (iX1_init 154 155 (hp_sR (iX1_init 143 144 (hp_sR (iX1_init 132 133 (hp_sR (iX1_init 121 122 (hp_sR (iX1_init 110 111 (hp_sR (iX1_init 99 100 (hp_sR (iX1_init 88 89 (hp_sR (iX1_init 77 78 (hp_sR (iX1_init 66 67 (hp_sR (iX8_init 53 54 (hp_sR (iX8_init 40 41 (hp_sR (hp_sR (hp_sR (iX0_init 37 38 (hp_sR (hp_sR (hp_sR (hp_sR (hp_sR (iX1_init 22 23 (hp_sR (iX3_init 18 19 (hp_sR (iX4_init 3 4 (hp_sR (iX5_init 1 2 hp_0) 0 0 1)) 0 1 3)) 0 2 18)) 0 3 22) 0 4 33) 0 5 34) 0 6 35) 0 7 36)) 0 8 37) 0 9 38) 0 10 39)) 0 11 40)) 0 12 53)) 33 (fx_ix (0 : Int32)) 66)) 33 (fx_ix (1 : Int32)) 77)) 33 (fx_ix (2 : Int32)) 88)) 33 (fx_ix (3 : Int32)) 99)) 33 (fx_ix (4 : Int32)) 110)) 33 (fx_ix (5 : Int32)) 121)) 33 (fx_ix (6 : Int32)) 132)) 33 (fx_ix (7 : Int32)) 143)) 33 (fx_ix (8 : Int32)) 154)) 33 (fx_ix (9 : Int32)) 165)) 33 (fx_ix (10 : Int32)) 176)) 33 (fx_ix (11 : Int32)) 187)) 33 (fx_ix (12 : Int32)) 198)) 33 (fx_ix (13 : Int32)) 209)) 33 (fx_ix (14 : Int32)) 220)) 33 (fx_ix (15 : Int32)) 231) (by decide) (by decide) (by decide +kernel) (by decide +kernel) (by decide +kernel) (by decide +kernel) (by decide +kernel) (by decide +kernel) (by decide +kernel) (by decide +kernel) (by decide +kernel) (by decide +kernel) (by decide +kernel)) ⟨Nat.le_of_ble_eq_true rfl, Nat.le_of_ble_eq_true rfl⟩ 252 4861 rfl rfl (Nat.le_of_ble_eq_true rfl) (Nat.le_of_ble_eq_true rfl) (Nat.le_of_ble_eq_true rfl) dX9_init_147 ?_
  refine xi_aast23 (N := 20) C dX9_init_150 (by decide +kernel) (by decide) (by decide) (by decide +kernel) (by decide) (by decide) ?_
  refine xi_iinc C 17 0 [(1, .int (17 : Int32)), (0, .ref (xi_ad g.2.2.1 0))] dX9_init_151 rfl (by decide) (Nat.le_of_ble_eq_true rfl) rfl ?_
  refine xi_goto C 132 dX9_init_154 (by decide) ?_
  refine xi_iload_n C 0 dX9_init_132 rfl rfl ?_
  refine xi_bipush (v := 20) C dX9_init_133 (by decide) ?_
  refine xi_icmp_ge C 157 dX9_init_135 (by decide) (fun c => absurd c (by decide)) (fun _ => ?_)
  refine xi_aload_n C 1 dX9_init_138 rfl rfl ?_
  refine xi_getr (v := 33) C fzX9_37 rfl dX9_init_139 (by decide +kernel) (by decide) (by decide +kernel) (by decide) ?_
  refine xi_iload_n C 0 dX9_init_142 rfl rfl ?_
  refine xi_new C 254 rfl vc1 (by decide) (by decide +kernel) inX1 tyX1_ok dfX1 ⟨(hp_pl 149 (by decide +kernel) rfl), (hp_pl 150 (by decide +kernel) rfl), (hp_pl 6 (by decide +kernel) rfl)⟩ (by decide +kernel) 253 4865 rfl rfl (Nat.le_of_ble_eq_true rfl) (Nat.le_of_ble_eq_true rfl) dX9_init_143 ?_
  refine xi_dup C dX9_init_146 rfl ?_
  refine xi_callN C ⟨miX1_init, by decide +kernel⟩ (iX1_init_ok l g 253 254 (hp_sR (iX1_init 242 243 (hp_sR (iX1_init 231 232 (hp_sR (iX1_init 220 221 (hp_sR (iX1_init 209 210 (hp_sR (iX1_init 198 199 (hp_sR (iX1_init 187 188 (hp_sR (iX1_init 176 177 (hp_sR (iX1_init 165 166 (hp_sR (iX1_init 154 155 (hp_sR (iX1_init 143 144 (hp_sR (iX1_init 132 133 (hp_sR (iX1_init 121 122 (hp_sR (iX1_init 110 111 (hp_sR (iX1_init 99 100 (hp_sR (iX1_init 88 89 (hp_sR (iX1_init 77 78 (hp_sR (iX1_init 66 67 (hp_sR (iX8_init 53 54 (hp_sR (iX8_init 40 41 (hp_sR (hp_sR (hp_sR (iX0_init 37 38 (hp_sR (hp_sR (hp_sR (hp_sR (hp_sR (iX1_init 22 23 (hp_sR (iX3_init 18 19 (hp_sR (iX4_init 3 4 (hp_sR (iX5_init 1 2 hp_0) 0 0 1)) 0 1 3)) 0 2 18)) 0 3 22) 0 4 33) 0 5 34) 0 6 35) 0 7 36)) 0 8 37) 0 9 38) 0 10 39)) 0 11 40)) 0 12 53)) 33 (fx_ix (0 : Int32)) 66)) 33 (fx_ix (1 : Int32)) 77)) 33 (fx_ix (2 : Int32)) 88)) 33 (fx_ix (3 : Int32)) 99)) 33 (fx_ix (4 : Int32)) 110)) 33 (fx_ix (5 : Int32)) 121)) 33 (fx_ix (6 : Int32)) 132)) 33 (fx_ix (7 : Int32)) 143)) 33 (fx_ix (8 : Int32)) 154)) 33 (fx_ix (9 : Int32)) 165)) 33 (fx_ix (10 : Int32)) 176)) 33 (fx_ix (11 : Int32)) 187)) 33 (fx_ix (12 : Int32)) 198)) 33 (fx_ix (13 : Int32)) 209)) 33 (fx_ix (14 : Int32)) 220)) 33 (fx_ix (15 : Int32)) 231)) 33 (fx_ix (16 : Int32)) 242) (by decide) (by decide) (by decide +kernel) (by decide +kernel) (by decide +kernel) (by decide +kernel) (by decide +kernel) (by decide +kernel) (by decide +kernel) (by decide +kernel) (by decide +kernel) (by decide +kernel) (by decide +kernel)) ⟨Nat.le_of_ble_eq_true rfl, Nat.le_of_ble_eq_true rfl⟩ 263 4943 rfl rfl (Nat.le_of_ble_eq_true rfl) (Nat.le_of_ble_eq_true rfl) (Nat.le_of_ble_eq_true rfl) dX9_init_147 ?_
  refine xi_aast23 (N := 20) C dX9_init_150 (by decide +kernel) (by decide) (by decide) (by decide +kernel) (by decide) (by decide) ?_
  refine xi_iinc C 18 0 [(1, .int (18 : Int32)), (0, .ref (xi_ad g.2.2.1 0))] dX9_init_151 rfl (by decide) (Nat.le_of_ble_eq_true rfl) rfl ?_
  refine xi_goto C 132 dX9_init_154 (by decide) ?_
  refine xi_iload_n C 0 dX9_init_132 rfl rfl ?_
  refine xi_bipush (v := 20) C dX9_init_133 (by decide) ?_
  refine xi_icmp_ge C 157 dX9_init_135 (by decide) (fun c => absurd c (by decide)) (fun _ => ?_)
  refine xi_aload_n C 1 dX9_init_138 rfl rfl ?_
  refine xi_getr (v := 33) C fzX9_37 rfl dX9_init_139 (by decide +kernel) (by decide) (by decide +kernel) (by decide) ?_
  refine xi_iload_n C 0 dX9_init_142 rfl rfl ?_
  refine xi_new C 265 rfl vc1 (by decide) (by decide +kernel) inX1 tyX1_ok dfX1 ⟨(hp_pl 149 (by decide +kernel) rfl), (hp_pl 150 (by decide +kernel) rfl), (hp_pl 6 (by decide +kernel) rfl)⟩ (by decide +kernel) 264 4947 rfl rfl (Nat.le_of_ble_eq_true rfl) (Nat.le_of_ble_eq_true rfl) dX9_init_143 ?_
  refine xi_dup C dX9_init_146 rfl ?_
  refine xi_callN C ⟨miX1_init, by decide +kernel⟩ (iX1_init_ok l g 264 265 (hp_sR (iX1_init 253 254 (hp_sR (iX1_init 242 243 (hp_sR (iX1_init 231 232 (hp_sR (iX1_init 220 221 (hp_sR (iX1_init 209 210 (hp_sR (iX1_init 198 199 (hp_sR (iX1_init 187 188 (hp_sR (iX1_init 176 177 (hp_sR (iX1_init 165 166 (hp_sR (iX1_init 154 155 (hp_sR (iX1_init 143 144 (hp_sR (iX1_init 132 133 (hp_sR (iX1_init 121 122 (hp_sR (iX1_init 110 111 (hp_sR (iX1_init 99 100 (hp_sR (iX1_init 88 89 (hp_sR (iX1_init 77 78 (hp_sR (iX1_init 66 67 (hp_sR (iX8_init 53 54 (hp_sR (iX8_init 40 41 (hp_sR (hp_sR (hp_sR (iX0_init 37 38 (hp_sR (hp_sR (hp_sR (hp_sR (hp_sR (iX1_init 22 23 (hp_sR (iX3_init 18 19 (hp_sR (iX4_init 3 4 (hp_sR (iX5_init 1 2 hp_0) 0 0 1)) 0 1 3)) 0 2 18)) 0 3 22) 0 4 33) 0 5 34) 0 6 35) 0 7 36)) 0 8 37) 0 9 38) 0 10 39)) 0 11 40)) 0 12 53)) 33 (fx_ix (0 : Int32)) 66)) 33 (fx_ix (1 : Int32)) 77)) 33 (fx_ix (2 : Int32)) 88)) 33 (fx_ix (3 : Int32)) 99)) 33 (fx_ix (4 : Int32)) 110)) 33 (fx_ix (5 : Int32)) 121)) 33 (fx_ix (6 : Int32)) 132)) 33 (fx_ix (7 : Int32)) 143)) 33 (fx_ix (8 : Int32)) 154)) 33 (fx_ix (9 : Int32)) 165)) 33 (fx_ix (10 : Int32)) 176)) 33 (fx_ix (11 : Int32)) 187)) 33 (fx_ix (12 : Int32)) 198)) 33 (fx_ix (13 : Int32)) 209)) 33 (fx_ix (14 : Int32)) 220)) 33 (fx_ix (15 : Int32)) 231)) 33 (fx_ix (16 : Int32)) 242)) 33 (fx_ix (17 : Int32)) 253) (by decide) (by decide) (by decide +kernel) (by decide +kernel) (by decide +kernel) (by decide +kernel) (by decide +kernel) (by decide +kernel) (by decide +kernel) (by decide +kernel) (by decide +kernel) (by decide +kernel) (by decide +kernel)) ⟨Nat.le_of_ble_eq_true rfl, Nat.le_of_ble_eq_true rfl⟩ 274 5025 rfl rfl (Nat.le_of_ble_eq_true rfl) (Nat.le_of_ble_eq_true rfl) (Nat.le_of_ble_eq_true rfl) dX9_init_147 ?_
  refine xi_aast23 (N := 20) C dX9_init_150 (by decide +kernel) (by decide) (by decide) (by decide +kernel) (by decide) (by decide) ?_
  refine xi_iinc C 19 0 [(1, .int (19 : Int32)), (0, .ref (xi_ad g.2.2.1 0))] dX9_init_151 rfl (by decide) (Nat.le_of_ble_eq_true rfl) rfl ?_
  refine xi_goto C 132 dX9_init_154 (by decide) ?_
  refine xi_iload_n C 0 dX9_init_132 rfl rfl ?_
  refine xi_bipush (v := 20) C dX9_init_133 (by decide) ?_
  refine xi_icmp_ge C 157 dX9_init_135 (by decide) (fun c => absurd c (by decide)) (fun _ => ?_)
  refine xi_aload_n C 1 dX9_init_138 rfl rfl ?_
  refine xi_getr (v := 33) C fzX9_37 rfl dX9_init_139 (by decide +kernel) (by decide) (by decide +kernel) (by decide) ?_
  refine xi_iload_n C 0 dX9_init_142 rfl rfl ?_
  refine xi_new C 276 rfl vc1 (by decide) (by decide +kernel) inX1 tyX1_ok dfX1 ⟨(hp_pl 149 (by decide +kernel) rfl), (hp_pl 150 (by decide +kernel) rfl), (hp_pl 6 (by decide +kernel) rfl)⟩ (by decide +kernel) 275 5029 rfl rfl (Nat.le_of_ble_eq_true rfl) (Nat.le_of_ble_eq_true rfl) dX9_init_143 ?_
  refine xi_dup C dX9_init_146 rfl ?_
  refine xi_callN C ⟨miX1_init, by decide +kernel⟩ (iX1_init_ok l g 275 276 (hp_sR (iX1_init 264 265 (hp_sR (iX1_init 253 254 (hp_sR (iX1_init 242 243 (hp_sR (iX1_init 231 232 (hp_sR (iX1_init 220 221 (hp_sR (iX1_init 209 210 (hp_sR (iX1_init 198 199 (hp_sR (iX1_init 187 188 (hp_sR (iX1_init 176 177 (hp_sR (iX1_init 165 166 (hp_sR (iX1_init 154 155 (hp_sR (iX1_init 143 144 (hp_sR (iX1_init 132 133 (hp_sR (iX1_init 121 122 (hp_sR (iX1_init 110 111 (hp_sR (iX1_init 99 100 (hp_sR (iX1_init 88 89 (hp_sR (iX1_init 77 78 (hp_sR (iX1_init 66 67 (hp_sR (iX8_init 53 54 (hp_sR (iX8_init 40 41 (hp_sR (hp_sR (hp_sR (iX0_init 37 38 (hp_sR (hp_sR (hp_sR (hp_sR (hp_sR (iX1_init 22 23 (hp_sR (iX3_init 18 19 (hp_sR (iX4_init 3 4 (hp_sR (iX5_init 1 2 hp_0) 0 0 1)) 0 1 3)) 0 2 18)) 0 3 22) 0 4 33) 0 5 34) 0 6 35) 0 7 36)) 0 8 37) 0 9 38) 0 10 39)) 0 11 40)) 0 12 53)) 33 (fx_ix (0 : Int32)) 66)) 33 (fx_ix (1 : Int32)) 77)) 33 (fx_ix (2 : Int32)) 88)) 33 (fx_ix (3 : Int32)) 99)) 33 (fx_ix (4 : Int32)) 110)) 33 (fx_ix (5 : Int32)) 121)) 33 (fx_ix (6 : Int32)) 132)) 33 (fx_ix (7 : Int32)) 143)) 33 (fx_ix (8 : Int32)) 154)) 33 (fx_ix (9 : Int32)) 165)) 33 (fx_ix (10 : Int32)) 176)) 33 (fx_ix (11 : Int32)) 187)) 33 (fx_ix (12 : Int32)) 198)) 33 (fx_ix (13 : Int32)) 209)) 33 (fx_ix (14 : Int32)) 220)) 33 (fx_ix (15 : Int32)) 231)) 33 (fx_ix (16 : Int32)) 242)) 33 (fx_ix (17 : Int32)) 253)) 33 (fx_ix (18 : Int32)) 264) (by decide) (by decide) (by decide +kernel) (by decide +kernel) (by decide +kernel) (by decide +kernel) (by decide +kernel) (by decide +kernel) (by decide +kernel) (by decide +kernel) (by decide +kernel) (by decide +kernel) (by decide +kernel)) ⟨Nat.le_of_ble_eq_true rfl, Nat.le_of_ble_eq_true rfl⟩ 285 5107 rfl rfl (Nat.le_of_ble_eq_true rfl) (Nat.le_of_ble_eq_true rfl) (Nat.le_of_ble_eq_true rfl) dX9_init_147 ?_
  refine xi_aast23 (N := 20) C dX9_init_150 (by decide +kernel) (by decide) (by decide) (by decide +kernel) (by decide) (by decide) ?_
  refine xi_iinc C 20 0 [(1, .int (20 : Int32)), (0, .ref (xi_ad g.2.2.1 0))] dX9_init_151 rfl (by decide) (Nat.le_of_ble_eq_true rfl) rfl ?_
  refine xi_goto C 132 dX9_init_154 (by decide) ?_
  refine xi_iload_n C 0 dX9_init_132 rfl rfl ?_
  refine xi_bipush (v := 20) C dX9_init_133 (by decide) ?_
  refine xi_icmp_ge C 157 dX9_init_135 (by decide) (fun _ => ?_) (fun c => absurd (by decide) c)
  refine xi_iconst (v := 0) C dX9_init_157 (by decide) ?_
  refine xi_istore_n C [(1, .int (0 : Int32)), (0, .ref (xi_ad g.2.2.1 0))] dX9_init_158 rfl (Nat.le_of_ble_eq_true rfl) rfl ?_
  refine xi_iload_n C 0 dX9_init_159 rfl rfl ?_
  refine xi_iconst (v := 2) C dX9_init_160 (by decide) ?_
  refine xi_icmp_ge C 196 dX9_init_161 (by decide) (fun c => absurd c (by decide)) (fun _ => ?_)
  refine xi_aload_n C 1 dX9_init_164 rfl rfl ?_
  refine xi_getr (v := 38) C fzX9_58 rfl dX9_init_165 (by decide +kernel) (by decide) (by decide +kernel) (by decide) ?_
  refine xi_iload_n C 0 dX9_init_168 rfl rfl ?_
  refine xi_new C 287 rfl vc0 (by decide) (by decide +kernel) inX0 tyX0_ok dfX0 ⟨(hp_pl 218 (by decide +kernel) rfl), (hp_pl 219 (by decide +kernel) rfl), (hp_pl 8 (by decide +kernel) rfl)⟩ (by decide +kernel) 286 5111 rfl rfl (Nat.le_of_ble_eq_true rfl) (Nat.le_of_ble_eq_true rfl) dX9_init_169 ?_
  refine xi_dup C dX9_init_172 rfl ?_
  refine xi_callN C ⟨miX0_init, by decide +kernel⟩ (iX0_init_ok l g 286 287 (hp_sR (iX1_init 275 276 (hp_sR (iX1_init 264 265 (hp_sR (iX1_init 253 254 (hp_sR (iX1_init 242 243 (hp_sR (iX1_init 231 232 (hp_sR (iX1_init 220 221 (hp_sR (iX1_init 209 210 (hp_sR (iX1_init 198 199 (hp_sR (iX1_init 187 188 (hp_sR (iX1_init 176 177 (hp_sR (iX1_init 165 166 (hp_sR (iX1_init 154 155 (hp_sR (iX1_init 143 144 (hp_sR (iX1_init 132 133 (hp_sR (iX1_init 121 122 (hp_sR (iX1_init 110 111 (hp_sR (iX1_init 99 100 (hp_sR (iX1_init 88 89 (hp_sR (iX1_init 77 78 (hp_sR (iX1_init 66 67 (hp_sR (iX8_init 53 54 (hp_sR (iX8_init 40 41 (hp_sR (hp_sR (hp_sR (iX0_init 37 38 (hp_sR (hp_sR (hp_sR (hp_sR (hp_sR (iX1_init 22 23 (hp_sR (iX3_init 18 19 (hp_sR (iX4_init 3 4 (hp_sR (iX5_init 1 2 hp_0) 0 0 1)) 0 1 3)) 0 2 18)) 0 3 22) 0 4 33) 0 5 34) 0 6 35) 0 7 36)) 0 8 37) 0 9 38) 0 10 39)) 0 11 40)) 0 12 53)) 33 (fx_ix (0 : Int32)) 66)) 33 (fx_ix (1 : Int32)) 77)) 33 (fx_ix (2 : Int32)) 88)) 33 (fx_ix (3 : Int32)) 99)) 33 (fx_ix (4 : Int32)) 110)) 33 (fx_ix (5 : Int32)) 121)) 33 (fx_ix (6 : Int32)) 132)) 33 (fx_ix (7 : Int32)) 143)) 33 (fx_ix (8 : Int32)) 154)) 33 (fx_ix (9 : Int32)) 165)) 33 (fx_ix (10 : Int32)) 176)) 33 (fx_ix (11 : Int32)) 187)) 33 (fx_ix (12 : Int32)) 198)) 33 (fx_ix (13 : Int32)) 209)) 33 (fx_ix (14 : Int32)) 220)) 33 (fx_ix (15 : Int32)) 231)) 33 (fx_ix (16 : Int32)) 242)) 33 (fx_ix (17 : Int32)) 253)) 33 (fx_ix (18 : Int32)) 264)) 33 (fx_ix (19 : Int32)) 275) (by decide) (by decide) (by decide +kernel) ) ⟨Nat.le_of_ble_eq_true rfl, Nat.le_of_ble_eq_true rfl⟩ 286 5111 rfl rfl (Nat.le_of_ble_eq_true rfl) (Nat.le_of_ble_eq_true rfl) (Nat.le_of_ble_eq_true rfl) dX9_init_173 ?_
  refine xi_aast24 (N := 2) C dX9_init_176 (by decide +kernel) (by decide) (by decide) (by decide +kernel) (by decide) (by decide) ?_
  refine xi_aload_n C 1 dX9_init_177 rfl rfl ?_
  refine xi_getr (v := 39) C fzX9_62 rfl dX9_init_178 (by decide +kernel) (by decide) (by decide +kernel) (by decide) ?_
  refine xi_iload_n C 0 dX9_init_181 rfl rfl ?_
  refine xi_new C 288 rfl vc0 (by decide) (by decide +kernel) inX0 tyX0_ok dfX0 ⟨(hp_pl 218 (by decide +kernel) rfl), (hp_pl 219 (by decide +kernel) rfl), (hp_pl 8 (by decide +kernel) rfl)⟩ (by decide +kernel) 287 5115 rfl rfl (Nat.le_of_ble_eq_true rfl) (Nat.le_of_ble_eq_true rfl) dX9_init_182 ?_
  refine xi_dup C dX9_init_185 rfl ?_
  refine xi_callN C ⟨miX0_init, by decide +kernel⟩ (iX0_init_ok l g 287 288 (hp_sR (iX0_init 286 287 (hp_sR (iX1_init 275 276 (hp_sR (iX1_init 264 265 (hp_sR (iX1_init 253 254 (hp_sR (iX1_init 242 243 (hp_sR (iX1_init 231 232 (hp_sR (iX1_init 220 221 (hp_sR (iX1_init 209 210 (hp_sR (iX1_init 198 199 (hp_sR (iX1_init 187 188 (hp_sR (iX1_init 176 177 (hp_sR (iX1_init 165 166 (hp_sR (iX1_init 154 155 (hp_sR (iX1_init 143 144 (hp_sR (iX1_init 132 133 (hp_sR (iX1_init 121 122 (hp_sR (iX1_init 110 111 (hp_sR (iX1_init 99 100 (hp_sR (iX1_init 88 89 (hp_sR (iX1_init 77 78 (hp_sR (iX1_init 66 67 (hp_sR (iX8_init 53 54 (hp_sR (iX8_init 40 41 (hp_sR (hp_sR (hp_sR (iX0_init 37 38 (hp_sR (hp_sR (hp_sR (hp_sR (hp_sR (iX1_init 22 23 (hp_sR (iX3_init 18 19 (hp_sR (iX4_init 3 4 (hp_sR (iX5_init 1 2 hp_0) 0 0 1)) 0 1 3)) 0 2 18)) 0 3 22) 0 4 33) 0 5 34) 0 6 35) 0 7 36)) 0 8 37) 0 9 38) 0 10 39)) 0 11 40)) 0 12 53)) 33 (fx_ix (0 : Int32)) 66)) 33 (fx_ix (1 : Int32)) 77)) 33 (fx_ix (2 : Int32)) 88)) 33 (fx_ix (3 : Int32)) 99)) 33 (fx_ix (4 : Int32)) 110)) 33 (fx_ix (5 : Int32)) 121)) 33 (fx_ix (6 : Int32)) 132)) 33 (fx_ix (7 : Int32)) 143)) 33 (fx_ix (8 : Int32)) 154)) 33 (fx_ix (9 : Int32)) 165)) 33 (fx_ix (10 : Int32)) 176)) 33 (fx_ix (11 : Int32)) 187)) 33 (fx_ix (12 : Int32)) 198)) 33 (fx_ix (13 : Int32)) 209)) 33 (fx_ix (14 : Int32)) 220)) 33 (fx_ix (15 : Int32)) 231)) 33 (fx_ix (16 : Int32)) 242)) 33 (fx_ix (17 : Int32)) 253)) 33 (fx_ix (18 : Int32)) 264)) 33 (fx_ix (19 : Int32)) 275)) 38 (fx_ix (0 : Int32)) 286) (by decide) (by decide) (by decide +kernel) ) ⟨Nat.le_of_ble_eq_true rfl, Nat.le_of_ble_eq_true rfl⟩ 287 5115 rfl rfl (Nat.le_of_ble_eq_true rfl) (Nat.le_of_ble_eq_true rfl) (Nat.le_of_ble_eq_true rfl) dX9_init_186 ?_
  refine xi_aast24 (N := 2) C dX9_init_189 (by decide +kernel) (by decide) (by decide) (by decide +kernel) (by decide) (by decide) ?_
  refine xi_iinc C 1 0 [(1, .int (1 : Int32)), (0, .ref (xi_ad g.2.2.1 0))] dX9_init_190 rfl (by decide) (Nat.le_of_ble_eq_true rfl) rfl ?_
  refine xi_goto C 159 dX9_init_193 (by decide) ?_
  refine xi_iload_n C 0 dX9_init_159 rfl rfl ?_
  refine xi_iconst (v := 2) C dX9_init_160 (by decide) ?_
  refine xi_icmp_ge C 196 dX9_init_161 (by decide) (fun c => absurd c (by decide)) (fun _ => ?_)
  refine xi_aload_n C 1 dX9_init_164 rfl rfl ?_
  refine xi_getr (v := 38) C fzX9_58 rfl dX9_init_165 (by decide +kernel) (by decide) (by decide +kernel) (by decide) ?_
  refine xi_iload_n C 0 dX9_init_168 rfl rfl ?_
  refine xi_new C 289 rfl vc0 (by decide) (by decide +kernel) inX0 tyX0_ok dfX0 ⟨(hp_pl 218 (by decide +kernel) rfl), (hp_pl 219 (by decide +kernel) rfl), (hp_pl 8 (by decide +kernel) rfl)⟩ (by decide +kernel) 288 5119 rfl rfl (Nat.le_of_ble_eq_true rfl) (Nat.le_of_ble_eq_true rfl) dX9_init_169 ?_
  refine xi_dup C dX9_init_172 rfl ?_
  refine xi_callN C ⟨miX0_init, by decide +kernel⟩ (iX0_init_ok l g 288 289 (hp_sR (iX0_init 287 288 (hp_sR (iX0_init 286 287 (hp_sR (iX1_init 275 276 (hp_sR (iX1_init 264 265 (hp_sR (iX1_init 253 254 (hp_sR (iX1_init 242 243 (hp_sR (iX1_init 231 232 (hp_sR (iX1_init 220 221 (hp_sR (iX1_init 209 210 (hp_sR (iX1_init 198 199 (hp_sR (iX1_init 187 188 (hp_sR (iX1_init 176 177 (hp_sR (iX1_init 165 166 (hp_sR (iX1_init 154 155 (hp_sR (iX1_init 143 144 (hp_sR (iX1_init 132 133 (hp_sR (iX1_init 121 122 (hp_sR (iX1_init 110 111 (hp_sR (iX1_init 99 100 (hp_sR (iX1_init 88 89 (hp_sR (iX1_init 77 78 (hp_sR (iX1_init 66 67 (hp_sR (iX8_init 53 54 (hp_sR (iX8_init 40 41 (hp_sR (hp_sR (hp_sR (iX0_init 37 38 (hp_sR (hp_sR (hp_sR (hp_sR (hp_sR (iX1_init 22 23 (hp_sR (iX3_init 18 19 (hp_sR (iX4_init 3 4 (hp_sR (iX5_init 1 2 hp_0) 0 0 1)) 0 1 3)) 0 2 18)) 0 3 22) 0 4 33) 0 5 34) 0 6 35) 0 7 36)) 0 8 37) 0 9 38) 0 10 39)) 0 11 40)) 0 12 53)) 33 (fx_ix (0 : Int32)) 66)) 33 (fx_ix (1 : Int32)) 77)) 33 (fx_ix (2 : Int32)) 88)) 33 (fx_ix (3 : Int32)) 99)) 33 (fx_ix (4 : Int32)) 110)) 33 (fx_ix (5 : Int32)) 121)) 33 (fx_ix (6 : Int32)) 132)) 33 (fx_ix (7 : Int32)) 143)) 33 (fx_ix (8 : Int32)) 154)) 33 (fx_ix (9 : Int32)) 165)) 33 (fx_ix (10 : Int32)) 176)) 33 (fx_ix (11 : Int32)) 187)) 33 (fx_ix (12 : Int32)) 198)) 33 (fx_ix (13 : Int32)) 209)) 33 (fx_ix (14 : Int32)) 220)) 33 (fx_ix (15 : Int32)) 231)) 33 (fx_ix (16 : Int32)) 242)) 33 (fx_ix (17 : Int32)) 253)) 33 (fx_ix (18 : Int32)) 264)) 33 (fx_ix (19 : Int32)) 275)) 38 (fx_ix (0 : Int32)) 286)) 39 (fx_ix (0 : Int32)) 287) (by decide) (by decide) (by decide +kernel) ) ⟨Nat.le_of_ble_eq_true rfl, Nat.le_of_ble_eq_true rfl⟩ 288 5119 rfl rfl (Nat.le_of_ble_eq_true rfl) (Nat.le_of_ble_eq_true rfl) (Nat.le_of_ble_eq_true rfl) dX9_init_173 ?_
  refine xi_aast24 (N := 2) C dX9_init_176 (by decide +kernel) (by decide) (by decide) (by decide +kernel) (by decide) (by decide) ?_
  refine xi_aload_n C 1 dX9_init_177 rfl rfl ?_
  refine xi_getr (v := 39) C fzX9_62 rfl dX9_init_178 (by decide +kernel) (by decide) (by decide +kernel) (by decide) ?_
  refine xi_iload_n C 0 dX9_init_181 rfl rfl ?_
  refine xi_new C 290 rfl vc0 (by decide) (by decide +kernel) inX0 tyX0_ok dfX0 ⟨(hp_pl 218 (by decide +kernel) rfl), (hp_pl 219 (by decide +kernel) rfl), (hp_pl 8 (by decide +kernel) rfl)⟩ (by decide +kernel) 289 5123 rfl rfl (Nat.le_of_ble_eq_true rfl) (Nat.le_of_ble_eq_true rfl) dX9_init_182 ?_
  refine xi_dup C dX9_init_185 rfl ?_
  refine xi_callN C ⟨miX0_init, by decide +kernel⟩ (iX0_init_ok l g 289 290 (hp_sR (iX0_init 288 289 (hp_sR (iX0_init 287 288 (hp_sR (iX0_init 286 287 (hp_sR (iX1_init 275 276 (hp_sR (iX1_init 264 265 (hp_sR (iX1_init 253 254 (hp_sR (iX1_init 242 243 (hp_sR (iX1_init 231 232 (hp_sR (iX1_init 220 221 (hp_sR (iX1_init 209 210 (hp_sR (iX1_init 198 199 (hp_sR (iX1_init 187 188 (hp_sR (iX1_init 176 177 (hp_sR (iX1_init 165 166 (hp_sR (iX1_init 154 155 (hp_sR (iX1_init 143 144 (hp_sR (iX1_init 132 133 (hp_sR (iX1_init 121 122 (hp_sR (iX1_init 110 111 (hp_sR (iX1_init 99 100 (hp_sR (iX1_init 88 89 (hp_sR (iX1_init 77 78 (hp_sR (iX1_init 66 67 (hp_sR (iX8_init 53 54 (hp_sR (iX8_init 40 41 (hp_sR (hp_sR (hp_sR (iX0_init 37 38 (hp_sR (hp_sR (hp_sR (hp_sR (hp_sR (iX1_init 22 23 (hp_sR (iX3_init 18 19 (hp_sR (iX4_init 3 4 (hp_sR (iX5_init 1 2 hp_0) 0 0 1)) 0 1 3)) 0 2 18)) 0 3 22) 0 4 33) 0 5 34) 0 6 35) 0 7 36)) 0 8 37) 0 9 38) 0 10 39)) 0 11 40)) 0 12 53)) 33 (fx_ix (0 : Int32)) 66)) 33 (fx_ix (1 : Int32)) 77)) 33 (fx_ix (2 : Int32)) 88)) 33 (fx_ix (3 : Int32)) 99)) 33 (fx_ix (4 : Int32)) 110)) 33 (fx_ix (5 : Int32)) 121)) 33 (fx_ix (6 : Int32)) 132)) 33 (fx_ix (7 : Int32)) 143)) 33 (fx_ix (8 : Int32)) 154)) 33 (fx_ix (9 : Int32)) 165)) 33 (fx_ix (10 : Int32)) 176)) 33 (fx_ix (11 : Int32)) 187)) 33 (fx_ix (12 : Int32)) 198)) 33 (fx_ix (13 : Int32)) 209)) 33 (fx_ix (14 : Int32)) 220)) 33 (fx_ix (15 : Int32)) 231)) 33 (fx_ix (16 : Int32)) 242)) 33 (fx_ix (17 : Int32)) 253)) 33 (fx_ix (18 : Int32)) 264)) 33 (fx_ix (19 : Int32)) 275)) 38 (fx_ix (0 : Int32)) 286)) 39 (fx_ix (0 : Int32)) 287)) 38 (fx_ix (1 : Int32)) 288) (by decide) (by decide) (by decide +kernel) ) ⟨Nat.le_of_ble_eq_true rfl, Nat.le_of_ble_eq_true rfl⟩ 289 5123 rfl rfl (Nat.le_of_ble_eq_true rfl) (Nat.le_of_ble_eq_true rfl) (Nat.le_of_ble_eq_true rfl) dX9_init_186 ?_
  refine xi_aast24 (N := 2) C dX9_init_189 (by decide +kernel) (by decide) (by decide) (by decide +kernel) (by decide) (by decide) ?_
  refine xi_iinc C 2 0 [(1, .int (2 : Int32)), (0, .ref (xi_ad g.2.2.1 0))] dX9_init_190 rfl (by decide) (Nat.le_of_ble_eq_true rfl) rfl ?_
  refine xi_goto C 159 dX9_init_193 (by decide) ?_
  refine xi_iload_n C 0 dX9_init_159 rfl rfl ?_
  refine xi_iconst (v := 2) C dX9_init_160 (by decide) ?_
  refine xi_icmp_ge C 196 dX9_init_161 (by decide) (fun _ => ?_) (fun c => absurd (by decide) c)
  exact xi_vret (n1 := 0) (h1 := hp_0) C rfl rfl dX9_init_196
theorem dX10_init_0 : decode cX10_init 0 = .ok (.aload_n 0, 1) := by decide +kernel
theorem dX10_init_1 : decode cX10_init 1 = .ok (.invokespecial 1, 3) := by decide +kernel
theorem dX10_init_4 : decode cX10_init 4 = .ok (.aload_n 0, 1) := by decide +kernel
theorem dX10_init_5 : decode cX10_init 5 = .ok (.sipush 900, 3) := by decide +kernel
theorem dX10_init_8 : decode cX10_init 8 = .ok (.newarray .int, 2) := by decide +kernel
theorem dX10_init_10 : decode cX10_init 10 = .ok (.putfield 7, 3) := by decide +kernel
theorem dX10_init_13 : decode cX10_init 13 = .ok (.aload_n 0, 1) := by decide +kernel
theorem dX10_init_14 : decode cX10_init 14 = .ok (.bipush 117, 2) := by decide +kernel
theorem dX10_init_16 : decode cX10_init 16 = .ok (.newarray .int, 2) := by decide +kernel
theorem dX10_init_18 : decode cX10_init 18 = .ok (.putfield 13, 3) := by decide +kernel
theorem dX10_init_21 : decode cX10_init 21 = .ok (.aload_n 0, 1) := by decide +kernel
theorem dX10_init_22 : decode cX10_init 22 = .ok (.bipush 117, 2) := by decide +kernel
theorem dX10_init_24 : decode cX10_init 24 = .ok (.newarray .int, 2) := by decide +kernel
theorem dX10_init_26 : decode cX10_init 26 = .ok (.putfield 16, 3) := by decide +kernel
theorem dX10_init_29 : decode cX10_init 29 = .ok (.aload_n 0, 1) := by decide +kernel
theorem dX10_init_30 : decode cX10_init 30 = .ok (.bipush 24, 2) := by decide +kernel
theorem dX10_init_32 : decode cX10_init 32 = .ok (.newarray .int, 2) := by decide +kernel
theorem dX10_init_34 : decode cX10_init 34 = .ok (.putfield 19, 3) := by decide +kernel
theorem dX10_init_37 : decode cX10_init 37 = .ok (.aload_n 0, 1) := by decide +kernel
theorem dX10_init_38 : decode cX10_init 38 = .ok (.bipush 24, 2) := by decide +kernel
theorem dX10_init_40 : decode cX10_init 40 = .ok (.newarray .int, 2) := by decide +kernel
theorem dX10_init_42 : decode cX10_init 42 = .ok (.putfield 22, 3) := by decide +kernel
theorem dX10_init_45 : decode cX10_init 45 = .ok (.aload_n 0, 1) := by decide +kernel
theorem dX10_init_46 : decode cX10_init 46 = .ok (.iconst (-1), 1) := by decide +kernel
theorem dX10_init_47 : decode cX10_init 47 = .ok (.putfield 25, 3) := by decide +kernel
theorem dX10_init_50 : decode cX10_init 50 = .ok (.aload_n 0, 1) := by decide +kernel
theorem dX10_init_51 : decode cX10_init 51 = .ok (.bipush 8, 2) := by decide +kernel
theorem dX10_init_53 : decode cX10_init 53 = .ok (.newarray .boolean, 2) := by decide +kernel
theorem dX10_init_55 : decode cX10_init 55 = .ok (.putfield 29, 3) := by decide +kernel
theorem dX10_init_58 : decode cX10_init 58 = .ok (.aload_n 0, 1) := by decide +kernel
theorem dX10_init_59 : decode cX10_init 59 = .ok (.iconst 2, 1) := by decide +kernel
theorem dX10_init_60 : decode cX10_init 60 = .ok (.newarray .boolean, 2) := by decide +kernel
theorem dX10_init_62 : decode cX10_init 62 = .ok (.putfield 33, 3) := by decide +kernel
theorem dX10_init_65 : decode cX10_init 65 = .ok (.aload_n 0, 1) := by decide +kernel
theorem dX10_init_66 : decode cX10_init 66 = .ok (.bipush 120, 2) := by decide +kernel
theorem dX10_init_68 : decode cX10_init 68 = .ok (.newarray .int, 2) := by decide +kernel
theorem dX10_init_70 : decode cX10_init 70 = .ok (.putfield 36, 3) := by decide +kernel
theorem dX10_init_73 : decode cX10_init 73 = .ok (.aload_n 0, 1) := by decide +kernel
theorem dX10_init_74 : decode cX10_init 74 = .ok (.sipush 2400, 3) := by decide +kernel
theorem dX10_init_77 : decode cX10_init 77 = .ok (.newarray .int, 2) := by decide +kernel
theorem dX10_init_79 : decode cX10_init 79 = .ok (.putfield 39, 3) := by decide +kernel
theorem dX10_init_82 : decode cX10_init 82 = .ok (.aload_n 0, 1) := by decide +kernel
theorem dX10_init_83 : decode cX10_init 83 = .ok (.sipush 150, 3) := by decide +kernel
theorem dX10_init_86 : decode cX10_init 86 = .ok (.newarray .int, 2) := by decide +kernel
theorem dX10_init_88 : decode cX10_init 88 = .ok (.putfield 42, 3) := by decide +kernel
theorem dX10_init_91 : decode cX10_init 91 = .ok (.aload_n 0, 1) := by decide +kernel
theorem dX10_init_92 : decode cX10_init 92 = .ok (.bipush 12, 2) := by decide +kernel
theorem dX10_init_94 : decode cX10_init 94 = .ok (.newarray .int, 2) := by decide +kernel
theorem dX10_init_96 : decode cX10_init 96 = .ok (.putfield 45, 3) := by decide +kernel
theorem dX10_init_99 : decode cX10_init 99 = .ok (.aload_n 0, 1) := by decide +kernel
theorem dX10_init_100 : decode cX10_init 100 = .ok (.ldc 48, 2) := by decide +kernel
theorem dX10_init_102 : decode cX10_init 102 = .ok (.newarray .int, 2) := by decide +kernel
theorem dX10_init_104 : decode cX10_init 104 = .ok (.putfield 49, 3) := by decide +kernel
theorem dX10_init_107 : decode cX10_init 107 = .ok (.aload_n 0, 1) := by decide +kernel
theorem dX10_init_108 : decode cX10_init 108 = .ok (.bipush 72, 2) := by decide +kernel
theorem dX10_init_110 : decode cX10_init 110 = .ok (.newarray .int, 2) := by decide +kernel
theorem dX10_init_112 : decode cX10_init 112 = .ok (.putfield 52, 3) := by decide +kernel
theorem dX10_init_115 : decode cX10_init 115 = .ok (.aload_n 0, 1) := by decide +kernel
theorem dX10_init_116 : decode cX10_init 116 = .ok (.ldc 48, 2) := by decide +kernel
theorem dX10_init_118 : decode cX10_init 118 = .ok (.newarray .long, 2) := by decide +kernel
theorem dX10_init_120 : decode cX10_init 120 = .ok (.putfield 55, 3) := by decide +kernel
theorem dX10_init_123 : decode cX10_init 123 = .ok (.aload_n 0, 1) := by decide +kernel
theorem dX10_init_124 : decode cX10_init 124 = .ok (.iconst 0, 1) := by decide +kernel
theorem dX10_init_125 : decode cX10_init 125 = .ok (.putfield 59, 3) := by decide +kernel
theorem dX10_init_128 : decode cX10_init 128 = .ok (.return_, 1) := by decide +kernel
theorem miX10_init : xi_mi yX10_init cX10_init 1 := ⟨⟨(hp_pl 11 (by decide +kernel) rfl), (hp_pl 1094 (by decide +kernel) rfl), by decide +kernel, by decide +kernel, by decide +kernel⟩, rfl, (hp_pl 1093 (by decide +kernel) rfl)⟩
def iX10_init (a n : Nat) (h : hp_T) : hp_T := (hp_sI (hp_sR (hp_sR (hp_sR (hp_sR (hp_sR (hp_sR (hp_sR (hp_sR (hp_sR (hp_sI (hp_sR (hp_sR (hp_sR (hp_sR (hp_sR h a 1 n) a 3 (n + 1)) a 4 (n + 2)) a 5 (n + 3)) a 6 (n + 4)) a 17 (-1 : Int32)) a 18 (n + 5)) a 19 (n + 6)) a 20 (n + 7)) a 21 (n + 8)) a 23 (n + 9)) a 24 (n + 10)) a 25 (n + 11)) a 26 (n + 12)) a 27 (n + 13)) a 7 (0 : Int32))
set_option maxRecDepth 100000 in
set_option maxHeartbeats 4000000 in
theorem iX10_init_ok (l : Launch) (g : xi_G) (a n : Nat) (h : hp_T) (han : a < n) (hn9 : n + 14 < 999) (sa : hp_sh a = (10, 0)) (s0 : hp_sh (n + 0) = (20, 900)) (s1 : hp_sh (n + 1) = (20, 117)) (s2 : hp_sh (n + 2) = (20, 117)) (s3 : hp_sh (n + 3) = (20, 24)) (s4 : hp_sh (n + 4) = (20, 24)) (s5 : hp_sh (n + 5) = (22, 8)) (s6 : hp_sh (n + 6) = (22, 2)) (s7 : hp_sh (n + 7) = (20, 120)) (s8 : hp_sh (n + 8) = (20, 2400)) (s9 : hp_sh (n + 9) = (20, 150)) (s10 : hp_sh (n + 10) = (20, 12)) (s11 : hp_sh (n + 11) = (20, 48672)) (s12 : hp_sh (n + 12) = (20, 72)) (s13 : hp_sh (n + 13) = (21, 48672)) : xi_M l g yX10_init cX10_init 1 ({ frames := 1, cells := 14, slots := 101290, locals := 14 } : Room) [.ref (xi_ad g.2.2.1 a)] n h (n + 14) (iX10_init a n h) := by
  refine xi_start rfl rfl (Nat.le_of_ble_eq_true rfl) (fun K C => ?_)
  show xi_j l g K 1 0 0 n h [(0, .ref (xi_ad g.2.2.1 a))] 0 []
  refine xi_aload_n C 0 dX10_init_0 rfl rfl ?_
  refine xi_obj C ⟨(hp_pl 1095 (by decide +kernel) rfl), (hp_pl 30 (by decide +kernel) rfl), (hp_pl 31 (by decide +kernel) rfl)⟩ (Nat.le_of_ble_eq_true rfl) (Nat.le_of_ble_eq_true rfl) dX10_init_1 ?_
  refine xi_aload_n C 0 dX10_init_4 rfl rfl ?_
  refine xi_sipush (v := 900) C dX10_init_5 (by decide) ?_
  refine xi_newa_int (N := 900) C (n + 1) rfl (hp_pl 69 (by decide +kernel) rfl) (by decide) (by decide) (Nat.le_of_ble_eq_true rfl) s0 1 900 rfl rfl (Nat.le_of_ble_eq_true rfl) (Nat.le_of_ble_eq_true rfl) dX10_init_8 ?_
  refine xi_putF (ty0 := (.array .int)) C rfl ⟨fdX10_1, (hp_pl 1098 (by decide +kernel) rfl), rfl, by decide +kernel⟩ rfl rfl (by omega) (fun _ => rfl) (fun _ => rfl) dX10_init_10 sa (by omega) ?_
  refine xi_aload_n C 0 dX10_init_13 rfl rfl ?_
  refine xi_bipush (v := 117) C dX10_init_14 (by decide) ?_
  refine xi_newa_int (N := 117) C (n + 2) rfl (hp_pl 69 (by decide +kernel) rfl) (by decide) (by decide) (Nat.le_of_ble_eq_true rfl) s1 2 1017 rfl rfl (Nat.le_of_ble_eq_true rfl) (Nat.le_of_ble_eq_true rfl) dX10_init_16 ?_
  refine xi_putF (ty0 := (.array .int)) C rfl ⟨fdX10_3, (hp_pl 1100 (by decide +kernel) rfl), rfl, by decide +kernel⟩ rfl rfl (by omega) (fun _ => rfl) (fun _ => rfl) dX10_init_18 sa (by omega) ?_
  refine xi_aload_n C 0 dX10_init_21 rfl rfl ?_
  refine xi_bipush (v := 117) C dX10_init_22 (by decide) ?_
  refine xi_newa_int (N := 117) C (n + 3) rfl (hp_pl 69 (by decide +kernel) rfl) (by decide) (by decide) (Nat.le_of_ble_eq_true rfl) s2 3 1134 rfl rfl (Nat.le_of_ble_eq_true rfl) (Nat.le_of_ble_eq_true rfl) dX10_init_24 ?_
  refine xi_putF (ty0 := (.array .int)) C rfl ⟨fdX10_4, (hp_pl 1101 (by decide +kernel) rfl), rfl, by decide +kernel⟩ rfl rfl (by omega) (fun _ => rfl) (fun _ => rfl) dX10_init_26 sa (by omega) ?_
  refine xi_aload_n C 0 dX10_init_29 rfl rfl ?_
  refine xi_bipush (v := 24) C dX10_init_30 (by decide) ?_
  refine xi_newa_int (N := 24) C (n + 4) rfl (hp_pl 69 (by decide +kernel) rfl) (by decide) (by decide) (Nat.le_of_ble_eq_true rfl) s3 4 1158 rfl rfl (Nat.le_of_ble_eq_true rfl) (Nat.le_of_ble_eq_true rfl) dX10_init_32 ?_
  refine xi_putF (ty0 := (.array .int)) C rfl ⟨fdX10_5, (hp_pl 1102 (by decide +kernel) rfl), rfl, by decide +kernel⟩ rfl rfl (by omega) (fun _ => rfl) (fun _ => rfl) dX10_init_34 sa (by omega) ?_
  refine xi_aload_n C 0 dX10_init_37 rfl rfl ?_
  refine xi_bipush (v := 24) C dX10_init_38 (by decide) ?_
  refine xi_newa_int (N := 24) C (n + 5) rfl (hp_pl 69 (by decide +kernel) rfl) (by decide) (by decide) (Nat.le_of_ble_eq_true rfl) s4 5 1182 rfl rfl (Nat.le_of_ble_eq_true rfl) (Nat.le_of_ble_eq_true rfl) dX10_init_40 ?_
  refine xi_putF (ty0 := (.array .int)) C rfl ⟨fdX10_6, (hp_pl 1103 (by decide +kernel) rfl), rfl, by decide +kernel⟩ rfl rfl (by omega) (fun _ => rfl) (fun _ => rfl) dX10_init_42 sa (by omega) ?_
  refine xi_aload_n C 0 dX10_init_45 rfl rfl ?_
  refine xi_iconst (v := -1) C dX10_init_46 (by decide) ?_
  refine xi_putI (ty0 := .int) C ⟨fdX10_17, (hp_pl 1114 (by decide +kernel) rfl), rfl, by decide +kernel⟩ rfl rfl rfl dX10_init_47 sa (by omega) ?_
  refine xi_aload_n C 0 dX10_init_50 rfl rfl ?_
  refine xi_bipush (v := 8) C dX10_init_51 (by decide) ?_
  refine xi_newa_boolean (N := 8) C (n + 6) rfl (hp_pl 1182 (by decide +kernel) rfl) (by decide) (by decide) (Nat.le_of_ble_eq_true rfl) s5 6 1190 rfl rfl (Nat.le_of_ble_eq_true rfl) (Nat.le_of_ble_eq_true rfl) dX10_init_53 ?_
  refine xi_putF (ty0 := (.array .boolean)) C rfl ⟨fdX10_18, (hp_pl 1115 (by decide +kernel) rfl), rfl, by decide +kernel⟩ rfl rfl (by omega) (fun _ => rfl) (fun _ => rfl) dX10_init_55 sa (by omega) ?_
  refine xi_aload_n C 0 dX10_init_58 rfl rfl ?_
  refine xi_iconst (v := 2) C dX10_init_59 (by decide) ?_
  refine xi_newa_boolean (N := 2) C (n + 7) rfl (hp_pl 1182 (by decide +kernel) rfl) (by decide) (by decide) (Nat.le_of_ble_eq_true rfl) s6 7 1192 rfl rfl (Nat.le_of_ble_eq_true rfl) (Nat.le_of_ble_eq_true rfl) dX10_init_60 ?_
  refine xi_putF (ty0 := (.array .boolean)) C rfl ⟨fdX10_19, (hp_pl 1116 (by decide +kernel) rfl), rfl, by decide +kernel⟩ rfl rfl (by omega) (fun _ => rfl) (fun _ => rfl) dX10_init_62 sa (by omega) ?_
  refine xi_aload_n C 0 dX10_init_65 rfl rfl ?_
  refine xi_bipush (v := 120) C dX10_init_66 (by decide) ?_
  refine xi_newa_int (N := 120) C (n + 8) rfl (hp_pl 69 (by decide +kernel) rfl) (by decide) (by decide) (Nat.le_of_ble_eq_true rfl) s7 8 1312 rfl rfl (Nat.le_of_ble_eq_true rfl) (Nat.le_of_ble_eq_true rfl) dX10_init_68 ?_
  refine xi_putF (ty0 := (.array .int)) C rfl ⟨fdX10_20, (hp_pl 1117 (by decide +kernel) rfl), rfl, by decide +kernel⟩ rfl rfl (by omega) (fun _ => rfl) (fun _ => rfl) dX10_init_70 sa (by omega) ?_
  refine xi_aload_n C 0 dX10_init_73 rfl rfl ?_
  refine xi_sipush (v := 2400) C dX10_init_74 (by decide) ?_
  refine xi_newa_int (N := 2400) C (n + 9) rfl (hp_pl 69 (by decide +kernel) rfl) (by decide) (by decide) (Nat.le_of_ble_eq_true rfl) s8 9 3712 rfl rfl (Nat.le_of_ble_eq_true rfl) (Nat.le_of_ble_eq_true rfl) dX10_init_77 ?_
  refine xi_putF (ty0 := (.array .int)) C rfl ⟨fdX10_21, (hp_pl 1118 (by decide +kernel) rfl), rfl, by decide +kernel⟩ rfl rfl (by omega) (fun _ => rfl) (fun _ => rfl) dX10_init_79 sa (by omega) ?_
  refine xi_aload_n C 0 dX10_init_82 rfl rfl ?_
  refine xi_sipush (v := 150) C dX10_init_83 (by decide) ?_
  refine xi_newa_int (N := 150) C (n + 10) rfl (hp_pl 69 (by decide +kernel) rfl) (by decide) (by decide) (Nat.le_of_ble_eq_true rfl) s9 10 3862 rfl rfl (Nat.le_of_ble_eq_true rfl) (Nat.le_of_ble_eq_true rfl) dX10_init_86 ?_
  refine xi_putF (ty0 := (.array .int)) C rfl ⟨fdX10_23, (hp_pl 1120 (by decide +kernel) rfl), rfl, by decide +kernel⟩ rfl rfl (by omega) (fun _ => rfl) (fun _ => rfl) dX10_init_88 sa (by omega) ?_
  refine xi_aload_n C 0 dX10_init_91 rfl rfl ?_
  refine xi_bipush (v := 12) C dX10_init_92 (by decide) ?_
  refine xi_newa_int (N := 12) C (n + 11) rfl (hp_pl 69 (by decide +kernel) rfl) (by decide) (by decide) (Nat.le_of_ble_eq_true rfl) s10 11 3874 rfl rfl (Nat.le_of_ble_eq_true rfl) (Nat.le_of_ble_eq_true rfl) dX10_init_94 ?_
  refine xi_putF (ty0 := (.array .int)) C rfl ⟨fdX10_24, (hp_pl 1121 (by decide +kernel) rfl), rfl, by decide +kernel⟩ rfl rfl (by omega) (fun _ => rfl) (fun _ => rfl) dX10_init_96 sa (by omega) ?_
  refine xi_aload_n C 0 dX10_init_99 rfl rfl ?_
  refine xi_ldc (v := 48672) C (hp_pl 1096 (by decide +kernel) rfl) dX10_init_100 ?_
  refine xi_newa_int (N := 48672) C (n + 12) rfl (hp_pl 69 (by decide +kernel) rfl) (by decide) (by decide) (Nat.le_of_ble_eq_true rfl) s11 12 52546 rfl rfl (Nat.le_of_ble_eq_true rfl) (Nat.le_of_ble_eq_true rfl) dX10_init_102 ?_
  refine xi_putF (ty0 := (.array .int)) C rfl ⟨fdX10_25, (hp_pl 1122 (by decide +kernel) rfl), rfl, by decide +kernel⟩ rfl rfl (by omega) (fun _ => rfl) (fun _ => rfl) dX10_init_104 sa (by omega) ?_
  refine xi_aload_n C 0 dX10_init_107 rfl rfl ?_
  refine xi_bipush (v := 72) C dX10_init_108 (by decide) ?_
  refine xi_newa_int (N := 72) C (n + 13) rfl (hp_pl 69 (by decide +kernel) rfl) (by decide) (by decide) (Nat.le_of_ble_eq_true rfl) s12 13 52618 rfl rfl (Nat.le_of_ble_eq_true rfl) (Nat.le_of_ble_eq_true rfl) dX10_init_110 ?_
  refine xi_putF (ty0 := (.array .int)) C rfl ⟨fdX10_26, (hp_pl 1123 (by decide +kernel) rfl), rfl, by decide +kernel⟩ rfl rfl (by omega) (fun _ => rfl) (fun _ => rfl) dX10_init_112 sa (by omega) ?_
  refine xi_aload_n C 0 dX10_init_115 rfl rfl ?_
  refine xi_ldc (v := 48672) C (hp_pl 1096 (by decide +kernel) rfl) dX10_init_116 ?_
  refine xi_newa_long (N := 48672) C (n + 14) rfl (hp_pl 129 (by decide +kernel) rfl) (by decide) (by decide) (Nat.le_of_ble_eq_true rfl) s13 14 101290 rfl rfl (Nat.le_of_ble_eq_true rfl) (Nat.le_of_ble_eq_true rfl) dX10_init_118 ?_
  refine xi_putF (ty0 := (.array .long)) C rfl ⟨fdX10_27, (hp_pl 1124 (by decide +kernel) rfl), rfl, by decide +kernel⟩ rfl rfl (by omega) (fun _ => rfl) (fun _ => rfl) dX10_init_120 sa (by omega) ?_
  refine xi_aload_n C 0 dX10_init_123 rfl rfl ?_
  refine xi_iconst (v := 0) C dX10_init_124 (by decide) ?_
  refine xi_putI (ty0 := .boolean) C ⟨fdX10_7, (hp_pl 1104 (by decide +kernel) rfl), rfl, by decide +kernel⟩ rfl rfl rfl dX10_init_125 sa (by omega) ?_
  exact xi_vret (n1 := 0) (h1 := h) C rfl rfl dX10_init_128
