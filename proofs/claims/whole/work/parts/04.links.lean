abbrev xr_R (f lo : Nat) : Room := { frames := f, cells := 0, slots := 0, locals := lo }
theorem fx_z1 {v : Int32} (h : v = 0 ∨ v = 1) : narrow .boolean (.int v) = .int v := by rcases h with rfl | rfl <;> rfl
theorem fx_z2 {v : Int32} (h : v = 0 ∨ v = 1) : fits .boolean (.int v) = true := by rcases h with rfl | rfl <;> rfl
theorem hp_uws {C : String} {T : u_T} {N : Nat} (ps : List Nat) (h : ∀ k, k < N → tables_1[ps.getD k 0]? = some (u_lay C T k)) : ∀ w ∈ u_ws C T N, w ∈ hp_GL := by
  intro w hw
  obtain ⟨k, hk, rfl⟩ := List.mem_map.mp hw
  refine hp_pl _ (h k (List.mem_range.mp hk)) ?_
  unfold u_lay
  split <;> rfl
theorem fx_out3 {x : Int32} (c0 : ¬ x = 0) (c1 : ¬ x = 1) (c2 : ¬ x = 2) : x.toInt < 0 ∨ 2 < x.toInt := by
  rcases Int.lt_or_le x.toInt 0 with h | h
  · exact Or.inl h
  · rcases Int.lt_or_le 2 x.toInt with h9 | h9
    · exact Or.inr h9
    · exfalso
      have key : ∀ v : Int32, x.toInt = v.toInt → x = v := fun v e => Int32.toInt_inj.mp e
      have hs : x.toInt = 0 ∨ x.toInt = 1 ∨ x.toInt = 2 := by omega
      rcases hs with q | q | q
      · exact c0 (key 0 q)
      · exact c1 (key 1 q)
      · exact c2 (key 2 q)
theorem fx_out6 {x : Int32} (c0 : ¬ x = 0) (c1 : ¬ x = 1) (c2 : ¬ x = 2) (c3 : ¬ x = 3) (c4 : ¬ x = 4) (c5 : ¬ x = 5) : x.toInt < 0 ∨ 5 < x.toInt := by
  rcases Int.lt_or_le x.toInt 0 with h | h
  · exact Or.inl h
  · rcases Int.lt_or_le 5 x.toInt with h9 | h9
    · exact Or.inr h9
    · exfalso
      have key : ∀ v : Int32, x.toInt = v.toInt → x = v := fun v e => Int32.toInt_inj.mp e
      have hs : x.toInt = 0 ∨ x.toInt = 1 ∨ x.toInt = 2 ∨ x.toInt = 3 ∨ x.toInt = 4 ∨ x.toInt = 5 := by omega
      rcases hs with q | q | q | q | q | q
      · exact c0 (key 0 q)
      · exact c1 (key 1 q)
      · exact c2 (key 2 q)
      · exact c3 (key 3 q)
      · exact c4 (key 4 q)
      · exact c5 (key 5 q)
theorem fx_out7 {x : Int32} (c0 : ¬ x = 0) (c1 : ¬ x = 1) (c2 : ¬ x = 2) (c3 : ¬ x = 3) (c4 : ¬ x = 4) (c5 : ¬ x = 5) (c6 : ¬ x = 6) : x.toInt < 0 ∨ 6 < x.toInt := by
  rcases Int.lt_or_le x.toInt 0 with h | h
  · exact Or.inl h
  · rcases Int.lt_or_le 6 x.toInt with h9 | h9
    · exact Or.inr h9
    · exfalso
      have key : ∀ v : Int32, x.toInt = v.toInt → x = v := fun v e => Int32.toInt_inj.mp e
      have hs : x.toInt = 0 ∨ x.toInt = 1 ∨ x.toInt = 2 ∨ x.toInt = 3 ∨ x.toInt = 4 ∨ x.toInt = 5 ∨ x.toInt = 6 := by omega
      rcases hs with q | q | q | q | q | q | q
      · exact c0 (key 0 q)
      · exact c1 (key 1 q)
      · exact c2 (key 2 q)
      · exact c3 (key 3 q)
      · exact c4 (key 4 q)
      · exact c5 (key 5 q)
      · exact c6 (key 6 q)
theorem fx_out8 {x : Int32} (c0 : ¬ x = 0) (c1 : ¬ x = 1) (c2 : ¬ x = 2) (c3 : ¬ x = 3) (c4 : ¬ x = 4) (c5 : ¬ x = 5) (c6 : ¬ x = 6) (c7 : ¬ x = 7) : x.toInt < 0 ∨ 7 < x.toInt := by
  rcases Int.lt_or_le x.toInt 0 with h | h
  · exact Or.inl h
  · rcases Int.lt_or_le 7 x.toInt with h9 | h9
    · exact Or.inr h9
    · exfalso
      have key : ∀ v : Int32, x.toInt = v.toInt → x = v := fun v e => Int32.toInt_inj.mp e
      have hs : x.toInt = 0 ∨ x.toInt = 1 ∨ x.toInt = 2 ∨ x.toInt = 3 ∨ x.toInt = 4 ∨ x.toInt = 5 ∨ x.toInt = 6 ∨ x.toInt = 7 := by omega
      rcases hs with q | q | q | q | q | q | q | q
      · exact c0 (key 0 q)
      · exact c1 (key 1 q)
      · exact c2 (key 2 q)
      · exact c3 (key 3 q)
      · exact c4 (key 4 q)
      · exact c5 (key 5 q)
      · exact c6 (key 6 q)
      · exact c7 (key 7 q)
theorem fx_out9 {x : Int32} (c0 : ¬ x = 0) (c1 : ¬ x = 1) (c2 : ¬ x = 2) (c3 : ¬ x = 3) (c4 : ¬ x = 4) (c5 : ¬ x = 5) (c6 : ¬ x = 6) (c7 : ¬ x = 7) (c8 : ¬ x = 8) : x.toInt < 0 ∨ 8 < x.toInt := by
  rcases Int.lt_or_le x.toInt 0 with h | h
  · exact Or.inl h
  · rcases Int.lt_or_le 8 x.toInt with h9 | h9
    · exact Or.inr h9
    · exfalso
      have key : ∀ v : Int32, x.toInt = v.toInt → x = v := fun v e => Int32.toInt_inj.mp e
      have hs : x.toInt = 0 ∨ x.toInt = 1 ∨ x.toInt = 2 ∨ x.toInt = 3 ∨ x.toInt = 4 ∨ x.toInt = 5 ∨ x.toInt = 6 ∨ x.toInt = 7 ∨ x.toInt = 8 := by omega
      rcases hs with q | q | q | q | q | q | q | q | q
      · exact c0 (key 0 q)
      · exact c1 (key 1 q)
      · exact c2 (key 2 q)
      · exact c3 (key 3 q)
      · exact c4 (key 4 q)
      · exact c5 (key 5 q)
      · exact c6 (key 6 q)
      · exact c7 (key 7 q)
      · exact c8 (key 8 q)
theorem fx_lkX5_readLine_16 {x : Int32} (c0 : ¬ x = 168165) (c1 : ¬ x = 215205) (c2 : ¬ x = 513619) (c3 : ¬ x = 644179) (c4 : ¬ x = 6605428) (c5 : ¬ x = 20579924) (c6 : ¬ x = 552909459) (c7 : ¬ x = 679650899) : Op.lookupswitch.offset [(168165, 112), (215205, 155), (513619, 131), (644179, 94), (6605428, 171), (20579924, 163), (552909459, 76), (679650899, 143)] (179) x.toInt = 179 := by
  have key : ∀ (v : Int32) (n : Int), v.toInt = n → ¬ x = v → ¬ n = x.toInt := fun v n q c e => c (Int32.toInt_inj.mp (q.trans e).symm)
  simp only [Op.lookupswitch.offset]
  rw [if_neg (key 168165 168165 (by decide) c0), if_neg (key 215205 215205 (by decide) c1), if_neg (key 513619 513619 (by decide) c2), if_neg (key 644179 644179 (by decide) c3), if_neg (key 6605428 6605428 (by decide) c4), if_neg (key 20579924 20579924 (by decide) c5), if_neg (key 552909459 552909459 (by decide) c6), if_neg (key 679650899 679650899 (by decide) c7)]
theorem fx_lkX9_fault_1 {x : Int32} (c0 : ¬ x = 0) (c1 : ¬ x = 1) : Op.lookupswitch.offset [(0, 27), (1, 35)] (43) x.toInt = 43 := by
  have key : ∀ (v : Int32) (n : Int), v.toInt = n → ¬ x = v → ¬ n = x.toInt := fun v n q c e => c (Int32.toInt_inj.mp (q.trans e).symm)
  simp only [Op.lookupswitch.offset]
  rw [if_neg (key 0 0 (by decide) c0), if_neg (key 1 1 (by decide) c1)]
theorem fx_lkX9_standing_28 {x : Int32} (c0 : ¬ x = 0) (c1 : ¬ x = 1) : Op.lookupswitch.offset [(0, 28), (1, 38)] (48) x.toInt = 48 := by
  have key : ∀ (v : Int32) (n : Int), v.toInt = n → ¬ x = v → ¬ n = x.toInt := fun v n q c e => c (Int32.toInt_inj.mp (q.trans e).symm)
  simp only [Op.lookupswitch.offset]
  rw [if_neg (key 0 0 (by decide) c0), if_neg (key 1 1 (by decide) c1)]
theorem inX0 : ∀ w ∈ u_ws RX0 TX0 4, w ∈ hp_GL := hp_uws [232, 234, 236, 238] (by decide +kernel)
theorem vc0 : vwCl[0]? = some (RX0, TX0, 4) := rfl
theorem fdX0_0 : xr_fd 0 0 RX0 TX0 4 tyX0 := ⟨by decide, rfl, by decide +kernel, by decide, inX0, tyX0_ok, nmX0, rfl⟩
theorem fdX0_1 : xr_fd 0 1 RX0 TX0 4 tyX0 := ⟨by decide, rfl, by decide +kernel, by decide, inX0, tyX0_ok, nmX0, rfl⟩
theorem fdX0_2 : xr_fd 0 2 RX0 TX0 4 tyX0 := ⟨by decide, rfl, by decide +kernel, by decide, inX0, tyX0_ok, nmX0, rfl⟩
theorem fdX0_3 : xr_fd 0 3 RX0 TX0 4 tyX0 := ⟨by decide, rfl, by decide +kernel, by decide, inX0, tyX0_ok, nmX0, rfl⟩
theorem inX1 : ∀ w ∈ u_ws RX1 TX1 4, w ∈ hp_GL := hp_uws [208, 210, 212, 214] (by decide +kernel)
theorem vc1 : vwCl[1]? = some (RX1, TX1, 4) := rfl
theorem fdX1_0 : xr_fd 1 0 RX1 TX1 4 tyX1 := ⟨by decide, rfl, by decide +kernel, by decide, inX1, tyX1_ok, nmX1, rfl⟩
theorem fdX1_1 : xr_fd 1 1 RX1 TX1 4 tyX1 := ⟨by decide, rfl, by decide +kernel, by decide, inX1, tyX1_ok, nmX1, rfl⟩
theorem fdX1_2 : xr_fd 1 2 RX1 TX1 4 tyX1 := ⟨by decide, rfl, by decide +kernel, by decide, inX1, tyX1_ok, nmX1, rfl⟩
theorem fdX1_3 : xr_fd 1 3 RX1 TX1 4 tyX1 := ⟨by decide, rfl, by decide +kernel, by decide, inX1, tyX1_ok, nmX1, rfl⟩
theorem inX2 : ∀ w ∈ u_ws RX2 TX2 3, w ∈ hp_GL := hp_uws [91, 93, 95] (by decide +kernel)
theorem vc2 : vwCl[2]? = some (RX2, TX2, 3) := rfl
theorem fdX2_0 : xr_fd 2 0 RX2 TX2 3 tyX2 := ⟨by decide, rfl, by decide +kernel, by decide, inX2, tyX2_ok, nmX2, rfl⟩
theorem fdX2_1 : xr_fd 2 1 RX2 TX2 3 tyX2 := ⟨by decide, rfl, by decide +kernel, by decide, inX2, tyX2_ok, nmX2, rfl⟩
theorem fdX2_2 : xr_fd 2 2 RX2 TX2 3 tyX2 := ⟨by decide, rfl, by decide +kernel, by decide, inX2, tyX2_ok, nmX2, rfl⟩
theorem inX3 : ∀ w ∈ u_ws RX3 TX3 3, w ∈ hp_GL := hp_uws [142, 144, 146] (by decide +kernel)
theorem vc3 : vwCl[3]? = some (RX3, TX3, 3) := rfl
theorem fdX3_0 : xr_fd 3 0 RX3 TX3 3 tyX3 := ⟨by decide, rfl, by decide +kernel, by decide, inX3, tyX3_ok, nmX3, rfl⟩
theorem fdX3_1 : xr_fd 3 1 RX3 TX3 3 tyX3 := ⟨by decide, rfl, by decide +kernel, by decide, inX3, tyX3_ok, nmX3, rfl⟩
theorem fdX3_2 : xr_fd 3 2 RX3 TX3 3 tyX3 := ⟨by decide, rfl, by decide +kernel, by decide, inX3, tyX3_ok, nmX3, rfl⟩
theorem inX4 : ∀ w ∈ u_ws RX4 TX4 10, w ∈ hp_GL := hp_uws [108, 110, 112, 114, 116, 118, 120, 122, 124, 126] (by decide +kernel)
theorem vc4 : vwCl[4]? = some (RX4, TX4, 10) := rfl
theorem fdX4_0 : xr_fd 4 0 RX4 TX4 10 tyX4 := ⟨by decide, rfl, by decide +kernel, by decide, inX4, tyX4_ok, nmX4, rfl⟩
theorem fdX4_1 : xr_fd 4 1 RX4 TX4 10 tyX4 := ⟨by decide, rfl, by decide +kernel, by decide, inX4, tyX4_ok, nmX4, rfl⟩
theorem fdX4_2 : xr_fd 4 2 RX4 TX4 10 tyX4 := ⟨by decide, rfl, by decide +kernel, by decide, inX4, tyX4_ok, nmX4, rfl⟩
theorem fdX4_3 : xr_fd 4 3 RX4 TX4 10 tyX4 := ⟨by decide, rfl, by decide +kernel, by decide, inX4, tyX4_ok, nmX4, rfl⟩
theorem fdX4_4 : xr_fd 4 4 RX4 TX4 10 tyX4 := ⟨by decide, rfl, by decide +kernel, by decide, inX4, tyX4_ok, nmX4, rfl⟩
theorem fdX4_5 : xr_fd 4 5 RX4 TX4 10 tyX4 := ⟨by decide, rfl, by decide +kernel, by decide, inX4, tyX4_ok, nmX4, rfl⟩
theorem fdX4_6 : xr_fd 4 6 RX4 TX4 10 tyX4 := ⟨by decide, rfl, by decide +kernel, by decide, inX4, tyX4_ok, nmX4, rfl⟩
theorem fdX4_7 : xr_fd 4 7 RX4 TX4 10 tyX4 := ⟨by decide, rfl, by decide +kernel, by decide, inX4, tyX4_ok, nmX4, rfl⟩
theorem fdX4_8 : xr_fd 4 8 RX4 TX4 10 tyX4 := ⟨by decide, rfl, by decide +kernel, by decide, inX4, tyX4_ok, nmX4, rfl⟩
theorem fdX4_9 : xr_fd 4 9 RX4 TX4 10 tyX4 := ⟨by decide, rfl, by decide +kernel, by decide, inX4, tyX4_ok, nmX4, rfl⟩
theorem inX5 : ∀ w ∈ u_ws RX5 TX5 9, w ∈ hp_GL := hp_uws [50, 52, 54, 56, 58, 60, 62, 64, 66] (by decide +kernel)
theorem vc5 : vwCl[5]? = some (RX5, TX5, 9) := rfl
theorem fdX5_0 : xr_fd 5 0 RX5 TX5 9 tyX5 := ⟨by decide, rfl, by decide +kernel, by decide, inX5, tyX5_ok, nmX5, rfl⟩
theorem fdX5_1 : xr_fd 5 1 RX5 TX5 9 tyX5 := ⟨by decide, rfl, by decide +kernel, by decide, inX5, tyX5_ok, nmX5, rfl⟩
theorem fdX5_2 : xr_fd 5 2 RX5 TX5 9 tyX5 := ⟨by decide, rfl, by decide +kernel, by decide, inX5, tyX5_ok, nmX5, rfl⟩
theorem fdX5_3 : xr_fd 5 3 RX5 TX5 9 tyX5 := ⟨by decide, rfl, by decide +kernel, by decide, inX5, tyX5_ok, nmX5, rfl⟩
theorem fdX5_4 : xr_fd 5 4 RX5 TX5 9 tyX5 := ⟨by decide, rfl, by decide +kernel, by decide, inX5, tyX5_ok, nmX5, rfl⟩
theorem fdX5_5 : xr_fd 5 5 RX5 TX5 9 tyX5 := ⟨by decide, rfl, by decide +kernel, by decide, inX5, tyX5_ok, nmX5, rfl⟩
theorem fdX5_6 : xr_fd 5 6 RX5 TX5 9 tyX5 := ⟨by decide, rfl, by decide +kernel, by decide, inX5, tyX5_ok, nmX5, rfl⟩
theorem fdX5_7 : xr_fd 5 7 RX5 TX5 9 tyX5 := ⟨by decide, rfl, by decide +kernel, by decide, inX5, tyX5_ok, nmX5, rfl⟩
theorem fdX5_8 : xr_fd 5 8 RX5 TX5 9 tyX5 := ⟨by decide, rfl, by decide +kernel, by decide, inX5, tyX5_ok, nmX5, rfl⟩
theorem inX6 : ∀ w ∈ u_ws RX6 TX6 9, w ∈ hp_GL := hp_uws [181, 183, 185, 187, 189, 191, 193, 195, 197] (by decide +kernel)
theorem vc6 : vwCl[6]? = some (RX6, TX6, 9) := rfl
theorem fdX6_0 : xr_fd 6 0 RX6 TX6 9 tyX6 := ⟨by decide, rfl, by decide +kernel, by decide, inX6, tyX6_ok, nmX6, rfl⟩
theorem fdX6_1 : xr_fd 6 1 RX6 TX6 9 tyX6 := ⟨by decide, rfl, by decide +kernel, by decide, inX6, tyX6_ok, nmX6, rfl⟩
theorem fdX6_2 : xr_fd 6 2 RX6 TX6 9 tyX6 := ⟨by decide, rfl, by decide +kernel, by decide, inX6, tyX6_ok, nmX6, rfl⟩
theorem fdX6_3 : xr_fd 6 3 RX6 TX6 9 tyX6 := ⟨by decide, rfl, by decide +kernel, by decide, inX6, tyX6_ok, nmX6, rfl⟩
theorem fdX6_4 : xr_fd 6 4 RX6 TX6 9 tyX6 := ⟨by decide, rfl, by decide +kernel, by decide, inX6, tyX6_ok, nmX6, rfl⟩
theorem fdX6_5 : xr_fd 6 5 RX6 TX6 9 tyX6 := ⟨by decide, rfl, by decide +kernel, by decide, inX6, tyX6_ok, nmX6, rfl⟩
theorem fdX6_6 : xr_fd 6 6 RX6 TX6 9 tyX6 := ⟨by decide, rfl, by decide +kernel, by decide, inX6, tyX6_ok, nmX6, rfl⟩
theorem fdX6_7 : xr_fd 6 7 RX6 TX6 9 tyX6 := ⟨by decide, rfl, by decide +kernel, by decide, inX6, tyX6_ok, nmX6, rfl⟩
theorem fdX6_8 : xr_fd 6 8 RX6 TX6 9 tyX6 := ⟨by decide, rfl, by decide +kernel, by decide, inX6, tyX6_ok, nmX6, rfl⟩
theorem inX7 : ∀ w ∈ u_ws RX7 TX7 8, w ∈ hp_GL := hp_uws [275, 277, 279, 281, 283, 285, 287, 289] (by decide +kernel)
theorem vc7 : vwCl[7]? = some (RX7, TX7, 8) := rfl
theorem fdX7_0 : xr_fd 7 0 RX7 TX7 8 tyX7 := ⟨by decide, rfl, by decide +kernel, by decide, inX7, tyX7_ok, nmX7, rfl⟩
theorem fdX7_1 : xr_fd 7 1 RX7 TX7 8 tyX7 := ⟨by decide, rfl, by decide +kernel, by decide, inX7, tyX7_ok, nmX7, rfl⟩
theorem fdX7_2 : xr_fd 7 2 RX7 TX7 8 tyX7 := ⟨by decide, rfl, by decide +kernel, by decide, inX7, tyX7_ok, nmX7, rfl⟩
theorem fdX7_3 : xr_fd 7 3 RX7 TX7 8 tyX7 := ⟨by decide, rfl, by decide +kernel, by decide, inX7, tyX7_ok, nmX7, rfl⟩
theorem fdX7_4 : xr_fd 7 4 RX7 TX7 8 tyX7 := ⟨by decide, rfl, by decide +kernel, by decide, inX7, tyX7_ok, nmX7, rfl⟩
theorem fdX7_5 : xr_fd 7 5 RX7 TX7 8 tyX7 := ⟨by decide, rfl, by decide +kernel, by decide, inX7, tyX7_ok, nmX7, rfl⟩
theorem fdX7_6 : xr_fd 7 6 RX7 TX7 8 tyX7 := ⟨by decide, rfl, by decide +kernel, by decide, inX7, tyX7_ok, nmX7, rfl⟩
theorem fdX7_7 : xr_fd 7 7 RX7 TX7 8 tyX7 := ⟨by decide, rfl, by decide +kernel, by decide, inX7, tyX7_ok, nmX7, rfl⟩
theorem inX8 : ∀ w ∈ u_ws RX8 TX8 7, w ∈ hp_GL := hp_uws [321, 323, 325, 327, 329, 331, 333] (by decide +kernel)
theorem vc8 : vwCl[8]? = some (RX8, TX8, 7) := rfl
theorem fdX8_0 : xr_fd 8 0 RX8 TX8 7 tyX8 := ⟨by decide, rfl, by decide +kernel, by decide, inX8, tyX8_ok, nmX8, rfl⟩
theorem fdX8_1 : xr_fd 8 1 RX8 TX8 7 tyX8 := ⟨by decide, rfl, by decide +kernel, by decide, inX8, tyX8_ok, nmX8, rfl⟩
theorem fdX8_2 : xr_fd 8 2 RX8 TX8 7 tyX8 := ⟨by decide, rfl, by decide +kernel, by decide, inX8, tyX8_ok, nmX8, rfl⟩
theorem fdX8_3 : xr_fd 8 3 RX8 TX8 7 tyX8 := ⟨by decide, rfl, by decide +kernel, by decide, inX8, tyX8_ok, nmX8, rfl⟩
theorem fdX8_4 : xr_fd 8 4 RX8 TX8 7 tyX8 := ⟨by decide, rfl, by decide +kernel, by decide, inX8, tyX8_ok, nmX8, rfl⟩
theorem fdX8_5 : xr_fd 8 5 RX8 TX8 7 tyX8 := ⟨by decide, rfl, by decide +kernel, by decide, inX8, tyX8_ok, nmX8, rfl⟩
theorem fdX8_6 : xr_fd 8 6 RX8 TX8 7 tyX8 := ⟨by decide, rfl, by decide +kernel, by decide, inX8, tyX8_ok, nmX8, rfl⟩
theorem inX9 : ∀ w ∈ u_ws RX9 TX9 17, w ∈ hp_GL := hp_uws [353, 355, 357, 359, 361, 363, 365, 367, 369, 371, 373, 375, 377, 379, 381, 383, 385] (by decide +kernel)
theorem vc9 : vwCl[9]? = some (RX9, TX9, 17) := rfl
theorem fdX9_0 : xr_fd 9 0 RX9 TX9 17 tyX9 := ⟨by decide, rfl, by decide +kernel, by decide, inX9, tyX9_ok, nmX9, rfl⟩
theorem fdX9_1 : xr_fd 9 1 RX9 TX9 17 tyX9 := ⟨by decide, rfl, by decide +kernel, by decide, inX9, tyX9_ok, nmX9, rfl⟩
theorem fdX9_2 : xr_fd 9 2 RX9 TX9 17 tyX9 := ⟨by decide, rfl, by decide +kernel, by decide, inX9, tyX9_ok, nmX9, rfl⟩
theorem fdX9_3 : xr_fd 9 3 RX9 TX9 17 tyX9 := ⟨by decide, rfl, by decide +kernel, by decide, inX9, tyX9_ok, nmX9, rfl⟩
theorem fdX9_4 : xr_fd 9 4 RX9 TX9 17 tyX9 := ⟨by decide, rfl, by decide +kernel, by decide, inX9, tyX9_ok, nmX9, rfl⟩
theorem fdX9_5 : xr_fd 9 5 RX9 TX9 17 tyX9 := ⟨by decide, rfl, by decide +kernel, by decide, inX9, tyX9_ok, nmX9, rfl⟩
theorem fdX9_6 : xr_fd 9 6 RX9 TX9 17 tyX9 := ⟨by decide, rfl, by decide +kernel, by decide, inX9, tyX9_ok, nmX9, rfl⟩
theorem fdX9_7 : xr_fd 9 7 RX9 TX9 17 tyX9 := ⟨by decide, rfl, by decide +kernel, by decide, inX9, tyX9_ok, nmX9, rfl⟩
theorem fdX9_8 : xr_fd 9 8 RX9 TX9 17 tyX9 := ⟨by decide, rfl, by decide +kernel, by decide, inX9, tyX9_ok, nmX9, rfl⟩
theorem fdX9_9 : xr_fd 9 9 RX9 TX9 17 tyX9 := ⟨by decide, rfl, by decide +kernel, by decide, inX9, tyX9_ok, nmX9, rfl⟩
theorem fdX9_10 : xr_fd 9 10 RX9 TX9 17 tyX9 := ⟨by decide, rfl, by decide +kernel, by decide, inX9, tyX9_ok, nmX9, rfl⟩
theorem fdX9_11 : xr_fd 9 11 RX9 TX9 17 tyX9 := ⟨by decide, rfl, by decide +kernel, by decide, inX9, tyX9_ok, nmX9, rfl⟩
theorem fdX9_12 : xr_fd 9 12 RX9 TX9 17 tyX9 := ⟨by decide, rfl, by decide +kernel, by decide, inX9, tyX9_ok, nmX9, rfl⟩
theorem fdX9_13 : xr_fd 9 13 RX9 TX9 17 tyX9 := ⟨by decide, rfl, by decide +kernel, by decide, inX9, tyX9_ok, nmX9, rfl⟩
theorem fdX9_14 : xr_fd 9 14 RX9 TX9 17 tyX9 := ⟨by decide, rfl, by decide +kernel, by decide, inX9, tyX9_ok, nmX9, rfl⟩
theorem fdX9_15 : xr_fd 9 15 RX9 TX9 17 tyX9 := ⟨by decide, rfl, by decide +kernel, by decide, inX9, tyX9_ok, nmX9, rfl⟩
theorem fdX9_16 : xr_fd 9 16 RX9 TX9 17 tyX9 := ⟨by decide, rfl, by decide +kernel, by decide, inX9, tyX9_ok, nmX9, rfl⟩
theorem inX10 : ∀ w ∈ u_ws RX10 TX10 28, w ∈ hp_GL := hp_uws [1125, 1127, 1129, 1131, 1133, 1135, 1137, 1139, 1141, 1143, 1145, 1147, 1149, 1151, 1153, 1155, 1157, 1159, 1161, 1163, 1165, 1167, 1169, 1171, 1173, 1175, 1177, 1179] (by decide +kernel)
theorem vc10 : vwCl[10]? = some (RX10, TX10, 28) := rfl
theorem fdX10_0 : xr_fd 10 0 RX10 TX10 28 tyX10 := ⟨by decide, rfl, by decide +kernel, by decide, inX10, tyX10_ok, nmX10, rfl⟩
theorem fdX10_1 : xr_fd 10 1 RX10 TX10 28 tyX10 := ⟨by decide, rfl, by decide +kernel, by decide, inX10, tyX10_ok, nmX10, rfl⟩
theorem fdX10_2 : xr_fd 10 2 RX10 TX10 28 tyX10 := ⟨by decide, rfl, by decide +kernel, by decide, inX10, tyX10_ok, nmX10, rfl⟩
theorem fdX10_3 : xr_fd 10 3 RX10 TX10 28 tyX10 := ⟨by decide, rfl, by decide +kernel, by decide, inX10, tyX10_ok, nmX10, rfl⟩
theorem fdX10_4 : xr_fd 10 4 RX10 TX10 28 tyX10 := ⟨by decide, rfl, by decide +kernel, by decide, inX10, tyX10_ok, nmX10, rfl⟩
theorem fdX10_5 : xr_fd 10 5 RX10 TX10 28 tyX10 := ⟨by decide, rfl, by decide +kernel, by decide, inX10, tyX10_ok, nmX10, rfl⟩
theorem fdX10_6 : xr_fd 10 6 RX10 TX10 28 tyX10 := ⟨by decide, rfl, by decide +kernel, by decide, inX10, tyX10_ok, nmX10, rfl⟩
theorem fdX10_7 : xr_fd 10 7 RX10 TX10 28 tyX10 := ⟨by decide, rfl, by decide +kernel, by decide, inX10, tyX10_ok, nmX10, rfl⟩
theorem fdX10_8 : xr_fd 10 8 RX10 TX10 28 tyX10 := ⟨by decide, rfl, by decide +kernel, by decide, inX10, tyX10_ok, nmX10, rfl⟩
theorem fdX10_9 : xr_fd 10 9 RX10 TX10 28 tyX10 := ⟨by decide, rfl, by decide +kernel, by decide, inX10, tyX10_ok, nmX10, rfl⟩
theorem fdX10_10 : xr_fd 10 10 RX10 TX10 28 tyX10 := ⟨by decide, rfl, by decide +kernel, by decide, inX10, tyX10_ok, nmX10, rfl⟩
theorem fdX10_11 : xr_fd 10 11 RX10 TX10 28 tyX10 := ⟨by decide, rfl, by decide +kernel, by decide, inX10, tyX10_ok, nmX10, rfl⟩
theorem fdX10_12 : xr_fd 10 12 RX10 TX10 28 tyX10 := ⟨by decide, rfl, by decide +kernel, by decide, inX10, tyX10_ok, nmX10, rfl⟩
theorem fdX10_13 : xr_fd 10 13 RX10 TX10 28 tyX10 := ⟨by decide, rfl, by decide +kernel, by decide, inX10, tyX10_ok, nmX10, rfl⟩
theorem fdX10_14 : xr_fd 10 14 RX10 TX10 28 tyX10 := ⟨by decide, rfl, by decide +kernel, by decide, inX10, tyX10_ok, nmX10, rfl⟩
theorem fdX10_15 : xr_fd 10 15 RX10 TX10 28 tyX10 := ⟨by decide, rfl, by decide +kernel, by decide, inX10, tyX10_ok, nmX10, rfl⟩
theorem fdX10_16 : xr_fd 10 16 RX10 TX10 28 tyX10 := ⟨by decide, rfl, by decide +kernel, by decide, inX10, tyX10_ok, nmX10, rfl⟩
theorem fdX10_17 : xr_fd 10 17 RX10 TX10 28 tyX10 := ⟨by decide, rfl, by decide +kernel, by decide, inX10, tyX10_ok, nmX10, rfl⟩
theorem fdX10_18 : xr_fd 10 18 RX10 TX10 28 tyX10 := ⟨by decide, rfl, by decide +kernel, by decide, inX10, tyX10_ok, nmX10, rfl⟩
theorem fdX10_19 : xr_fd 10 19 RX10 TX10 28 tyX10 := ⟨by decide, rfl, by decide +kernel, by decide, inX10, tyX10_ok, nmX10, rfl⟩
theorem fdX10_20 : xr_fd 10 20 RX10 TX10 28 tyX10 := ⟨by decide, rfl, by decide +kernel, by decide, inX10, tyX10_ok, nmX10, rfl⟩
theorem fdX10_21 : xr_fd 10 21 RX10 TX10 28 tyX10 := ⟨by decide, rfl, by decide +kernel, by decide, inX10, tyX10_ok, nmX10, rfl⟩
theorem fdX10_22 : xr_fd 10 22 RX10 TX10 28 tyX10 := ⟨by decide, rfl, by decide +kernel, by decide, inX10, tyX10_ok, nmX10, rfl⟩
theorem fdX10_23 : xr_fd 10 23 RX10 TX10 28 tyX10 := ⟨by decide, rfl, by decide +kernel, by decide, inX10, tyX10_ok, nmX10, rfl⟩
theorem fdX10_24 : xr_fd 10 24 RX10 TX10 28 tyX10 := ⟨by decide, rfl, by decide +kernel, by decide, inX10, tyX10_ok, nmX10, rfl⟩
theorem fdX10_25 : xr_fd 10 25 RX10 TX10 28 tyX10 := ⟨by decide, rfl, by decide +kernel, by decide, inX10, tyX10_ok, nmX10, rfl⟩
theorem fdX10_26 : xr_fd 10 26 RX10 TX10 28 tyX10 := ⟨by decide, rfl, by decide +kernel, by decide, inX10, tyX10_ok, nmX10, rfl⟩
theorem fdX10_27 : xr_fd 10 27 RX10 TX10 28 tyX10 := ⟨by decide, rfl, by decide +kernel, by decide, inX10, tyX10_ok, nmX10, rfl⟩
theorem flX9_12 : xr_fl RX9 12 9 0 := ⟨RX9, TX9, 17, tyX9, fdX9_0, hp_pl 336 (by decide +kernel) rfl⟩
theorem flX9_19 : xr_fl RX9 19 9 1 := ⟨RX9, TX9, 17, tyX9, fdX9_1, hp_pl 337 (by decide +kernel) rfl⟩
theorem flX9_26 : xr_fl RX9 26 9 2 := ⟨RX9, TX9, 17, tyX9, fdX9_2, hp_pl 338 (by decide +kernel) rfl⟩
theorem flX9_33 : xr_fl RX9 33 9 3 := ⟨RX9, TX9, 17, tyX9, fdX9_3, hp_pl 339 (by decide +kernel) rfl⟩
theorem flX9_37 : xr_fl RX9 37 9 4 := ⟨RX9, TX9, 17, tyX9, fdX9_4, hp_pl 340 (by decide +kernel) rfl⟩
theorem flX9_41 : xr_fl RX9 41 9 5 := ⟨RX9, TX9, 17, tyX9, fdX9_5, hp_pl 341 (by decide +kernel) rfl⟩
theorem flX9_45 : xr_fl RX9 45 9 6 := ⟨RX9, TX9, 17, tyX9, fdX9_6, hp_pl 342 (by decide +kernel) rfl⟩
theorem flX9_48 : xr_fl RX9 48 9 7 := ⟨RX9, TX9, 17, tyX9, fdX9_7, hp_pl 343 (by decide +kernel) rfl⟩
theorem flX9_54 : xr_fl RX9 54 9 8 := ⟨RX9, TX9, 17, tyX9, fdX9_8, hp_pl 344 (by decide +kernel) rfl⟩
theorem flX9_58 : xr_fl RX9 58 9 9 := ⟨RX9, TX9, 17, tyX9, fdX9_9, hp_pl 345 (by decide +kernel) rfl⟩
theorem flX9_62 : xr_fl RX9 62 9 10 := ⟨RX9, TX9, 17, tyX9, fdX9_10, hp_pl 346 (by decide +kernel) rfl⟩
theorem flX9_68 : xr_fl RX9 68 9 11 := ⟨RX9, TX9, 17, tyX9, fdX9_11, hp_pl 347 (by decide +kernel) rfl⟩
theorem flX9_72 : xr_fl RX9 72 9 12 := ⟨RX9, TX9, 17, tyX9, fdX9_12, hp_pl 348 (by decide +kernel) rfl⟩
theorem flX9_75 : xr_fl RX9 75 5 1 := ⟨RX5, TX5, 9, tyX5, fdX5_1, hp_pl 39 (by decide +kernel) rfl⟩
theorem flX9_90 : xr_fl RX9 90 8 6 := ⟨RX8, TX8, 7, tyX8, fdX8_6, hp_pl 319 (by decide +kernel) rfl⟩
theorem flX9_93 : xr_fl RX9 93 5 2 := ⟨RX5, TX5, 9, tyX5, fdX5_2, hp_pl 42 (by decide +kernel) rfl⟩
theorem flX9_96 : xr_fl RX9 96 5 3 := ⟨RX5, TX5, 9, tyX5, fdX5_3, hp_pl 44 (by decide +kernel) rfl⟩
theorem flX9_113 : xr_fl RX9 113 9 13 := ⟨RX9, TX9, 17, tyX9, fdX9_13, hp_pl 349 (by decide +kernel) rfl⟩
theorem flX9_117 : xr_fl RX9 117 8 2 := ⟨RX8, TX8, 7, tyX8, fdX8_2, hp_pl 305 (by decide +kernel) rfl⟩
theorem flX9_120 : xr_fl RX9 120 8 3 := ⟨RX8, TX8, 7, tyX8, fdX8_3, hp_pl 309 (by decide +kernel) rfl⟩
theorem flX9_123 : xr_fl RX9 123 8 4 := ⟨RX8, TX8, 7, tyX8, fdX8_4, hp_pl 313 (by decide +kernel) rfl⟩
theorem flX9_126 : xr_fl RX9 126 8 0 := ⟨RX8, TX8, 7, tyX8, fdX8_0, hp_pl 296 (by decide +kernel) rfl⟩
theorem flX9_130 : xr_fl RX9 130 7 5 := ⟨RX7, TX7, 8, tyX7, fdX7_5, hp_pl 268 (by decide +kernel) rfl⟩
theorem flX9_131 : xr_fl RX9 131 8 1 := ⟨RX8, TX8, 7, tyX8, fdX8_1, hp_pl 301 (by decide +kernel) rfl⟩
theorem flX9_134 : xr_fl RX9 134 9 15 := ⟨RX9, TX9, 17, tyX9, fdX9_15, hp_pl 351 (by decide +kernel) rfl⟩
theorem flX9_137 : xr_fl RX9 137 9 16 := ⟨RX9, TX9, 17, tyX9, fdX9_16, hp_pl 352 (by decide +kernel) rfl⟩
theorem flX9_140 : xr_fl RX9 140 9 14 := ⟨RX9, TX9, 17, tyX9, fdX9_14, hp_pl 350 (by decide +kernel) rfl⟩
theorem flX9_143 : xr_fl RX9 143 0 0 := ⟨RX0, TX0, 4, tyX0, fdX0_0, hp_pl 225 (by decide +kernel) rfl⟩
theorem flX9_173 : xr_fl RX9 173 7 7 := ⟨RX7, TX7, 8, tyX7, fdX7_7, hp_pl 274 (by decide +kernel) rfl⟩
theorem flX9_186 : xr_fl RX9 186 1 3 := ⟨RX1, TX1, 4, tyX1, fdX1_3, hp_pl 207 (by decide +kernel) rfl⟩
theorem flX9_211 : xr_fl RX9 211 6 0 := ⟨RX6, TX6, 9, tyX6, fdX6_0, hp_pl 162 (by decide +kernel) rfl⟩
theorem flX9_223 : xr_fl RX9 223 2 1 := ⟨RX2, TX2, 3, tyX2, fdX2_1, hp_pl 87 (by decide +kernel) rfl⟩
theorem flX9_228 : xr_fl RX9 228 2 2 := ⟨RX2, TX2, 3, tyX2, fdX2_2, hp_pl 90 (by decide +kernel) rfl⟩
theorem flX9_231 : xr_fl RX9 231 2 0 := ⟨RX2, TX2, 3, tyX2, fdX2_0, hp_pl 84 (by decide +kernel) rfl⟩
theorem flX9_241 : xr_fl RX9 241 6 4 := ⟨RX6, TX6, 9, tyX6, fdX6_4, hp_pl 170 (by decide +kernel) rfl⟩
theorem flX9_247 : xr_fl RX9 247 6 1 := ⟨RX6, TX6, 9, tyX6, fdX6_1, hp_pl 164 (by decide +kernel) rfl⟩
theorem flX9_257 : xr_fl RX9 257 1 2 := ⟨RX1, TX1, 4, tyX1, fdX1_2, hp_pl 205 (by decide +kernel) rfl⟩
theorem flX9_274 : xr_fl RX9 274 6 6 := ⟨RX6, TX6, 9, tyX6, fdX6_6, hp_pl 175 (by decide +kernel) rfl⟩
theorem flX9_280 : xr_fl RX9 280 6 5 := ⟨RX6, TX6, 9, tyX6, fdX6_5, hp_pl 173 (by decide +kernel) rfl⟩
theorem flX9_286 : xr_fl RX9 286 6 2 := ⟨RX6, TX6, 9, tyX6, fdX6_2, hp_pl 166 (by decide +kernel) rfl⟩
theorem flX9_289 : xr_fl RX9 289 6 3 := ⟨RX6, TX6, 9, tyX6, fdX6_3, hp_pl 168 (by decide +kernel) rfl⟩
theorem flX9_296 : xr_fl RX9 296 1 0 := ⟨RX1, TX1, 4, tyX1, fdX1_0, hp_pl 201 (by decide +kernel) rfl⟩
theorem flX9_299 : xr_fl RX9 299 6 8 := ⟨RX6, TX6, 9, tyX6, fdX6_8, hp_pl 180 (by decide +kernel) rfl⟩
theorem flX9_302 : xr_fl RX9 302 1 1 := ⟨RX1, TX1, 4, tyX1, fdX1_1, hp_pl 203 (by decide +kernel) rfl⟩
theorem flX9_314 : xr_fl RX9 314 6 7 := ⟨RX6, TX6, 9, tyX6, fdX6_7, hp_pl 177 (by decide +kernel) rfl⟩
theorem flX9_327 : xr_fl RX9 327 0 3 := ⟨RX0, TX0, 4, tyX0, fdX0_3, hp_pl 231 (by decide +kernel) rfl⟩
theorem flX9_330 : xr_fl RX9 330 0 1 := ⟨RX0, TX0, 4, tyX0, fdX0_1, hp_pl 227 (by decide +kernel) rfl⟩
theorem flX9_333 : xr_fl RX9 333 0 2 := ⟨RX0, TX0, 4, tyX0, fdX0_2, hp_pl 229 (by decide +kernel) rfl⟩
theorem flX9_336 : xr_fl RX9 336 3 0 := ⟨RX3, TX3, 3, tyX3, fdX3_0, hp_pl 137 (by decide +kernel) rfl⟩
theorem flX9_339 : xr_fl RX9 339 3 1 := ⟨RX3, TX3, 3, tyX3, fdX3_1, hp_pl 139 (by decide +kernel) rfl⟩
theorem flX9_342 : xr_fl RX9 342 3 2 := ⟨RX3, TX3, 3, tyX3, fdX3_2, hp_pl 141 (by decide +kernel) rfl⟩
theorem flX9_447 : xr_fl RX9 447 7 4 := ⟨RX7, TX7, 8, tyX7, fdX7_4, hp_pl 266 (by decide +kernel) rfl⟩
theorem flX9_450 : xr_fl RX9 450 8 5 := ⟨RX8, TX8, 7, tyX8, fdX8_5, hp_pl 317 (by decide +kernel) rfl⟩
theorem flX0_7 : xr_fl RX0 7 0 0 := ⟨RX0, TX0, 4, tyX0, fdX0_0, hp_pl 224 (by decide +kernel) rfl⟩
theorem flX0_13 : xr_fl RX0 13 0 3 := ⟨RX0, TX0, 4, tyX0, fdX0_3, hp_pl 230 (by decide +kernel) rfl⟩
theorem flX0_17 : xr_fl RX0 17 0 1 := ⟨RX0, TX0, 4, tyX0, fdX0_1, hp_pl 226 (by decide +kernel) rfl⟩
theorem flX0_20 : xr_fl RX0 20 0 2 := ⟨RX0, TX0, 4, tyX0, fdX0_2, hp_pl 228 (by decide +kernel) rfl⟩
theorem flX1_10 : xr_fl RX1 10 1 0 := ⟨RX1, TX1, 4, tyX1, fdX1_0, hp_pl 200 (by decide +kernel) rfl⟩
theorem flX1_16 : xr_fl RX1 16 1 1 := ⟨RX1, TX1, 4, tyX1, fdX1_1, hp_pl 202 (by decide +kernel) rfl⟩
theorem flX1_19 : xr_fl RX1 19 8 0 := ⟨RX8, TX8, 7, tyX8, fdX8_0, hp_pl 294 (by decide +kernel) rfl⟩
theorem flX1_24 : xr_fl RX1 24 8 3 := ⟨RX8, TX8, 7, tyX8, fdX8_3, hp_pl 306 (by decide +kernel) rfl⟩
theorem flX1_32 : xr_fl RX1 32 8 1 := ⟨RX8, TX8, 7, tyX8, fdX8_1, hp_pl 299 (by decide +kernel) rfl⟩
theorem flX1_34 : xr_fl RX1 34 8 5 := ⟨RX8, TX8, 7, tyX8, fdX8_5, hp_pl 315 (by decide +kernel) rfl⟩
theorem flX1_37 : xr_fl RX1 37 1 2 := ⟨RX1, TX1, 4, tyX1, fdX1_2, hp_pl 204 (by decide +kernel) rfl⟩
theorem flX1_40 : xr_fl RX1 40 1 3 := ⟨RX1, TX1, 4, tyX1, fdX1_3, hp_pl 206 (by decide +kernel) rfl⟩
theorem flX1_55 : xr_fl RX1 55 6 8 := ⟨RX6, TX6, 9, tyX6, fdX6_8, hp_pl 179 (by decide +kernel) rfl⟩
theorem flX2_9 : xr_fl RX2 9 2 0 := ⟨RX2, TX2, 3, tyX2, fdX2_0, hp_pl 82 (by decide +kernel) rfl⟩
theorem flX2_15 : xr_fl RX2 15 2 1 := ⟨RX2, TX2, 3, tyX2, fdX2_1, hp_pl 85 (by decide +kernel) rfl⟩
theorem flX2_18 : xr_fl RX2 18 2 2 := ⟨RX2, TX2, 3, tyX2, fdX2_2, hp_pl 88 (by decide +kernel) rfl⟩
theorem flX2_21 : xr_fl RX2 21 7 1 := ⟨RX7, TX7, 8, tyX7, fdX7_1, hp_pl 256 (by decide +kernel) rfl⟩
theorem flX2_28 : xr_fl RX2 28 7 2 := ⟨RX7, TX7, 8, tyX7, fdX7_2, hp_pl 259 (by decide +kernel) rfl⟩
theorem flX2_31 : xr_fl RX2 31 7 3 := ⟨RX7, TX7, 8, tyX7, fdX7_3, hp_pl 262 (by decide +kernel) rfl⟩
theorem flX3_11 : xr_fl RX3 11 3 0 := ⟨RX3, TX3, 3, tyX3, fdX3_0, hp_pl 136 (by decide +kernel) rfl⟩
theorem flX3_15 : xr_fl RX3 15 3 1 := ⟨RX3, TX3, 3, tyX3, fdX3_1, hp_pl 138 (by decide +kernel) rfl⟩
theorem flX3_18 : xr_fl RX3 18 3 2 := ⟨RX3, TX3, 3, tyX3, fdX3_2, hp_pl 140 (by decide +kernel) rfl⟩
theorem flX4_12 : xr_fl RX4 12 4 0 := ⟨RX4, TX4, 10, tyX4, fdX4_0, hp_pl 98 (by decide +kernel) rfl⟩
theorem flX4_18 : xr_fl RX4 18 4 1 := ⟨RX4, TX4, 10, tyX4, fdX4_1, hp_pl 99 (by decide +kernel) rfl⟩
theorem flX4_21 : xr_fl RX4 21 4 2 := ⟨RX4, TX4, 10, tyX4, fdX4_2, hp_pl 100 (by decide +kernel) rfl⟩
theorem flX4_25 : xr_fl RX4 25 4 3 := ⟨RX4, TX4, 10, tyX4, fdX4_3, hp_pl 101 (by decide +kernel) rfl⟩
theorem flX4_29 : xr_fl RX4 29 4 4 := ⟨RX4, TX4, 10, tyX4, fdX4_4, hp_pl 102 (by decide +kernel) rfl⟩
theorem flX4_32 : xr_fl RX4 32 4 5 := ⟨RX4, TX4, 10, tyX4, fdX4_5, hp_pl 103 (by decide +kernel) rfl⟩
theorem flX4_35 : xr_fl RX4 35 4 6 := ⟨RX4, TX4, 10, tyX4, fdX4_6, hp_pl 104 (by decide +kernel) rfl⟩
theorem flX4_38 : xr_fl RX4 38 4 7 := ⟨RX4, TX4, 10, tyX4, fdX4_7, hp_pl 105 (by decide +kernel) rfl⟩
theorem flX4_41 : xr_fl RX4 41 8 2 := ⟨RX8, TX8, 7, tyX8, fdX8_2, hp_pl 302 (by decide +kernel) rfl⟩
theorem flX4_47 : xr_fl RX4 47 4 8 := ⟨RX4, TX4, 10, tyX4, fdX4_8, hp_pl 106 (by decide +kernel) rfl⟩
theorem flX4_48 : xr_fl RX4 48 8 4 := ⟨RX8, TX8, 7, tyX8, fdX8_4, hp_pl 310 (by decide +kernel) rfl⟩
theorem flX4_51 : xr_fl RX4 51 4 9 := ⟨RX4, TX4, 10, tyX4, fdX4_9, hp_pl 107 (by decide +kernel) rfl⟩
theorem flX4_52 : xr_fl RX4 52 8 0 := ⟨RX8, TX8, 7, tyX8, fdX8_0, hp_pl 293 (by decide +kernel) rfl⟩
theorem flX4_59 : xr_fl RX4 59 8 1 := ⟨RX8, TX8, 7, tyX8, fdX8_1, hp_pl 298 (by decide +kernel) rfl⟩
theorem flX4_61 : xr_fl RX4 61 2 1 := ⟨RX2, TX2, 3, tyX2, fdX2_1, hp_pl 86 (by decide +kernel) rfl⟩
theorem flX4_64 : xr_fl RX4 64 2 2 := ⟨RX2, TX2, 3, tyX2, fdX2_2, hp_pl 89 (by decide +kernel) rfl⟩
theorem flX4_67 : xr_fl RX4 67 2 0 := ⟨RX2, TX2, 3, tyX2, fdX2_0, hp_pl 83 (by decide +kernel) rfl⟩
theorem flX5_9 : xr_fl RX5 9 5 0 := ⟨RX5, TX5, 9, tyX5, fdX5_0, hp_pl 38 (by decide +kernel) rfl⟩
theorem flX5_19 : xr_fl RX5 19 5 1 := ⟨RX5, TX5, 9, tyX5, fdX5_1, hp_pl 40 (by decide +kernel) rfl⟩
theorem flX5_22 : xr_fl RX5 22 5 4 := ⟨RX5, TX5, 9, tyX5, fdX5_4, hp_pl 45 (by decide +kernel) rfl⟩
theorem flX5_25 : xr_fl RX5 25 5 5 := ⟨RX5, TX5, 9, tyX5, fdX5_5, hp_pl 46 (by decide +kernel) rfl⟩
theorem flX5_28 : xr_fl RX5 28 5 2 := ⟨RX5, TX5, 9, tyX5, fdX5_2, hp_pl 41 (by decide +kernel) rfl⟩
theorem flX5_39 : xr_fl RX5 39 5 7 := ⟨RX5, TX5, 9, tyX5, fdX5_7, hp_pl 48 (by decide +kernel) rfl⟩
theorem flX5_46 : xr_fl RX5 46 8 6 := ⟨RX8, TX8, 7, tyX8, fdX8_6, hp_pl 320 (by decide +kernel) rfl⟩
theorem flX5_49 : xr_fl RX5 49 8 0 := ⟨RX8, TX8, 7, tyX8, fdX8_0, hp_pl 295 (by decide +kernel) rfl⟩
theorem flX5_53 : xr_fl RX5 53 7 6 := ⟨RX7, TX7, 8, tyX7, fdX7_6, hp_pl 271 (by decide +kernel) rfl⟩
theorem flX5_58 : xr_fl RX5 58 8 1 := ⟨RX8, TX8, 7, tyX8, fdX8_1, hp_pl 300 (by decide +kernel) rfl⟩
theorem flX5_68 : xr_fl RX5 68 5 8 := ⟨RX5, TX5, 9, tyX5, fdX5_8, hp_pl 49 (by decide +kernel) rfl⟩
theorem flX5_71 : xr_fl RX5 71 8 2 := ⟨RX8, TX8, 7, tyX8, fdX8_2, hp_pl 304 (by decide +kernel) rfl⟩
theorem flX5_78 : xr_fl RX5 78 8 3 := ⟨RX8, TX8, 7, tyX8, fdX8_3, hp_pl 308 (by decide +kernel) rfl⟩
theorem flX5_81 : xr_fl RX5 81 8 4 := ⟨RX8, TX8, 7, tyX8, fdX8_4, hp_pl 312 (by decide +kernel) rfl⟩
theorem flX5_101 : xr_fl RX5 101 7 5 := ⟨RX7, TX7, 8, tyX7, fdX7_5, hp_pl 269 (by decide +kernel) rfl⟩
theorem flX5_110 : xr_fl RX5 110 7 7 := ⟨RX7, TX7, 8, tyX7, fdX7_7, hp_pl 273 (by decide +kernel) rfl⟩
theorem flX5_128 : xr_fl RX5 128 8 5 := ⟨RX8, TX8, 7, tyX8, fdX8_5, hp_pl 316 (by decide +kernel) rfl⟩
theorem flX5_133 : xr_fl RX5 133 5 6 := ⟨RX5, TX5, 9, tyX5, fdX5_6, hp_pl 47 (by decide +kernel) rfl⟩
theorem flX6_9 : xr_fl RX6 9 6 0 := ⟨RX6, TX6, 9, tyX6, fdX6_0, hp_pl 161 (by decide +kernel) rfl⟩
theorem flX6_15 : xr_fl RX6 15 6 1 := ⟨RX6, TX6, 9, tyX6, fdX6_1, hp_pl 163 (by decide +kernel) rfl⟩
theorem flX6_18 : xr_fl RX6 18 6 2 := ⟨RX6, TX6, 9, tyX6, fdX6_2, hp_pl 165 (by decide +kernel) rfl⟩
theorem flX6_21 : xr_fl RX6 21 6 3 := ⟨RX6, TX6, 9, tyX6, fdX6_3, hp_pl 167 (by decide +kernel) rfl⟩
theorem flX6_24 : xr_fl RX6 24 7 4 := ⟨RX7, TX7, 8, tyX7, fdX7_4, hp_pl 265 (by decide +kernel) rfl⟩
theorem flX6_47 : xr_fl RX6 47 6 4 := ⟨RX6, TX6, 9, tyX6, fdX6_4, hp_pl 169 (by decide +kernel) rfl⟩
theorem flX6_51 : xr_fl RX6 51 6 5 := ⟨RX6, TX6, 9, tyX6, fdX6_5, hp_pl 171 (by decide +kernel) rfl⟩
theorem flX6_55 : xr_fl RX6 55 6 6 := ⟨RX6, TX6, 9, tyX6, fdX6_6, hp_pl 174 (by decide +kernel) rfl⟩
theorem flX6_58 : xr_fl RX6 58 6 7 := ⟨RX6, TX6, 9, tyX6, fdX6_7, hp_pl 176 (by decide +kernel) rfl⟩
theorem flX6_61 : xr_fl RX6 61 6 8 := ⟨RX6, TX6, 9, tyX6, fdX6_8, hp_pl 178 (by decide +kernel) rfl⟩
theorem flX7_9 : xr_fl RX7 9 7 0 := ⟨RX7, TX7, 8, tyX7, fdX7_0, hp_pl 254 (by decide +kernel) rfl⟩
theorem flX7_15 : xr_fl RX7 15 7 1 := ⟨RX7, TX7, 8, tyX7, fdX7_1, hp_pl 255 (by decide +kernel) rfl⟩
theorem flX7_18 : xr_fl RX7 18 7 2 := ⟨RX7, TX7, 8, tyX7, fdX7_2, hp_pl 258 (by decide +kernel) rfl⟩
theorem flX7_21 : xr_fl RX7 21 7 3 := ⟨RX7, TX7, 8, tyX7, fdX7_3, hp_pl 261 (by decide +kernel) rfl⟩
theorem flX7_24 : xr_fl RX7 24 7 4 := ⟨RX7, TX7, 8, tyX7, fdX7_4, hp_pl 264 (by decide +kernel) rfl⟩
theorem flX7_31 : xr_fl RX7 31 7 5 := ⟨RX7, TX7, 8, tyX7, fdX7_5, hp_pl 267 (by decide +kernel) rfl⟩
theorem flX7_34 : xr_fl RX7 34 7 6 := ⟨RX7, TX7, 8, tyX7, fdX7_6, hp_pl 270 (by decide +kernel) rfl⟩
theorem flX8_12 : xr_fl RX8 12 8 0 := ⟨RX8, TX8, 7, tyX8, fdX8_0, hp_pl 292 (by decide +kernel) rfl⟩
theorem flX8_18 : xr_fl RX8 18 8 1 := ⟨RX8, TX8, 7, tyX8, fdX8_1, hp_pl 297 (by decide +kernel) rfl⟩
theorem flX8_24 : xr_fl RX8 24 8 2 := ⟨RX8, TX8, 7, tyX8, fdX8_2, hp_pl 303 (by decide +kernel) rfl⟩
theorem flX8_28 : xr_fl RX8 28 8 3 := ⟨RX8, TX8, 7, tyX8, fdX8_3, hp_pl 307 (by decide +kernel) rfl⟩
theorem flX8_31 : xr_fl RX8 31 8 4 := ⟨RX8, TX8, 7, tyX8, fdX8_4, hp_pl 311 (by decide +kernel) rfl⟩
theorem flX8_34 : xr_fl RX8 34 8 5 := ⟨RX8, TX8, 7, tyX8, fdX8_5, hp_pl 314 (by decide +kernel) rfl⟩
theorem flX10_7 : xr_fl RX10 7 10 1 := ⟨RX10, TX10, 28, tyX10, fdX10_1, hp_pl 1098 (by decide +kernel) rfl⟩
theorem flX10_13 : xr_fl RX10 13 10 3 := ⟨RX10, TX10, 28, tyX10, fdX10_3, hp_pl 1100 (by decide +kernel) rfl⟩
theorem flX10_16 : xr_fl RX10 16 10 4 := ⟨RX10, TX10, 28, tyX10, fdX10_4, hp_pl 1101 (by decide +kernel) rfl⟩
theorem flX10_19 : xr_fl RX10 19 10 5 := ⟨RX10, TX10, 28, tyX10, fdX10_5, hp_pl 1102 (by decide +kernel) rfl⟩
theorem flX10_22 : xr_fl RX10 22 10 6 := ⟨RX10, TX10, 28, tyX10, fdX10_6, hp_pl 1103 (by decide +kernel) rfl⟩
theorem flX10_25 : xr_fl RX10 25 10 17 := ⟨RX10, TX10, 28, tyX10, fdX10_17, hp_pl 1114 (by decide +kernel) rfl⟩
theorem flX10_29 : xr_fl RX10 29 10 18 := ⟨RX10, TX10, 28, tyX10, fdX10_18, hp_pl 1115 (by decide +kernel) rfl⟩
theorem flX10_33 : xr_fl RX10 33 10 19 := ⟨RX10, TX10, 28, tyX10, fdX10_19, hp_pl 1116 (by decide +kernel) rfl⟩
theorem flX10_36 : xr_fl RX10 36 10 20 := ⟨RX10, TX10, 28, tyX10, fdX10_20, hp_pl 1117 (by decide +kernel) rfl⟩
theorem flX10_39 : xr_fl RX10 39 10 21 := ⟨RX10, TX10, 28, tyX10, fdX10_21, hp_pl 1118 (by decide +kernel) rfl⟩
theorem flX10_42 : xr_fl RX10 42 10 23 := ⟨RX10, TX10, 28, tyX10, fdX10_23, hp_pl 1120 (by decide +kernel) rfl⟩
theorem flX10_45 : xr_fl RX10 45 10 24 := ⟨RX10, TX10, 28, tyX10, fdX10_24, hp_pl 1121 (by decide +kernel) rfl⟩
theorem flX10_49 : xr_fl RX10 49 10 25 := ⟨RX10, TX10, 28, tyX10, fdX10_25, hp_pl 1122 (by decide +kernel) rfl⟩
theorem flX10_52 : xr_fl RX10 52 10 26 := ⟨RX10, TX10, 28, tyX10, fdX10_26, hp_pl 1123 (by decide +kernel) rfl⟩
theorem flX10_55 : xr_fl RX10 55 10 27 := ⟨RX10, TX10, 28, tyX10, fdX10_27, hp_pl 1124 (by decide +kernel) rfl⟩
theorem flX10_59 : xr_fl RX10 59 10 7 := ⟨RX10, TX10, 28, tyX10, fdX10_7, hp_pl 1104 (by decide +kernel) rfl⟩
theorem flX10_63 : xr_fl RX10 63 10 0 := ⟨RX10, TX10, 28, tyX10, fdX10_0, hp_pl 1097 (by decide +kernel) rfl⟩
theorem flX10_66 : xr_fl RX10 66 10 2 := ⟨RX10, TX10, 28, tyX10, fdX10_2, hp_pl 1099 (by decide +kernel) rfl⟩
theorem flX10_69 : xr_fl RX10 69 10 9 := ⟨RX10, TX10, 28, tyX10, fdX10_9, hp_pl 1106 (by decide +kernel) rfl⟩
theorem flX10_72 : xr_fl RX10 72 10 8 := ⟨RX10, TX10, 28, tyX10, fdX10_8, hp_pl 1105 (by decide +kernel) rfl⟩
theorem flX10_79 : xr_fl RX10 79 10 10 := ⟨RX10, TX10, 28, tyX10, fdX10_10, hp_pl 1107 (by decide +kernel) rfl⟩
theorem flX10_82 : xr_fl RX10 82 10 11 := ⟨RX10, TX10, 28, tyX10, fdX10_11, hp_pl 1108 (by decide +kernel) rfl⟩
theorem flX10_89 : xr_fl RX10 89 10 13 := ⟨RX10, TX10, 28, tyX10, fdX10_13, hp_pl 1110 (by decide +kernel) rfl⟩
theorem flX10_95 : xr_fl RX10 95 10 12 := ⟨RX10, TX10, 28, tyX10, fdX10_12, hp_pl 1109 (by decide +kernel) rfl⟩
theorem flX10_112 : xr_fl RX10 112 10 14 := ⟨RX10, TX10, 28, tyX10, fdX10_14, hp_pl 1111 (by decide +kernel) rfl⟩
theorem flX10_115 : xr_fl RX10 115 10 15 := ⟨RX10, TX10, 28, tyX10, fdX10_15, hp_pl 1112 (by decide +kernel) rfl⟩
theorem flX10_161 : xr_fl RX10 161 10 16 := ⟨RX10, TX10, 28, tyX10, fdX10_16, hp_pl 1113 (by decide +kernel) rfl⟩
theorem flX10_174 : xr_fl RX10 174 10 22 := ⟨RX10, TX10, 28, tyX10, fdX10_22, hp_pl 1119 (by decide +kernel) rfl⟩
theorem fpX9_68 : xr_fp RX9 68 9 11 (.object "CourtSix$Told") := ⟨RX9, TX9, 17, tyX9, fdX9_11, hp_pl 347 (by decide +kernel) rfl, rfl, by decide +kernel⟩
theorem fpX9_72 : xr_fp RX9 72 9 12 (.object "CourtSix$Told") := ⟨RX9, TX9, 17, tyX9, fdX9_12, hp_pl 348 (by decide +kernel) rfl, rfl, by decide +kernel⟩
theorem fpX9_113 : xr_fp RX9 113 9 13 .boolean := ⟨RX9, TX9, 17, tyX9, fdX9_13, hp_pl 349 (by decide +kernel) rfl, rfl, by decide +kernel⟩
theorem fpX9_134 : xr_fp RX9 134 9 15 .int := ⟨RX9, TX9, 17, tyX9, fdX9_15, hp_pl 351 (by decide +kernel) rfl, rfl, by decide +kernel⟩
theorem fpX9_137 : xr_fp RX9 137 9 16 .int := ⟨RX9, TX9, 17, tyX9, fdX9_16, hp_pl 352 (by decide +kernel) rfl, rfl, by decide +kernel⟩
theorem fpX9_140 : xr_fp RX9 140 9 14 .boolean := ⟨RX9, TX9, 17, tyX9, fdX9_14, hp_pl 350 (by decide +kernel) rfl, rfl, by decide +kernel⟩
theorem fpX9_143 : xr_fp RX9 143 0 0 .boolean := ⟨RX0, TX0, 4, tyX0, fdX0_0, hp_pl 225 (by decide +kernel) rfl, rfl, by decide +kernel⟩
theorem fpX9_241 : xr_fp RX9 241 6 4 .int := ⟨RX6, TX6, 9, tyX6, fdX6_4, hp_pl 170 (by decide +kernel) rfl, rfl, by decide +kernel⟩
theorem fpX9_280 : xr_fp RX9 280 6 5 .boolean := ⟨RX6, TX6, 9, tyX6, fdX6_5, hp_pl 173 (by decide +kernel) rfl, rfl, by decide +kernel⟩
theorem fpX0_7 : xr_fp RX0 7 0 0 .boolean := ⟨RX0, TX0, 4, tyX0, fdX0_0, hp_pl 224 (by decide +kernel) rfl, rfl, by decide +kernel⟩
theorem fpX0_13 : xr_fp RX0 13 0 3 .int := ⟨RX0, TX0, 4, tyX0, fdX0_3, hp_pl 230 (by decide +kernel) rfl, rfl, by decide +kernel⟩
theorem fpX0_17 : xr_fp RX0 17 0 1 .int := ⟨RX0, TX0, 4, tyX0, fdX0_1, hp_pl 226 (by decide +kernel) rfl, rfl, by decide +kernel⟩
theorem fpX0_20 : xr_fp RX0 20 0 2 .int := ⟨RX0, TX0, 4, tyX0, fdX0_2, hp_pl 228 (by decide +kernel) rfl, rfl, by decide +kernel⟩
theorem fpX1_37 : xr_fp RX1 37 1 2 .int := ⟨RX1, TX1, 4, tyX1, fdX1_2, hp_pl 204 (by decide +kernel) rfl, rfl, by decide +kernel⟩
theorem fpX1_40 : xr_fp RX1 40 1 3 .int := ⟨RX1, TX1, 4, tyX1, fdX1_3, hp_pl 206 (by decide +kernel) rfl, rfl, by decide +kernel⟩
theorem fpX1_47 : xr_fp RX1 47 6 5 .boolean := ⟨RX6, TX6, 9, tyX6, fdX6_5, hp_pl 172 (by decide +kernel) rfl, rfl, by decide +kernel⟩
theorem fpX1_55 : xr_fp RX1 55 6 8 .int := ⟨RX6, TX6, 9, tyX6, fdX6_8, hp_pl 179 (by decide +kernel) rfl, rfl, by decide +kernel⟩
theorem fpX4_29 : xr_fp RX4 29 4 4 (.array .int) := ⟨RX4, TX4, 10, tyX4, fdX4_4, hp_pl 102 (by decide +kernel) rfl, rfl, by decide +kernel⟩
theorem fpX4_32 : xr_fp RX4 32 4 5 (.array .int) := ⟨RX4, TX4, 10, tyX4, fdX4_5, hp_pl 103 (by decide +kernel) rfl, rfl, by decide +kernel⟩
theorem fpX4_35 : xr_fp RX4 35 4 6 (.array .long) := ⟨RX4, TX4, 10, tyX4, fdX4_6, hp_pl 104 (by decide +kernel) rfl, rfl, by decide +kernel⟩
theorem fpX4_38 : xr_fp RX4 38 4 7 (.array .long) := ⟨RX4, TX4, 10, tyX4, fdX4_7, hp_pl 105 (by decide +kernel) rfl, rfl, by decide +kernel⟩
theorem fpX4_47 : xr_fp RX4 47 4 8 .int := ⟨RX4, TX4, 10, tyX4, fdX4_8, hp_pl 106 (by decide +kernel) rfl, rfl, by decide +kernel⟩
theorem fpX4_51 : xr_fp RX4 51 4 9 .int := ⟨RX4, TX4, 10, tyX4, fdX4_9, hp_pl 107 (by decide +kernel) rfl, rfl, by decide +kernel⟩
theorem fpX5_15 : xr_fp RX5 15 5 3 .int := ⟨RX5, TX5, 9, tyX5, fdX5_3, hp_pl 43 (by decide +kernel) rfl, rfl, by decide +kernel⟩
theorem fpX5_19 : xr_fp RX5 19 5 1 .int := ⟨RX5, TX5, 9, tyX5, fdX5_1, hp_pl 40 (by decide +kernel) rfl, rfl, by decide +kernel⟩
theorem fpX5_22 : xr_fp RX5 22 5 4 .int := ⟨RX5, TX5, 9, tyX5, fdX5_4, hp_pl 45 (by decide +kernel) rfl, rfl, by decide +kernel⟩
theorem fpX5_25 : xr_fp RX5 25 5 5 .int := ⟨RX5, TX5, 9, tyX5, fdX5_5, hp_pl 46 (by decide +kernel) rfl, rfl, by decide +kernel⟩
theorem fpX5_28 : xr_fp RX5 28 5 2 .int := ⟨RX5, TX5, 9, tyX5, fdX5_2, hp_pl 41 (by decide +kernel) rfl, rfl, by decide +kernel⟩
theorem fpX5_39 : xr_fp RX5 39 5 7 .int := ⟨RX5, TX5, 9, tyX5, fdX5_7, hp_pl 48 (by decide +kernel) rfl, rfl, by decide +kernel⟩
theorem fpX5_46 : xr_fp RX5 46 8 6 .int := ⟨RX8, TX8, 7, tyX8, fdX8_6, hp_pl 320 (by decide +kernel) rfl, rfl, by decide +kernel⟩
theorem fpX5_68 : xr_fp RX5 68 5 8 .int := ⟨RX5, TX5, 9, tyX5, fdX5_8, hp_pl 49 (by decide +kernel) rfl, rfl, by decide +kernel⟩
theorem fpX5_71 : xr_fp RX5 71 8 2 .int := ⟨RX8, TX8, 7, tyX8, fdX8_2, hp_pl 304 (by decide +kernel) rfl, rfl, by decide +kernel⟩
theorem fpX5_78 : xr_fp RX5 78 8 3 .int := ⟨RX8, TX8, 7, tyX8, fdX8_3, hp_pl 308 (by decide +kernel) rfl, rfl, by decide +kernel⟩
theorem fpX5_81 : xr_fp RX5 81 8 4 .int := ⟨RX8, TX8, 7, tyX8, fdX8_4, hp_pl 312 (by decide +kernel) rfl, rfl, by decide +kernel⟩
theorem fpX5_110 : xr_fp RX5 110 7 7 .int := ⟨RX7, TX7, 8, tyX7, fdX7_7, hp_pl 273 (by decide +kernel) rfl, rfl, by decide +kernel⟩
theorem fpX5_128 : xr_fp RX5 128 8 5 .int := ⟨RX8, TX8, 7, tyX8, fdX8_5, hp_pl 316 (by decide +kernel) rfl, rfl, by decide +kernel⟩
theorem fpX5_133 : xr_fp RX5 133 5 6 .int := ⟨RX5, TX5, 9, tyX5, fdX5_6, hp_pl 47 (by decide +kernel) rfl, rfl, by decide +kernel⟩
theorem fpX6_47 : xr_fp RX6 47 6 4 .int := ⟨RX6, TX6, 9, tyX6, fdX6_4, hp_pl 169 (by decide +kernel) rfl, rfl, by decide +kernel⟩
theorem fpX6_51 : xr_fp RX6 51 6 5 .boolean := ⟨RX6, TX6, 9, tyX6, fdX6_5, hp_pl 171 (by decide +kernel) rfl, rfl, by decide +kernel⟩
theorem fpX6_55 : xr_fp RX6 55 6 6 .int := ⟨RX6, TX6, 9, tyX6, fdX6_6, hp_pl 174 (by decide +kernel) rfl, rfl, by decide +kernel⟩
theorem fpX6_58 : xr_fp RX6 58 6 7 .int := ⟨RX6, TX6, 9, tyX6, fdX6_7, hp_pl 176 (by decide +kernel) rfl, rfl, by decide +kernel⟩
theorem fpX6_61 : xr_fp RX6 61 6 8 .int := ⟨RX6, TX6, 9, tyX6, fdX6_8, hp_pl 178 (by decide +kernel) rfl, rfl, by decide +kernel⟩
theorem fpX7_27 : xr_fp RX7 27 7 7 .int := ⟨RX7, TX7, 8, tyX7, fdX7_7, hp_pl 272 (by decide +kernel) rfl, rfl, by decide +kernel⟩
theorem fpX7_31 : xr_fp RX7 31 7 5 .int := ⟨RX7, TX7, 8, tyX7, fdX7_5, hp_pl 267 (by decide +kernel) rfl, rfl, by decide +kernel⟩
theorem fpX7_34 : xr_fp RX7 34 7 6 .int := ⟨RX7, TX7, 8, tyX7, fdX7_6, hp_pl 270 (by decide +kernel) rfl, rfl, by decide +kernel⟩
theorem fpX8_24 : xr_fp RX8 24 8 2 .int := ⟨RX8, TX8, 7, tyX8, fdX8_2, hp_pl 303 (by decide +kernel) rfl, rfl, by decide +kernel⟩
theorem fpX8_28 : xr_fp RX8 28 8 3 .int := ⟨RX8, TX8, 7, tyX8, fdX8_3, hp_pl 307 (by decide +kernel) rfl, rfl, by decide +kernel⟩
theorem fpX8_31 : xr_fp RX8 31 8 4 .int := ⟨RX8, TX8, 7, tyX8, fdX8_4, hp_pl 311 (by decide +kernel) rfl, rfl, by decide +kernel⟩
theorem fpX8_34 : xr_fp RX8 34 8 5 .int := ⟨RX8, TX8, 7, tyX8, fdX8_5, hp_pl 314 (by decide +kernel) rfl, rfl, by decide +kernel⟩
theorem fpX8_37 : xr_fp RX8 37 8 6 .int := ⟨RX8, TX8, 7, tyX8, fdX8_6, hp_pl 318 (by decide +kernel) rfl, rfl, by decide +kernel⟩
theorem fpX10_25 : xr_fp RX10 25 10 17 .int := ⟨RX10, TX10, 28, tyX10, fdX10_17, hp_pl 1114 (by decide +kernel) rfl, rfl, by decide +kernel⟩
theorem fpX10_59 : xr_fp RX10 59 10 7 .boolean := ⟨RX10, TX10, 28, tyX10, fdX10_7, hp_pl 1104 (by decide +kernel) rfl, rfl, by decide +kernel⟩
theorem fpX10_63 : xr_fp RX10 63 10 0 .int := ⟨RX10, TX10, 28, tyX10, fdX10_0, hp_pl 1097 (by decide +kernel) rfl, rfl, by decide +kernel⟩
theorem fpX10_66 : xr_fp RX10 66 10 2 .int := ⟨RX10, TX10, 28, tyX10, fdX10_2, hp_pl 1099 (by decide +kernel) rfl, rfl, by decide +kernel⟩
theorem fpX10_69 : xr_fp RX10 69 10 9 .int := ⟨RX10, TX10, 28, tyX10, fdX10_9, hp_pl 1106 (by decide +kernel) rfl, rfl, by decide +kernel⟩
theorem fpX10_72 : xr_fp RX10 72 10 8 .int := ⟨RX10, TX10, 28, tyX10, fdX10_8, hp_pl 1105 (by decide +kernel) rfl, rfl, by decide +kernel⟩
theorem fpX10_79 : xr_fp RX10 79 10 10 .int := ⟨RX10, TX10, 28, tyX10, fdX10_10, hp_pl 1107 (by decide +kernel) rfl, rfl, by decide +kernel⟩
theorem fpX10_82 : xr_fp RX10 82 10 11 .int := ⟨RX10, TX10, 28, tyX10, fdX10_11, hp_pl 1108 (by decide +kernel) rfl, rfl, by decide +kernel⟩
theorem fpX10_89 : xr_fp RX10 89 10 13 .int := ⟨RX10, TX10, 28, tyX10, fdX10_13, hp_pl 1110 (by decide +kernel) rfl, rfl, by decide +kernel⟩
theorem fpX10_95 : xr_fp RX10 95 10 12 .int := ⟨RX10, TX10, 28, tyX10, fdX10_12, hp_pl 1109 (by decide +kernel) rfl, rfl, by decide +kernel⟩
theorem fpX10_112 : xr_fp RX10 112 10 14 .int := ⟨RX10, TX10, 28, tyX10, fdX10_14, hp_pl 1111 (by decide +kernel) rfl, rfl, by decide +kernel⟩
theorem fpX10_115 : xr_fp RX10 115 10 15 .int := ⟨RX10, TX10, 28, tyX10, fdX10_15, hp_pl 1112 (by decide +kernel) rfl, rfl, by decide +kernel⟩
theorem fpX10_161 : xr_fp RX10 161 10 16 .int := ⟨RX10, TX10, 28, tyX10, fdX10_16, hp_pl 1113 (by decide +kernel) rfl, rfl, by decide +kernel⟩
theorem fpX10_174 : xr_fp RX10 174 10 22 .int := ⟨RX10, TX10, 28, tyX10, fdX10_22, hp_pl 1119 (by decide +kernel) rfl, rfl, by decide +kernel⟩
theorem m0J7_fill_53178 : xr_m0 yJ7_fill_53178 cJ7_fill_53178 4 2 none := ⟨hp_pl 14 (by decide +kernel) rfl, hp_pl 525 (by decide +kernel) rfl, by decide +kernel, by decide +kernel, by decide +kernel⟩
theorem m0J7_fill_d0a16 : xr_m0 yJ7_fill_d0a16 cJ7_fill_d0a16 5 2 none := ⟨hp_pl 14 (by decide +kernel) rfl, hp_pl 911 (by decide +kernel) rfl, by decide +kernel, by decide +kernel, by decide +kernel⟩
theorem m0X0_clear : xr_m0 yX0_clear cX0_clear 1 0 none := ⟨hp_pl 8 (by decide +kernel) rfl, hp_pl 533 (by decide +kernel) rfl, by decide +kernel, by decide +kernel, by decide +kernel⟩
theorem m0X0_offer : xr_m0 yX0_offer cX0_offer 5 4 none := ⟨hp_pl 8 (by decide +kernel) rfl, hp_pl 773 (by decide +kernel) rfl, by decide +kernel, by decide +kernel, by decide +kernel⟩
theorem m0X0_part : xr_m0 yX0_part cX0_part 2 1 (some .int) := ⟨hp_pl 8 (by decide +kernel) rfl, hp_pl 819 (by decide +kernel) rfl, by decide +kernel, by decide +kernel, by decide +kernel⟩
theorem m0X10_allAt : xr_m0 yX10_allAt cX10_allAt 6 2 (some .long) := ⟨hp_pl 11 (by decide +kernel) rfl, hp_pl 1619 (by decide +kernel) rfl, by decide +kernel, by decide +kernel, by decide +kernel⟩
theorem m0X10_arePoints : xr_m0 yX10_arePoints cX10_arePoints 4 2 (some .boolean) := ⟨hp_pl 11 (by decide +kernel) rfl, hp_pl 1515 (by decide +kernel) rfl, by decide +kernel, by decide +kernel, by decide +kernel⟩
theorem m0X10_at : xr_m0 yX10_at cX10_at 5 5 (some .int) := ⟨hp_pl 11 (by decide +kernel) rfl, hp_pl 1506 (by decide +kernel) rfl, by decide +kernel, by decide +kernel, by decide +kernel⟩
theorem m0X10_begins : xr_m0 yX10_begins cX10_begins 2 0 none := ⟨hp_pl 11 (by decide +kernel) rfl, hp_pl 1198 (by decide +kernel) rfl, by decide +kernel, by decide +kernel, by decide +kernel⟩
theorem m0X10_chanceOf : xr_m0 yX10_chanceOf cX10_chanceOf 8 3 (some .int) := ⟨hp_pl 11 (by decide +kernel) rfl, hp_pl 1470 (by decide +kernel) rfl, by decide +kernel, by decide +kernel, by decide +kernel⟩
theorem m0X10_changes : xr_m0 yX10_changes cX10_changes 6 3 none := ⟨hp_pl 11 (by decide +kernel) rfl, hp_pl 1418 (by decide +kernel) rfl, by decide +kernel, by decide +kernel, by decide +kernel⟩
theorem m0X10_court : xr_m0 yX10_court cX10_court 3 2 (some .int) := ⟨hp_pl 11 (by decide +kernel) rfl, hp_pl 1351 (by decide +kernel) rfl, by decide +kernel, by decide +kernel, by decide +kernel⟩
theorem m0X10_goOn : xr_m0 yX10_goOn cX10_goOn 1 0 none := ⟨hp_pl 11 (by decide +kernel) rfl, hp_pl 1281 (by decide +kernel) rfl, by decide +kernel, by decide +kernel, by decide +kernel⟩
theorem m0X10_goesOn : xr_m0 yX10_goesOn cX10_goesOn 12 5 none := ⟨hp_pl 11 (by decide +kernel) rfl, hp_pl 1615 (by decide +kernel) rfl, by decide +kernel, by decide +kernel, by decide +kernel⟩
theorem m0X10_goesOnRun : xr_m0 yX10_goesOnRun cX10_goesOnRun 2 1 (some .boolean) := ⟨hp_pl 11 (by decide +kernel) rfl, hp_pl 1677 (by decide +kernel) rfl, by decide +kernel, by decide +kernel, by decide +kernel⟩
theorem m0X10_gone : xr_m0 yX10_gone cX10_gone 3 2 (some .int) := ⟨hp_pl 11 (by decide +kernel) rfl, hp_pl 1414 (by decide +kernel) rfl, by decide +kernel, by decide +kernel, by decide +kernel⟩
theorem m0X10_here : xr_m0 yX10_here cX10_here 1 0 (some .int) := ⟨hp_pl 11 (by decide +kernel) rfl, hp_pl 1206 (by decide +kernel) rfl, by decide +kernel, by decide +kernel, by decide +kernel⟩
theorem m0X10_isDigit : xr_m0 yX10_isDigit cX10_isDigit 1 1 (some .boolean) := ⟨hp_pl 11 (by decide +kernel) rfl, hp_pl 1265 (by decide +kernel) rfl, by decide +kernel, by decide +kernel, by decide +kernel⟩
theorem m0X10_isFront : xr_m0 yX10_isFront cX10_isFront 1 1 (some .boolean) := ⟨hp_pl 11 (by decide +kernel) rfl, hp_pl 1323 (by decide +kernel) rfl, by decide +kernel, by decide +kernel, by decide +kernel⟩
theorem m0X10_isOther : xr_m0 yX10_isOther cX10_isOther 1 0 (some .boolean) := ⟨hp_pl 11 (by decide +kernel) rfl, hp_pl 1285 (by decide +kernel) rfl, by decide +kernel, by decide +kernel, by decide +kernel⟩
theorem m0X10_isOver : xr_m0 yX10_isOver cX10_isOver 1 0 (some .boolean) := ⟨hp_pl 11 (by decide +kernel) rfl, hp_pl 1390 (by decide +kernel) rfl, by decide +kernel, by decide +kernel, by decide +kernel⟩
theorem m0X10_isOwn : xr_m0 yX10_isOwn cX10_isOwn 2 1 (some .boolean) := ⟨hp_pl 11 (by decide +kernel) rfl, hp_pl 1673 (by decide +kernel) rfl, by decide +kernel, by decide +kernel, by decide +kernel⟩
theorem m0X10_isPlayer : xr_m0 yX10_isPlayer cX10_isPlayer 3 2 (some .boolean) := ⟨hp_pl 11 (by decide +kernel) rfl, hp_pl 1335 (by decide +kernel) rfl, by decide +kernel, by decide +kernel, by decide +kernel⟩
theorem m0X10_isRear : xr_m0 yX10_isRear cX10_isRear 1 1 (some .boolean) := ⟨hp_pl 11 (by decide +kernel) rfl, hp_pl 1429 (by decide +kernel) rfl, by decide +kernel, by decide +kernel, by decide +kernel⟩
theorem m0X10_isSide : xr_m0 yX10_isSide cX10_isSide 2 1 (some .boolean) := ⟨hp_pl 11 (by decide +kernel) rfl, hp_pl 1339 (by decide +kernel) rfl, by decide +kernel, by decide +kernel, by decide +kernel⟩
theorem m0X10_isSmall : xr_m0 yX10_isSmall cX10_isSmall 1 1 (some .boolean) := ⟨hp_pl 11 (by decide +kernel) rfl, hp_pl 1209 (by decide +kernel) rfl, by decide +kernel, by decide +kernel, by decide +kernel⟩
theorem m0X10_isSpot : xr_m0 yX10_isSpot cX10_isSpot 1 1 (some .boolean) := ⟨hp_pl 11 (by decide +kernel) rfl, hp_pl 1370 (by decide +kernel) rfl, by decide +kernel, by decide +kernel, by decide +kernel⟩
theorem m0X10_isStarter : xr_m0 yX10_isStarter cX10_isStarter 4 2 (some .boolean) := ⟨hp_pl 11 (by decide +kernel) rfl, hp_pl 1359 (by decide +kernel) rfl, by decide +kernel, by decide +kernel, by decide +kernel⟩
theorem m0X10_isTurn : xr_m0 yX10_isTurn cX10_isTurn 2 1 (some .boolean) := ⟨hp_pl 11 (by decide +kernel) rfl, hp_pl 1482 (by decide +kernel) rfl, by decide +kernel, by decide +kernel, by decide +kernel⟩
theorem m0X10_isWrong : xr_m0 yX10_isWrong cX10_isWrong 7 2 (some .boolean) := ⟨hp_pl 11 (by decide +kernel) rfl, hp_pl 1453 (by decide +kernel) rfl, by decide +kernel, by decide +kernel, by decide +kernel⟩
theorem m0X10_keeps : xr_m0 yX10_keeps cX10_keeps 2 0 none := ⟨hp_pl 11 (by decide +kernel) rfl, hp_pl 1394 (by decide +kernel) rfl, by decide +kernel, by decide +kernel, by decide +kernel⟩
theorem m0X10_laysTable : xr_m0 yX10_laysTable cX10_laysTable 1 0 none := ⟨hp_pl 11 (by decide +kernel) rfl, hp_pl 1523 (by decide +kernel) rfl, by decide +kernel, by decide +kernel, by decide +kernel⟩
theorem m0X10_laysValues : xr_m0 yX10_laysValues cX10_laysValues 5 0 none := ⟨hp_pl 11 (by decide +kernel) rfl, hp_pl 1498 (by decide +kernel) rfl, by decide +kernel, by decide +kernel, by decide +kernel⟩
theorem m0X10_laysWays : xr_m0 yX10_laysWays cX10_laysWays 4 0 none := ⟨hp_pl 11 (by decide +kernel) rfl, hp_pl 1610 (by decide +kernel) rfl, by decide +kernel, by decide +kernel, by decide +kernel⟩
theorem m0X10_lined : xr_m0 yX10_lined cX10_lined 4 2 (some .int) := ⟨hp_pl 11 (by decide +kernel) rfl, hp_pl 1378 (by decide +kernel) rfl, by decide +kernel, by decide +kernel, by decide +kernel⟩
theorem m0X10_linedAt : xr_m0 yX10_linedAt cX10_linedAt 4 2 (some .int) := ⟨hp_pl 11 (by decide +kernel) rfl, hp_pl 1586 (by decide +kernel) rfl, by decide +kernel, by decide +kernel, by decide +kernel⟩
theorem m0X10_mate : xr_m0 yX10_mate cX10_mate 3 2 (some .int) := ⟨hp_pl 11 (by decide +kernel) rfl, hp_pl 1363 (by decide +kernel) rfl, by decide +kernel, by decide +kernel, by decide +kernel⟩
theorem m0X10_moves : xr_m0 yX10_moves cX10_moves 5 2 (some .int) := ⟨hp_pl 11 (by decide +kernel) rfl, hp_pl 1433 (by decide +kernel) rfl, by decide +kernel, by decide +kernel, by decide +kernel⟩
theorem m0X10_namedOf : xr_m0 yX10_namedOf cX10_namedOf 3 1 (some .int) := ⟨hp_pl 11 (by decide +kernel) rfl, hp_pl 1289 (by decide +kernel) rfl, by decide +kernel, by decide +kernel, by decide +kernel⟩
theorem m0X10_number : xr_m0 yX10_number cX10_number 4 2 (some .int) := ⟨hp_pl 11 (by decide +kernel) rfl, hp_pl 1293 (by decide +kernel) rfl, by decide +kernel, by decide +kernel, by decide +kernel⟩
theorem m0X10_once : xr_m0 yX10_once cX10_once 2 1 none := ⟨hp_pl 11 (by decide +kernel) rfl, hp_pl 1297 (by decide +kernel) rfl, by decide +kernel, by decide +kernel, by decide +kernel⟩
theorem m0X10_puts : xr_m0 yX10_puts cX10_puts 4 3 none := ⟨hp_pl 11 (by decide +kernel) rfl, hp_pl 1402 (by decide +kernel) rfl, by decide +kernel, by decide +kernel, by decide +kernel⟩
theorem m0X10_readFree : xr_m0 yX10_readFree cX10_readFree 5 0 none := ⟨hp_pl 11 (by decide +kernel) rfl, hp_pl 1301 (by decide +kernel) rfl, by decide +kernel, by decide +kernel, by decide +kernel⟩
theorem m0X10_readLine : xr_m0 yX10_readLine cX10_readLine 3 0 none := ⟨hp_pl 11 (by decide +kernel) rfl, hp_pl 1269 (by decide +kernel) rfl, by decide +kernel, by decide +kernel, by decide +kernel⟩
theorem m0X10_readPlayer : xr_m0 yX10_readPlayer cX10_readPlayer 8 1 none := ⟨hp_pl 11 (by decide +kernel) rfl, hp_pl 1273 (by decide +kernel) rfl, by decide +kernel, by decide +kernel, by decide +kernel⟩
theorem m0X10_readStart : xr_m0 yX10_readStart cX10_readStart 6 0 none := ⟨hp_pl 11 (by decide +kernel) rfl, hp_pl 1305 (by decide +kernel) rfl, by decide +kernel, by decide +kernel, by decide +kernel⟩
theorem m0X10_roleOf : xr_m0 yX10_roleOf cX10_roleOf 3 2 (some .int) := ⟨hp_pl 11 (by decide +kernel) rfl, hp_pl 1355 (by decide +kernel) rfl, by decide +kernel, by decide +kernel, by decide +kernel⟩
theorem m0X10_runNow : xr_m0 yX10_runNow cX10_runNow 4 0 (some .int) := ⟨hp_pl 11 (by decide +kernel) rfl, hp_pl 1669 (by decide +kernel) rfl, by decide +kernel, by decide +kernel, by decide +kernel⟩
theorem m0X10_safeOf : xr_m0 yX10_safeOf cX10_safeOf 5 1 (some .int) := ⟨hp_pl 11 (by decide +kernel) rfl, hp_pl 1539 (by decide +kernel) rfl, by decide +kernel, by decide +kernel, by decide +kernel⟩
theorem m0X10_serveFirst : xr_m0 yX10_serveFirst cX10_serveFirst 3 0 none := ⟨hp_pl 11 (by decide +kernel) rfl, hp_pl 1313 (by decide +kernel) rfl, by decide +kernel, by decide +kernel, by decide +kernel⟩
theorem m0X10_sideHere : xr_m0 yX10_sideHere cX10_sideHere 1 0 (some .int) := ⟨hp_pl 11 (by decide +kernel) rfl, hp_pl 1309 (by decide +kernel) rfl, by decide +kernel, by decide +kernel, by decide +kernel⟩
theorem m0X10_sixWorth : xr_m0 yX10_sixWorth cX10_sixWorth 6 2 (some .int) := ⟨hp_pl 11 (by decide +kernel) rfl, hp_pl 1474 (by decide +kernel) rfl, by decide +kernel, by decide +kernel, by decide +kernel⟩
theorem m0X10_skill : xr_m0 yX10_skill cX10_skill 4 3 (some .int) := ⟨hp_pl 11 (by decide +kernel) rfl, hp_pl 1343 (by decide +kernel) rfl, by decide +kernel, by decide +kernel, by decide +kernel⟩
theorem m0X10_spotOf : xr_m0 yX10_spotOf cX10_spotOf 4 2 (some .int) := ⟨hp_pl 11 (by decide +kernel) rfl, hp_pl 1347 (by decide +kernel) rfl, by decide +kernel, by decide +kernel, by decide +kernel⟩
theorem m0X10_stands : xr_m0 yX10_stands cX10_stands 4 3 (some .int) := ⟨hp_pl 11 (by decide +kernel) rfl, hp_pl 1445 (by decide +kernel) rfl, by decide +kernel, by decide +kernel, by decide +kernel⟩
theorem m0X10_stands0 : xr_m0 yX10_stands0 cX10_stands0 4 0 none := ⟨hp_pl 11 (by decide +kernel) rfl, hp_pl 1320 (by decide +kernel) rfl, by decide +kernel, by decide +kernel, by decide +kernel⟩
theorem m0X10_sumOf : xr_m0 yX10_sumOf cX10_sumOf 3 2 (some .int) := ⟨hp_pl 11 (by decide +kernel) rfl, hp_pl 1657 (by decide +kernel) rfl, by decide +kernel, by decide +kernel, by decide +kernel⟩
theorem m0X10_swapped : xr_m0 yX10_swapped cX10_swapped 7 3 (some .int) := ⟨hp_pl 11 (by decide +kernel) rfl, hp_pl 1645 (by decide +kernel) rfl, by decide +kernel, by decide +kernel, by decide +kernel⟩
theorem m0X10_tableAt : xr_m0 yX10_tableAt cX10_tableAt 3 2 (some .int) := ⟨hp_pl 11 (by decide +kernel) rfl, hp_pl 1531 (by decide +kernel) rfl, by decide +kernel, by decide +kernel, by decide +kernel⟩
theorem m0X10_takesCourt : xr_m0 yX10_takesCourt cX10_takesCourt 3 0 none := ⟨hp_pl 11 (by decide +kernel) rfl, hp_pl 1466 (by decide +kernel) rfl, by decide +kernel, by decide +kernel, by decide +kernel⟩
theorem m0X10_takesLines : xr_m0 yX10_takesLines cX10_takesLines 3 0 none := ⟨hp_pl 11 (by decide +kernel) rfl, hp_pl 1486 (by decide +kernel) rfl, by decide +kernel, by decide +kernel, by decide +kernel⟩
theorem m0X10_takesStart : xr_m0 yX10_takesStart cX10_takesStart 2 0 none := ⟨hp_pl 11 (by decide +kernel) rfl, hp_pl 1527 (by decide +kernel) rfl, by decide +kernel, by decide +kernel, by decide +kernel⟩
theorem m0X10_token : xr_m0 yX10_token cX10_token 2 0 none := ⟨hp_pl 11 (by decide +kernel) rfl, hp_pl 1202 (by decide +kernel) rfl, by decide +kernel, by decide +kernel, by decide +kernel⟩
theorem m0X10_turns : xr_m0 yX10_turns cX10_turns 4 1 none := ⟨hp_pl 11 (by decide +kernel) rfl, hp_pl 1398 (by decide +kernel) rfl, by decide +kernel, by decide +kernel, by decide +kernel⟩
theorem m0X10_two : xr_m0 yX10_two cX10_two 3 3 (some .int) := ⟨hp_pl 11 (by decide +kernel) rfl, hp_pl 1316 (by decide +kernel) rfl, by decide +kernel, by decide +kernel, by decide +kernel⟩
theorem m0X10_valueBehind : xr_m0 yX10_valueBehind cX10_valueBehind 6 3 (some .int) := ⟨hp_pl 11 (by decide +kernel) rfl, hp_pl 1566 (by decide +kernel) rfl, by decide +kernel, by decide +kernel, by decide +kernel⟩
theorem m0X10_valueBy : xr_m0 yX10_valueBy cX10_valueBy 12 5 (some .int) := ⟨hp_pl 11 (by decide +kernel) rfl, hp_pl 1503 (by decide +kernel) rfl, by decide +kernel, by decide +kernel, by decide +kernel⟩
theorem m0X10_valueNow : xr_m0 yX10_valueNow cX10_valueNow 1 0 (some .int) := ⟨hp_pl 11 (by decide +kernel) rfl, hp_pl 1494 (by decide +kernel) rfl, by decide +kernel, by decide +kernel, by decide +kernel⟩
theorem m0X10_wordHere : xr_m0 yX10_wordHere cX10_wordHere 4 0 (some .int) := ⟨hp_pl 11 (by decide +kernel) rfl, hp_pl 1213 (by decide +kernel) rfl, by decide +kernel, by decide +kernel, by decide +kernel⟩
theorem m0X10_worstOf : xr_m0 yX10_worstOf cX10_worstOf 6 2 (some .int) := ⟨hp_pl 11 (by decide +kernel) rfl, hp_pl 1543 (by decide +kernel) rfl, by decide +kernel, by decide +kernel, by decide +kernel⟩
theorem m0X10_wrong : xr_m0 yX10_wrong cX10_wrong 2 1 none := ⟨hp_pl 11 (by decide +kernel) rfl, hp_pl 1277 (by decide +kernel) rfl, by decide +kernel, by decide +kernel, by decide +kernel⟩
theorem m0X10_wrongMove : xr_m0 yX10_wrongMove cX10_wrongMove 4 2 (some .int) := ⟨hp_pl 11 (by decide +kernel) rfl, hp_pl 1426 (by decide +kernel) rfl, by decide +kernel, by decide +kernel, by decide +kernel⟩
theorem m0X10_wrongSub : xr_m0 yX10_wrongSub cX10_wrongSub 7 3 (some .int) := ⟨hp_pl 11 (by decide +kernel) rfl, hp_pl 1410 (by decide +kernel) rfl, by decide +kernel, by decide +kernel, by decide +kernel⟩
theorem m0X1_award : xr_m0 yX1_award cX1_award 2 1 none := ⟨hp_pl 6 (by decide +kernel) rfl, hp_pl 661 (by decide +kernel) rfl, by decide +kernel, by decide +kernel, by decide +kernel⟩
theorem m0X1_begin : xr_m0 yX1_begin cX1_begin 2 1 none := ⟨hp_pl 6 (by decide +kernel) rfl, hp_pl 511 (by decide +kernel) rfl, by decide +kernel, by decide +kernel, by decide +kernel⟩
theorem m0X1_copyFrom : xr_m0 yX1_copyFrom cX1_copyFrom 2 1 none := ⟨hp_pl 6 (by decide +kernel) rfl, hp_pl 649 (by decide +kernel) rfl, by decide +kernel, by decide +kernel, by decide +kernel⟩
theorem m0X1_team : xr_m0 yX1_team cX1_team 2 1 (some (.object "CourtSix$Side")) := ⟨hp_pl 6 (by decide +kernel) rfl, hp_pl 578 (by decide +kernel) rfl, by decide +kernel, by decide +kernel, by decide +kernel⟩
theorem m0X2_weigh : xr_m0 yX2_weigh cX2_weigh 6 2 none := ⟨hp_pl 4 (by decide +kernel) rfl, hp_pl 606 (by decide +kernel) rfl, by decide +kernel, by decide +kernel, by decide +kernel⟩
theorem m0X3_isPointOf : xr_m0 yX3_isPointOf cX3_isPointOf 4 3 (some .boolean) := ⟨hp_pl 5 (by decide +kernel) rfl, hp_pl 764 (by decide +kernel) rfl, by decide +kernel, by decide +kernel, by decide +kernel⟩
theorem m0X3_note : xr_m0 yX3_note cX3_note 5 4 none := ⟨hp_pl 5 (by decide +kernel) rfl, hp_pl 657 (by decide +kernel) rfl, by decide +kernel, by decide +kernel, by decide +kernel⟩
theorem m0X3_offerRuns : xr_m0 yX3_offerRuns cX3_offerRuns 5 2 none := ⟨hp_pl 5 (by decide +kernel) rfl, hp_pl 768 (by decide +kernel) rfl, by decide +kernel, by decide +kernel, by decide +kernel⟩
theorem m0X3_runUpTo : xr_m0 yX3_runUpTo cX3_runUpTo 6 3 (some .int) := ⟨hp_pl 5 (by decide +kernel) rfl, hp_pl 759 (by decide +kernel) rfl, by decide +kernel, by decide +kernel, by decide +kernel⟩
theorem m0X4_chanceOf : xr_m0 yX4_chanceOf cX4_chanceOf 6 3 (some .int) := ⟨hp_pl 3 (by decide +kernel) rfl, hp_pl 785 (by decide +kernel) rfl, by decide +kernel, by decide +kernel, by decide +kernel⟩
theorem m0X4_fillCell : xr_m0 yX4_fillCell cX4_fillCell 10 2 none := ⟨hp_pl 3 (by decide +kernel) rfl, hp_pl 866 (by decide +kernel) rfl, by decide +kernel, by decide +kernel, by decide +kernel⟩
theorem m0X4_fillCycle : xr_m0 yX4_fillCycle cX4_fillCycle 8 3 none := ⟨hp_pl 3 (by decide +kernel) rfl, hp_pl 857 (by decide +kernel) rfl, by decide +kernel, by decide +kernel, by decide +kernel⟩
theorem m0X4_fillTable : xr_m0 yX4_fillTable cX4_fillTable 5 2 none := ⟨hp_pl 3 (by decide +kernel) rfl, hp_pl 943 (by decide +kernel) rfl, by decide +kernel, by decide +kernel, by decide +kernel⟩
theorem m0X4_fillValues : xr_m0 yX4_fillValues cX4_fillValues 7 3 none := ⟨hp_pl 3 (by decide +kernel) rfl, hp_pl 861 (by decide +kernel) rfl, by decide +kernel, by decide +kernel, by decide +kernel⟩
theorem m0X4_force : xr_m0 yX4_force cX4_force 2 1 (some (.object "CourtSix$Force")) := ⟨hp_pl 3 (by decide +kernel) rfl, hp_pl 613 (by decide +kernel) rfl, by decide +kernel, by decide +kernel, by decide +kernel⟩
theorem m0X4_reachedAt : xr_m0 yX4_reachedAt cX4_reachedAt 3 2 (some .long) := ⟨hp_pl 3 (by decide +kernel) rfl, hp_pl 921 (by decide +kernel) rfl, by decide +kernel, by decide +kernel, by decide +kernel⟩
theorem m0X4_spread : xr_m0 yX4_spread cX4_spread 6 3 none := ⟨hp_pl 3 (by decide +kernel) rfl, hp_pl 908 (by decide +kernel) rfl, by decide +kernel, by decide +kernel, by decide +kernel⟩
theorem m0X4_spreadCell : xr_m0 yX4_spreadCell cX4_spreadCell 15 3 none := ⟨hp_pl 3 (by decide +kernel) rfl, hp_pl 916 (by decide +kernel) rfl, by decide +kernel, by decide +kernel, by decide +kernel⟩
theorem m0X4_streakOf : xr_m0 yX4_streakOf cX4_streakOf 10 3 (some .int) := ⟨hp_pl 3 (by decide +kernel) rfl, hp_pl 839 (by decide +kernel) rfl, by decide +kernel, by decide +kernel, by decide +kernel⟩
theorem m0X4_valueOf : xr_m0 yX4_valueOf cX4_valueOf 6 5 (some .int) := ⟨hp_pl 3 (by decide +kernel) rfl, hp_pl 853 (by decide +kernel) rfl, by decide +kernel, by decide +kernel, by decide +kernel⟩
theorem m0X4_weigh : xr_m0 yX4_weigh cX4_weigh 4 3 none := ⟨hp_pl 3 (by decide +kernel) rfl, hp_pl 602 (by decide +kernel) rfl, by decide +kernel, by decide +kernel, by decide +kernel⟩
theorem m0X5_advance : xr_m0 yX5_advance cX5_advance 1 0 none := ⟨hp_pl 2 (by decide +kernel) rfl, hp_pl 415 (by decide +kernel) rfl, by decide +kernel, by decide +kernel, by decide +kernel⟩
theorem m0X5_fail : xr_m0 yX5_fail cX5_fail 2 1 none := ⟨hp_pl 2 (by decide +kernel) rfl, hp_pl 455 (by decide +kernel) rfl, by decide +kernel, by decide +kernel, by decide +kernel⟩
theorem m0X5_isDigit : xr_m0 yX5_isDigit cX5_isDigit 1 1 (some .boolean) := ⟨hp_pl 2 (by decide +kernel) rfl, hp_pl 436 (by decide +kernel) rfl, by decide +kernel, by decide +kernel, by decide +kernel⟩
theorem m0X5_isKeyword : xr_m0 yX5_isKeyword cX5_isKeyword 1 1 (some .boolean) := ⟨hp_pl 2 (by decide +kernel) rfl, hp_pl 425 (by decide +kernel) rfl, by decide +kernel, by decide +kernel, by decide +kernel⟩
theorem m0X5_isLetter : xr_m0 yX5_isLetter cX5_isLetter 1 1 (some .boolean) := ⟨hp_pl 2 (by decide +kernel) rfl, hp_pl 418 (by decide +kernel) rfl, by decide +kernel, by decide +kernel, by decide +kernel⟩
theorem m0X5_numberHere : xr_m0 yX5_numberHere cX5_numberHere 3 2 (some .int) := ⟨hp_pl 2 (by decide +kernel) rfl, hp_pl 459 (by decide +kernel) rfl, by decide +kernel, by decide +kernel, by decide +kernel⟩
theorem m0X5_readFirst : xr_m0 yX5_readFirst cX5_readFirst 2 1 none := ⟨hp_pl 2 (by decide +kernel) rfl, hp_pl 499 (by decide +kernel) rfl, by decide +kernel, by decide +kernel, by decide +kernel⟩
theorem m0X5_readFree : xr_m0 yX5_readFree cX5_readFree 4 1 none := ⟨hp_pl 2 (by decide +kernel) rfl, hp_pl 475 (by decide +kernel) rfl, by decide +kernel, by decide +kernel, by decide +kernel⟩
theorem m0X5_readInto : xr_m0 yX5_readInto cX5_readInto 4 2 (some .boolean) := ⟨hp_pl 2 (by decide +kernel) rfl, hp_pl 403 (by decide +kernel) rfl, by decide +kernel, by decide +kernel, by decide +kernel⟩
theorem m0X5_readLine : xr_m0 yX5_readLine cX5_readLine 2 1 none := ⟨hp_pl 2 (by decide +kernel) rfl, hp_pl 447 (by decide +kernel) rfl, by decide +kernel, by decide +kernel, by decide +kernel⟩
theorem m0X5_readPlayer : xr_m0 yX5_readPlayer cX5_readPlayer 7 2 none := ⟨hp_pl 2 (by decide +kernel) rfl, hp_pl 463 (by decide +kernel) rfl, by decide +kernel, by decide +kernel, by decide +kernel⟩
theorem m0X5_readSetting : xr_m0 yX5_readSetting cX5_readSetting 4 3 (some .int) := ⟨hp_pl 2 (by decide +kernel) rfl, hp_pl 451 (by decide +kernel) rfl, by decide +kernel, by decide +kernel, by decide +kernel⟩
theorem m0X5_readStart : xr_m0 yX5_readStart cX5_readStart 6 1 none := ⟨hp_pl 2 (by decide +kernel) rfl, hp_pl 483 (by decide +kernel) rfl, by decide +kernel, by decide +kernel, by decide +kernel⟩
theorem m0X5_sideHere : xr_m0 yX5_sideHere cX5_sideHere 1 0 (some .int) := ⟨hp_pl 2 (by decide +kernel) rfl, hp_pl 487 (by decide +kernel) rfl, by decide +kernel, by decide +kernel, by decide +kernel⟩
theorem m0X5_take : xr_m0 yX5_take cX5_take 3 1 none := ⟨hp_pl 2 (by decide +kernel) rfl, hp_pl 395 (by decide +kernel) rfl, by decide +kernel, by decide +kernel, by decide +kernel⟩
theorem m0X5_takeNumber : xr_m0 yX5_takeNumber cX5_takeNumber 1 0 none := ⟨hp_pl 2 (by decide +kernel) rfl, hp_pl 440 (by decide +kernel) rfl, by decide +kernel, by decide +kernel, by decide +kernel⟩
theorem m0X5_takeWord : xr_m0 yX5_takeWord cX5_takeWord 1 0 none := ⟨hp_pl 2 (by decide +kernel) rfl, hp_pl 422 (by decide +kernel) rfl, by decide +kernel, by decide +kernel, by decide +kernel⟩
theorem m0X6_begin : xr_m0 yX6_begin cX6_begin 3 2 none := ⟨hp_pl 7 (by decide +kernel) rfl, hp_pl 515 (by decide +kernel) rfl, by decide +kernel, by decide +kernel, by decide +kernel⟩
theorem m0X6_copyFrom : xr_m0 yX6_copyFrom cX6_copyFrom 2 1 none := ⟨hp_pl 7 (by decide +kernel) rfl, hp_pl 653 (by decide +kernel) rfl, by decide +kernel, by decide +kernel, by decide +kernel⟩
theorem m0X6_exchange : xr_m0 yX6_exchange cX6_exchange 4 2 none := ⟨hp_pl 7 (by decide +kernel) rfl, hp_pl 696 (by decide +kernel) rfl, by decide +kernel, by decide +kernel, by decide +kernel⟩
theorem m0X6_spotOf : xr_m0 yX6_spotOf cX6_spotOf 3 1 (some .int) := ⟨hp_pl 7 (by decide +kernel) rfl, hp_pl 625 (by decide +kernel) rfl, by decide +kernel, by decide +kernel, by decide +kernel⟩
theorem m0X6_turnFree : xr_m0 yX6_turnFree cX6_turnFree 1 0 none := ⟨hp_pl 7 (by decide +kernel) rfl, hp_pl 670 (by decide +kernel) rfl, by decide +kernel, by decide +kernel, by decide +kernel⟩
theorem m0X6_turnOnce : xr_m0 yX6_turnOnce cX6_turnOnce 3 0 none := ⟨hp_pl 7 (by decide +kernel) rfl, hp_pl 666 (by decide +kernel) rfl, by decide +kernel, by decide +kernel, by decide +kernel⟩
theorem m0X7_add : xr_m0 yX7_add cX7_add 5 4 none := ⟨hp_pl 10 (by decide +kernel) rfl, hp_pl 471 (by decide +kernel) rfl, by decide +kernel, by decide +kernel, by decide +kernel⟩
theorem m0X7_betterThan : xr_m0 yX7_betterThan cX7_betterThan 5 1 (some .int) := ⟨hp_pl 10 (by decide +kernel) rfl, hp_pl 559 (by decide +kernel) rfl, by decide +kernel, by decide +kernel, by decide +kernel⟩
theorem m0X7_clear : xr_m0 yX7_clear cX7_clear 1 0 none := ⟨hp_pl 10 (by decide +kernel) rfl, hp_pl 411 (by decide +kernel) rfl, by decide +kernel, by decide +kernel, by decide +kernel⟩
theorem m0X7_find : xr_m0 yX7_find cX7_find 3 1 (some .int) := ⟨hp_pl 10 (by decide +kernel) rfl, hp_pl 467 (by decide +kernel) rfl, by decide +kernel, by decide +kernel, by decide +kernel⟩
theorem m0X7_isStarter : xr_m0 yX7_isStarter cX7_isStarter 3 1 (some .boolean) := ⟨hp_pl 10 (by decide +kernel) rfl, hp_pl 479 (by decide +kernel) rfl, by decide +kernel, by decide +kernel, by decide +kernel⟩
theorem m0X7_place : xr_m0 yX7_place cX7_place 2 1 none := ⟨hp_pl 10 (by decide +kernel) rfl, hp_pl 495 (by decide +kernel) rfl, by decide +kernel, by decide +kernel, by decide +kernel⟩
theorem m0X7_skill : xr_m0 yX7_skill cX7_skill 2 1 (some .int) := ⟨hp_pl 10 (by decide +kernel) rfl, hp_pl 563 (by decide +kernel) rfl, by decide +kernel, by decide +kernel, by decide +kernel⟩
theorem m0X8_clear : xr_m0 yX8_clear cX8_clear 1 0 none := ⟨hp_pl 9 (by decide +kernel) rfl, hp_pl 407 (by decide +kernel) rfl, by decide +kernel, by decide +kernel, by decide +kernel⟩
theorem m0X8_fillUntold : xr_m0 yX8_fillUntold cX8_fillUntold 1 0 none := ⟨hp_pl 9 (by decide +kernel) rfl, hp_pl 503 (by decide +kernel) rfl, by decide +kernel, by decide +kernel, by decide +kernel⟩
theorem m0X8_squad : xr_m0 yX8_squad cX8_squad 2 1 (some (.object "CourtSix$Squad")) := ⟨hp_pl 9 (by decide +kernel) rfl, hp_pl 491 (by decide +kernel) rfl, by decide +kernel, by decide +kernel, by decide +kernel⟩
theorem m0X9_areFit : xr_m0 yX9_areFit cX9_areFit 6 3 (some .boolean) := ⟨hp_pl 1 (by decide +kernel) rfl, hp_pl 687 (by decide +kernel) rfl, by decide +kernel, by decide +kernel, by decide +kernel⟩
theorem m0X9_beginSet : xr_m0 yX9_beginSet cX9_beginSet 1 0 none := ⟨hp_pl 1 (by decide +kernel) rfl, hp_pl 507 (by decide +kernel) rfl, by decide +kernel, by decide +kernel, by decide +kernel⟩
theorem m0X9_bestTurns : xr_m0 yX9_bestTurns cX9_bestTurns 6 3 (some .int) := ⟨hp_pl 1 (by decide +kernel) rfl, hp_pl 827 (by decide +kernel) rfl, by decide +kernel, by decide +kernel, by decide +kernel⟩
theorem m0X9_chanceBehindMove : xr_m0 yX9_chanceBehindMove cX9_chanceBehindMove 3 2 (some .int) := ⟨hp_pl 1 (by decide +kernel) rfl, hp_pl 810 (by decide +kernel) rfl, by decide +kernel, by decide +kernel, by decide +kernel⟩
theorem m0X9_fillTrials : xr_m0 yX9_fillTrials cX9_fillTrials 2 0 none := ⟨hp_pl 1 (by decide +kernel) rfl, hp_pl 594 (by decide +kernel) rfl, by decide +kernel, by decide +kernel, by decide +kernel⟩
theorem m0X9_forgetSubBests : xr_m0 yX9_forgetSubBests cX9_forgetSubBests 1 0 none := ⟨hp_pl 1 (by decide +kernel) rfl, hp_pl 529 (by decide +kernel) rfl, by decide +kernel, by decide +kernel, by decide +kernel⟩
theorem m0X9_isFront : xr_m0 yX9_isFront cX9_isFront 1 1 (some .boolean) := ⟨hp_pl 1 (by decide +kernel) rfl, hp_pl 609 (by decide +kernel) rfl, by decide +kernel, by decide +kernel, by decide +kernel⟩
theorem m0X9_isOver : xr_m0 yX9_isOver cX9_isOver 1 0 (some .boolean) := ⟨hp_pl 1 (by decide +kernel) rfl, hp_pl 641 (by decide +kernel) rfl, by decide +kernel, by decide +kernel, by decide +kernel⟩
theorem m0X9_isPlace : xr_m0 yX9_isPlace cX9_isPlace 1 1 (some .boolean) := ⟨hp_pl 1 (by decide +kernel) rfl, hp_pl 715 (by decide +kernel) rfl, by decide +kernel, by decide +kernel, by decide +kernel⟩
theorem m0X9_isPlayer : xr_m0 yX9_isPlayer cX9_isPlayer 3 2 (some .boolean) := ⟨hp_pl 1 (by decide +kernel) rfl, hp_pl 621 (by decide +kernel) rfl, by decide +kernel, by decide +kernel, by decide +kernel⟩
theorem m0X9_isRear : xr_m0 yX9_isRear cX9_isRear 1 1 (some .boolean) := ⟨hp_pl 1 (by decide +kernel) rfl, hp_pl 708 (by decide +kernel) rfl, by decide +kernel, by decide +kernel, by decide +kernel⟩
theorem m0X9_isScore : xr_m0 yX9_isScore cX9_isScore 4 2 (some .boolean) := ⟨hp_pl 1 (by decide +kernel) rfl, hp_pl 874 (by decide +kernel) rfl, by decide +kernel, by decide +kernel, by decide +kernel⟩
theorem m0X9_isSide : xr_m0 yX9_isSide cX9_isSide 2 1 (some .boolean) := ⟨hp_pl 1 (by decide +kernel) rfl, hp_pl 545 (by decide +kernel) rfl, by decide +kernel, by decide +kernel, by decide +kernel⟩
theorem m0X9_isSpot : xr_m0 yX9_isSpot cX9_isSpot 1 1 (some .boolean) := ⟨hp_pl 1 (by decide +kernel) rfl, hp_pl 570 (by decide +kernel) rfl, by decide +kernel, by decide +kernel, by decide +kernel⟩
theorem m0X9_isTurns : xr_m0 yX9_isTurns cX9_isTurns 1 1 (some .boolean) := ⟨hp_pl 1 (by decide +kernel) rfl, hp_pl 796 (by decide +kernel) rfl, by decide +kernel, by decide +kernel, by decide +kernel⟩
theorem m0X9_isWrong : xr_m0 yX9_isWrong cX9_isWrong 7 2 (some .boolean) := ⟨hp_pl 1 (by decide +kernel) rfl, hp_pl 743 (by decide +kernel) rfl, by decide +kernel, by decide +kernel, by decide +kernel⟩
theorem m0X9_judgeMove : xr_m0 yX9_judgeMove cX9_judgeMove 6 2 (some .int) := ⟨hp_pl 1 (by decide +kernel) rfl, hp_pl 705 (by decide +kernel) rfl, by decide +kernel, by decide +kernel, by decide +kernel⟩
theorem m0X9_judgeSub : xr_m0 yX9_judgeSub cX9_judgeSub 6 3 (some .int) := ⟨hp_pl 1 (by decide +kernel) rfl, hp_pl 679 (by decide +kernel) rfl, by decide +kernel, by decide +kernel, by decide +kernel⟩
theorem m0X9_knowTable : xr_m0 yX9_knowTable cX9_knowTable 1 0 none := ⟨hp_pl 1 (by decide +kernel) rfl, hp_pl 939 (by decide +kernel) rfl, by decide +kernel, by decide +kernel, by decide +kernel⟩
theorem m0X9_offerSubs : xr_m0 yX9_offerSubs cX9_offerSubs 6 2 none := ⟨hp_pl 1 (by decide +kernel) rfl, hp_pl 896 (by decide +kernel) rfl, by decide +kernel, by decide +kernel, by decide +kernel⟩
theorem m0X9_offerSwaps : xr_m0 yX9_offerSwaps cX9_offerSwaps 5 2 none := ⟨hp_pl 1 (by decide +kernel) rfl, hp_pl 989 (by decide +kernel) rfl, by decide +kernel, by decide +kernel, by decide +kernel⟩
theorem m0X9_pickReply : xr_m0 yX9_pickReply cX9_pickReply 5 2 none := ⟨hp_pl 1 (by decide +kernel) rfl, hp_pl 973 (by decide +kernel) rfl, by decide +kernel, by decide +kernel, by decide +kernel⟩
theorem m0X9_pickSafe : xr_m0 yX9_pickSafe cX9_pickSafe 4 1 none := ⟨hp_pl 1 (by decide +kernel) rfl, hp_pl 951 (by decide +kernel) rfl, by decide +kernel, by decide +kernel, by decide +kernel⟩
theorem m0X9_remember : xr_m0 yX9_remember cX9_remember 1 0 none := ⟨hp_pl 1 (by decide +kernel) rfl, hp_pl 645 (by decide +kernel) rfl, by decide +kernel, by decide +kernel, by decide +kernel⟩
theorem m0X9_roleOf : xr_m0 yX9_roleOf cX9_roleOf 3 2 (some .int) := ⟨hp_pl 1 (by decide +kernel) rfl, hp_pl 691 (by decide +kernel) rfl, by decide +kernel, by decide +kernel, by decide +kernel⟩
theorem m0X9_spotBehind : xr_m0 yX9_spotBehind cX9_spotBehind 2 2 (some .int) := ⟨hp_pl 1 (by decide +kernel) rfl, hp_pl 628 (by decide +kernel) rfl, by decide +kernel, by decide +kernel, by decide +kernel⟩
theorem m0X9_spotOnCourt : xr_m0 yX9_spotOnCourt cX9_spotOnCourt 5 2 (some .int) := ⟨hp_pl 1 (by decide +kernel) rfl, hp_pl 683 (by decide +kernel) rfl, by decide +kernel, by decide +kernel, by decide +kernel⟩
theorem m0X9_spreadFromNow : xr_m0 yX9_spreadFromNow cX9_spreadFromNow 1 0 none := ⟨hp_pl 1 (by decide +kernel) rfl, hp_pl 904 (by decide +kernel) rfl, by decide +kernel, by decide +kernel, by decide +kernel⟩
theorem m0X9_tableOf : xr_m0 yX9_tableOf cX9_tableOf 4 3 (some .int) := ⟨hp_pl 1 (by decide +kernel) rfl, hp_pl 959 (by decide +kernel) rfl, by decide +kernel, by decide +kernel, by decide +kernel⟩
theorem m0X9_trialOf : xr_m0 yX9_trialOf cX9_trialOf 2 1 (some (.array .int)) := ⟨hp_pl 1 (by decide +kernel) rfl, hp_pl 814 (by decide +kernel) rfl, by decide +kernel, by decide +kernel, by decide +kernel⟩
theorem m0X9_valueBehindSub : xr_m0 yX9_valueBehindSub cX9_valueBehindSub 5 3 (some .int) := ⟨hp_pl 1 (by decide +kernel) rfl, hp_pl 887 (by decide +kernel) rfl, by decide +kernel, by decide +kernel, by decide +kernel⟩
theorem m0X9_valueFromNow : xr_m0 yX9_valueFromNow cX9_valueFromNow 1 0 (some .int) := ⟨hp_pl 1 (by decide +kernel) rfl, hp_pl 849 (by decide +kernel) rfl, by decide +kernel, by decide +kernel, by decide +kernel⟩
theorem m0X9_valueSwapped : xr_m0 yX9_valueSwapped cX9_valueSwapped 6 3 (some .int) := ⟨hp_pl 1 (by decide +kernel) rfl, hp_pl 981 (by decide +kernel) rfl, by decide +kernel, by decide +kernel, by decide +kernel⟩
theorem m0X9_weighCourt : xr_m0 yX9_weighCourt cX9_weighCourt 1 0 none := ⟨hp_pl 1 (by decide +kernel) rfl, hp_pl 590 (by decide +kernel) rfl, by decide +kernel, by decide +kernel, by decide +kernel⟩
theorem m0X9_weighNow : xr_m0 yX9_weighNow cX9_weighNow 1 0 none := ⟨hp_pl 1 (by decide +kernel) rfl, hp_pl 800 (by decide +kernel) rfl, by decide +kernel, by decide +kernel, by decide +kernel⟩
theorem m0X9_weighTrials : xr_m0 yX9_weighTrials cX9_weighTrials 1 0 none := ⟨hp_pl 1 (by decide +kernel) rfl, hp_pl 598 (by decide +kernel) rfl, by decide +kernel, by decide +kernel, by decide +kernel⟩
theorem m0X9_whoIsOn : xr_m0 yX9_whoIsOn cX9_whoIsOn 4 2 (some .int) := ⟨hp_pl 1 (by decide +kernel) rfl, hp_pl 574 (by decide +kernel) rfl, by decide +kernel, by decide +kernel, by decide +kernel⟩
theorem m0X9_worstOf : xr_m0 yX9_worstOf cX9_worstOf 6 2 (some .int) := ⟨hp_pl 1 (by decide +kernel) rfl, hp_pl 955 (by decide +kernel) rfl, by decide +kernel, by decide +kernel, by decide +kernel⟩
theorem mvX9_79 : xr_mv RX9 79 yX5_take cX5_take 3 1 none := ⟨m0X5_take, hp_pl 392 (by decide +kernel) rfl, hp_pl 393 (by decide +kernel) rfl, hp_pl 394 (by decide +kernel) rfl⟩
theorem mvX9_83 : xr_mv RX9 83 yX5_readInto cX5_readInto 4 2 (some .boolean) := ⟨m0X5_readInto, hp_pl 400 (by decide +kernel) rfl, hp_pl 401 (by decide +kernel) rfl, hp_pl 402 (by decide +kernel) rfl⟩
theorem mvX9_87 : xr_mv RX9 87 yX9_beginSet cX9_beginSet 1 0 none := ⟨m0X9_beginSet, hp_pl 504 (by decide +kernel) rfl, hp_pl 506 (by decide +kernel) rfl, hp_ps (n := 17) 12 (by decide +kernel)⟩
theorem mvX9_99 : xr_mv RX9 99 yX9_isSide cX9_isSide 2 1 (some .boolean) := ⟨m0X9_isSide, hp_pl 542 (by decide +kernel) rfl, hp_pl 544 (by decide +kernel) rfl, hp_ps (n := 17) 14 (by decide +kernel)⟩
theorem mvX9_103 : xr_mv RX9 103 yX8_squad cX8_squad 2 1 (some (.object "CourtSix$Squad")) := ⟨m0X8_squad, hp_pl 546 (by decide +kernel) rfl, hp_pl 489 (by decide +kernel) rfl, hp_pl 490 (by decide +kernel) rfl⟩
theorem mvX9_107 : xr_mv RX9 107 yX7_find cX7_find 3 1 (some .int) := ⟨m0X7_find, hp_pl 547 (by decide +kernel) rfl, hp_pl 465 (by decide +kernel) rfl, hp_pl 466 (by decide +kernel) rfl⟩
theorem mvX9_146 : xr_mv RX9 146 yX1_begin cX1_begin 2 1 none := ⟨m0X1_begin, hp_pl 508 (by decide +kernel) rfl, hp_pl 509 (by decide +kernel) rfl, hp_pl 510 (by decide +kernel) rfl⟩
theorem mvX9_150 : xr_mv RX9 150 yX9_forgetSubBests cX9_forgetSubBests 1 0 none := ⟨m0X9_forgetSubBests, hp_pl 526 (by decide +kernel) rfl, hp_pl 528 (by decide +kernel) rfl, hp_ps (n := 17) 13 (by decide +kernel)⟩
theorem mvX9_153 : xr_mv RX9 153 yX9_isPlayer cX9_isPlayer 3 2 (some .boolean) := ⟨m0X9_isPlayer, hp_pl 618 (by decide +kernel) rfl, hp_pl 620 (by decide +kernel) rfl, hp_ps (n := 17) 20 (by decide +kernel)⟩
theorem mvX9_176 : xr_mv RX9 176 yX9_spotOnCourt cX9_spotOnCourt 5 2 (some .int) := ⟨m0X9_spotOnCourt, hp_pl 680 (by decide +kernel) rfl, hp_pl 682 (by decide +kernel) rfl, hp_ps (n := 17) 25 (by decide +kernel)⟩
theorem mvX9_180 : xr_mv RX9 180 yX9_roleOf cX9_roleOf 3 2 (some .int) := ⟨m0X9_roleOf, hp_pl 688 (by decide +kernel) rfl, hp_pl 690 (by decide +kernel) rfl, hp_ps (n := 17) 27 (by decide +kernel)⟩
theorem mvX9_198 : xr_mv RX9 198 yX7_betterThan cX7_betterThan 5 1 (some .int) := ⟨m0X7_betterThan, hp_pl 556 (by decide +kernel) rfl, hp_pl 557 (by decide +kernel) rfl, hp_pl 558 (by decide +kernel) rfl⟩
theorem mvX9_201 : xr_ms RX9 201 yX9_isSpot cX9_isSpot 1 1 (some .boolean) := ⟨m0X9_isSpot, hp_pl 568 (by decide +kernel) rfl, hp_pl 569 (by decide +kernel) rfl⟩
theorem mvX9_204 : xr_mv RX9 204 yX9_whoIsOn cX9_whoIsOn 4 2 (some .int) := ⟨m0X9_whoIsOn, hp_pl 571 (by decide +kernel) rfl, hp_pl 573 (by decide +kernel) rfl, hp_ps (n := 17) 16 (by decide +kernel)⟩
theorem mvX9_207 : xr_mv RX9 207 yX1_team cX1_team 2 1 (some (.object "CourtSix$Side")) := ⟨m0X1_team, hp_pl 575 (by decide +kernel) rfl, hp_pl 576 (by decide +kernel) rfl, hp_pl 577 (by decide +kernel) rfl⟩
theorem mvX9_216 : xr_mv RX9 216 yX9_weighCourt cX9_weighCourt 1 0 none := ⟨m0X9_weighCourt, hp_pl 587 (by decide +kernel) rfl, hp_pl 589 (by decide +kernel) rfl, hp_ps (n := 17) 17 (by decide +kernel)⟩
theorem mvX9_219 : xr_mv RX9 219 yX4_force cX4_force 2 1 (some (.object "CourtSix$Force")) := ⟨m0X4_force, hp_pl 610 (by decide +kernel) rfl, hp_pl 611 (by decide +kernel) rfl, hp_pl 612 (by decide +kernel) rfl⟩
theorem mvX9_232 : xr_mv RX9 232 yX6_spotOf cX6_spotOf 3 1 (some .int) := ⟨m0X6_spotOf, hp_pl 622 (by decide +kernel) rfl, hp_pl 623 (by decide +kernel) rfl, hp_pl 624 (by decide +kernel) rfl⟩
theorem mvX9_235 : xr_ms RX9 235 yX9_spotBehind cX9_spotBehind 2 2 (some .int) := ⟨m0X9_spotBehind, hp_pl 626 (by decide +kernel) rfl, hp_pl 627 (by decide +kernel) rfl⟩
theorem mvX9_238 : xr_ms RX9 238 yX9_isFront cX9_isFront 1 1 (some .boolean) := ⟨m0X9_isFront, hp_pl 629 (by decide +kernel) rfl, hp_pl 608 (by decide +kernel) rfl⟩
theorem mvX9_244 : xr_mv RX9 244 yX7_isStarter cX7_isStarter 3 1 (some .boolean) := ⟨m0X7_isStarter, hp_pl 692 (by decide +kernel) rfl, hp_pl 477 (by decide +kernel) rfl, hp_pl 478 (by decide +kernel) rfl⟩
theorem mvX9_250 : xr_mv RX9 250 yX9_isOver cX9_isOver 1 0 (some .boolean) := ⟨m0X9_isOver, hp_pl 638 (by decide +kernel) rfl, hp_pl 640 (by decide +kernel) rfl, hp_ps (n := 17) 21 (by decide +kernel)⟩
theorem mvX9_254 : xr_mv RX9 254 yX9_remember cX9_remember 1 0 none := ⟨m0X9_remember, hp_pl 642 (by decide +kernel) rfl, hp_pl 644 (by decide +kernel) rfl, hp_ps (n := 17) 22 (by decide +kernel)⟩
theorem mvX9_260 : xr_mv RX9 260 yX3_note cX3_note 5 4 none := ⟨m0X3_note, hp_pl 654 (by decide +kernel) rfl, hp_pl 655 (by decide +kernel) rfl, hp_pl 656 (by decide +kernel) rfl⟩
theorem mvX9_264 : xr_mv RX9 264 yX1_award cX1_award 2 1 none := ⟨m0X1_award, hp_pl 658 (by decide +kernel) rfl, hp_pl 659 (by decide +kernel) rfl, hp_pl 660 (by decide +kernel) rfl⟩
theorem mvX9_267 : xr_mv RX9 267 yX9_judgeSub cX9_judgeSub 6 3 (some .int) := ⟨m0X9_judgeSub, hp_pl 676 (by decide +kernel) rfl, hp_pl 678 (by decide +kernel) rfl, hp_ps (n := 17) 24 (by decide +kernel)⟩
theorem mvX9_270 : xr_mv RX9 270 yX6_exchange cX6_exchange 4 2 none := ⟨m0X6_exchange, hp_pl 693 (by decide +kernel) rfl, hp_pl 694 (by decide +kernel) rfl, hp_pl 695 (by decide +kernel) rfl⟩
theorem mvX9_277 : xr_mv RX9 277 yX9_judgeMove cX9_judgeMove 6 2 (some .int) := ⟨m0X9_judgeMove, hp_pl 702 (by decide +kernel) rfl, hp_pl 704 (by decide +kernel) rfl, hp_ps (n := 17) 28 (by decide +kernel)⟩
theorem mvX9_283 : xr_ms RX9 283 yX9_isPlace cX9_isPlace 1 1 (some .boolean) := ⟨m0X9_isPlace, hp_pl 713 (by decide +kernel) rfl, hp_pl 714 (by decide +kernel) rfl⟩
theorem mvX9_292 : xr_mv RX9 292 yX1_copyFrom cX1_copyFrom 2 1 none := ⟨m0X1_copyFrom, hp_pl 646 (by decide +kernel) rfl, hp_pl 647 (by decide +kernel) rfl, hp_pl 648 (by decide +kernel) rfl⟩
theorem mvX9_304 : xr_mv RX9 304 yX9_areFit cX9_areFit 6 3 (some .boolean) := ⟨m0X9_areFit, hp_pl 684 (by decide +kernel) rfl, hp_pl 686 (by decide +kernel) rfl, hp_ps (n := 17) 26 (by decide +kernel)⟩
theorem mvX9_308 : xr_ms RX9 308 yX9_isRear cX9_isRear 1 1 (some .boolean) := ⟨m0X9_isRear, hp_pl 706 (by decide +kernel) rfl, hp_pl 707 (by decide +kernel) rfl⟩
theorem mvX9_311 : xr_mv RX9 311 yX9_isWrong cX9_isWrong 7 2 (some .boolean) := ⟨m0X9_isWrong, hp_pl 740 (by decide +kernel) rfl, hp_pl 742 (by decide +kernel) rfl, hp_ps (n := 17) 29 (by decide +kernel)⟩
theorem mvX9_317 : xr_mv RX9 317 yX3_runUpTo cX3_runUpTo 6 3 (some .int) := ⟨m0X3_runUpTo, hp_pl 756 (by decide +kernel) rfl, hp_pl 757 (by decide +kernel) rfl, hp_pl 758 (by decide +kernel) rfl⟩
theorem mvX9_320 : xr_mv RX9 320 yX0_clear cX0_clear 1 0 none := ⟨m0X0_clear, hp_pl 530 (by decide +kernel) rfl, hp_pl 531 (by decide +kernel) rfl, hp_pl 532 (by decide +kernel) rfl⟩
theorem mvX9_323 : xr_mv RX9 323 yX3_offerRuns cX3_offerRuns 5 2 none := ⟨m0X3_offerRuns, hp_pl 765 (by decide +kernel) rfl, hp_pl 766 (by decide +kernel) rfl, hp_pl 767 (by decide +kernel) rfl⟩
theorem mvX9_351 : xr_mv RX9 351 yX4_chanceOf cX4_chanceOf 6 3 (some .int) := ⟨m0X4_chanceOf, hp_pl 782 (by decide +kernel) rfl, hp_pl 783 (by decide +kernel) rfl, hp_pl 784 (by decide +kernel) rfl⟩
theorem mvX9_354 : xr_ms RX9 354 yX9_isTurns cX9_isTurns 1 1 (some .boolean) := ⟨m0X9_isTurns, hp_pl 794 (by decide +kernel) rfl, hp_pl 795 (by decide +kernel) rfl⟩
theorem mvX9_357 : xr_mv RX9 357 yX9_weighNow cX9_weighNow 1 0 none := ⟨m0X9_weighNow, hp_pl 797 (by decide +kernel) rfl, hp_pl 799 (by decide +kernel) rfl, hp_ps (n := 17) 31 (by decide +kernel)⟩
theorem mvX9_363 : xr_mv RX9 363 yX9_chanceBehindMove cX9_chanceBehindMove 3 2 (some .int) := ⟨m0X9_chanceBehindMove, hp_pl 807 (by decide +kernel) rfl, hp_pl 809 (by decide +kernel) rfl, hp_ps (n := 17) 32 (by decide +kernel)⟩
theorem mvX9_366 : xr_mv RX9 366 yX0_offer cX0_offer 5 4 none := ⟨m0X0_offer, hp_pl 815 (by decide +kernel) rfl, hp_pl 771 (by decide +kernel) rfl, hp_pl 772 (by decide +kernel) rfl⟩
theorem mvX9_370 : xr_mv RX9 370 yX0_part cX0_part 2 1 (some .int) := ⟨m0X0_part, hp_pl 816 (by decide +kernel) rfl, hp_pl 817 (by decide +kernel) rfl, hp_pl 818 (by decide +kernel) rfl⟩
theorem mvX9_373 : xr_mv RX9 373 yX9_bestTurns cX9_bestTurns 6 3 (some .int) := ⟨m0X9_bestTurns, hp_pl 824 (by decide +kernel) rfl, hp_pl 826 (by decide +kernel) rfl, hp_ps (n := 17) 34 (by decide +kernel)⟩
theorem mvX9_376 : xr_mv RX9 376 yX4_streakOf cX4_streakOf 10 3 (some .int) := ⟨m0X4_streakOf, hp_pl 836 (by decide +kernel) rfl, hp_pl 837 (by decide +kernel) rfl, hp_pl 838 (by decide +kernel) rfl⟩
theorem mvX9_379 : xr_mv RX9 379 yX9_fillTrials cX9_fillTrials 2 0 none := ⟨m0X9_fillTrials, hp_pl 591 (by decide +kernel) rfl, hp_pl 593 (by decide +kernel) rfl, hp_ps (n := 17) 18 (by decide +kernel)⟩
theorem mvX9_382 : xr_mv RX9 382 yX9_trialOf cX9_trialOf 2 1 (some (.array .int)) := ⟨m0X9_trialOf, hp_pl 811 (by decide +kernel) rfl, hp_pl 813 (by decide +kernel) rfl, hp_ps (n := 17) 33 (by decide +kernel)⟩
theorem mvX9_386 : xr_mv RX9 386 yX9_weighTrials cX9_weighTrials 1 0 none := ⟨m0X9_weighTrials, hp_pl 595 (by decide +kernel) rfl, hp_pl 597 (by decide +kernel) rfl, hp_ps (n := 17) 19 (by decide +kernel)⟩
theorem mvX9_389 : xr_mv RX9 389 yX4_weigh cX4_weigh 4 3 none := ⟨m0X4_weigh, hp_pl 599 (by decide +kernel) rfl, hp_pl 600 (by decide +kernel) rfl, hp_pl 601 (by decide +kernel) rfl⟩
theorem mvX9_393 : xr_mv RX9 393 yX9_valueFromNow cX9_valueFromNow 1 0 (some .int) := ⟨m0X9_valueFromNow, hp_pl 846 (by decide +kernel) rfl, hp_pl 848 (by decide +kernel) rfl, hp_ps (n := 17) 35 (by decide +kernel)⟩
theorem mvX9_397 : xr_mv RX9 397 yX9_isScore cX9_isScore 4 2 (some .boolean) := ⟨m0X9_isScore, hp_pl 871 (by decide +kernel) rfl, hp_pl 873 (by decide +kernel) rfl, hp_ps (n := 17) 39 (by decide +kernel)⟩
theorem mvX9_400 : xr_mv RX9 400 yX4_valueOf cX4_valueOf 6 5 (some .int) := ⟨m0X4_valueOf, hp_pl 850 (by decide +kernel) rfl, hp_pl 851 (by decide +kernel) rfl, hp_pl 852 (by decide +kernel) rfl⟩
theorem mvX9_405 : xr_mv RX9 405 yX9_valueBehindSub cX9_valueBehindSub 5 3 (some .int) := ⟨m0X9_valueBehindSub, hp_pl 884 (by decide +kernel) rfl, hp_pl 886 (by decide +kernel) rfl, hp_ps (n := 17) 40 (by decide +kernel)⟩
theorem mvX9_408 : xr_mv RX9 408 yX9_offerSubs cX9_offerSubs 6 2 none := ⟨m0X9_offerSubs, hp_pl 893 (by decide +kernel) rfl, hp_pl 895 (by decide +kernel) rfl, hp_ps (n := 17) 41 (by decide +kernel)⟩
theorem mvX9_411 : xr_mv RX9 411 yX9_spreadFromNow cX9_spreadFromNow 1 0 none := ⟨m0X9_spreadFromNow, hp_pl 901 (by decide +kernel) rfl, hp_pl 903 (by decide +kernel) rfl, hp_ps (n := 17) 42 (by decide +kernel)⟩
theorem mvX9_414 : xr_mv RX9 414 yX4_reachedAt cX4_reachedAt 3 2 (some .long) := ⟨m0X4_reachedAt, hp_pl 918 (by decide +kernel) rfl, hp_pl 919 (by decide +kernel) rfl, hp_pl 920 (by decide +kernel) rfl⟩
theorem mvX9_428 : xr_mv RX9 428 yX4_spread cX4_spread 6 3 none := ⟨m0X4_spread, hp_pl 905 (by decide +kernel) rfl, hp_pl 906 (by decide +kernel) rfl, hp_pl 907 (by decide +kernel) rfl⟩
theorem mvX9_432 : xr_mv RX9 432 yX9_knowTable cX9_knowTable 1 0 none := ⟨m0X9_knowTable, hp_pl 936 (by decide +kernel) rfl, hp_pl 938 (by decide +kernel) rfl, hp_ps (n := 17) 44 (by decide +kernel)⟩
theorem mvX9_435 : xr_mv RX9 435 yX9_pickSafe cX9_pickSafe 4 1 none := ⟨m0X9_pickSafe, hp_pl 948 (by decide +kernel) rfl, hp_pl 950 (by decide +kernel) rfl, hp_ps (n := 17) 45 (by decide +kernel)⟩
theorem mvX9_438 : xr_mv RX9 438 yX9_pickReply cX9_pickReply 5 2 none := ⟨m0X9_pickReply, hp_pl 970 (by decide +kernel) rfl, hp_pl 972 (by decide +kernel) rfl, hp_ps (n := 17) 48 (by decide +kernel)⟩
theorem mvX9_441 : xr_mv RX9 441 yX9_valueSwapped cX9_valueSwapped 6 3 (some .int) := ⟨m0X9_valueSwapped, hp_pl 978 (by decide +kernel) rfl, hp_pl 980 (by decide +kernel) rfl, hp_ps (n := 17) 49 (by decide +kernel)⟩
theorem mvX9_444 : xr_mv RX9 444 yX9_offerSwaps cX9_offerSwaps 5 2 none := ⟨m0X9_offerSwaps, hp_pl 986 (by decide +kernel) rfl, hp_pl 988 (by decide +kernel) rfl, hp_ps (n := 17) 50 (by decide +kernel)⟩
theorem mvX9_451 : xr_mv RX9 451 yX4_fillTable cX4_fillTable 5 2 none := ⟨m0X4_fillTable, hp_pl 940 (by decide +kernel) rfl, hp_pl 941 (by decide +kernel) rfl, hp_pl 942 (by decide +kernel) rfl⟩
theorem mvX9_455 : xr_mv RX9 455 yX9_tableOf cX9_tableOf 4 3 (some .int) := ⟨m0X9_tableOf, hp_pl 956 (by decide +kernel) rfl, hp_pl 958 (by decide +kernel) rfl, hp_ps (n := 17) 47 (by decide +kernel)⟩
theorem mvX9_458 : xr_mv RX9 458 yX9_worstOf cX9_worstOf 6 2 (some .int) := ⟨m0X9_worstOf, hp_pl 952 (by decide +kernel) rfl, hp_pl 954 (by decide +kernel) rfl, hp_ps (n := 17) 46 (by decide +kernel)⟩
theorem mvX1_28 : xr_mv RX1 28 yX6_begin cX6_begin 3 2 none := ⟨m0X6_begin, hp_pl 512 (by decide +kernel) rfl, hp_pl 513 (by decide +kernel) rfl, hp_pl 514 (by decide +kernel) rfl⟩
theorem mvX1_43 : xr_mv RX1 43 yX6_copyFrom cX6_copyFrom 2 1 none := ⟨m0X6_copyFrom, hp_pl 650 (by decide +kernel) rfl, hp_pl 651 (by decide +kernel) rfl, hp_pl 652 (by decide +kernel) rfl⟩
theorem mvX1_51 : xr_mv RX1 51 yX1_team cX1_team 2 1 (some (.object "CourtSix$Side")) := ⟨m0X1_team, hp_pl 662 (by decide +kernel) rfl, hp_pl 576 (by decide +kernel) rfl, hp_pl 577 (by decide +kernel) rfl⟩
theorem mvX1_58 : xr_mv RX1 58 yX6_turnOnce cX6_turnOnce 3 0 none := ⟨m0X6_turnOnce, hp_pl 663 (by decide +kernel) rfl, hp_pl 664 (by decide +kernel) rfl, hp_pl 665 (by decide +kernel) rfl⟩
theorem mvX2_24 : xr_mn RX2 24 yX9_isFront cX9_isFront 1 1 (some .boolean) := ⟨m0X9_isFront, by decide +kernel, hp_pl 608 (by decide +kernel) rfl⟩
theorem mvX3_21 : xr_mv RX3 21 yX3_isPointOf cX3_isPointOf 4 3 (some .boolean) := ⟨m0X3_isPointOf, hp_pl 761 (by decide +kernel) rfl, hp_pl 763 (by decide +kernel) rfl, hp_ps (n := 3) 30 (by decide +kernel)⟩
theorem mvX3_31 : xr_mv RX3 31 yX3_runUpTo cX3_runUpTo 6 3 (some .int) := ⟨m0X3_runUpTo, hp_pl 769 (by decide +kernel) rfl, hp_pl 757 (by decide +kernel) rfl, hp_pl 758 (by decide +kernel) rfl⟩
theorem mvX3_35 : xr_mv RX3 35 yX0_offer cX0_offer 5 4 none := ⟨m0X0_offer, hp_pl 770 (by decide +kernel) rfl, hp_pl 771 (by decide +kernel) rfl, hp_pl 772 (by decide +kernel) rfl⟩
theorem mvX4_55 : xr_mv RX4 55 yX2_weigh cX2_weigh 6 2 none := ⟨m0X2_weigh, hp_pl 603 (by decide +kernel) rfl, hp_pl 604 (by decide +kernel) rfl, hp_pl 605 (by decide +kernel) rfl⟩
theorem mvX4_80 : xr_mv RX4 80 yX4_chanceOf cX4_chanceOf 6 3 (some .int) := ⟨m0X4_chanceOf, hp_pl 841 (by decide +kernel) rfl, hp_pl 783 (by decide +kernel) rfl, hp_pl 784 (by decide +kernel) rfl⟩
theorem mvX4_84 : xr_mv RX4 84 yX4_fillCycle cX4_fillCycle 8 3 none := ⟨m0X4_fillCycle, hp_pl 854 (by decide +kernel) rfl, hp_pl 856 (by decide +kernel) rfl, hp_ps (n := 10) 36 (by decide +kernel)⟩
theorem mvX4_88 : xr_mv RX4 88 yX4_fillValues cX4_fillValues 7 3 none := ⟨m0X4_fillValues, hp_pl 858 (by decide +kernel) rfl, hp_pl 860 (by decide +kernel) rfl, hp_ps (n := 10) 37 (by decide +kernel)⟩
theorem mvX4_91 : xr_ms RX4 91 yJ7_fill_53178 cJ7_fill_53178 4 2 none := ⟨m0J7_fill_53178, hp_pl 862 (by decide +kernel) rfl, hp_pl 524 (by decide +kernel) rfl⟩
theorem mvX4_97 : xr_mv RX4 97 yX4_fillCell cX4_fillCell 10 2 none := ⟨m0X4_fillCell, hp_pl 863 (by decide +kernel) rfl, hp_pl 865 (by decide +kernel) rfl, hp_ps (n := 10) 38 (by decide +kernel)⟩
theorem mvX4_101 : xr_ms RX4 101 yJ7_fill_d0a16 cJ7_fill_d0a16 5 2 none := ⟨m0J7_fill_d0a16, hp_pl 909 (by decide +kernel) rfl, hp_pl 910 (by decide +kernel) rfl⟩
theorem mvX4_106 : xr_mv RX4 106 yX4_spreadCell cX4_spreadCell 15 3 none := ⟨m0X4_spreadCell, hp_pl 913 (by decide +kernel) rfl, hp_pl 915 (by decide +kernel) rfl, hp_ps (n := 10) 43 (by decide +kernel)⟩
theorem mvX5_31 : xr_mv RX5 31 yX8_clear cX8_clear 1 0 none := ⟨m0X8_clear, hp_pl 404 (by decide +kernel) rfl, hp_pl 405 (by decide +kernel) rfl, hp_pl 406 (by decide +kernel) rfl⟩
theorem mvX5_36 : xr_mv RX5 36 yX5_advance cX5_advance 1 0 none := ⟨m0X5_advance, hp_pl 412 (by decide +kernel) rfl, hp_pl 414 (by decide +kernel) rfl, hp_ps (n := 9) 0 (by decide +kernel)⟩
theorem mvX5_42 : xr_mv RX5 42 yX5_readLine cX5_readLine 2 1 none := ⟨m0X5_readLine, hp_pl 444 (by decide +kernel) rfl, hp_pl 446 (by decide +kernel) rfl, hp_ps (n := 9) 3 (by decide +kernel)⟩
theorem mvX5_61 : xr_mv RX5 61 yX5_fail cX5_fail 2 1 none := ⟨m0X5_fail, hp_pl 452 (by decide +kernel) rfl, hp_pl 454 (by decide +kernel) rfl, hp_ps (n := 9) 5 (by decide +kernel)⟩
theorem mvX5_65 : xr_mv RX5 65 yX8_fillUntold cX8_fillUntold 1 0 none := ⟨m0X8_fillUntold, hp_pl 500 (by decide +kernel) rfl, hp_pl 501 (by decide +kernel) rfl, hp_pl 502 (by decide +kernel) rfl⟩
theorem mvX5_74 : xr_mv RX5 74 yX5_readSetting cX5_readSetting 4 3 (some .int) := ⟨m0X5_readSetting, hp_pl 448 (by decide +kernel) rfl, hp_pl 450 (by decide +kernel) rfl, hp_ps (n := 9) 4 (by decide +kernel)⟩
theorem mvX5_84 : xr_mv RX5 84 yX5_readPlayer cX5_readPlayer 7 2 none := ⟨m0X5_readPlayer, hp_pl 460 (by decide +kernel) rfl, hp_pl 462 (by decide +kernel) rfl, hp_ps (n := 9) 7 (by decide +kernel)⟩
theorem mvX5_88 : xr_mv RX5 88 yX5_readFree cX5_readFree 4 1 none := ⟨m0X5_readFree, hp_pl 472 (by decide +kernel) rfl, hp_pl 474 (by decide +kernel) rfl, hp_ps (n := 9) 8 (by decide +kernel)⟩
theorem mvX5_91 : xr_mv RX5 91 yX5_readStart cX5_readStart 6 1 none := ⟨m0X5_readStart, hp_pl 480 (by decide +kernel) rfl, hp_pl 482 (by decide +kernel) rfl, hp_ps (n := 9) 9 (by decide +kernel)⟩
theorem mvX5_94 : xr_mv RX5 94 yX5_readFirst cX5_readFirst 2 1 none := ⟨m0X5_readFirst, hp_pl 496 (by decide +kernel) rfl, hp_pl 498 (by decide +kernel) rfl, hp_ps (n := 9) 11 (by decide +kernel)⟩
theorem mvX5_97 : xr_mv RX5 97 yX5_numberHere cX5_numberHere 3 2 (some .int) := ⟨m0X5_numberHere, hp_pl 456 (by decide +kernel) rfl, hp_pl 458 (by decide +kernel) rfl, hp_ps (n := 9) 6 (by decide +kernel)⟩
theorem mvX5_102 : xr_mv RX5 102 yX7_find cX7_find 3 1 (some .int) := ⟨m0X7_find, hp_pl 464 (by decide +kernel) rfl, hp_pl 465 (by decide +kernel) rfl, hp_pl 466 (by decide +kernel) rfl⟩
theorem mvX5_106 : xr_mv RX5 106 yX7_add cX7_add 5 4 none := ⟨m0X7_add, hp_pl 468 (by decide +kernel) rfl, hp_pl 469 (by decide +kernel) rfl, hp_pl 470 (by decide +kernel) rfl⟩
theorem mvX5_113 : xr_mv RX5 113 yX7_isStarter cX7_isStarter 3 1 (some .boolean) := ⟨m0X7_isStarter, hp_pl 476 (by decide +kernel) rfl, hp_pl 477 (by decide +kernel) rfl, hp_pl 478 (by decide +kernel) rfl⟩
theorem mvX5_117 : xr_mv RX5 117 yX5_sideHere cX5_sideHere 1 0 (some .int) := ⟨m0X5_sideHere, hp_pl 484 (by decide +kernel) rfl, hp_pl 486 (by decide +kernel) rfl, hp_ps (n := 9) 10 (by decide +kernel)⟩
theorem mvX5_121 : xr_mv RX5 121 yX8_squad cX8_squad 2 1 (some (.object "CourtSix$Squad")) := ⟨m0X8_squad, hp_pl 488 (by decide +kernel) rfl, hp_pl 489 (by decide +kernel) rfl, hp_pl 490 (by decide +kernel) rfl⟩
theorem mvX5_125 : xr_mv RX5 125 yX7_place cX7_place 2 1 none := ⟨m0X7_place, hp_pl 492 (by decide +kernel) rfl, hp_pl 493 (by decide +kernel) rfl, hp_pl 494 (by decide +kernel) rfl⟩
theorem mvX5_135 : xr_ms RX5 135 yX5_isLetter cX5_isLetter 1 1 (some .boolean) := ⟨m0X5_isLetter, hp_pl 416 (by decide +kernel) rfl, hp_pl 417 (by decide +kernel) rfl⟩
theorem mvX5_138 : xr_mv RX5 138 yX5_takeWord cX5_takeWord 1 0 none := ⟨m0X5_takeWord, hp_pl 419 (by decide +kernel) rfl, hp_pl 421 (by decide +kernel) rfl, hp_ps (n := 9) 1 (by decide +kernel)⟩
theorem mvX5_141 : xr_ms RX5 141 yX5_isDigit cX5_isDigit 1 1 (some .boolean) := ⟨m0X5_isDigit, hp_pl 434 (by decide +kernel) rfl, hp_pl 435 (by decide +kernel) rfl⟩
theorem mvX5_144 : xr_mv RX5 144 yX5_takeNumber cX5_takeNumber 1 0 none := ⟨m0X5_takeNumber, hp_pl 437 (by decide +kernel) rfl, hp_pl 439 (by decide +kernel) rfl, hp_ps (n := 9) 2 (by decide +kernel)⟩
theorem mvX5_147 : xr_ms RX5 147 yX5_isKeyword cX5_isKeyword 1 1 (some .boolean) := ⟨m0X5_isKeyword, hp_pl 423 (by decide +kernel) rfl, hp_pl 424 (by decide +kernel) rfl⟩
theorem mvX6_41 : xr_ms RX6 41 yJ7_fill_53178 cJ7_fill_53178 4 2 none := ⟨m0J7_fill_53178, hp_pl 523 (by decide +kernel) rfl, hp_pl 524 (by decide +kernel) rfl⟩
theorem mvX6_64 : xr_mv RX6 64 yX6_spotOf cX6_spotOf 3 1 (some .int) := ⟨m0X6_spotOf, hp_pl 697 (by decide +kernel) rfl, hp_pl 623 (by decide +kernel) rfl, hp_pl 624 (by decide +kernel) rfl⟩
theorem mvX6_68 : xr_mv RX6 68 yX6_turnFree cX6_turnFree 1 0 none := ⟨m0X6_turnFree, hp_pl 667 (by decide +kernel) rfl, hp_pl 669 (by decide +kernel) rfl, hp_ps (n := 9) 23 (by decide +kernel)⟩
theorem mvX6_71 : xr_mn RX6 71 yX9_spotBehind cX9_spotBehind 2 2 (some .int) := ⟨m0X9_spotBehind, by decide +kernel, hp_pl 627 (by decide +kernel) rfl⟩
theorem mvX7_37 : xr_mv RX7 37 yX7_skill cX7_skill 2 1 (some .int) := ⟨m0X7_skill, hp_pl 560 (by decide +kernel) rfl, hp_pl 562 (by decide +kernel) rfl, hp_ps (n := 8) 15 (by decide +kernel)⟩
theorem mvX8_21 : xr_mv RX8 21 yX7_clear cX7_clear 1 0 none := ⟨m0X7_clear, hp_pl 408 (by decide +kernel) rfl, hp_pl 409 (by decide +kernel) rfl, hp_pl 410 (by decide +kernel) rfl⟩
theorem mvX10_75 : xr_mv RX10 75 yX10_here cX10_here 1 0 (some .int) := ⟨m0X10_here, hp_pl 1203 (by decide +kernel) rfl, hp_pl 1205 (by decide +kernel) rfl, hp_ps (n := 28) 55 (by decide +kernel)⟩
theorem mvX10_85 : xr_ms RX10 85 yX10_isSmall cX10_isSmall 1 1 (some .boolean) := ⟨m0X10_isSmall, hp_pl 1207 (by decide +kernel) rfl, hp_pl 1208 (by decide +kernel) rfl⟩
theorem mvX10_92 : xr_mv RX10 92 yX10_wordHere cX10_wordHere 4 0 (some .int) := ⟨m0X10_wordHere, hp_pl 1210 (by decide +kernel) rfl, hp_pl 1212 (by decide +kernel) rfl, hp_ps (n := 28) 56 (by decide +kernel)⟩
theorem mvX10_98 : xr_ms RX10 98 yX10_isDigit cX10_isDigit 1 1 (some .boolean) := ⟨m0X10_isDigit, hp_pl 1263 (by decide +kernel) rfl, hp_pl 1264 (by decide +kernel) rfl⟩
theorem mvX10_118 : xr_mv RX10 118 yX10_token cX10_token 2 0 none := ⟨m0X10_token, hp_pl 1199 (by decide +kernel) rfl, hp_pl 1201 (by decide +kernel) rfl, hp_ps (n := 28) 54 (by decide +kernel)⟩
theorem mvX10_121 : xr_mv RX10 121 yX10_wrong cX10_wrong 2 1 none := ⟨m0X10_wrong, hp_pl 1274 (by decide +kernel) rfl, hp_pl 1276 (by decide +kernel) rfl, hp_ps (n := 28) 59 (by decide +kernel)⟩
theorem mvX10_125 : xr_mv RX10 125 yX10_goOn cX10_goOn 1 0 none := ⟨m0X10_goOn, hp_pl 1278 (by decide +kernel) rfl, hp_pl 1280 (by decide +kernel) rfl, hp_ps (n := 28) 60 (by decide +kernel)⟩
theorem mvX10_128 : xr_mv RX10 128 yX10_isOther cX10_isOther 1 0 (some .boolean) := ⟨m0X10_isOther, hp_pl 1282 (by decide +kernel) rfl, hp_pl 1284 (by decide +kernel) rfl, hp_ps (n := 28) 61 (by decide +kernel)⟩
theorem mvX10_132 : xr_mv RX10 132 yX10_namedOf cX10_namedOf 3 1 (some .int) := ⟨m0X10_namedOf, hp_pl 1286 (by decide +kernel) rfl, hp_pl 1288 (by decide +kernel) rfl, hp_ps (n := 28) 62 (by decide +kernel)⟩
theorem mvX10_136 : xr_mv RX10 136 yX10_number cX10_number 4 2 (some .int) := ⟨m0X10_number, hp_pl 1290 (by decide +kernel) rfl, hp_pl 1292 (by decide +kernel) rfl, hp_ps (n := 28) 63 (by decide +kernel)⟩
theorem mvX10_140 : xr_mv RX10 140 yX10_sideHere cX10_sideHere 1 0 (some .int) := ⟨m0X10_sideHere, hp_pl 1306 (by decide +kernel) rfl, hp_pl 1308 (by decide +kernel) rfl, hp_ps (n := 28) 67 (by decide +kernel)⟩
theorem mvX10_143 : xr_mv RX10 143 yX10_readPlayer cX10_readPlayer 8 1 none := ⟨m0X10_readPlayer, hp_pl 1270 (by decide +kernel) rfl, hp_pl 1272 (by decide +kernel) rfl, hp_ps (n := 28) 58 (by decide +kernel)⟩
theorem mvX10_146 : xr_mv RX10 146 yX10_once cX10_once 2 1 none := ⟨m0X10_once, hp_pl 1294 (by decide +kernel) rfl, hp_pl 1296 (by decide +kernel) rfl, hp_ps (n := 28) 64 (by decide +kernel)⟩
theorem mvX10_149 : xr_mv RX10 149 yX10_readFree cX10_readFree 5 0 none := ⟨m0X10_readFree, hp_pl 1298 (by decide +kernel) rfl, hp_pl 1300 (by decide +kernel) rfl, hp_ps (n := 28) 65 (by decide +kernel)⟩
theorem mvX10_152 : xr_mv RX10 152 yX10_readStart cX10_readStart 6 0 none := ⟨m0X10_readStart, hp_pl 1302 (by decide +kernel) rfl, hp_pl 1304 (by decide +kernel) rfl, hp_ps (n := 28) 66 (by decide +kernel)⟩
theorem mvX10_155 : xr_mv RX10 155 yX10_begins cX10_begins 2 0 none := ⟨m0X10_begins, hp_pl 1195 (by decide +kernel) rfl, hp_pl 1197 (by decide +kernel) rfl, hp_ps (n := 28) 53 (by decide +kernel)⟩
theorem mvX10_158 : xr_mv RX10 158 yX10_readLine cX10_readLine 3 0 none := ⟨m0X10_readLine, hp_pl 1266 (by decide +kernel) rfl, hp_pl 1268 (by decide +kernel) rfl, hp_ps (n := 28) 57 (by decide +kernel)⟩
theorem mvX10_164 : xr_mv RX10 164 yX10_serveFirst cX10_serveFirst 3 0 none := ⟨m0X10_serveFirst, hp_pl 1310 (by decide +kernel) rfl, hp_pl 1312 (by decide +kernel) rfl, hp_ps (n := 28) 68 (by decide +kernel)⟩
theorem mvX10_167 : xr_ms RX10 167 yX10_two cX10_two 3 3 (some .int) := ⟨m0X10_two, hp_pl 1314 (by decide +kernel) rfl, hp_pl 1315 (by decide +kernel) rfl⟩
theorem mvX10_171 : xr_mv RX10 171 yX10_stands0 cX10_stands0 4 0 none := ⟨m0X10_stands0, hp_pl 1317 (by decide +kernel) rfl, hp_pl 1319 (by decide +kernel) rfl, hp_ps (n := 28) 69 (by decide +kernel)⟩
theorem mvX10_177 : xr_ms RX10 177 yX10_isFront cX10_isFront 1 1 (some .boolean) := ⟨m0X10_isFront, hp_pl 1321 (by decide +kernel) rfl, hp_pl 1322 (by decide +kernel) rfl⟩
theorem mvX10_180 : xr_mv RX10 180 yX10_isSide cX10_isSide 2 1 (some .boolean) := ⟨m0X10_isSide, hp_pl 1336 (by decide +kernel) rfl, hp_pl 1338 (by decide +kernel) rfl, hp_ps (n := 28) 71 (by decide +kernel)⟩
theorem mvX10_183 : xr_mv RX10 183 yX10_court cX10_court 3 2 (some .int) := ⟨m0X10_court, hp_pl 1348 (by decide +kernel) rfl, hp_pl 1350 (by decide +kernel) rfl, hp_ps (n := 28) 74 (by decide +kernel)⟩
theorem mvX10_186 : xr_mv RX10 186 yX10_isStarter cX10_isStarter 4 2 (some .boolean) := ⟨m0X10_isStarter, hp_pl 1356 (by decide +kernel) rfl, hp_pl 1358 (by decide +kernel) rfl, hp_ps (n := 28) 76 (by decide +kernel)⟩
theorem mvX10_190 : xr_mv RX10 190 yX10_mate cX10_mate 3 2 (some .int) := ⟨m0X10_mate, hp_pl 1360 (by decide +kernel) rfl, hp_pl 1362 (by decide +kernel) rfl, hp_ps (n := 28) 77 (by decide +kernel)⟩
theorem mvX10_193 : xr_mv RX10 193 yX10_isPlayer cX10_isPlayer 3 2 (some .boolean) := ⟨m0X10_isPlayer, hp_pl 1332 (by decide +kernel) rfl, hp_pl 1334 (by decide +kernel) rfl, hp_ps (n := 28) 70 (by decide +kernel)⟩
theorem mvX10_196 : xr_mv RX10 196 yX10_skill cX10_skill 4 3 (some .int) := ⟨m0X10_skill, hp_pl 1340 (by decide +kernel) rfl, hp_pl 1342 (by decide +kernel) rfl, hp_ps (n := 28) 72 (by decide +kernel)⟩
theorem mvX10_199 : xr_mv RX10 199 yX10_spotOf cX10_spotOf 4 2 (some .int) := ⟨m0X10_spotOf, hp_pl 1344 (by decide +kernel) rfl, hp_pl 1346 (by decide +kernel) rfl, hp_ps (n := 28) 73 (by decide +kernel)⟩
theorem mvX10_202 : xr_mv RX10 202 yX10_roleOf cX10_roleOf 3 2 (some .int) := ⟨m0X10_roleOf, hp_pl 1352 (by decide +kernel) rfl, hp_pl 1354 (by decide +kernel) rfl, hp_ps (n := 28) 75 (by decide +kernel)⟩
theorem mvX10_205 : xr_ms RX10 205 yX10_isSpot cX10_isSpot 1 1 (some .boolean) := ⟨m0X10_isSpot, hp_pl 1368 (by decide +kernel) rfl, hp_pl 1369 (by decide +kernel) rfl⟩
theorem mvX10_208 : xr_mv RX10 208 yX10_lined cX10_lined 4 2 (some .int) := ⟨m0X10_lined, hp_pl 1375 (by decide +kernel) rfl, hp_pl 1377 (by decide +kernel) rfl, hp_ps (n := 28) 78 (by decide +kernel)⟩
theorem mvX10_211 : xr_mv RX10 211 yX10_puts cX10_puts 4 3 none := ⟨m0X10_puts, hp_pl 1399 (by decide +kernel) rfl, hp_pl 1401 (by decide +kernel) rfl, hp_ps (n := 28) 82 (by decide +kernel)⟩
theorem mvX10_215 : xr_mv RX10 215 yX10_isOver cX10_isOver 1 0 (some .boolean) := ⟨m0X10_isOver, hp_pl 1387 (by decide +kernel) rfl, hp_pl 1389 (by decide +kernel) rfl, hp_ps (n := 28) 79 (by decide +kernel)⟩
theorem mvX10_218 : xr_mv RX10 218 yX10_keeps cX10_keeps 2 0 none := ⟨m0X10_keeps, hp_pl 1391 (by decide +kernel) rfl, hp_pl 1393 (by decide +kernel) rfl, hp_ps (n := 28) 80 (by decide +kernel)⟩
theorem mvX10_221 : xr_mv RX10 221 yX10_turns cX10_turns 4 1 none := ⟨m0X10_turns, hp_pl 1395 (by decide +kernel) rfl, hp_pl 1397 (by decide +kernel) rfl, hp_ps (n := 28) 81 (by decide +kernel)⟩
theorem mvX10_224 : xr_mv RX10 224 yX10_gone cX10_gone 3 2 (some .int) := ⟨m0X10_gone, hp_pl 1411 (by decide +kernel) rfl, hp_pl 1413 (by decide +kernel) rfl, hp_ps (n := 28) 84 (by decide +kernel)⟩
theorem mvX10_227 : xr_mv RX10 227 yX10_wrongSub cX10_wrongSub 7 3 (some .int) := ⟨m0X10_wrongSub, hp_pl 1407 (by decide +kernel) rfl, hp_pl 1409 (by decide +kernel) rfl, hp_ps (n := 28) 83 (by decide +kernel)⟩
theorem mvX10_230 : xr_mv RX10 230 yX10_changes cX10_changes 6 3 none := ⟨m0X10_changes, hp_pl 1415 (by decide +kernel) rfl, hp_pl 1417 (by decide +kernel) rfl, hp_ps (n := 28) 85 (by decide +kernel)⟩
theorem mvX10_233 : xr_ms RX10 233 yX10_isRear cX10_isRear 1 1 (some .boolean) := ⟨m0X10_isRear, hp_pl 1427 (by decide +kernel) rfl, hp_pl 1428 (by decide +kernel) rfl⟩
theorem mvX10_236 : xr_mv RX10 236 yX10_wrongMove cX10_wrongMove 4 2 (some .int) := ⟨m0X10_wrongMove, hp_pl 1423 (by decide +kernel) rfl, hp_pl 1425 (by decide +kernel) rfl, hp_ps (n := 28) 86 (by decide +kernel)⟩
theorem mvX10_239 : xr_mv RX10 239 yX10_moves cX10_moves 5 2 (some .int) := ⟨m0X10_moves, hp_pl 1430 (by decide +kernel) rfl, hp_pl 1432 (by decide +kernel) rfl, hp_ps (n := 28) 87 (by decide +kernel)⟩
theorem mvX10_242 : xr_mv RX10 242 yX10_stands cX10_stands 4 3 (some .int) := ⟨m0X10_stands, hp_pl 1442 (by decide +kernel) rfl, hp_pl 1444 (by decide +kernel) rfl, hp_ps (n := 28) 88 (by decide +kernel)⟩
theorem mvX10_247 : xr_mv RX10 247 yX10_isWrong cX10_isWrong 7 2 (some .boolean) := ⟨m0X10_isWrong, hp_pl 1450 (by decide +kernel) rfl, hp_pl 1452 (by decide +kernel) rfl, hp_ps (n := 28) 89 (by decide +kernel)⟩
theorem mvX10_250 : xr_mv RX10 250 yX10_sixWorth cX10_sixWorth 6 2 (some .int) := ⟨m0X10_sixWorth, hp_pl 1471 (by decide +kernel) rfl, hp_pl 1473 (by decide +kernel) rfl, hp_ps (n := 28) 92 (by decide +kernel)⟩
theorem mvX10_253 : xr_mv RX10 253 yX10_takesCourt cX10_takesCourt 3 0 none := ⟨m0X10_takesCourt, hp_pl 1463 (by decide +kernel) rfl, hp_pl 1465 (by decide +kernel) rfl, hp_ps (n := 28) 90 (by decide +kernel)⟩
theorem mvX10_256 : xr_mv RX10 256 yX10_chanceOf cX10_chanceOf 8 3 (some .int) := ⟨m0X10_chanceOf, hp_pl 1467 (by decide +kernel) rfl, hp_pl 1469 (by decide +kernel) rfl, hp_ps (n := 28) 91 (by decide +kernel)⟩
theorem mvX10_259 : xr_mv RX10 259 yX10_isTurn cX10_isTurn 2 1 (some .boolean) := ⟨m0X10_isTurn, hp_pl 1479 (by decide +kernel) rfl, hp_pl 1481 (by decide +kernel) rfl, hp_ps (n := 28) 93 (by decide +kernel)⟩
theorem mvX10_262 : xr_mv RX10 262 yX10_takesLines cX10_takesLines 3 0 none := ⟨m0X10_takesLines, hp_pl 1483 (by decide +kernel) rfl, hp_pl 1485 (by decide +kernel) rfl, hp_ps (n := 28) 94 (by decide +kernel)⟩
theorem mvX10_266 : xr_mv RX10 266 yX10_valueBy cX10_valueBy 12 5 (some .int) := ⟨m0X10_valueBy, hp_pl 1500 (by decide +kernel) rfl, hp_pl 1502 (by decide +kernel) rfl, hp_ps (n := 28) 97 (by decide +kernel)⟩
theorem mvX10_270 : xr_ms RX10 270 yX10_at cX10_at 5 5 (some .int) := ⟨m0X10_at, hp_pl 1504 (by decide +kernel) rfl, hp_pl 1505 (by decide +kernel) rfl⟩
theorem mvX10_274 : xr_mv RX10 274 yX10_laysValues cX10_laysValues 5 0 none := ⟨m0X10_laysValues, hp_pl 1495 (by decide +kernel) rfl, hp_pl 1497 (by decide +kernel) rfl, hp_ps (n := 28) 96 (by decide +kernel)⟩
theorem mvX10_277 : xr_mv RX10 277 yX10_valueNow cX10_valueNow 1 0 (some .int) := ⟨m0X10_valueNow, hp_pl 1491 (by decide +kernel) rfl, hp_pl 1493 (by decide +kernel) rfl, hp_ps (n := 28) 95 (by decide +kernel)⟩
theorem mvX10_280 : xr_mv RX10 280 yX10_arePoints cX10_arePoints 4 2 (some .boolean) := ⟨m0X10_arePoints, hp_pl 1512 (by decide +kernel) rfl, hp_pl 1514 (by decide +kernel) rfl, hp_ps (n := 28) 98 (by decide +kernel)⟩
theorem mvX10_283 : xr_mv RX10 283 yX10_takesStart cX10_takesStart 2 0 none := ⟨m0X10_takesStart, hp_pl 1524 (by decide +kernel) rfl, hp_pl 1526 (by decide +kernel) rfl, hp_ps (n := 28) 100 (by decide +kernel)⟩
theorem mvX10_286 : xr_mv RX10 286 yX10_laysTable cX10_laysTable 1 0 none := ⟨m0X10_laysTable, hp_pl 1520 (by decide +kernel) rfl, hp_pl 1522 (by decide +kernel) rfl, hp_ps (n := 28) 99 (by decide +kernel)⟩
theorem mvX10_289 : xr_mv RX10 289 yX10_tableAt cX10_tableAt 3 2 (some .int) := ⟨m0X10_tableAt, hp_pl 1528 (by decide +kernel) rfl, hp_pl 1530 (by decide +kernel) rfl, hp_ps (n := 28) 101 (by decide +kernel)⟩
theorem mvX10_300 : xr_mv RX10 300 yX10_worstOf cX10_worstOf 6 2 (some .int) := ⟨m0X10_worstOf, hp_pl 1540 (by decide +kernel) rfl, hp_pl 1542 (by decide +kernel) rfl, hp_ps (n := 28) 103 (by decide +kernel)⟩
theorem mvX10_303 : xr_mv RX10 303 yX10_safeOf cX10_safeOf 5 1 (some .int) := ⟨m0X10_safeOf, hp_pl 1536 (by decide +kernel) rfl, hp_pl 1538 (by decide +kernel) rfl, hp_ps (n := 28) 102 (by decide +kernel)⟩
theorem mvX10_307 : xr_mv RX10 307 yX10_valueBehind cX10_valueBehind 6 3 (some .int) := ⟨m0X10_valueBehind, hp_pl 1563 (by decide +kernel) rfl, hp_pl 1565 (by decide +kernel) rfl, hp_ps (n := 28) 104 (by decide +kernel)⟩
theorem mvX10_310 : xr_mv RX10 310 yX10_linedAt cX10_linedAt 4 2 (some .int) := ⟨m0X10_linedAt, hp_pl 1583 (by decide +kernel) rfl, hp_pl 1585 (by decide +kernel) rfl, hp_ps (n := 28) 105 (by decide +kernel)⟩
theorem mvX10_315 : xr_mv RX10 315 yX10_goesOn cX10_goesOn 12 5 none := ⟨m0X10_goesOn, hp_pl 1612 (by decide +kernel) rfl, hp_pl 1614 (by decide +kernel) rfl, hp_ps (n := 28) 107 (by decide +kernel)⟩
theorem mvX10_319 : xr_mv RX10 319 yX10_laysWays cX10_laysWays 4 0 none := ⟨m0X10_laysWays, hp_pl 1607 (by decide +kernel) rfl, hp_pl 1609 (by decide +kernel) rfl, hp_ps (n := 28) 106 (by decide +kernel)⟩
theorem mvX10_322 : xr_mv RX10 322 yX10_allAt cX10_allAt 6 2 (some .long) := ⟨m0X10_allAt, hp_pl 1616 (by decide +kernel) rfl, hp_pl 1618 (by decide +kernel) rfl, hp_ps (n := 28) 108 (by decide +kernel)⟩
theorem mvX10_330 : xr_mv RX10 330 yX10_swapped cX10_swapped 7 3 (some .int) := ⟨m0X10_swapped, hp_pl 1642 (by decide +kernel) rfl, hp_pl 1644 (by decide +kernel) rfl, hp_ps (n := 28) 109 (by decide +kernel)⟩
theorem mvX10_333 : xr_mv RX10 333 yX10_sumOf cX10_sumOf 3 2 (some .int) := ⟨m0X10_sumOf, hp_pl 1654 (by decide +kernel) rfl, hp_pl 1656 (by decide +kernel) rfl, hp_ps (n := 28) 110 (by decide +kernel)⟩
theorem mvX10_336 : xr_mv RX10 336 yX10_isOwn cX10_isOwn 2 1 (some .boolean) := ⟨m0X10_isOwn, hp_pl 1670 (by decide +kernel) rfl, hp_pl 1672 (by decide +kernel) rfl, hp_ps (n := 28) 112 (by decide +kernel)⟩
theorem mvX10_339 : xr_mv RX10 339 yX10_runNow cX10_runNow 4 0 (some .int) := ⟨m0X10_runNow, hp_pl 1666 (by decide +kernel) rfl, hp_pl 1668 (by decide +kernel) rfl, hp_ps (n := 28) 111 (by decide +kernel)⟩
theorem mvX10_342 : xr_mv RX10 342 yX10_goesOnRun cX10_goesOnRun 2 1 (some .boolean) := ⟨m0X10_goesOnRun, hp_pl 1674 (by decide +kernel) rfl, hp_pl 1676 (by decide +kernel) rfl, hp_ps (n := 28) 113 (by decide +kernel)⟩
theorem kcX4_79 : Cond.constant RX4 79 (1000000 : Int32) ∈ hp_GL := hp_pl 840 (by decide +kernel) rfl
theorem kcX5_131 : Cond.constant RX5 131 (513619 : Int32) ∈ hp_GL := hp_pl 429 (by decide +kernel) rfl
theorem kcX5_132 : Cond.constant RX5 132 (679650899 : Int32) ∈ hp_GL := hp_pl 430 (by decide +kernel) rfl
theorem kcX5_155 : Cond.constant RX5 155 (552909459 : Int32) ∈ hp_GL := hp_pl 426 (by decide +kernel) rfl
theorem kcX5_156 : Cond.constant RX5 156 (644179 : Int32) ∈ hp_GL := hp_pl 427 (by decide +kernel) rfl
theorem kcX5_157 : Cond.constant RX5 157 (168165 : Int32) ∈ hp_GL := hp_pl 428 (by decide +kernel) rfl
theorem kcX5_158 : Cond.constant RX5 158 (215205 : Int32) ∈ hp_GL := hp_pl 431 (by decide +kernel) rfl
theorem kcX5_159 : Cond.constant RX5 159 (20579924 : Int32) ∈ hp_GL := hp_pl 432 (by decide +kernel) rfl
theorem kcX5_160 : Cond.constant RX5 160 (6605428 : Int32) ∈ hp_GL := hp_pl 433 (by decide +kernel) rfl
theorem kcX9_404 : Cond.constant RX9 404 (-2000000 : Int32) ∈ hp_GL := hp_pl 879 (by decide +kernel) rfl
theorem kcX10_265 : Cond.constant RX10 265 (1000000 : Int32) ∈ hp_GL := hp_pl 1499 (by decide +kernel) rfl
theorem kcX10_306 : Cond.constant RX10 306 (-2000000 : Int32) ∈ hp_GL := hp_pl 1558 (by decide +kernel) rfl
theorem kcX10_48 : Cond.constant RX10 48 (48672 : Int32) ∈ hp_GL := hp_pl 1096 (by decide +kernel) rfl
theorem klX4_104 : Cond.constantLong RX4 104 (1000000000000 : Int64) ∈ hp_GL := hp_pl 912 (by decide +kernel) rfl
theorem klX4_109 : Cond.constantLong RX4 109 (1000 : Int64) ∈ hp_GL := hp_pl 917 (by decide +kernel) rfl
theorem klX9_418 : Cond.constantLong RX9 418 (1000000 : Int64) ∈ hp_GL := hp_pl 922 (by decide +kernel) rfl
theorem klX9_420 : Cond.constantLong RX9 420 (10000000000 : Int64) ∈ hp_GL := hp_pl 931 (by decide +kernel) rfl
theorem klX10_272 : Cond.constantLong RX10 272 (1000 : Int64) ∈ hp_GL := hp_pl 1507 (by decide +kernel) rfl
theorem klX10_313 : Cond.constantLong RX10 313 (1000000000000 : Int64) ∈ hp_GL := hp_pl 1611 (by decide +kernel) rfl
theorem klX10_326 : Cond.constantLong RX10 326 (1000000 : Int64) ∈ hp_GL := hp_pl 1620 (by decide +kernel) rfl
theorem klX10_328 : Cond.constantLong RX10 328 (10000000000 : Int64) ∈ hp_GL := hp_pl 1629 (by decide +kernel) rfl
theorem cpX6_29 : Cond.methodLink RX6 29 arraycopyName ∈ hp_GL ∧ Cond.native arraycopyName ∈ hp_GL ∧ Cond.static arraycopyName ∈ hp_GL ∧ Cond.initialized "java/lang/System" ∈ hp_GL := ⟨hp_pl 516 (by decide +kernel) rfl, hp_pl 518 (by decide +kernel) rfl, hp_pl 517 (by decide +kernel) rfl, hp_pl 13 (by decide +kernel) rfl⟩
theorem cpX9_422 : Cond.methodLink RX9 422 arraycopyName ∈ hp_GL ∧ Cond.native arraycopyName ∈ hp_GL ∧ Cond.static arraycopyName ∈ hp_GL ∧ Cond.initialized "java/lang/System" ∈ hp_GL := ⟨hp_pl 888 (by decide +kernel) rfl, hp_pl 518 (by decide +kernel) rfl, hp_pl 517 (by decide +kernel) rfl, hp_pl 13 (by decide +kernel) rfl⟩
theorem gsX6_35 : (RX6, 35, "FIRST_X") ∈ hp_nf := by decide +kernel
theorem gsX6_38 : (RX6, 38, "FIRST_Y") ∈ hp_nf := by decide +kernel
theorem gsX9_345 : Cond.fieldLink RX9 345 "CourtSix" "COUPLE_FIRST" "[I" ∈ hp_GL := hp_pl 744 (by decide +kernel) rfl
theorem gsX9_348 : Cond.fieldLink RX9 348 "CourtSix" "COUPLE_SECOND" "[I" ∈ hp_GL := hp_pl 746 (by decide +kernel) rfl
theorem gsX9_360 : Cond.fieldLink RX9 360 "CourtSix" "REAR" "[I" ∈ hp_GL := hp_pl 805 (by decide +kernel) rfl
theorem mmX3_25 : Cond.methodLink RX3 25 Lib.Math.min.name ∈ hp_GL ∧ Cond.static Lib.Math.min.name ∈ hp_GL ∧ Cond.initialized "java/lang/Math" ∈ hp_GL ∧ Cond.code Lib.Math.min.name Lib.Math.min.code 2 (some .int) ∈ hp_GL := ⟨hp_pl 760 (by decide +kernel) rfl, hp_pl 442 (by decide +kernel) rfl, hp_pl 12 (by decide +kernel) rfl, hp_pl 443 (by decide +kernel) rfl⟩
theorem mmX4_70 : Cond.methodLink RX4 70 Lib.Math.min.name ∈ hp_GL ∧ Cond.static Lib.Math.min.name ∈ hp_GL ∧ Cond.initialized "java/lang/Math" ∈ hp_GL ∧ Cond.code Lib.Math.min.name Lib.Math.min.code 2 (some .int) ∈ hp_GL := ⟨hp_pl 786 (by decide +kernel) rfl, hp_pl 442 (by decide +kernel) rfl, hp_pl 12 (by decide +kernel) rfl, hp_pl 443 (by decide +kernel) rfl⟩
theorem mmX4_76 : Cond.methodLink RX4 76 Lib.Math.max.name ∈ hp_GL ∧ Cond.static Lib.Math.max.name ∈ hp_GL ∧ Cond.initialized "java/lang/Math" ∈ hp_GL ∧ Cond.code Lib.Math.max.name Lib.Math.max.code 2 (some .int) ∈ hp_GL := ⟨hp_pl 787 (by decide +kernel) rfl, hp_pl 788 (by decide +kernel) rfl, hp_pl 12 (by decide +kernel) rfl, hp_pl 789 (by decide +kernel) rfl⟩
theorem mmX5_150 : Cond.methodLink RX5 150 Lib.Math.min.name ∈ hp_GL ∧ Cond.static Lib.Math.min.name ∈ hp_GL ∧ Cond.initialized "java/lang/Math" ∈ hp_GL ∧ Cond.code Lib.Math.min.name Lib.Math.min.code 2 (some .int) ∈ hp_GL := ⟨hp_pl 441 (by decide +kernel) rfl, hp_pl 442 (by decide +kernel) rfl, hp_pl 12 (by decide +kernel) rfl, hp_pl 443 (by decide +kernel) rfl⟩
theorem mmX9_461 : Cond.methodLink RX9 461 Lib.Math.min.name ∈ hp_GL ∧ Cond.static Lib.Math.min.name ∈ hp_GL ∧ Cond.initialized "java/lang/Math" ∈ hp_GL ∧ Cond.code Lib.Math.min.name Lib.Math.min.code 2 (some .int) ∈ hp_GL := ⟨hp_pl 960 (by decide +kernel) rfl, hp_pl 442 (by decide +kernel) rfl, hp_pl 12 (by decide +kernel) rfl, hp_pl 443 (by decide +kernel) rfl⟩
theorem mmX9_466 : Cond.methodLink RX9 466 Lib.Math.max.name ∈ hp_GL ∧ Cond.static Lib.Math.max.name ∈ hp_GL ∧ Cond.initialized "java/lang/Math" ∈ hp_GL ∧ Cond.code Lib.Math.max.name Lib.Math.max.code 2 (some .int) ∈ hp_GL := ⟨hp_pl 961 (by decide +kernel) rfl, hp_pl 788 (by decide +kernel) rfl, hp_pl 12 (by decide +kernel) rfl, hp_pl 789 (by decide +kernel) rfl⟩
theorem mmX10_292 : Cond.methodLink RX10 292 Lib.Math.min.name ∈ hp_GL ∧ Cond.static Lib.Math.min.name ∈ hp_GL ∧ Cond.initialized "java/lang/Math" ∈ hp_GL ∧ Cond.code Lib.Math.min.name Lib.Math.min.code 2 (some .int) ∈ hp_GL := ⟨hp_pl 1544 (by decide +kernel) rfl, hp_pl 442 (by decide +kernel) rfl, hp_pl 12 (by decide +kernel) rfl, hp_pl 443 (by decide +kernel) rfl⟩
theorem mmX10_297 : Cond.methodLink RX10 297 Lib.Math.max.name ∈ hp_GL ∧ Cond.static Lib.Math.max.name ∈ hp_GL ∧ Cond.initialized "java/lang/Math" ∈ hp_GL ∧ Cond.code Lib.Math.max.name Lib.Math.max.code 2 (some .int) ∈ hp_GL := ⟨hp_pl 1545 (by decide +kernel) rfl, hp_pl 788 (by decide +kernel) rfl, hp_pl 12 (by decide +kernel) rfl, hp_pl 789 (by decide +kernel) rfl⟩
