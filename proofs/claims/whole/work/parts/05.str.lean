section XS
variable {l : Launch} {G : xr_G} {K : xr_K} {cc : ByteArray} {own : String} {nL : Nat} {rm : Room} {ret : Option FieldType} {Qc : Option xr_Q} {h : hp_T} {lv lv' : List (Nat × Value)} {pc : Nat} {st : List Value}
theorem xr_gsC (C : xr_C G K cc own nL rm ret Qc) {index : Nat} (f : Cond.fieldLink own index "java/lang/String" "COMPACT_STRINGS" "Z" ∈ hp_GL) (d : decode cc pc = .ok (.getstatic index, 3)) (k0 : xr_j l G K nL h lv (pc + 3) (.int 1 :: st)) : xr_j l G K nL h lv pc st := by
  obtain ⟨p, e, R, s, m, args, below, meth, c, Q, kc, ks⟩ := K
  obtain ⟨D, cA, ad, A, zt⟩ := G
  obtain ⟨hx, hb, hml, hown, hts, hK, hD, hZ, hR, hr, hlocks, hcs, hQ⟩ := C
  intro hT H locs ls hP hS hl
  exact va_gets hx hb hZ.2.2.2.2.2.1 hS hown (hts _ f) (fun x hx => hx) d (k0 hT H locs ls hP hS hl)
theorem xr_gsF (C : xr_C G K cc own nL rm ret Qc) {index : Nat} (f : Cond.fieldLink own index "jdk/internal/util/Preconditions" "SIOOBE_FORMATTER" "Ljava/util/function/BiFunction;" ∈ hp_GL) (d : decode cc pc = .ok (.getstatic index, 3)) (k0 : ∀ v : Value, v.category = 1 → xr_j l G K nL h lv (pc + 3) (v :: st)) : xr_j l G K nL h lv pc st := by
  obtain ⟨p, e, R, s, m, args, below, meth, c, Q, kc, ks⟩ := K
  obtain ⟨D, cA, ad, A, zt⟩ := G
  obtain ⟨hx, hb, hml, hown, hts, hK, hD, hZ, hR, hr, hlocks, hcs, hQ⟩ := C
  intro hT H locs ls hP hS hl
  rcases hZ.2.2.2.2.2.2 with z | ⟨t, z⟩
  · exact va_gets hx hb z hS hown (hts _ f) (fun x hx => hx) d (k0 _ rfl hT H locs ls hP hS hl)
  · exact va_gets hx hb z hS hown (hts _ f) (fun x hx => hx) d (k0 _ rfl hT H locs ls hP hS hl)
theorem xr_scoder (C : xr_C G K cc own nL rm ret Qc) {index : Nat} (i : Nat) (hi : i < 2) (f : Cond.fieldLink own index "java/lang/String" "coder" "B" ∈ hp_GL) (d : decode cc pc = .ok (.getfield index, 3)) (k0 : xr_j l G K nL h lv (pc + 3) (.int 0 :: st)) : xr_j l G K nL h lv pc (.ref (G.2.2.2.2 (10 + i)) :: st) := by
  obtain ⟨p, e, R, s, m, args, below, meth, c, Q, kc, ks⟩ := K
  obtain ⟨D, cA, ad, A, zt⟩ := G
  obtain ⟨hx, hb, hml, hown, hts, hK, hD, hZ, hR, hr, hlocks, hcs, hQ⟩ := C
  intro hT H locs ls hP hS hl
  exact vk_getf hx hb (hZ.2.2.1.1 i hi).2.1 hS hown (hts _ f) (fun x hx => hx) d (k0 hT H locs ls hP hS hl)
theorem xr_sval (C : xr_C G K cc own nL rm ret Qc) {index : Nat} (i : Nat) (hi : i < 2) (f : Cond.fieldLink own index "java/lang/String" "value" "[B" ∈ hp_GL) (d : decode cc pc = .ok (.getfield index, 3)) (k0 : xr_j l G K nL h lv (pc + 3) (.ref (G.2.2.2.2 (20 + i)) :: st)) : xr_j l G K nL h lv pc (.ref (G.2.2.2.2 (10 + i)) :: st) := by
  obtain ⟨p, e, R, s, m, args, below, meth, c, Q, kc, ks⟩ := K
  obtain ⟨D, cA, ad, A, zt⟩ := G
  obtain ⟨hx, hb, hml, hown, hts, hK, hD, hZ, hR, hr, hlocks, hcs, hQ⟩ := C
  intro hT H locs ls hP hS hl
  exact vk_getf hx hb (hZ.2.2.1.1 i hi).2.2.1 hS hown (hts _ f) (fun x hx => hx) d (k0 hT H locs ls hP hS hl)
theorem xr_blen (C : xr_C G K cc own nL rm ret Qc) {v : Int32} (i : Nat) (hi : i < 2) (d : decode cc pc = .ok (.arraylength, 1)) (hv : Int32.ofNat (hp_Sl.getD i 0) = v) (k0 : xr_j l G K nL h lv (pc + 1) (.int v :: st)) : xr_j l G K nL h lv pc (.ref (G.2.2.2.2 (20 + i)) :: st) := by
  obtain ⟨p, e, R, s, m, args, below, meth, c, Q, kc, ks⟩ := K
  obtain ⟨D, cA, ad, A, zt⟩ := G
  obtain ⟨hx, hb, hml, hown, hts, hK, hD, hZ, hR, hr, hlocks, hcs, hQ⟩ := C
  intro hT H locs ls hP hS hl
  exact va_tlen hx hb (hZ.2.2.1.1 i hi).2.2.2 hS hv d (k0 hT H locs ls hP hS hl)
theorem xr_bald (C : xr_C G K cc own nL rm ret Qc) {x : Int32} (i : Nat) (hi : i < 2) (d : decode cc pc = .ok (.baload, 1)) (hin : fx_in x (hp_Sl.getD i 0)) (k0 : xr_j l G K nL h lv (pc + 1) (.int (hp_st i (fx_ix x)) :: st)) : xr_j l G K nL h lv pc (.int x :: .ref (G.2.2.2.2 (20 + i)) :: st) := by
  obtain ⟨p, e, R, s, m, args, below, meth, c, Q, kc, ks⟩ := K
  obtain ⟨D, cA, ad, A, zt⟩ := G
  obtain ⟨hx, hb, hml, hown, hts, hK, hD, hZ, hR, hr, hlocks, hcs, hQ⟩ := C
  intro hT H locs ls hP hS hl
  exact va_tb hx hb (hZ.2.2.1.1 i hi).2.2.2 hS (fx_vin hin) rfl d (k0 hT H locs ls hP hS hl)
theorem xr_i2c (C : xr_C G K cc own nL rm ret Qc) {x : Int32} (d : decode cc pc = .ok (.i2c, 1)) (k0 : xr_j l G K nL h lv (pc + 1) (.int (x.toUInt32 % 65536).toInt32 :: st)) : xr_j l G K nL h lv pc (.int x :: st) := by
  obtain ⟨p, e, R, s, m, args, below, meth, c, Q, kc, ks⟩ := K
  obtain ⟨D, cA, ad, A, zt⟩ := G
  obtain ⟨hx, hb, hml, hown, hts, hK, hD, hZ, hR, hr, hlocks, hcs, hQ⟩ := C
  intro hT H locs ls hP hS hl
  exact lv_i2c hx hb d rfl (k0 hT H locs ls hP hS hl)
theorem xr_vload_n (C : xr_C G K cc own nL rm ret Qc) {q : Fin 4} {i x : Nat} (b : Nat) (d : decode cc pc = .ok (.aload_n q, 1)) (hi : (q : Nat) = i) (hk : lv[b]? = some (i, .ref x)) (k : xr_j l G K nL h lv (pc + 1) (.ref x :: st)) : xr_j l G K nL h lv pc st := by
  obtain ⟨p, e, R, s, m, args, below, meth, c, Q, kc, ks⟩ := K
  obtain ⟨D, cA, ad, A, zt⟩ := G
  obtain ⟨hx, hb, hml, hown, hts, hK, hD, hZ, hR, hr, hlocks, hcs, hQ⟩ := C
  intro hT H locs ls hP hS hl
  exact lv_aload_n hx hb d hi (lv_at hl b hk) (k hT H locs ls hP hS hl)
theorem xr_nret {r : Int32} {ty : FieldType} (C : xr_C G K cc own nL rm (some ty) (some (xr_Qi G r h))) (hn : narrow ty (.int r) = .int r) (d : decode cc pc = .ok (.ireturn, 1)) : xr_j l G K nL h lv pc [.int r] := by
  obtain ⟨p, e, R, s, m, args, below, meth, c, Q, kc, ks⟩ := K
  obtain ⟨D, cA, ad, A, zt⟩ := G
  obtain ⟨hx, hb, hml, hown, hts, hK, hD, hZ, hR, hr, hlocks, hcs, hQ⟩ := C
  intro hT H locs ls hP hS hl
  have hW9 : ∀ t : State, t.heap = H → s.WarmedH t.vm → hp_W (D, cA, ad, A, zt) h t := fun t ht hW => ⟨by rw [ht]; exact hP, va_K.moved hW.alike hK, hD h, hp_Z.moved hW (by rw [ht]; exact hp_Z.kept hZ (fun q h1 h2 => hS.2.1 q h1 h2)), hT⟩
  obtain ⟨hQ, hq1, hq2⟩ := hQ _ rfl
  dsimp only at hQ hr hlocks hZ hK hD hP hS hq1 hq2 ⊢
  subst hQ
  subst hq1
  subst hq2
  exact W.zret hx hb hr hn (fun t ht hW => ⟨⟨r, (), rfl, rfl, hW9 t ht hW⟩, hS.F ht⟩) hS.2.2 d
theorem xr_callT (C : xr_C G K cc own nL rm ret Qc) {index n nL2 : Nat} {y : MethodName} {cc2 : ByteArray} {ret2 : Option FieldType} {rm2 : Room} {h1 : hp_T} {r : Int32} (f : xr_mv own index y cc2 nL2 n ret2) (i : Nat) (hi : i < 2) (hy : y.cls = "java/lang/String") (As rest : List Value) (hM : xr_M l G y cc2 nL2 rm2 ret2 (.ref (G.2.2.2.2 (10 + i)) :: As) h (xr_Qi G r h1)) (hn : As.length = n) (hrm : xr_rm rm rm2 nL2) (hst : st = As.reverse ++ .ref (G.2.2.2.2 (10 + i)) :: rest) (hw0 : (rest.map fun v => v.category).sum ≤ 8) (d : decode cc pc = .ok (.invokevirtual index, 3)) (k : xr_j l G K nL h1 lv (pc + 3) (.int r :: rest)) : xr_j l G K nL h lv pc st := by
  obtain ⟨p, e, R, s, m, args, below, meth, c, Q, kc, ks⟩ := K
  obtain ⟨D, cA, ad, A, zt⟩ := G
  obtain ⟨hx, hb, hml, hown, hts, hK, hD, hZ, hR, hr, hlocks, hcs, hQ⟩ := C
  intro hT H locs ls hP hS hl
  have hpre : ∀ U : State, U.heap = H → s.WarmedH U.vm → hp_W (D, cA, ad, A, zt) h U := fun U hU hW => ⟨by rw [hU]; exact hP, va_K.moved hW.alike hK, hD h, hp_Z.moved hW (by rw [hU]; exact hp_Z.kept hZ (fun q h1 h2 => hS.2.1 q h1 h2)), hT⟩
  dsimp only at hR
  dsimp only at hcs
  subst hR
  obtain ⟨hr1, hr2, hr3, hr4⟩ := hrm
  obtain ⟨⟨f1, f2, f3, f4, f5⟩, f6, f7, f8⟩ := f
  have hrecv := vk_recv hZ.2.2.1 hi hS
  rw [← hy] at hrecv
  have hcw : CallW R s args own y.cls index y cc2 nL2 ret2 (Cond.code y cc2 nL2 ret2 :: hp_GL) rm2 0 0 n := ⟨callB_of n hts (hp_goodG f2) rfl hr1 hr2 (hts _ f1) (hts _ f6) ⟨f3, f4, f5⟩ ⟨hr3, hr4⟩, hts _ f7, hts _ f8⟩
  subst hst
  refine va_calli (va_runV (As := As) (rest := rest) ⟨hx, hb, hml, hown, hts⟩ hM hcw ⟨xr_blind _ _ _, hrecv, fun U hU hW => ⟨rfl, hpre U hU hW⟩⟩ rfl hn hl.1 rfl (lv_room hw0) d ⟨hcs.1, hcs.2⟩) hS (fun q _ z => z) (fun q z => z) (fun r2 u t H1 locs1 ht hvm hw hB hz1 hk1 hS1 => ?_)
  obtain rfl : r2 = r := hw
  obtain ⟨hP1, hK1, hD1, hZ1, hT1⟩ := hB
  rw [ht] at hP1
  exact k hT1 H1 locs1 ls hP1 hS1 hl
end XS
theorem m0J3_checkIndex_8e157 : xr_m0 yJ3_checkIndex_8e157 cJ3_checkIndex_8e157 3 3 (some .int) := ⟨(hp_pl 17 (by decide +kernel) rfl), (hp_pl 1243 (by decide +kernel) rfl), by decide +kernel, by decide +kernel, by decide +kernel⟩
theorem dJ3_checkIndex_8e157_0 : decode cJ3_checkIndex_8e157 0 = .ok (.iload_n 0, 1) := by decide +kernel
theorem dJ3_checkIndex_8e157_1 : decode cJ3_checkIndex_8e157 1 = .ok (.ifCond .lt 8, 3) := by decide +kernel
theorem dJ3_checkIndex_8e157_4 : decode cJ3_checkIndex_8e157 4 = .ok (.iload_n 0, 1) := by decide +kernel
theorem dJ3_checkIndex_8e157_5 : decode cJ3_checkIndex_8e157 5 = .ok (.iload_n 1, 1) := by decide +kernel
theorem dJ3_checkIndex_8e157_6 : decode cJ3_checkIndex_8e157 6 = .ok (.if_icmp .lt 10, 3) := by decide +kernel
theorem dJ3_checkIndex_8e157_9 : decode cJ3_checkIndex_8e157 9 = .ok (.aload_n 2, 1) := by decide +kernel
theorem dJ3_checkIndex_8e157_10 : decode cJ3_checkIndex_8e157 10 = .ok (.iload_n 0, 1) := by decide +kernel
theorem dJ3_checkIndex_8e157_11 : decode cJ3_checkIndex_8e157 11 = .ok (.iload_n 1, 1) := by decide +kernel
theorem dJ3_checkIndex_8e157_12 : decode cJ3_checkIndex_8e157 12 = .ok (.invokestatic 95, 3) := by decide +kernel
theorem dJ3_checkIndex_8e157_15 : decode cJ3_checkIndex_8e157 15 = .ok (.athrow, 1) := by decide +kernel
theorem dJ3_checkIndex_8e157_16 : decode cJ3_checkIndex_8e157 16 = .ok (.iload_n 0, 1) := by decide +kernel
theorem dJ3_checkIndex_8e157_17 : decode cJ3_checkIndex_8e157 17 = .ok (.ireturn, 1) := by decide +kernel
theorem m0J0_checkIndex_df160 : xr_m0 yJ0_checkIndex_df160 cJ0_checkIndex_df160 2 2 none := ⟨(hp_pl 15 (by decide +kernel) rfl), (hp_pl 1238 (by decide +kernel) rfl), by decide +kernel, by decide +kernel, by decide +kernel⟩
theorem dJ0_checkIndex_df160_0 : decode cJ0_checkIndex_df160 0 = .ok (.iload_n 0, 1) := by decide +kernel
theorem dJ0_checkIndex_df160_1 : decode cJ0_checkIndex_df160 1 = .ok (.iload_n 1, 1) := by decide +kernel
theorem dJ0_checkIndex_df160_2 : decode cJ0_checkIndex_df160 2 = .ok (.getstatic 1053, 3) := by decide +kernel
theorem dJ0_checkIndex_df160_5 : decode cJ0_checkIndex_df160 5 = .ok (.invokestatic 1059, 3) := by decide +kernel
theorem dJ0_checkIndex_df160_8 : decode cJ0_checkIndex_df160 8 = .ok (.pop, 1) := by decide +kernel
theorem dJ0_checkIndex_df160_9 : decode cJ0_checkIndex_df160 9 = .ok (.return_, 1) := by decide +kernel
theorem m0J1_charAt_3b067 : xr_m0 yJ1_charAt_3b067 cJ1_charAt_3b067 2 2 (some .char) := ⟨(hp_pl 16 (by decide +kernel) rfl), (hp_pl 1235 (by decide +kernel) rfl), by decide +kernel, by decide +kernel, by decide +kernel⟩
theorem dJ1_charAt_3b067_0 : decode cJ1_charAt_3b067 0 = .ok (.iload_n 1, 1) := by decide +kernel
theorem dJ1_charAt_3b067_1 : decode cJ1_charAt_3b067 1 = .ok (.aload_n 0, 1) := by decide +kernel
theorem dJ1_charAt_3b067_2 : decode cJ1_charAt_3b067 2 = .ok (.arraylength, 1) := by decide +kernel
theorem dJ1_charAt_3b067_3 : decode cJ1_charAt_3b067 3 = .ok (.invokestatic 9, 3) := by decide +kernel
theorem dJ1_charAt_3b067_6 : decode cJ1_charAt_3b067 6 = .ok (.aload_n 0, 1) := by decide +kernel
theorem dJ1_charAt_3b067_7 : decode cJ1_charAt_3b067 7 = .ok (.iload_n 1, 1) := by decide +kernel
theorem dJ1_charAt_3b067_8 : decode cJ1_charAt_3b067 8 = .ok (.baload, 1) := by decide +kernel
theorem dJ1_charAt_3b067_9 : decode cJ1_charAt_3b067 9 = .ok (.sipush 255, 3) := by decide +kernel
theorem dJ1_charAt_3b067_12 : decode cJ1_charAt_3b067 12 = .ok (.iand, 1) := by decide +kernel
theorem dJ1_charAt_3b067_13 : decode cJ1_charAt_3b067 13 = .ok (.i2c, 1) := by decide +kernel
theorem dJ1_charAt_3b067_14 : decode cJ1_charAt_3b067 14 = .ok (.ireturn, 1) := by decide +kernel
theorem m0J0_isLatin1_aae02 : xr_m0 yJ0_isLatin1_aae02 cJ0_isLatin1_aae02 1 0 (some .boolean) := ⟨(hp_pl 15 (by decide +kernel) rfl), (hp_pl 1232 (by decide +kernel) rfl), by decide +kernel, by decide +kernel, by decide +kernel⟩
theorem dJ0_isLatin1_aae02_0 : decode cJ0_isLatin1_aae02 0 = .ok (.getstatic 38, 3) := by decide +kernel
theorem dJ0_isLatin1_aae02_3 : decode cJ0_isLatin1_aae02 3 = .ok (.ifCond .eq 14, 3) := by decide +kernel
theorem dJ0_isLatin1_aae02_6 : decode cJ0_isLatin1_aae02 6 = .ok (.aload_n 0, 1) := by decide +kernel
theorem dJ0_isLatin1_aae02_7 : decode cJ0_isLatin1_aae02 7 = .ok (.getfield 15, 3) := by decide +kernel
theorem dJ0_isLatin1_aae02_10 : decode cJ0_isLatin1_aae02 10 = .ok (.ifCond .ne 7, 3) := by decide +kernel
theorem dJ0_isLatin1_aae02_13 : decode cJ0_isLatin1_aae02 13 = .ok (.iconst 1, 1) := by decide +kernel
theorem dJ0_isLatin1_aae02_14 : decode cJ0_isLatin1_aae02 14 = .ok (.goto 4, 3) := by decide +kernel
theorem dJ0_isLatin1_aae02_17 : decode cJ0_isLatin1_aae02 17 = .ok (.iconst 0, 1) := by decide +kernel
theorem dJ0_isLatin1_aae02_18 : decode cJ0_isLatin1_aae02 18 = .ok (.ireturn, 1) := by decide +kernel
theorem m0J0_coder_7d493 : xr_m0 yJ0_coder_7d493 cJ0_coder_7d493 1 0 (some .byte) := ⟨(hp_pl 15 (by decide +kernel) rfl), (hp_pl 1222 (by decide +kernel) rfl), by decide +kernel, by decide +kernel, by decide +kernel⟩
theorem dJ0_coder_7d493_0 : decode cJ0_coder_7d493 0 = .ok (.getstatic 38, 3) := by decide +kernel
theorem dJ0_coder_7d493_3 : decode cJ0_coder_7d493 3 = .ok (.ifCond .eq 10, 3) := by decide +kernel
theorem dJ0_coder_7d493_6 : decode cJ0_coder_7d493 6 = .ok (.aload_n 0, 1) := by decide +kernel
theorem dJ0_coder_7d493_7 : decode cJ0_coder_7d493 7 = .ok (.getfield 15, 3) := by decide +kernel
theorem dJ0_coder_7d493_10 : decode cJ0_coder_7d493 10 = .ok (.goto 4, 3) := by decide +kernel
theorem dJ0_coder_7d493_13 : decode cJ0_coder_7d493 13 = .ok (.iconst 1, 1) := by decide +kernel
theorem dJ0_coder_7d493_14 : decode cJ0_coder_7d493 14 = .ok (.ireturn, 1) := by decide +kernel
theorem m0J0_length_8abf5 : xr_m0 yJ0_length_8abf5 cJ0_length_8abf5 1 0 (some .int) := ⟨(hp_pl 15 (by decide +kernel) rfl), (hp_pl 1218 (by decide +kernel) rfl), by decide +kernel, by decide +kernel, by decide +kernel⟩
theorem dJ0_length_8abf5_0 : decode cJ0_length_8abf5 0 = .ok (.aload_n 0, 1) := by decide +kernel
theorem dJ0_length_8abf5_1 : decode cJ0_length_8abf5 1 = .ok (.getfield 9, 3) := by decide +kernel
theorem dJ0_length_8abf5_4 : decode cJ0_length_8abf5 4 = .ok (.arraylength, 1) := by decide +kernel
theorem dJ0_length_8abf5_5 : decode cJ0_length_8abf5 5 = .ok (.aload_n 0, 1) := by decide +kernel
theorem dJ0_length_8abf5_6 : decode cJ0_length_8abf5 6 = .ok (.invokevirtual 335, 3) := by decide +kernel
theorem dJ0_length_8abf5_9 : decode cJ0_length_8abf5 9 = .ok (.ishr, 1) := by decide +kernel
theorem dJ0_length_8abf5_10 : decode cJ0_length_8abf5 10 = .ok (.ireturn, 1) := by decide +kernel
theorem m0J0_charAt_5068e : xr_m0 yJ0_charAt_5068e cJ0_charAt_5068e 2 1 (some .char) := ⟨(hp_pl 15 (by decide +kernel) rfl), (hp_pl 1228 (by decide +kernel) rfl), by decide +kernel, by decide +kernel, by decide +kernel⟩
theorem dJ0_charAt_5068e_0 : decode cJ0_charAt_5068e 0 = .ok (.aload_n 0, 1) := by decide +kernel
theorem dJ0_charAt_5068e_1 : decode cJ0_charAt_5068e 1 = .ok (.invokevirtual 492, 3) := by decide +kernel
theorem dJ0_charAt_5068e_4 : decode cJ0_charAt_5068e 4 = .ok (.ifCond .eq 12, 3) := by decide +kernel
theorem dJ0_charAt_5068e_7 : decode cJ0_charAt_5068e 7 = .ok (.aload_n 0, 1) := by decide +kernel
theorem dJ0_charAt_5068e_8 : decode cJ0_charAt_5068e 8 = .ok (.getfield 9, 3) := by decide +kernel
theorem dJ0_charAt_5068e_11 : decode cJ0_charAt_5068e 11 = .ok (.iload_n 1, 1) := by decide +kernel
theorem dJ0_charAt_5068e_12 : decode cJ0_charAt_5068e 12 = .ok (.invokestatic 495, 3) := by decide +kernel
theorem dJ0_charAt_5068e_15 : decode cJ0_charAt_5068e 15 = .ok (.ireturn, 1) := by decide +kernel
theorem dJ0_charAt_5068e_16 : decode cJ0_charAt_5068e 16 = .ok (.aload_n 0, 1) := by decide +kernel
theorem dJ0_charAt_5068e_17 : decode cJ0_charAt_5068e 17 = .ok (.getfield 9, 3) := by decide +kernel
theorem dJ0_charAt_5068e_20 : decode cJ0_charAt_5068e 20 = .ok (.iload_n 1, 1) := by decide +kernel
theorem dJ0_charAt_5068e_21 : decode cJ0_charAt_5068e 21 = .ok (.invokestatic 498, 3) := by decide +kernel
theorem dJ0_charAt_5068e_24 : decode cJ0_charAt_5068e 24 = .ok (.ireturn, 1) := by decide +kernel
theorem mvJ0_1059 : xr_ms RJ0 1059 yJ3_checkIndex_8e157 cJ3_checkIndex_8e157 3 3 (some .int) := ⟨m0J3_checkIndex_8e157, (hp_pl 1241 (by decide +kernel) rfl), (hp_pl 1242 (by decide +kernel) rfl)⟩
theorem mvJ1_9 : xr_ms RJ1 9 yJ0_checkIndex_df160 cJ0_checkIndex_df160 2 2 none := ⟨m0J0_checkIndex_df160, (hp_pl 1236 (by decide +kernel) rfl), (hp_pl 1237 (by decide +kernel) rfl)⟩
theorem mvJ0_495 : xr_ms RJ0 495 yJ1_charAt_3b067 cJ1_charAt_3b067 2 2 (some .char) := ⟨m0J1_charAt_3b067, (hp_pl 1233 (by decide +kernel) rfl), (hp_pl 1234 (by decide +kernel) rfl)⟩
theorem mvJ0_492 : xr_mv RJ0 492 yJ0_isLatin1_aae02 cJ0_isLatin1_aae02 1 0 (some .boolean) := ⟨m0J0_isLatin1_aae02, (hp_pl 1229 (by decide +kernel) rfl), (hp_pl 1230 (by decide +kernel) rfl), (hp_pl 1231 (by decide +kernel) rfl)⟩
theorem mvJ0_335 : xr_mv RJ0 335 yJ0_coder_7d493 cJ0_coder_7d493 1 0 (some .byte) := ⟨m0J0_coder_7d493, (hp_pl 1219 (by decide +kernel) rfl), (hp_pl 1220 (by decide +kernel) rfl), (hp_pl 1221 (by decide +kernel) rfl)⟩
theorem mvX10_103 : xr_mv RX10 103 yJ0_length_8abf5 cJ0_length_8abf5 1 0 (some .int) := ⟨m0J0_length_8abf5, (hp_pl 1215 (by decide +kernel) rfl), (hp_pl 1216 (by decide +kernel) rfl), (hp_pl 1217 (by decide +kernel) rfl)⟩
theorem mvX10_108 : xr_mv RX10 108 yJ0_charAt_5068e cJ0_charAt_5068e 2 1 (some .char) := ⟨m0J0_charAt_5068e, (hp_pl 1225 (by decide +kernel) rfl), (hp_pl 1226 (by decide +kernel) rfl), (hp_pl 1227 (by decide +kernel) rfl)⟩
theorem fx_sb : ∀ i, i < 2 → ∀ j, j < hp_Sl.getD i 0 → ((hp_st i j &&& 255).toUInt32 % 65536).toInt32 = hp_st i j ∧ narrow .char (.int (hp_st i j)) = .int (hp_st i j) := by decide +kernel
theorem fx_ix_lt {x : Int32} {n : Nat} (h : fx_in x n) : fx_ix x < n := by have h1 := h.1; have h2 := h.2; show x.toInt.toNat < n; omega
set_option maxRecDepth 100000 in
set_option maxHeartbeats 4000000 in
theorem mJ3_checkIndex (l : Launch) (G : xr_G) (x n : Int32) (v : Value) (hv : v.category = 1) (h1 : ¬ x < 0) (h2 : x < n) (h : hp_T) : xr_M l G yJ3_checkIndex_8e157 cJ3_checkIndex_8e157 3 (xr_R 0 0) (some .int) [.int x, .int n, v] h (xr_Qi G x h) := by
  refine xr_start rfl ?_ (fun K C => ?_)
  · cases v <;> first | exact Nat.le_of_ble_eq_true rfl | cases hv
  have e : lv_args 0 [.int x, .int n, v] = [(0, .int x), (1, .int n), (2, v)] := by cases v <;> first | rfl | cases hv
  rw [e]
  refine xr_iload_n C 0 dJ3_checkIndex_8e157_0 rfl rfl ?_
  refine xr_if_lt C 9 dJ3_checkIndex_8e157_1 (by decide) (fun c => absurd c h1) (fun _ => ?_)
  refine xr_iload_n C 0 dJ3_checkIndex_8e157_4 rfl rfl ?_
  refine xr_iload_n C 1 dJ3_checkIndex_8e157_5 rfl rfl ?_
  refine xr_icmp_lt C 16 dJ3_checkIndex_8e157_6 (by decide) (fun _ => ?_) (fun c => absurd h2 c)
  refine xr_iload_n C 0 dJ3_checkIndex_8e157_16 rfl rfl ?_
  exact xr_iret C dJ3_checkIndex_8e157_17
set_option maxRecDepth 100000 in
set_option maxHeartbeats 4000000 in
theorem mJ0_checkIndex (l : Launch) (G : xr_G) (x n : Int32) (h1 : ¬ x < 0) (h2 : x < n) (h : hp_T) : xr_M l G yJ0_checkIndex_df160 cJ0_checkIndex_df160 2 (xr_R 1 40) none [.int x, .int n] h (xr_Qv G h) := by
  refine xr_start rfl (Nat.le_of_ble_eq_true rfl) (fun K C => ?_)
  show xr_j l G K 2 h [(0, .int x), (1, .int n)] 0 []
  refine xr_iload_n C 0 dJ0_checkIndex_df160_0 rfl rfl ?_
  refine xr_iload_n C 1 dJ0_checkIndex_df160_1 rfl rfl ?_
  refine xr_gsF C (hp_pl 1239 (by decide +kernel) rfl) dJ0_checkIndex_df160_2 (fun v hv => ?_)
  refine xr_callSi C mvJ0_1059 [.int x, .int n, v] [] (mJ3_checkIndex l G x n v hv h1 h2 h) rfl ⟨rfl, rfl, Nat.le_of_ble_eq_true rfl, Nat.le_of_ble_eq_true rfl⟩ rfl (Nat.le_of_ble_eq_true rfl) dJ0_checkIndex_df160_5 ?_
  refine xr_pop C dJ0_checkIndex_df160_8 rfl ?_
  exact xr_vret C dJ0_checkIndex_df160_9
set_option maxRecDepth 100000 in
set_option maxHeartbeats 4000000 in
theorem mJ1_charAt (l : Launch) (G : xr_G) (i : Nat) (hi : i < 2) (x : Int32) (hx : fx_in x (hp_Sl.getD i 0)) (h : hp_T) : xr_M l G yJ1_charAt_3b067 cJ1_charAt_3b067 2 (xr_R 2 80) (some .char) [.ref (G.2.2.2.2 (20 + i)), .int x] h (xr_Qi G (hp_st i (fx_ix x)) h) := by
  refine xr_start rfl (Nat.le_of_ble_eq_true rfl) (fun K C => ?_)
  show xr_j l G K 2 h [(0, .ref (G.2.2.2.2 (20 + i))), (1, .int x)] 0 []
  have hb : hp_Sl.getD i 0 < 2 ^ 31 := by rcases (show i = 0 ∨ i = 1 by omega) with rfl | rfl <;> decide
  have h1 : ¬ x < 0 := by rw [Int32.lt_iff_toInt_lt, Int32.toInt_zero]; have := hx.1; omega
  have h2 : x < nI (hp_Sl.getD i 0) := by rw [Int32.lt_iff_toInt_lt, nI_toInt hb]; exact hx.2
  obtain ⟨q1, q2⟩ := fx_sb i hi _ (fx_ix_lt hx)
  refine xr_iload_n C 1 dJ1_charAt_3b067_0 rfl rfl ?_
  refine xr_vload_n C 0 dJ1_charAt_3b067_1 rfl rfl ?_
  refine xr_blen C i hi dJ1_charAt_3b067_2 rfl ?_
  refine xr_callSv C mvJ1_9 [.int x, .int (nI (hp_Sl.getD i 0))] [] (mJ0_checkIndex l G x _ h1 h2 h) rfl ⟨rfl, rfl, Nat.le_of_ble_eq_true rfl, Nat.le_of_ble_eq_true rfl⟩ rfl (Nat.le_of_ble_eq_true rfl) dJ1_charAt_3b067_3 ?_
  refine xr_vload_n C 0 dJ1_charAt_3b067_6 rfl rfl ?_
  refine xr_iload_n C 1 dJ1_charAt_3b067_7 rfl rfl ?_
  refine xr_bald C i hi dJ1_charAt_3b067_8 hx ?_
  refine xr_sipush (v := 255) C dJ1_charAt_3b067_9 (by decide) ?_
  refine xr_iand C dJ1_charAt_3b067_12 ?_
  refine xr_i2c C dJ1_charAt_3b067_13 ?_
  rw [q1]
  exact xr_nret C q2 dJ1_charAt_3b067_14
set_option maxRecDepth 100000 in
set_option maxHeartbeats 4000000 in
theorem mJ0_isLatin1 (l : Launch) (G : xr_G) (i : Nat) (hi : i < 2) (h : hp_T) : xr_M l G yJ0_isLatin1_aae02 cJ0_isLatin1_aae02 1 (xr_R 0 0) (some .boolean) [.ref (G.2.2.2.2 (10 + i))] h (xr_Qi G 1 h) := by
  refine xr_start rfl (Nat.le_of_ble_eq_true rfl) (fun K C => ?_)
  show xr_j l G K 1 h [(0, .ref (G.2.2.2.2 (10 + i)))] 0 []
  refine xr_gsC C (hp_pl 1223 (by decide +kernel) rfl) dJ0_isLatin1_aae02_0 ?_
  refine xr_if_eq C 17 dJ0_isLatin1_aae02_3 (by decide) (fun c => absurd c (by decide)) (fun _ => ?_)
  refine xr_vload_n C 0 dJ0_isLatin1_aae02_6 rfl rfl ?_
  refine xr_scoder C i hi (hp_pl 1707 (by decide +kernel) rfl) dJ0_isLatin1_aae02_7 ?_
  refine xr_if_ne C 17 dJ0_isLatin1_aae02_10 (by decide) (fun c => absurd rfl c) (fun _ => ?_)
  refine xr_iconst (v := 1) C dJ0_isLatin1_aae02_13 (by decide) ?_
  refine xr_goto C 18 dJ0_isLatin1_aae02_14 (by decide) ?_
  exact xr_zret C rfl dJ0_isLatin1_aae02_18
set_option maxRecDepth 100000 in
set_option maxHeartbeats 4000000 in
theorem mJ0_coder (l : Launch) (G : xr_G) (i : Nat) (hi : i < 2) (h : hp_T) : xr_M l G yJ0_coder_7d493 cJ0_coder_7d493 1 (xr_R 0 0) (some .byte) [.ref (G.2.2.2.2 (10 + i))] h (xr_Qi G 0 h) := by
  refine xr_start rfl (Nat.le_of_ble_eq_true rfl) (fun K C => ?_)
  show xr_j l G K 1 h [(0, .ref (G.2.2.2.2 (10 + i)))] 0 []
  refine xr_gsC C (hp_pl 1223 (by decide +kernel) rfl) dJ0_coder_7d493_0 ?_
  refine xr_if_eq C 13 dJ0_coder_7d493_3 (by decide) (fun c => absurd c (by decide)) (fun _ => ?_)
  refine xr_vload_n C 0 dJ0_coder_7d493_6 rfl rfl ?_
  refine xr_scoder C i hi (hp_pl 1707 (by decide +kernel) rfl) dJ0_coder_7d493_7 ?_
  refine xr_goto C 14 dJ0_coder_7d493_10 (by decide) ?_
  exact xr_nret C rfl dJ0_coder_7d493_14
set_option maxRecDepth 100000 in
set_option maxHeartbeats 4000000 in
theorem mJ0_length (l : Launch) (G : xr_G) (i : Nat) (hi : i < 2) (h : hp_T) : xr_M l G yJ0_length_8abf5 cJ0_length_8abf5 1 (xr_R 1 40) (some .int) [.ref (G.2.2.2.2 (10 + i))] h (xr_Qi G (nI (hp_Sl.getD i 0)) h) := by
  refine xr_start rfl (Nat.le_of_ble_eq_true rfl) (fun K C => ?_)
  show xr_j l G K 1 h [(0, .ref (G.2.2.2.2 (10 + i)))] 0 []
  have e : fx_shr (nI (hp_Sl.getD i 0)) 0 = nI (hp_Sl.getD i 0) := sb_shr0 _
  refine xr_vload_n C 0 dJ0_length_8abf5_0 rfl rfl ?_
  refine xr_sval C i hi (hp_pl 1706 (by decide +kernel) rfl) dJ0_length_8abf5_1 ?_
  refine xr_blen C i hi dJ0_length_8abf5_4 rfl ?_
  refine xr_vload_n C 0 dJ0_length_8abf5_5 rfl rfl ?_
  refine xr_callT C mvJ0_335 i hi rfl [] [.int (nI (hp_Sl.getD i 0))] (mJ0_coder l G i hi h) rfl ⟨rfl, rfl, Nat.le_of_ble_eq_true rfl, Nat.le_of_ble_eq_true rfl⟩ rfl (Nat.le_of_ble_eq_true rfl) dJ0_length_8abf5_6 ?_
  refine xr_ishr C dJ0_length_8abf5_9 ?_
  rw [e]
  exact xr_iret C dJ0_length_8abf5_10
set_option maxRecDepth 100000 in
set_option maxHeartbeats 4000000 in
theorem mJ0_charAt (l : Launch) (G : xr_G) (i : Nat) (hi : i < 2) (x : Int32) (hx : fx_in x (hp_Sl.getD i 0)) (h : hp_T) : xr_M l G yJ0_charAt_5068e cJ0_charAt_5068e 2 (xr_R 3 120) (some .char) [.ref (G.2.2.2.2 (10 + i)), .int x] h (xr_Qi G (hp_st i (fx_ix x)) h) := by
  refine xr_start rfl (Nat.le_of_ble_eq_true rfl) (fun K C => ?_)
  show xr_j l G K 2 h [(0, .ref (G.2.2.2.2 (10 + i))), (1, .int x)] 0 []
  refine xr_vload_n C 0 dJ0_charAt_5068e_0 rfl rfl ?_
  refine xr_callT C mvJ0_492 i hi rfl [] [] (mJ0_isLatin1 l G i hi h) rfl ⟨rfl, rfl, Nat.le_of_ble_eq_true rfl, Nat.le_of_ble_eq_true rfl⟩ rfl (Nat.le_of_ble_eq_true rfl) dJ0_charAt_5068e_1 ?_
  refine xr_if_eq C 16 dJ0_charAt_5068e_4 (by decide) (fun c => absurd c (by decide)) (fun _ => ?_)
  refine xr_vload_n C 0 dJ0_charAt_5068e_7 rfl rfl ?_
  refine xr_sval C i hi (hp_pl 1706 (by decide +kernel) rfl) dJ0_charAt_5068e_8 ?_
  refine xr_iload_n C 1 dJ0_charAt_5068e_11 rfl rfl ?_
  refine xr_callSi C mvJ0_495 [.ref (G.2.2.2.2 (20 + i)), .int x] [] (mJ1_charAt l G i hi x hx h) rfl ⟨rfl, rfl, Nat.le_of_ble_eq_true rfl, Nat.le_of_ble_eq_true rfl⟩ rfl (Nat.le_of_ble_eq_true rfl) dJ0_charAt_5068e_12 ?_
  exact xr_nret C (fx_sb i hi _ (fx_ix_lt hx)).2 dJ0_charAt_5068e_15
theorem xr_charAt {l : Launch} {G : xr_G} {K : xr_K} {cc : ByteArray} {own : String} {nL : Nat} {rm : Room} {ret : Option FieldType} {Qc : Option xr_Q} {h : hp_T} {lv : List (Nat × Value)} {pc index : Nat} {st : List Value} {x : Int32} (C : xr_C G K cc own nL rm ret Qc) (i : Nat) (hi : i < 2) (f : xr_mv own index yJ0_charAt_5068e cJ0_charAt_5068e 2 1 (some .char)) (h1 : 4 ≤ rm.frames) (h2 : 141 ≤ rm.locals) (hw0 : (st.map fun v => v.category).sum ≤ 8) (hx : fx_in x (hp_Sl.getD i 0)) (d : decode cc pc = .ok (.invokevirtual index, 3)) (k : xr_j l G K nL h lv (pc + 3) (.int (hp_st i (fx_ix x)) :: st)) : xr_j l G K nL h lv pc (.int x :: .ref (G.2.2.2.2 (10 + i)) :: st) :=
  xr_callT C f i hi rfl [.int x] st (mJ0_charAt l G i hi x hx h) rfl ⟨rfl, rfl, h1, h2⟩ rfl hw0 d k
theorem xr_strlen {l : Launch} {G : xr_G} {K : xr_K} {cc : ByteArray} {own : String} {nL : Nat} {rm : Room} {ret : Option FieldType} {Qc : Option xr_Q} {h : hp_T} {lv : List (Nat × Value)} {pc index : Nat} {st : List Value} {v : Int32} (C : xr_C G K cc own nL rm ret Qc) (i : Nat) (hi : i < 2) (f : xr_mv own index yJ0_length_8abf5 cJ0_length_8abf5 1 0 (some .int)) (h1 : 2 ≤ rm.frames) (h2 : 60 ≤ rm.locals) (hw0 : (st.map fun v => v.category).sum ≤ 8) (hv : v = nI (hp_Sl.getD i 0)) (d : decode cc pc = .ok (.invokevirtual index, 3)) (k : xr_j l G K nL h lv (pc + 3) (.int v :: st)) : xr_j l G K nL h lv pc (.ref (G.2.2.2.2 (10 + i)) :: st) := by
  subst hv
  exact xr_callT C f i hi rfl [] st (mJ0_length l G i hi h) rfl ⟨rfl, rfl, h1, h2⟩ rfl hw0 d k
