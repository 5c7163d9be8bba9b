theorem dL_player_0 : decode cL_player 0 = .ok (.aload 4, 2) := by decide +kernel
theorem dL_player_2 : decode cL_player 2 = .ok (.iconst 0, 1) := by decide +kernel
theorem dL_player_3 : decode cL_player 3 = .ok (.aload_n 0, 1) := by decide +kernel
theorem dL_player_4 : decode cL_player 4 = .ok (.iload_n 1, 1) := by decide +kernel
theorem dL_player_5 : decode cL_player 5 = .ok (.iload_n 2, 1) := by decide +kernel
theorem dL_player_6 : decode cL_player 6 = .ok (.iload_n 3, 1) := by decide +kernel
theorem dL_player_7 : decode cL_player 7 = .ok (.invokevirtual 7, 3) := by decide +kernel
theorem dL_player_10 : decode cL_player 10 = .ok (.i2l, 1) := by decide +kernel
theorem dL_player_11 : decode cL_player 11 = .ok (.lastore, 1) := by decide +kernel
theorem dL_player_12 : decode cL_player 12 = .ok (.goto 11, 3) := by decide +kernel
theorem dL_player_15 : decode cL_player 15 = .ok (.astore 5, 2) := by decide +kernel
theorem dL_player_17 : decode cL_player 17 = .ok (.iconst 1, 1) := by decide +kernel
theorem dL_player_18 : decode cL_player 18 = .ok (.ireturn, 1) := by decide +kernel
theorem dL_player_19 : decode cL_player 19 = .ok (.astore 5, 2) := by decide +kernel
theorem dL_player_21 : decode cL_player 21 = .ok (.iconst 2, 1) := by decide +kernel
theorem dL_player_22 : decode cL_player 22 = .ok (.ireturn, 1) := by decide +kernel
theorem dL_player_23 : decode cL_player 23 = .ok (.iconst 0, 1) := by decide +kernel
theorem dL_player_24 : decode cL_player 24 = .ok (.ireturn, 1) := by decide +kernel
abbrev lp_hh : List (Nat × Nat × Nat × Nat) := [(0, 12, 15, 13), (0, 12, 19, 15)]
abbrev lp_code : Cond := Cond.codeWith yL_player cL_player 6 (some .int) lp_hh
theorem lp_in : lp_code ∈ hp_GL := hp_pl 992 (by decide +kernel) rfl
theorem m0X9_player : xr_m0 yX9_player cX9_player 5 3 (some .int) := ⟨(hp_pl 1 (by decide +kernel) rfl), (hp_pl 998 (by decide +kernel) rfl), by decide +kernel, by decide +kernel, by decide +kernel⟩
theorem mvL_7 : xr_mv RL 7 yX9_player cX9_player 5 3 (some .int) := ⟨m0X9_player, (hp_pl 995 (by decide +kernel) rfl), (hp_pl 996 (by decide +kernel) rfl), (hp_pl 997 (by decide +kernel) rfl)⟩
abbrev lp_av (G : xr_G) (a0 : Nat) (a1 a2 a3 : Int32) (a4 : Nat) : List Value := [.ref (G.2.2.1 a0), .int a1, .int a2, .int a3, .ref (G.2.2.1 a4)]
theorem fx_N5 {x : Int32} : fx_in (0 : Int32) 1 := by decide
set_option maxRecDepth 100000 in
set_option maxHeartbeats 4000000 in
theorem lp_0 (l : Launch) (G : xr_G) (a0 : Nat) (a1 a2 a3 : Int32) (a4 : Nat) (ta0 : hp_sh a0 = (9, 0)) (ta4 : hp_sh a4 = (21, 1)) (h h1 : hp_T) (r : Int32) (hF : fX9_player a0 a1 a2 a3 h = some (r, h1)) : Met l yL_player (lp_code :: hp_GL) (xr_R 7 130) (va_Pc (lp_av G a0 a1 a2 a3 a4) (fun U => hp_PX G h U)) (xr_Qi G 0 (hp_sL h1 a4 0 (Int32.toInt64 r))) 0 0 G.2.2.2.1 := by
  refine va_MetW (cc := cL_player) (maxL := 6) (ret := some .int) (hh := lp_hh) rfl rfl ?_
  intro p e s m args below meth c s₁ B hml hv
  obtain ⟨rfl, ⟨hP, hK, hD, hZ, hT⟩, hX⟩ := hv
  have hts := atoms_spec (ws := lp_code :: hp_GL) B.pre
  have hown : s.vm.findClass RL = some m.cls := findClass_of_methodNamed B.named
  have hl := lv_entry [Value.ref (G.2.2.1 a0), .int a1, .int a2, .int a3, .ref (G.2.2.1 a4)] (n := 6) (Nat.le_of_ble_eq_true rfl)
  rw [lg_entry_eq]
  have C : xr_C G (p, e, (xr_R 7 130), s, m, [Value.ref (G.2.2.1 a0), .int a1, .int a2, .int a3, .ref (G.2.2.1 a4)].toArray, below, meth, c, MQ below (xr_Qi G 0 (hp_sL h1 a4 0 (Int32.toInt64 r))) [Value.ref (G.2.2.1 a0), .int a1, .int a2, .int a3, .ref (G.2.2.1 a4)].toArray s 0 0 G.2.2.2.1, 0, 0) cL_player RL 6 (xr_R 7 130) (some .int) (some (xr_Qi G 0 (hp_sL h1 a4 0 (Int32.toInt64 r)))) := ⟨B.exec, B.bytes, hml, hown, fun w hw => hts w (List.mem_cons_of_mem _ hw), hK, fun h' => hp_D_any hD, hZ, rfl, B.returns, B.notSynchronized, ⟨Nat.zero_le _, Nat.zero_le _⟩, fun Q0 e => by cases e; exact ⟨rfl, rfl, rfl⟩⟩
  suffices hj : xr_j l G (p, e, (xr_R 7 130), s, m, [Value.ref (G.2.2.1 a0), .int a1, .int a2, .int a3, .ref (G.2.2.1 a4)].toArray, below, meth, c, MQ below (xr_Qi G 0 (hp_sL h1 a4 0 (Int32.toInt64 r))) [Value.ref (G.2.2.1 a0), .int a1, .int a2, .int a3, .ref (G.2.2.1 a4)].toArray s 0 0 G.2.2.2.1, 0, 0) 6 h [(0, .ref (G.2.2.1 a0)), (1, .int a1), (2, .int a2), (3, .int a3), (4, .ref (G.2.2.1 a4))] 0 [] from hj hT s.heap [] _ hP va_S.rf hl
  refine xr_aload C 4 dL_player_0 rfl ?_
  refine xr_iconst (v := 0) C dL_player_2 (by decide) ?_
  refine xr_aload_n C 0 dL_player_3 rfl rfl ?_
  refine xr_iload_n C 1 dL_player_4 rfl rfl ?_
  refine xr_iload_n C 2 dL_player_5 rfl rfl ?_
  refine xr_iload_n C 3 dL_player_6 rfl rfl ?_
  refine xr_callVi C mvL_7 [.int a1, .int a2, .int a3] [.int 0, .ref (G.2.2.1 a4)] (mX9_player l G a0 a1 a2 a3 ta0 h h1 r hF) ta0 (by decide) vc9 rfl ⟨rfl, rfl, Nat.le_of_ble_eq_true rfl, Nat.le_of_ble_eq_true rfl⟩ rfl (Nat.le_of_ble_eq_true rfl) dL_player_7 ?_
  refine xr_i2l C dL_player_10 ?_
  refine xr_last C dL_player_11 ta4 (by decide) (fun g eg => ?_)
  subst eg
  refine xr_goto C 23 dL_player_12 (by decide) ?_
  refine xr_iconst (v := 0) C dL_player_23 (by decide) ?_
  exact xr_iret C dL_player_24
theorem lp_weak {l : Launch} {y : MethodName} {ws : List Cond} {rm : Room} {Pc : Array Value → State → Prop} {XC : String → State → State → Prop} {mc ms : Nat} {free A : Addr → Prop} (h : vx_Met l y ws rm Pc (fun _ _ _ _ => False) XC mc ms free) : vx_Met l y ws rm Pc (va_Qi (fun (_ : Int32) (_ : Unit) => False) (fun _ _ => True) A) XC mc ms free := by
  intro p e ha hc hk s m args below hf hap hP hT
  obtain ⟨k, o, h1, h2, h3, hq⟩ := h p e ha hc hk s m args below hf hap hP hT
  refine ⟨k, o, h1, h2, h3, ?_⟩
  rcases hq with ⟨q, -⟩ | q
  · exact absurd q id
  · exact Or.inr q
set_option maxRecDepth 100000 in
set_option maxHeartbeats 4000000 in
theorem lp_1 (l : Launch) (hl0 : l.stackTraces = false) (G : xr_G) (a0 : Nat) (a1 a2 a3 : Int32) (a4 : Nat) (ta0 : hp_sh a0 = (9, 0)) (h h1 : hp_T) (hT1 : hp_Ty h1.2.2) (hF : fX9_isPlayer a0 a1 a2 h = some (0, h1)) : Met l yL_player (lp_code :: hp_GL) ({ frames := 7, cells := 1, slots := 6, locals := 130 } : Room) (va_Pc (lp_av G a0 a1 a2 a3 a4) (fun U => hp_PX G h U)) (xr_Qi G 1 h1) 1 6 G.2.2.2.1 := by
  refine va_MetW (cc := cL_player) (maxL := 6) (ret := some .int) (hh := lp_hh) rfl rfl ?_
  intro p e s m args below meth c s₁ B hml hv
  obtain ⟨rfl, ⟨hP, hK, hD, hZ, hT⟩, hX⟩ := hv
  have hts := atoms_spec (ws := lp_code :: hp_GL) B.pre
  have hown : s.vm.findClass RL = some m.cls := findClass_of_methodNamed B.named
  have hl := lv_entry [Value.ref (G.2.2.1 a0), .int a1, .int a2, .int a3, .ref (G.2.2.1 a4)] (n := 6) (Nat.le_of_ble_eq_true rfl)
  rw [lg_entry_eq]
  have C : xr_C G (p, e, ({ frames := 7, cells := 1, slots := 6, locals := 130 } : Room), s, m, [Value.ref (G.2.2.1 a0), .int a1, .int a2, .int a3, .ref (G.2.2.1 a4)].toArray, below, meth, c, MQ below (xr_Qi G 1 h1) [Value.ref (G.2.2.1 a0), .int a1, .int a2, .int a3, .ref (G.2.2.1 a4)].toArray s 1 6 G.2.2.2.1, 0, 0) cL_player RL 6 ({ frames := 7, cells := 1, slots := 6, locals := 130 } : Room) (some .int) none := ⟨B.exec, B.bytes, hml, hown, fun w hw => hts w (List.mem_cons_of_mem _ hw), hK, fun h' => hp_D_any hD, hZ, rfl, B.returns, B.notSynchronized, ⟨Nat.zero_le _, Nat.zero_le _⟩, fun Q0 e => by cases e⟩
  suffices hj : xr_j l G (p, e, ({ frames := 7, cells := 1, slots := 6, locals := 130 } : Room), s, m, [Value.ref (G.2.2.1 a0), .int a1, .int a2, .int a3, .ref (G.2.2.1 a4)].toArray, below, meth, c, MQ below (xr_Qi G 1 h1) [Value.ref (G.2.2.1 a0), .int a1, .int a2, .int a3, .ref (G.2.2.1 a4)].toArray s 1 6 G.2.2.2.1, 0, 0) 6 h [(0, .ref (G.2.2.1 a0)), (1, .int a1), (2, .int a2), (3, .int a3), (4, .ref (G.2.2.1 a4))] 0 [] from hj hT s.heap [] _ hP va_S.rf hl
  refine xr_aload C 4 dL_player_0 rfl ?_
  refine xr_iconst (v := 0) C dL_player_2 (by decide) ?_
  refine xr_aload_n C 0 dL_player_3 rfl rfl ?_
  refine xr_iload_n C 1 dL_player_4 rfl rfl ?_
  refine xr_iload_n C 2 dL_player_5 rfl rfl ?_
  refine xr_iload_n C 3 dL_player_6 rfl rfl ?_
  intro hT H locs ls hP hS hl
  have htab := vx_table (x := yL_player) B (hts _ List.mem_cons_self)
  have htsG : ∀ w ∈ hp_GL, w.before [Value.ref (G.2.2.1 a0), .int a1, .int a2, .int a3, .ref (G.2.2.1 a4)].toArray s = true := fun w hw => hts w (List.mem_cons_of_mem _ hw)
  obtain ⟨⟨f1, f2, f3, f4, f5⟩, f6, f7, f8⟩ := mvL_7
  have hat := hp_wl_at (cA := G.2.1) (ad := G.2.2.1) (n := hp_N) (h := h) ta0 (hp_sh_lt ta0 (by decide))
  rw [hp_cell_ob (by decide)] at hat
  have hrecv := va_recv hK hP vc9 hat
  have hpre : ∀ U : State, U.heap = H → s.WarmedH U.vm → hp_PX G h U := fun U hU hW => ⟨⟨by rw [hU]; exact hP, va_K.moved hW.alike hK, hp_D_any hD, hp_Z.moved hW (by rw [hU]; exact hp_Z.kept hZ (fun q h1 h2 => hS.2.1 q h1 h2)), hT⟩, hp_X.moved hW (by rw [hU]; exact hp_X.kept hX (fun q h1 h2 => hS.2.1 q h1 h2))⟩
  have hcw : CallW (({ frames := 7, cells := 1, slots := 6, locals := 130 } : Room)) s [Value.ref (G.2.2.1 a0), .int a1, .int a2, .int a3, .ref (G.2.2.1 a4)].toArray RL RX9 7 yX9_player cX9_player 5 (some .int) (Cond.code yX9_player cX9_player 5 (some .int) :: hp_GL) xp_rm 1 6 3 := ⟨callB_of 3 htsG (hp_goodG f2) rfl rfl rfl (htsG _ f1) (htsG _ f6) ⟨f3, f4, f5⟩ ⟨Nat.le_of_ble_eq_true rfl, Nat.le_of_ble_eq_true rfl⟩, htsG _ f7, htsG _ f8⟩
  refine vx_calli (S := Unit) (post := fun _ _ => False) (B := fun _ _ => True) (A1 := G.2.2.2.1) (vx_runV (As := [.int a1, .int a2, .int a3]) (rest := [.int 0, .ref (G.2.2.1 a4)]) ⟨B.exec, B.bytes, hml, hown, htsG⟩ (lp_weak (xp_1 l hl0 G a0 a1 a2 a3 ta0 h h1 hF)) hcw ⟨xp_blind _ _ _, hrecv, fun U hU hW => ⟨rfl, hpre U hU hW⟩⟩ rfl rfl hl.1 rfl (lv_room (Nat.le_of_ble_eq_true rfl)) dL_player_7 ⟨Nat.le_of_ble_eq_true rfl, Nat.le_of_ble_eq_true rfl⟩) hS (fun q _ z => z) (fun q z => z) (fun q _ z => z) (fun E ce q9 u t H1 locs1 ht hvm hp hB hz hk hS1 hce hcv hcl => ?_) (fun r9 u t H1 locs1 ht hvm hp => absurd hp id)
  obtain ⟨rfl, hP1⟩ := hB
  rw [ht] at hP1
  refine vx_catch (name := "java/lang/IndexOutOfBoundsException") hown [] (⟨0, 12, 15, 13⟩ : ExceptionTableEntry) [(⟨0, 12, 19, 15⟩ : ExceptionTableEntry)] (htab.trans rfl) (fun z hz => nomatch hz) (by decide +kernel) (by decide) (hts _ (List.mem_cons_of_mem _ (hp_pl 993 (by decide +kernel) rfl))) (va_Nw.use rfl (hX.1 (Cond.castable "java/lang/IndexOutOfBoundsException" "java/lang/IndexOutOfBoundsException") (by decide +kernel))) hce hcv hcl ?_
  refine lv_astore B.exec B.bytes dL_player_15 hl (Nat.le_of_ble_eq_true rfl) rfl (fun ls hl => ?_)
  refine lv_iconst (v := 1) B.exec B.bytes dL_player_17 (by decide) ?_
  exact W.iret B.exec B.bytes B.returns (fun t ht hW => ⟨⟨1, (), rfl, rfl, by rw [ht]; exact hP1, va_K.moved hW.alike hK, hp_D_any hD, hp_Z.moved hW (by rw [ht]; exact hp_Z.kept hZ (fun q h1 h2 => hS1.2.1 q h1 h2)), hT1⟩, hS1.F ht⟩) hS1.2.2 dL_player_18 B.notSynchronized
set_option maxRecDepth 100000 in
set_option maxHeartbeats 4000000 in
theorem lp_2 (l : Launch) (hl0 : l.stackTraces = false) (G : xr_G) (a0 : Nat) (a1 a2 a3 : Int32) (a4 : Nat) (ta0 : hp_sh a0 = (9, 0)) (h h1 : hp_T) (hT1 : hp_Ty h1.2.2) (h2 : hp_T) (r : Int32) (q : Nat) (hF : fX9_isPlayer a0 a1 a2 h = some (r, h2)) (hr : ¬ r = 0) (hG : fX8_squad (h2.2.2 a0 11) a1 h2 = some (q, h1)) (h3 : a3.toInt < 0 ∨ 7 < a3.toInt) : Met l yL_player (lp_code :: hp_GL) ({ frames := 7, cells := 1, slots := 6, locals := 130 } : Room) (va_Pc (lp_av G a0 a1 a2 a3 a4) (fun U => hp_PX G h U)) (xr_Qi G 2 h1) 1 6 G.2.2.2.1 := by
  refine va_MetW (cc := cL_player) (maxL := 6) (ret := some .int) (hh := lp_hh) rfl rfl ?_
  intro p e s m args below meth c s₁ B hml hv
  obtain ⟨rfl, ⟨hP, hK, hD, hZ, hT⟩, hX⟩ := hv
  have hts := atoms_spec (ws := lp_code :: hp_GL) B.pre
  have hown : s.vm.findClass RL = some m.cls := findClass_of_methodNamed B.named
  have hl := lv_entry [Value.ref (G.2.2.1 a0), .int a1, .int a2, .int a3, .ref (G.2.2.1 a4)] (n := 6) (Nat.le_of_ble_eq_true rfl)
  rw [lg_entry_eq]
  have C : xr_C G (p, e, ({ frames := 7, cells := 1, slots := 6, locals := 130 } : Room), s, m, [Value.ref (G.2.2.1 a0), .int a1, .int a2, .int a3, .ref (G.2.2.1 a4)].toArray, below, meth, c, MQ below (xr_Qi G 2 h1) [Value.ref (G.2.2.1 a0), .int a1, .int a2, .int a3, .ref (G.2.2.1 a4)].toArray s 1 6 G.2.2.2.1, 0, 0) cL_player RL 6 ({ frames := 7, cells := 1, slots := 6, locals := 130 } : Room) (some .int) none := ⟨B.exec, B.bytes, hml, hown, fun w hw => hts w (List.mem_cons_of_mem _ hw), hK, fun h' => hp_D_any hD, hZ, rfl, B.returns, B.notSynchronized, ⟨Nat.zero_le _, Nat.zero_le _⟩, fun Q0 e => by cases e⟩
  suffices hj : xr_j l G (p, e, ({ frames := 7, cells := 1, slots := 6, locals := 130 } : Room), s, m, [Value.ref (G.2.2.1 a0), .int a1, .int a2, .int a3, .ref (G.2.2.1 a4)].toArray, below, meth, c, MQ below (xr_Qi G 2 h1) [Value.ref (G.2.2.1 a0), .int a1, .int a2, .int a3, .ref (G.2.2.1 a4)].toArray s 1 6 G.2.2.2.1, 0, 0) 6 h [(0, .ref (G.2.2.1 a0)), (1, .int a1), (2, .int a2), (3, .int a3), (4, .ref (G.2.2.1 a4))] 0 [] from hj hT s.heap [] _ hP va_S.rf hl
  refine xr_aload C 4 dL_player_0 rfl ?_
  refine xr_iconst (v := 0) C dL_player_2 (by decide) ?_
  refine xr_aload_n C 0 dL_player_3 rfl rfl ?_
  refine xr_iload_n C 1 dL_player_4 rfl rfl ?_
  refine xr_iload_n C 2 dL_player_5 rfl rfl ?_
  refine xr_iload_n C 3 dL_player_6 rfl rfl ?_
  intro hT H locs ls hP hS hl
  have htab := vx_table (x := yL_player) B (hts _ List.mem_cons_self)
  have htsG : ∀ w ∈ hp_GL, w.before [Value.ref (G.2.2.1 a0), .int a1, .int a2, .int a3, .ref (G.2.2.1 a4)].toArray s = true := fun w hw => hts w (List.mem_cons_of_mem _ hw)
  obtain ⟨⟨f1, f2, f3, f4, f5⟩, f6, f7, f8⟩ := mvL_7
  have hat := hp_wl_at (cA := G.2.1) (ad := G.2.2.1) (n := hp_N) (h := h) ta0 (hp_sh_lt ta0 (by decide))
  rw [hp_cell_ob (by decide)] at hat
  have hrecv := va_recv hK hP vc9 hat
  have hpre : ∀ U : State, U.heap = H → s.WarmedH U.vm → hp_PX G h U := fun U hU hW => ⟨⟨by rw [hU]; exact hP, va_K.moved hW.alike hK, hp_D_any hD, hp_Z.moved hW (by rw [hU]; exact hp_Z.kept hZ (fun q h1 h2 => hS.2.1 q h1 h2)), hT⟩, hp_X.moved hW (by rw [hU]; exact hp_X.kept hX (fun q h1 h2 => hS.2.1 q h1 h2))⟩
  have hcw : CallW (({ frames := 7, cells := 1, slots := 6, locals := 130 } : Room)) s [Value.ref (G.2.2.1 a0), .int a1, .int a2, .int a3, .ref (G.2.2.1 a4)].toArray RL RX9 7 yX9_player cX9_player 5 (some .int) (Cond.code yX9_player cX9_player 5 (some .int) :: hp_GL) xp_rm 1 6 3 := ⟨callB_of 3 htsG (hp_goodG f2) rfl rfl rfl (htsG _ f1) (htsG _ f6) ⟨f3, f4, f5⟩ ⟨Nat.le_of_ble_eq_true rfl, Nat.le_of_ble_eq_true rfl⟩, htsG _ f7, htsG _ f8⟩
  refine vx_calli (S := Unit) (post := fun _ _ => False) (B := fun _ _ => True) (A1 := G.2.2.2.1) (vx_runV (As := [.int a1, .int a2, .int a3]) (rest := [.int 0, .ref (G.2.2.1 a4)]) ⟨B.exec, B.bytes, hml, hown, htsG⟩ (lp_weak (xp_2 l hl0 G a0 a1 a2 a3 ta0 h h2 h1 r q hF hr hG h3)) hcw ⟨xp_blind _ _ _, hrecv, fun U hU hW => ⟨rfl, hpre U hU hW⟩⟩ rfl rfl hl.1 rfl (lv_room (Nat.le_of_ble_eq_true rfl)) dL_player_7 ⟨Nat.le_of_ble_eq_true rfl, Nat.le_of_ble_eq_true rfl⟩) hS (fun q _ z => z) (fun q z => z) (fun q _ z => z) (fun E ce q9 u t H1 locs1 ht hvm hp hB hz hk hS1 hce hcv hcl => ?_) (fun r9 u t H1 locs1 ht hvm hp => absurd hp id)
  obtain ⟨rfl, hP1⟩ := hB
  rw [ht] at hP1
  refine vx_catch (name := "java/util/NoSuchElementException") hown [(⟨0, 12, 15, 13⟩ : ExceptionTableEntry)] (⟨0, 12, 19, 15⟩ : ExceptionTableEntry) [] (htab.trans rfl) (fun z hz => by obtain rfl := List.mem_singleton.mp hz; exact Or.inr ⟨by decide, "java/lang/IndexOutOfBoundsException", hts _ (List.mem_cons_of_mem _ (hp_pl 993 (by decide +kernel) rfl)), hX.2.2.2.2.2.2⟩) (by decide +kernel) (by decide) (hts _ (List.mem_cons_of_mem _ (hp_pl 994 (by decide +kernel) rfl))) (va_Nw.use rfl (hX.2.1 (Cond.castable "java/util/NoSuchElementException" "java/util/NoSuchElementException") (by decide +kernel))) hce hcv hcl ?_
  refine lv_astore B.exec B.bytes dL_player_19 hl (Nat.le_of_ble_eq_true rfl) rfl (fun ls hl => ?_)
  refine lv_iconst (v := 2) B.exec B.bytes dL_player_21 (by decide) ?_
  exact W.iret B.exec B.bytes B.returns (fun t ht hW => ⟨⟨2, (), rfl, rfl, by rw [ht]; exact hP1, va_K.moved hW.alike hK, hp_D_any hD, hp_Z.moved hW (by rw [ht]; exact hp_Z.kept hZ (fun q h1 h2 => hS1.2.1 q h1 h2)), hT1⟩, hS1.F ht⟩) hS1.2.2 dL_player_22 B.notSynchronized
