/-! ===== the law's opening: two makings, the out cell, then the loop ===== -/
section XO
variable {l : Launch} {g : xi_G} {K : xr_K} {cc : ByteArray} {own : String} {nL kc ks n : Nat} {rm : Room} {Qc : Option xr_Q} {h : hp_T} {lv lv' : List (Nat × Value)} {pc : Nat} {st : List Value}
theorem xi_astore_n (C : xi_C g K cc own nL rm Qc) {q : Fin 4} {i : Nat} {x : Nat} (lv' : List (Nat × Value)) (d : decode cc pc = .ok (.astore_n q, 1)) (hi : (q : Nat) = i) (hn : i < nL) (hl0 : (i, Value.ref x) :: lv.filter (fun q => !(q.1 == i) && !(q.1 + 1 == i && q.2.category == 2)) = lv') (k : xi_j l g K nL kc ks n h lv' (pc + 1) st) : xi_j l g K nL kc ks n h lv pc (.ref x :: st) := by
  obtain ⟨p, e, R, s, m, args, below, meth, c, Q, kc9, ks9⟩ := K
  obtain ⟨D, cA, b0, zt⟩ := g
  obtain ⟨hx, hb, hml, hown, hts, hK, hb0, hZ, hAO, hR, hQ⟩ := C
  intro H locs ls hP hS hl
  exact lv_astore_n hx hb d hi hl hn hl0 (fun ls hl => k H locs ls hP hS hl)
theorem xi_istore (C : xi_C g K cc own nL rm Qc) {i : Nat} {x : Int32} (lv' : List (Nat × Value)) (d : decode cc pc = .ok (.istore i, 2)) (hn : i < nL) (hl0 : (i, Value.int x) :: lv.filter (fun q => !(q.1 == i) && !(q.1 + 1 == i && q.2.category == 2)) = lv') (k : xi_j l g K nL kc ks n h lv' (pc + 2) st) : xi_j l g K nL kc ks n h lv pc (.int x :: st) := by
  obtain ⟨p, e, R, s, m, args, below, meth, c, Q, kc9, ks9⟩ := K
  obtain ⟨D, cA, b0, zt⟩ := g
  obtain ⟨hx, hb, hml, hown, hts, hK, hb0, hZ, hAO, hR, hQ⟩ := C
  intro H locs ls hP hS hl
  exact lv_istore hx hb d hl hn hl0 (fun ls hl => k H locs ls hP hS hl)
end XO
theorem px_arr {args : Array Value} {s : State} {ty : FieldType} (h : (Cond.arrayClass ty).before args s = true) : ∃ cA : ClassId, ArrOfT s cA ty ∧ s.vm.findClass ("[" ++ ty.toString) = some cA := by
  obtain ⟨c, k, comp, h1, h2, h3⟩ := Cond.arrayClass_spec h
  exact ⟨c, fun n z => ⟨fun k h => (by cases h), k, h2, comp, h3⟩, h1⟩
theorem px_arrO {args : Array Value} {s : State} {C : String} (h : (Cond.arrayOver (.object C)).before args s = true) : ∃ cA : ClassId, ArrOfT s cA (.object C) ∧ va_RA s cA (.object C) := by
  obtain ⟨comp, c, k, h0, -, h2, h3, h4⟩ := Cond.arrayOver_spec h
  exact ⟨c, fun n z => ⟨fun k h => (by cases h), k, h2, comp, h3⟩, k, comp, h2, h3, h0, h4⟩
theorem px_K {args : Array Value} {s : State} (hts : ∀ w ∈ hp_GL, w.before args s = true) (w3 : (Cond.arrayOver (.object "CourtSix$Court")).before args s = true) (w4 : (Cond.arrayOver (.object "CourtSix$Best")).before args s = true) : ∃ (D : va_G) (cA : Nat → ClassId), va_K D vwCl (hp_tys cA) s := by
  obtain ⟨c0, i0, k0⟩ := u_known (C := RX0) (T := TX0) (N := 4) (n := 4) hts inX0 (hts (.instantiable RX0 4) (hp_pl 219 (by decide +kernel) rfl))
  obtain ⟨c1, i1, k1⟩ := u_known (C := RX1) (T := TX1) (N := 4) (n := 4) hts inX1 (hts (.instantiable RX1 4) (hp_pl 150 (by decide +kernel) rfl))
  obtain ⟨c2, i2, k2⟩ := u_known (C := RX2) (T := TX2) (N := 3) (n := 3) hts inX2 (hts (.instantiable RX2 3) (hp_pl 77 (by decide +kernel) rfl))
  obtain ⟨c3, i3, k3⟩ := u_known (C := RX3) (T := TX3) (N := 3) (n := 3) hts inX3 (hts (.instantiable RX3 3) (hp_pl 131 (by decide +kernel) rfl))
  obtain ⟨c4, i4, k4⟩ := u_known (C := RX4) (T := TX4) (N := 10) (n := 10) hts inX4 (hts (.instantiable RX4 10) (hp_pl 71 (by decide +kernel) rfl))
  obtain ⟨c5, i5, k5⟩ := u_known (C := RX5) (T := TX5) (N := 9) (n := 9) hts inX5 (hts (.instantiable RX5 9) (hp_pl 33 (by decide +kernel) rfl))
  obtain ⟨c6, i6, k6⟩ := u_known (C := RX6) (T := TX6) (N := 9) (n := 9) hts inX6 (hts (.instantiable RX6 9) (hp_pl 156 (by decide +kernel) rfl))
  obtain ⟨c7, i7, k7⟩ := u_known (C := RX7) (T := TX7) (N := 8) (n := 8) hts inX7 (hts (.instantiable RX7 8) (hp_pl 249 (by decide +kernel) rfl))
  obtain ⟨c8, i8, k8⟩ := u_known (C := RX8) (T := TX8) (N := 7) (n := 7) hts inX8 (hts (.instantiable RX8 7) (hp_pl 243 (by decide +kernel) rfl))
  obtain ⟨c9, i9, k9⟩ := u_known (C := RX9) (T := TX9) (N := 17) (n := 17) hts inX9 (hts (.instantiable RX9 17) (hp_pl 25 (by decide +kernel) rfl))
  obtain ⟨c10, i10, k10⟩ := u_known (C := RX10) (T := TX10) (N := 28) (n := 28) hts inX10 (hts (.instantiable RX10 28) (hp_pl 1091 (by decide +kernel) rfl))
  obtain ⟨a0, p0, q0⟩ := px_arr (hts (.arrayClass .int) (hp_pl 69 (by decide +kernel) rfl))
  obtain ⟨a1, p1, q1⟩ := px_arr (hts (.arrayClass .long) (hp_pl 129 (by decide +kernel) rfl))
  obtain ⟨a2, p2, q2⟩ := px_arr (hts (.arrayClass .boolean) (hp_pl 1182 (by decide +kernel) rfl))
  obtain ⟨a3, p3, q3⟩ := px_arrO w3
  obtain ⟨a4, p4, q4⟩ := px_arrO w4
  refine ⟨(fun k => if k = 0 then c0 else if k = 1 then c1 else if k = 2 then c2 else if k = 3 then c3 else if k = 4 then c4 else if k = 5 then c5 else if k = 6 then c6 else if k = 7 then c7 else if k = 8 then c8 else if k = 9 then c9 else c10, fun k => if k = 0 then i0 else if k = 1 then i1 else if k = 2 then i2 else if k = 3 then i3 else if k = 4 then i4 else if k = 5 then i5 else if k = 6 then i6 else if k = 7 then i7 else if k = 8 then i8 else if k = 9 then i9 else i10), fun k => if k = 0 then a0 else if k = 1 then a1 else if k = 2 then a2 else if k = 3 then a3 else a4, fun k q hq => ?_, fun k q hq => ?_⟩
  · match k, hq with
    | 0, hq => cases hq; exact k0
    | 1, hq => cases hq; exact k1
    | 2, hq => cases hq; exact k2
    | 3, hq => cases hq; exact k3
    | 4, hq => cases hq; exact k4
    | 5, hq => cases hq; exact k5
    | 6, hq => cases hq; exact k6
    | 7, hq => cases hq; exact k7
    | 8, hq => cases hq; exact k8
    | 9, hq => cases hq; exact k9
    | 10, hq => cases hq; exact k10
    | k + 11, hq => simp at hq
  · match k, hq with
    | 0, hq => cases hq; exact ⟨p0, q0⟩
    | 1, hq => cases hq; exact ⟨p1, q1⟩
    | 2, hq => cases hq; exact ⟨p2, q2⟩
    | 3, hq => cases hq; exact ⟨p3, q3⟩
    | 4, hq => cases hq; exact ⟨p4, q4⟩
    | k + 5, hq => simp [hp_tys] at hq
set_option maxRecDepth 100000 in
set_option maxHeartbeats 4000000 in
theorem px_walk {p : Program} {e : Env} {s : State} {m : MethodId} {below : List Frame} {meth : Method} {c : Code} (l : Launch) {b : Nat} (g : xi_G) (C : xi_C g (xl_K p e s m below meth c b 0 0) cL_law RL 7 room_1 none)
    (k : xi_j l g (xl_K p e s m below meth c b 0 0) 7 306 106459 306 px_hc [(4, .int (nI (6 * 0))), (3, .ref (xi_ad g.2.2.1 305)), (2, .ref (xi_ad g.2.2.1 290)), (1, .ref (xi_ad g.2.2.1 0)), (0, .ref b)] 23 []) :
    xi_j l g (xl_K p e s m below meth c b 0 0) 7 0 0 0 hp_0 [(0, .ref b)] 0 [] := by
  refine xi_new C 1 rfl vc9 (by decide) (by decide +kernel) inX9 tyX9_ok dfX9 ⟨(hp_pl 24 (by decide +kernel) rfl), (hp_pl 25 (by decide +kernel) rfl), (hp_pl 1 (by decide +kernel) rfl)⟩ (by decide +kernel) 1 17 rfl rfl (Nat.le_of_ble_eq_true rfl) (Nat.le_of_ble_eq_true rfl) dL_law_0 ?_
  refine xi_dup C dL_law_3 rfl ?_
  refine xi_callI C ⟨miX9_init, (hp_pl 26 (by decide +kernel) rfl)⟩ (iX9_init_ok l g) ⟨Nat.le_of_ble_eq_true rfl, Nat.le_of_ble_eq_true rfl⟩ 290 5140 rfl rfl (Nat.le_of_ble_eq_true rfl) (Nat.le_of_ble_eq_true rfl) (Nat.le_of_ble_eq_true rfl) dL_law_4 ?_
  refine xi_astore_n C [(1, .ref (xi_ad g.2.2.1 0)), (0, .ref b)] dL_law_7 rfl (Nat.le_of_ble_eq_true rfl) rfl ?_
  refine xi_new C 291 rfl vc10 (by decide) (by decide +kernel) inX10 tyX10_ok dfX10 ⟨(hp_pl 1090 (by decide +kernel) rfl), (hp_pl 1091 (by decide +kernel) rfl), (hp_pl 11 (by decide +kernel) rfl)⟩ (by decide +kernel) 291 5168 rfl rfl (Nat.le_of_ble_eq_true rfl) (Nat.le_of_ble_eq_true rfl) dL_law_8 ?_
  refine xi_dup C dL_law_11 rfl ?_
  refine xi_callI C ⟨miX10_init, (hp_pl 1092 (by decide +kernel) rfl)⟩ (iX10_init_ok l g 290 291 iX9_init (by decide) (by decide) (by decide +kernel) (by decide +kernel) (by decide +kernel) (by decide +kernel) (by decide +kernel) (by decide +kernel) (by decide +kernel) (by decide +kernel) (by decide +kernel) (by decide +kernel) (by decide +kernel) (by decide +kernel) (by decide +kernel) (by decide +kernel) (by decide +kernel)) ⟨Nat.le_of_ble_eq_true rfl, Nat.le_of_ble_eq_true rfl⟩ 305 106458 rfl rfl (Nat.le_of_ble_eq_true rfl) (Nat.le_of_ble_eq_true rfl) (Nat.le_of_ble_eq_true rfl) dL_law_12 ?_
  refine xi_astore_n C [(2, .ref (xi_ad g.2.2.1 290)), (1, .ref (xi_ad g.2.2.1 0)), (0, .ref b)] dL_law_15 rfl (Nat.le_of_ble_eq_true rfl) rfl ?_
  refine xi_iconst (v := 1) C dL_law_16 (by decide) ?_
  refine xi_newa_long (N := 1) C 306 rfl (hp_pl 129 (by decide +kernel) rfl) (by decide) (by decide) (Nat.le_of_ble_eq_true rfl) (by decide +kernel) 306 106459 rfl rfl (Nat.le_of_ble_eq_true rfl) (Nat.le_of_ble_eq_true rfl) dL_law_17 ?_
  refine xi_astore_n C [(3, .ref (xi_ad g.2.2.1 305)), (2, .ref (xi_ad g.2.2.1 290)), (1, .ref (xi_ad g.2.2.1 0)), (0, .ref b)] dL_law_19 rfl (Nat.le_of_ble_eq_true rfl) rfl ?_
  refine xi_iconst (v := nI (6 * 0)) C dL_law_20 (by decide) ?_
  refine xi_istore C [(4, .int (nI (6 * 0))), (3, .ref (xi_ad g.2.2.1 305)), (2, .ref (xi_ad g.2.2.1 290)), (1, .ref (xi_ad g.2.2.1 0)), (0, .ref b)] dL_law_21 (Nat.le_of_ble_eq_true rfl) rfl ?_
  exact k
set_option maxRecDepth 100000 in
set_option maxHeartbeats 4000000 in
theorem whole_open {Inv : hp_T → Prop} (ops : lw_OPS Inv) (hI0 : Inv px_h0) {p : Program} {e : Env} {s : State} {m : MethodId} {below : List Frame} {meth : Method} {c : Code} (l : Launch) (hflags : l.flags = flags0) {b L : Nat} {xs : Nat → Int32} (hL : L ≤ 3072) (C0 : lw_At p s m meth c b L xs) : W p l e room_1 s m #[Value.ref b] below meth c s.heap [] 0 0 (lw_Z below #[Value.ref b] s) (entryFrame m ([Value.ref b] : List Value).toArray 7) := by
  obtain ⟨hx, hb, hr, hml, hown, hts, hXs, hbl, hlocks, hgv⟩ := id C0
  have htG : ∀ w ∈ hp_GL, w.before #[Value.ref b] s = true := fun w hw => hts w (List.mem_filter.mp hw).1
  have hfl : l.stackTraces = false := by
    unfold Launch.stackTraces
    rw [hflags]; decide +kernel
  have w3 := hts (.arrayOver (.object "CourtSix$Court")) (List.mem_append_right _ (List.mem_of_getElem? (i := 217) (by decide +kernel)))
  have w4 := hts (.arrayOver (.object "CourtSix$Best")) (List.mem_append_right _ (List.mem_of_getElem? (i := 241) (by decide +kernel)))
  obtain ⟨D, cA, hK⟩ := px_K htG w3 w4
  obtain ⟨zt, hZ, hX⟩ := px_statics hts hgv (xi_A s.heap.size) (fun a ha => Nat.not_le.mpr ha)
  have hAO : va_AO "CourtSix$Court" s ∧ va_AO "CourtSix$Best" s := ⟨va_AO.of w3, va_AO.of w4⟩
  have C : xi_C (D, cA, s.heap.size, zt) (xl_K p e s m below meth c b 0 0) cL_law RL 7 room_1 none := ⟨hx, hb, hml, hown, htG, hK, Nat.le_refl _, hZ, hAO, rfl, fun Q0 e => by cases e⟩
  have hl := lv_entry ([.ref b]) (n := 7) (Nat.le_of_ble_eq_true rfl)
  rw [lg_entry_eq]
  refine px_walk l (D, cA, s.heap.size, zt) C ?_ s.heap [] _ ⟨fun k q hq => ?_, rfl, fun a _ => ⟨fun _ => rfl, fun _ => rfl, fun _ => rfl⟩⟩ va_S.rf hl
  · intro H locs ls hP hS hl
    refine law_loop (G := (D, cA, xi_ad s.heap.size, xi_A s.heap.size, zt)) (Inv := Inv) hfl (fun kc ks h1 h2 => ?_) rfl hr hXs ⟨hbl, Nat.not_le.mpr hbl⟩ hL hX ops 512 0 306 106459 px_h0 (by omega) (by omega) (by omega) (by omega) hI0 (px_Ty false false false) H locs ls (px_congr px_agree hP.1) hS (lv_sub hl [4, 3, 2, 1, 0] rfl)
    exact ⟨hx, hb, hml, hown, htG, hK, fun h' => xi_D cA s.heap.size hp_N h', hZ, rfl, hr, hlocks, ⟨h1, h2⟩, fun Q0 e => by cases e⟩
  · simp [hp_wl] at hq
