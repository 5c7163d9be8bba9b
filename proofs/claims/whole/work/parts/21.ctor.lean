/-! ===== constructors: the world of the first n cells, at the addresses b0 .. b0 + n - 1 ===== -/
abbrev xi_G : Type := va_G × (Nat → ClassId) × Nat × (Nat → Nat)
def xi_ad (b0 : Nat) : Nat → Nat := fun i => b0 + i
def xi_A (b0 : Nat) : Nat → Prop := fun q => b0 ≤ q
def xi_bl (n : Nat) (h : hp_T) : Prop := ∀ a, n ≤ a → (∀ k, h.1 a k = 0) ∧ (∀ k, h.2.1 a k = 0) ∧ ∀ k, h.2.2 a k = 999
theorem xi_D (cA : Nat → ClassId) (b0 n : Nat) (h : hp_T) : va_D (xi_A b0) (hp_wl cA (xi_ad b0) n h) := by
  have key : ∀ (i : Nat) (p : Nat × va_E), (hp_wl cA (xi_ad b0) n h)[i]? = some p → p.1 = b0 + i := by
    intro i p hp
    have hi : i < n := by
      have := (List.getElem?_eq_some_iff.mp hp).1
      simpa [hp_wl] using this
    rw [hp_wl_at rfl hi] at hp
    cases hp
    rfl
  refine ⟨fun i j p q hi hj e => ?_, fun k q hk => ?_⟩
  · rw [key i p hi, key j q hj] at e; omega
  · show b0 ≤ q.1
    rw [key k q hk]; omega
def xi_P (g : xi_G) (n : Nat) (h : hp_T) (H : Heap) : Prop := va_P g.1 vwCl (hp_wl g.2.1 (xi_ad g.2.2.1) n h) H ∧ H.size = g.2.2.1 + n ∧ xi_bl n h
def xi_W (g : xi_G) (n : Nat) (h : hp_T) (U : State) : Prop := xi_P g n h U.heap ∧ va_K g.1 vwCl (hp_tys g.2.1) U ∧ hp_Z g.2.2.2 (xi_A g.2.2.1) U U.heap ∧ va_AO "CourtSix$Court" U ∧ va_AO "CourtSix$Best" U
def xi_j (l : Launch) (g : xi_G) (K : xr_K) (nL kc ks n : Nat) (h : hp_T) (lv : List (Nat × Value)) (pc : Nat) (st : List Value) : Prop :=
  ∀ (H : Heap) (locs : List Loc) (ls : Array Slot), xi_P g n h H → va_S (xi_A g.2.2.1) K.2.2.2.1.heap H locs → lv_has ls nL lv →
    W K.1 l K.2.1 K.2.2.1 K.2.2.2.1 K.2.2.2.2.1 K.2.2.2.2.2.1 K.2.2.2.2.2.2.1 K.2.2.2.2.2.2.2.1 K.2.2.2.2.2.2.2.2.1 H locs kc ks K.2.2.2.2.2.2.2.2.2.1 (F0 K.2.2.2.2.1 pc ls st)
def xi_C (g : xi_G) (K : xr_K) (cc : ByteArray) (own : String) (nL : Nat) (rm : Room) (Qc : Option xr_Q) : Prop :=
  K.1.tables.exec = Jvm.exec ∧ K.2.2.2.2.2.2.2.2.1.code = cc ∧ K.2.2.2.2.2.2.2.2.1.maxLocals = nL ∧ K.2.2.2.1.vm.findClass own = some K.2.2.2.2.1.cls ∧ (∀ w ∈ hp_GL, w.before K.2.2.2.2.2.1 K.2.2.2.1 = true) ∧ va_K g.1 vwCl (hp_tys g.2.1) K.2.2.2.1 ∧ g.2.2.1 ≤ K.2.2.2.1.heap.size ∧ hp_Z g.2.2.2 (xi_A g.2.2.1) K.2.2.2.1 K.2.2.2.1.heap ∧ (va_AO "CourtSix$Court" K.2.2.2.1 ∧ va_AO "CourtSix$Best" K.2.2.2.1) ∧ K.2.2.1 = rm ∧ (∀ Q0 : xr_Q, Qc = some Q0 → K.2.2.2.2.2.2.2.1.name = "<init>" ∧ K.2.2.2.2.2.2.2.1.sig.returnType = none ∧ K.2.2.2.2.2.2.2.1.locks = false ∧ K.2.2.2.2.2.2.2.2.2.1 = MQ K.2.2.2.2.2.2.1 Q0 K.2.2.2.2.2.1 K.2.2.2.1 rm.cells rm.slots (xi_A g.2.2.1))
section XI
variable {l : Launch} {g : xi_G} {K : xr_K} {cc : ByteArray} {own : String} {nL kc ks n : Nat} {rm : Room} {Qc : Option xr_Q} {h : hp_T} {lv lv' : List (Nat × Value)} {pc : Nat} {st : List Value}
theorem xi_iconst (C : xi_C g K cc own nL rm Qc) {q : Int} {v : Int32} (d : decode cc pc = .ok (.iconst q, 1)) (hv : Int32.ofInt q = v) (k : xi_j l g K nL kc ks n h lv (pc + 1) (.int v :: st)) : xi_j l g K nL kc ks n h lv pc st := by
  obtain ⟨p, e, R, s, m, args, below, meth, c, Q, kc9, ks9⟩ := K
  obtain ⟨D, cA, b0, zt⟩ := g
  obtain ⟨hx, hb, hml, hown, hts, hK, hb0, hZ, hAO, hR, hQ⟩ := C
  intro H locs ls hP hS hl
  exact lv_iconst hx hb d hv (k H locs ls hP hS hl)
theorem xi_bipush (C : xi_C g K cc own nL rm Qc) {q : Int} {v : Int32} (d : decode cc pc = .ok (.bipush q, 2)) (hv : (Int8.ofInt q).toInt32 = v) (k : xi_j l g K nL kc ks n h lv (pc + 2) (.int v :: st)) : xi_j l g K nL kc ks n h lv pc st := by
  obtain ⟨p, e, R, s, m, args, below, meth, c, Q, kc9, ks9⟩ := K
  obtain ⟨D, cA, b0, zt⟩ := g
  obtain ⟨hx, hb, hml, hown, hts, hK, hb0, hZ, hAO, hR, hQ⟩ := C
  intro H locs ls hP hS hl
  exact lv_bipush hx hb d hv (k H locs ls hP hS hl)
theorem xi_sipush (C : xi_C g K cc own nL rm Qc) {q : Int} {v : Int32} (d : decode cc pc = .ok (.sipush q, 3)) (hv : (Int16.ofInt q).toInt32 = v) (k : xi_j l g K nL kc ks n h lv (pc + 3) (.int v :: st)) : xi_j l g K nL kc ks n h lv pc st := by
  obtain ⟨p, e, R, s, m, args, below, meth, c, Q, kc9, ks9⟩ := K
  obtain ⟨D, cA, b0, zt⟩ := g
  obtain ⟨hx, hb, hml, hown, hts, hK, hb0, hZ, hAO, hR, hQ⟩ := C
  intro H locs ls hP hS hl
  exact lv_sipush hx hb d hv (k H locs ls hP hS hl)
theorem xi_ldc (C : xi_C g K cc own nL rm Qc) {index : Nat} {v : Int32} (hc : Cond.constant own index v ∈ hp_GL) (d : decode cc pc = .ok (.ldc index, 2)) (k : xi_j l g K nL kc ks n h lv (pc + 2) (.int v :: st)) : xi_j l g K nL kc ks n h lv pc st := by
  obtain ⟨p, e, R, s, m, args, below, meth, c, Q, kc9, ks9⟩ := K
  obtain ⟨D, cA, b0, zt⟩ := g
  obtain ⟨hx, hb, hml, hown, hts, hK, hb0, hZ, hAO, hR, hQ⟩ := C
  intro H locs ls hP hS hl
  exact lv_ldc hx hb hown (hts _ hc) d (k H locs ls hP hS hl)
theorem xi_iload_n (C : xi_C g K cc own nL rm Qc) {q : Fin 4} {i : Nat} {x : Int32} (b : Nat) (d : decode cc pc = .ok (.iload_n q, 1)) (hi : (q : Nat) = i) (hk : lv[b]? = some (i, .int x)) (k : xi_j l g K nL kc ks n h lv (pc + 1) (.int x :: st)) : xi_j l g K nL kc ks n h lv pc st := by
  obtain ⟨p, e, R, s, m, args, below, meth, c, Q, kc9, ks9⟩ := K
  obtain ⟨D, cA, b0, zt⟩ := g
  obtain ⟨hx, hb, hml, hown, hts, hK, hb0, hZ, hAO, hR, hQ⟩ := C
  intro H locs ls hP hS hl
  exact lv_iload_n hx hb d hi (lv_at hl b hk) (k H locs ls hP hS hl)
theorem xi_aload_n (C : xi_C g K cc own nL rm Qc) {q : Fin 4} {i : Nat} {x : Nat} (b : Nat) (d : decode cc pc = .ok (.aload_n q, 1)) (hi : (q : Nat) = i) (hk : lv[b]? = some (i, .ref x)) (k : xi_j l g K nL kc ks n h lv (pc + 1) (.ref x :: st)) : xi_j l g K nL kc ks n h lv pc st := by
  obtain ⟨p, e, R, s, m, args, below, meth, c, Q, kc9, ks9⟩ := K
  obtain ⟨D, cA, b0, zt⟩ := g
  obtain ⟨hx, hb, hml, hown, hts, hK, hb0, hZ, hAO, hR, hQ⟩ := C
  intro H locs ls hP hS hl
  exact lv_aload_n hx hb d hi (lv_at hl b hk) (k H locs ls hP hS hl)
theorem xi_istore_n (C : xi_C g K cc own nL rm Qc) {q : Fin 4} {i : Nat} {x : Int32} (lv' : List (Nat × Value)) (d : decode cc pc = .ok (.istore_n q, 1)) (hi : (q : Nat) = i) (hn : i < nL) (hl0 : (i, Value.int x) :: lv.filter (fun q => !(q.1 == i) && !(q.1 + 1 == i && q.2.category == 2)) = lv') (k : xi_j l g K nL kc ks n h lv' (pc + 1) st) : xi_j l g K nL kc ks n h lv pc (.int x :: st) := by
  obtain ⟨p, e, R, s, m, args, below, meth, c, Q, kc9, ks9⟩ := K
  obtain ⟨D, cA, b0, zt⟩ := g
  obtain ⟨hx, hb, hml, hown, hts, hK, hb0, hZ, hAO, hR, hQ⟩ := C
  intro H locs ls hP hS hl
  exact lv_istore_n hx hb d hi hl hn hl0 (fun ls hl => k H locs ls hP hS hl)
theorem xi_iinc (C : xi_C g K cc own nL rm Qc) {i : Nat} {q : Int} {x : Int32} (v : Int32) (b : Nat) (lv' : List (Nat × Value)) (d : decode cc pc = .ok (.iinc i q, 3)) (hk : lv[b]? = some (i, .int x)) (hv : x + Int32.ofInt q = v) (hn : i < nL) (hl0 : (i, Value.int v) :: lv.filter (fun q => !(q.1 == i) && !(q.1 + 1 == i && q.2.category == 2)) = lv') (k : xi_j l g K nL kc ks n h lv' (pc + 3) st) : xi_j l g K nL kc ks n h lv pc st := by
  obtain ⟨p, e, R, s, m, args, below, meth, c, Q, kc9, ks9⟩ := K
  obtain ⟨D, cA, b0, zt⟩ := g
  obtain ⟨hx, hb, hml, hown, hts, hK, hb0, hZ, hAO, hR, hQ⟩ := C
  intro H locs ls hP hS hl
  exact lv_iinc hx hb d hl hk hv hn hl0 (fun ls hl => k H locs ls hP hS hl)
theorem xi_dup (C : xi_C g K cc own nL rm Qc) {va : Value} (d : decode cc pc = .ok (.dup, 1)) (hva : va.category = 1) (k : xi_j l g K nL kc ks n h lv (pc + 1) (va :: va :: st)) : xi_j l g K nL kc ks n h lv pc (va :: st) := by
  obtain ⟨p, e, R, s, m, args, below, meth, c, Q, kc9, ks9⟩ := K
  obtain ⟨D, cA, b0, zt⟩ := g
  obtain ⟨hx, hb, hml, hown, hts, hK, hb0, hZ, hAO, hR, hQ⟩ := C
  intro H locs ls hP hS hl
  exact lv_dup hx hb d hva (k H locs ls hP hS hl)
theorem xi_goto (C : xi_C g K cc own nL rm Qc) {off : Int} (tgt : Nat) (d : decode cc pc = .ok (.goto off, 3)) (ht : (pc : Int) + off = (tgt : Int)) (k : xi_j l g K nL kc ks n h lv tgt st) : xi_j l g K nL kc ks n h lv pc st := by
  obtain ⟨p, e, R, s, m, args, below, meth, c, Q, kc9, ks9⟩ := K
  obtain ⟨D, cA, b0, zt⟩ := g
  obtain ⟨hx, hb, hml, hown, hts, hK, hb0, hZ, hAO, hR, hQ⟩ := C
  intro H locs ls hP hS hl
  exact lv_goto hx hb d ht (k H locs ls hP hS hl)
theorem xi_icmp_ge (C : xi_C g K cc own nL rm Qc) {x y : Int32} {off : Int} (tgt : Nat) (d : decode cc pc = .ok (.if_icmp .ge off, 3)) (ht : (pc : Int) + off = (tgt : Int)) (kt : y ≤ x → xi_j l g K nL kc ks n h lv tgt st) (kf : ¬ y ≤ x → xi_j l g K nL kc ks n h lv (pc + 3) st) : xi_j l g K nL kc ks n h lv pc (.int y :: .int x :: st) := by
  obtain ⟨p, e, R, s, m, args, below, meth, c, Q, kc9, ks9⟩ := K
  obtain ⟨D, cA, b0, zt⟩ := g
  obtain ⟨hx, hb, hml, hown, hts, hK, hb0, hZ, hAO, hR, hQ⟩ := C
  intro H locs ls hP hS hl
  exact lv_icmp_ge hx hb d ht (fun q => kt q H locs ls hP hS hl) (fun q => kf q H locs ls hP hS hl)
theorem xi_obj (C : xi_C g K cc own nL rm Qc) {a idx : Nat} (f : Cond.methodLink own idx Lib.objectInit ∈ hp_GL ∧ Cond.instanceMethod Lib.objectInit ∈ hp_GL ∧ Cond.code Lib.objectInit ⟨#[0xb1]⟩ 1 none ∈ hp_GL) (hfr : 1 ≤ rm.frames) (hlo : (st.map fun v => v.category).sum + 12 ≤ rm.locals) (d : decode cc pc = .ok (.invokespecial idx, 3)) (k : xi_j l g K nL kc ks n h lv (pc + 3) st) : xi_j l g K nL kc ks n h lv pc (.ref a :: st) := by
  obtain ⟨p, e, R, s, m, args, below, meth, c, Q, kc9, ks9⟩ := K
  obtain ⟨D, cA, b0, zt⟩ := g
  obtain ⟨hx, hb, hml, hown, hts, hK, hb0, hZ, hAO, hR, hQ⟩ := C
  intro H locs ls hP hS hl
  dsimp only at hR
  subst hR
  refine W.objInit hx hb hown (hts _ f.1) (hts _ f.2.1) (hts _ f.2.2) rfl (hl.1.trans hml.symm) rfl d hfr (show 2 * 0 + _ + 12 ≤ R.locals by omega) ?_
  exact k H locs ls hP hS hl
theorem xi_push {D : va_G} {cA : Nat → ClassId} {b0 n : Nat} {h : hp_T} {H H1 : Heap} {z : Nat × Nat} (hP : va_P D vwCl (hp_wl cA (xi_ad b0) n h) H) (hz : H.size = b0 + n) (hs : hp_sh n = z) (o1 : ∀ q, q < H.size → H1[q]? = H[q]?) (e1 : va_at D vwCl (b0 + n, hp_cell cA (xi_ad b0) h n z) H1) : va_P D vwCl (hp_wl cA (xi_ad b0) (n + 1) h) H1 := by
  intro k q hk
  have hl : k < n + 1 := by
    have := (List.getElem?_eq_some_iff.mp hk).1
    simpa [hp_wl] using this
  rw [hp_wl_at rfl hl] at hk
  cases hk
  rcases Nat.lt_or_ge k n with hkn | hkn
  · have h9 := hP k _ (hp_wl_at rfl hkn)
    exact h9.kept (o1 _ (by show b0 + k < H.size; omega))
  · obtain rfl : k = n := by omega
    rw [hs]
    exact e1
theorem xi_bl_fs {n : Nat} {h : hp_T} (hb : xi_bl n h) (ad : Nat → Nat) (ci j : Nat) (hj : j < (hp_F.getD ci []).length) : vp_V (hp_fs ad h n ci) j = if ((hp_F.getD ci []).getD j none).isSome then .null else .int 0 := by
  unfold vp_V
  rw [List.getD_eq_getElem?_getD, hp_fs_at hj]
  show hp_fv ad h n _ j = _
  unfold hp_fv
  rw [(hb n (Nat.le_refl n)).1 j, (hb n (Nat.le_refl n)).2.2 j]
  rfl
theorem xi_bl_up {n : Nat} {h : hp_T} (hb : xi_bl n h) : xi_bl (n + 1) h := fun a ha => hb a (by omega)
theorem xi_new (C : xi_C g K cc own nL rm Qc) {index ci N : Nat} (n1 : Nat) (en : n + 1 = n1) {C : String} {T : u_T} {ty : Nat → FieldType} (hcl : vwCl[ci]? = some (C, T, N)) (hc : ci < 20) (hN : (hp_F.getD ci []).length = N) (hin : ∀ w ∈ u_ws C T N, w ∈ hp_GL) (hty : ∀ j, j < N → parseFieldDescriptor (T j).2.2.1 = some (ty j)) (hdf : ∀ j, j < N → defaultValue (ty j) = if ((hp_F.getD ci []).getD j none).isSome then .null else .int 0) (f : Cond.classLink own index C ∈ hp_GL ∧ Cond.instantiable C N ∈ hp_GL ∧ Cond.initialized C ∈ hp_GL) (hs : hp_sh n = (ci, 0)) (kc1 ks1 : Nat) (e1 : kc + 1 = kc1) (e2 : ks + N = ks1) (h1 : kc1 ≤ rm.cells) (h2 : ks1 ≤ rm.slots) (d : decode cc pc = .ok (.new index, 3)) (k : xi_j l g K nL kc1 ks1 n1 h lv (pc + 3) (.ref (xi_ad g.2.2.1 n) :: st)) : xi_j l g K nL kc ks n h lv pc st := by
  obtain ⟨p, e, R, s, m, args, below, meth, c, Q, kc9, ks9⟩ := K
  obtain ⟨D, cA, b0, zt⟩ := g
  obtain ⟨hx, hb, hml, hown, hts, hK, hb0, hZ, hAO, hR, hQ⟩ := C
  intro H locs ls hP hS hl
  dsimp only at hR
  subst hR
  subst e1
  subst e2
  subst en
  obtain ⟨hP, hsz, hbl⟩ := hP
  dsimp only at hP hsz hK
  have hKn := hK.1 ci _ hcl
  refine W.newcK hx hb hown (hts _ f.1) (hts _ f.2.1) (hts _ f.2.2) rfl d h1 h2 hKn.2.1 hsz fun H1 kC hkC e1 z1 o1 => ?_
  have hbn := u_born ty hts hin hKn hkC e1 hty
  refine k H1 locs ls ⟨?_, by show H1.size = b0 + (n + 1); omega, xi_bl_up hbl⟩ ⟨Nat.le_trans hS.1 (by omega), fun x h1 h2 => (o1 x (by have := hS.1; omega)).trans (hS.2.1 x h1 h2), hS.2.2⟩ hl
  refine xi_push hP hsz hs (fun q hq => o1 q (by omega)) ?_
  rw [hp_cell_ob hc]
  refine ⟨_, hcl, hbn.to (fun j hj => ?_)⟩
  rw [hdf j hj, xi_bl_fs hbl _ _ _ (by rw [hN]; exact hj)]
theorem xi_newa_int (C : xi_C g K cc own nL rm Qc) {N : Nat} (n1 : Nat) (en : n + 1 = n1) {v : Int32} (harr : Cond.arrayClass .int ∈ hp_GL) (hn : ¬ v < 0) (hN : v.toNatClampNeg = N) (hB : N * 8 ≤ 536870912) (hs : hp_sh n = (20, N)) (kc1 ks1 : Nat) (e1 : kc + 1 = kc1) (e2 : ks + N = ks1) (h1 : kc1 ≤ rm.cells) (h2 : ks1 ≤ rm.slots) (d : decode cc pc = .ok (.newarray .int, 2)) (k : xi_j l g K nL kc1 ks1 n1 h lv (pc + 2) (.ref (xi_ad g.2.2.1 n) :: st)) : xi_j l g K nL kc ks n h lv pc (.int v :: st) := by
  obtain ⟨p, e, R, s, m, args, below, meth, c, Q, kc9, ks9⟩ := K
  obtain ⟨D, cA, b0, zt⟩ := g
  obtain ⟨hx, hb, hml, hown, hts, hK, hb0, hZ, hAO, hR, hQ⟩ := C
  intro H locs ls hP hS hl
  dsimp only at hR
  subst hR
  subst e1
  subst e2
  subst en
  obtain ⟨hP, hsz, hbl⟩ := hP
  dsimp only at hP hsz hK
  refine va_newaK (atype := .int) hx hb (hts _ harr) rfl d rfl hn hN (by show N * 4 ≤ _; omega) h1 h2 hsz fun H1 c9 e1 z1 o1 hAr hfc => ?_
  have hc9 : c9 = cA 0 := Option.some.inj (hfc.symm.trans (hK.2 0 _ rfl).2)
  subst hc9
  refine k H1 locs ls ⟨?_, by show H1.size = b0 + (n + 1); omega, xi_bl_up hbl⟩ ⟨Nat.le_trans hS.1 (by omega), fun x h1 h2 => (o1 x (by have := hS.1; omega)).trans (hS.2.1 x h1 h2), hS.2.2⟩ hl
  refine xi_push hP hsz hs (fun q hq => o1 q (by omega)) ?_
  show H1[b0 + n]? = some (vp_cell _ _)
  rw [e1]
  congr 1
  show arrV (cA 0) N (fun _ => .int 0) = arrV (cA 0) N (fun j => .int (h.1 n j))
  congr 1
  funext j
  rw [(hbl n (Nat.le_refl n)).1 j]
theorem xi_newa_long (C : xi_C g K cc own nL rm Qc) {N : Nat} (n1 : Nat) (en : n + 1 = n1) {v : Int32} (harr : Cond.arrayClass .long ∈ hp_GL) (hn : ¬ v < 0) (hN : v.toNatClampNeg = N) (hB : N * 8 ≤ 536870912) (hs : hp_sh n = (21, N)) (kc1 ks1 : Nat) (e1 : kc + 1 = kc1) (e2 : ks + N = ks1) (h1 : kc1 ≤ rm.cells) (h2 : ks1 ≤ rm.slots) (d : decode cc pc = .ok (.newarray .long, 2)) (k : xi_j l g K nL kc1 ks1 n1 h lv (pc + 2) (.ref (xi_ad g.2.2.1 n) :: st)) : xi_j l g K nL kc ks n h lv pc (.int v :: st) := by
  obtain ⟨p, e, R, s, m, args, below, meth, c, Q, kc9, ks9⟩ := K
  obtain ⟨D, cA, b0, zt⟩ := g
  obtain ⟨hx, hb, hml, hown, hts, hK, hb0, hZ, hAO, hR, hQ⟩ := C
  intro H locs ls hP hS hl
  dsimp only at hR
  subst hR
  subst e1
  subst e2
  subst en
  obtain ⟨hP, hsz, hbl⟩ := hP
  dsimp only at hP hsz hK
  refine va_newaK (atype := .long) hx hb (hts _ harr) rfl d rfl hn hN (by show N * 8 ≤ _; omega) h1 h2 hsz fun H1 c9 e1 z1 o1 hAr hfc => ?_
  have hc9 : c9 = cA 1 := Option.some.inj (hfc.symm.trans (hK.2 1 _ rfl).2)
  subst hc9
  refine k H1 locs ls ⟨?_, by show H1.size = b0 + (n + 1); omega, xi_bl_up hbl⟩ ⟨Nat.le_trans hS.1 (by omega), fun x h1 h2 => (o1 x (by have := hS.1; omega)).trans (hS.2.1 x h1 h2), hS.2.2⟩ hl
  refine xi_push hP hsz hs (fun q hq => o1 q (by omega)) ?_
  show H1[b0 + n]? = some (vp_cell _ _)
  rw [e1]
  congr 1
  show arrV (cA 1) N (fun _ => .long 0) = arrV (cA 1) N (fun j => .long (h.2.1 n j))
  congr 1
  funext j
  rw [(hbl n (Nat.le_refl n)).2.1 j]
theorem xi_newa_boolean (C : xi_C g K cc own nL rm Qc) {N : Nat} (n1 : Nat) (en : n + 1 = n1) {v : Int32} (harr : Cond.arrayClass .boolean ∈ hp_GL) (hn : ¬ v < 0) (hN : v.toNatClampNeg = N) (hB : N * 8 ≤ 536870912) (hs : hp_sh n = (22, N)) (kc1 ks1 : Nat) (e1 : kc + 1 = kc1) (e2 : ks + N = ks1) (h1 : kc1 ≤ rm.cells) (h2 : ks1 ≤ rm.slots) (d : decode cc pc = .ok (.newarray .boolean, 2)) (k : xi_j l g K nL kc1 ks1 n1 h lv (pc + 2) (.ref (xi_ad g.2.2.1 n) :: st)) : xi_j l g K nL kc ks n h lv pc (.int v :: st) := by
  obtain ⟨p, e, R, s, m, args, below, meth, c, Q, kc9, ks9⟩ := K
  obtain ⟨D, cA, b0, zt⟩ := g
  obtain ⟨hx, hb, hml, hown, hts, hK, hb0, hZ, hAO, hR, hQ⟩ := C
  intro H locs ls hP hS hl
  dsimp only at hR
  subst hR
  subst e1
  subst e2
  subst en
  obtain ⟨hP, hsz, hbl⟩ := hP
  dsimp only at hP hsz hK
  refine va_newaK (atype := .boolean) hx hb (hts _ harr) rfl d rfl hn hN (by show N * 1 ≤ _; omega) h1 h2 hsz fun H1 c9 e1 z1 o1 hAr hfc => ?_
  have hc9 : c9 = cA 2 := Option.some.inj (hfc.symm.trans (hK.2 2 _ rfl).2)
  subst hc9
  refine k H1 locs ls ⟨?_, by show H1.size = b0 + (n + 1); omega, xi_bl_up hbl⟩ ⟨Nat.le_trans hS.1 (by omega), fun x h1 h2 => (o1 x (by have := hS.1; omega)).trans (hS.2.1 x h1 h2), hS.2.2⟩ hl
  refine xi_push hP hsz hs (fun q hq => o1 q (by omega)) ?_
  show H1[b0 + n]? = some (vp_cell _ _)
  rw [e1]
  congr 1
  show arrV (cA 2) N (fun _ => .int 0) = arrV (cA 2) N (fun j => .int (h.1 n j))
  congr 1
  funext j
  rw [(hbl n (Nat.le_refl n)).1 j]
theorem xi_newq23 (C : xi_C g K cc own nL rm Qc) {N index : Nat} (n1 : Nat) (en : n + 1 = n1) {v : Int32} (f : Cond.classLink own index "CourtSix$Court" ∈ hp_GL) (hn : ¬ v < 0) (hN : v.toNatClampNeg = N) (hB : N * 4 ≤ 536870912) (hs : hp_sh n = (23, N)) (kc1 ks1 : Nat) (e1 : kc + 1 = kc1) (e2 : ks + N = ks1) (h1 : kc1 ≤ rm.cells) (h2 : ks1 ≤ rm.slots) (d : decode cc pc = .ok (.anewarray index, 3)) (k : xi_j l g K nL kc1 ks1 n1 h lv (pc + 3) (.ref (xi_ad g.2.2.1 n) :: st)) : xi_j l g K nL kc ks n h lv pc (.int v :: st) := by
  obtain ⟨p, e, R, s, m, args, below, meth, c, Q, kc9, ks9⟩ := K
  obtain ⟨D, cA, b0, zt⟩ := g
  obtain ⟨hx, hb, hml, hown, hts, hK, hb0, hZ, hAO, hR, hQ⟩ := C
  intro H locs ls hP hS hl
  dsimp only at hR
  subst hR
  subst hN
  subst e1
  subst e2
  subst en
  obtain ⟨hP, hsz, hbl⟩ := hP
  dsimp only at hP hsz hK hAO
  refine W.anew hx hb hown (hts _ f) (va_AO.use hAO.1) rfl d rfl hn hB h1 h2 fun c9 kA comp f1 f2 f3 f4 => ?_
  generalize hH1 : H.push ({ cls := c9, slots := Array.replicate v.toNatClampNeg .null, vm := .none } : Cell) = H1
  have z1 : H1.size = H.size + 1 := by rw [← hH1, Array.size_push]
  have e1 : H1[H.size]? = some (arrV c9 v.toNatClampNeg (fun _ => .null)) := by rw [← hH1, Array.getElem?_push_size, ← arrV_new]
  have o1 : ∀ q : Nat, q < H.size → H1[q]? = H[q]? := fun q hq => by rw [← hH1, Array.getElem?_push, if_neg (Nat.ne_of_lt hq)]
  obtain ⟨-, kA2, comp2, g1, g2, g3, g4⟩ := hK.2 3 _ rfl
  have hc9 : c9 = cA 3 := Option.some.inj (f1.symm.trans g4)
  subst hc9
  have hk := k H1 locs ls ⟨?_, by show H1.size = b0 + (n + 1); omega, xi_bl_up hbl⟩ ⟨Nat.le_trans hS.1 (by omega), fun x h1 h2 => (o1 x (by have := hS.1; omega)).trans (hS.2.1 x h1 h2), hS.2.2⟩ hl
  · rw [show xi_ad b0 n = H.size by rw [hsz]; rfl] at hk
    exact hk
  · refine xi_push hP hsz hs o1 ?_
    show H1[b0 + n]? = some (vp_cell _ _)
    rw [← hsz, e1]
    congr 1
    show arrV (cA 3) _ (fun _ => .null) = arrV (cA 3) _ (fun j => va_rf (hp_ro _ (h.2.2 n j)))
    congr 1
    funext j
    rw [(hbl n (Nat.le_refl n)).2.2 j]
    rfl
theorem xi_newq24 (C : xi_C g K cc own nL rm Qc) {N index : Nat} (n1 : Nat) (en : n + 1 = n1) {v : Int32} (f : Cond.classLink own index "CourtSix$Best" ∈ hp_GL) (hn : ¬ v < 0) (hN : v.toNatClampNeg = N) (hB : N * 4 ≤ 536870912) (hs : hp_sh n = (24, N)) (kc1 ks1 : Nat) (e1 : kc + 1 = kc1) (e2 : ks + N = ks1) (h1 : kc1 ≤ rm.cells) (h2 : ks1 ≤ rm.slots) (d : decode cc pc = .ok (.anewarray index, 3)) (k : xi_j l g K nL kc1 ks1 n1 h lv (pc + 3) (.ref (xi_ad g.2.2.1 n) :: st)) : xi_j l g K nL kc ks n h lv pc (.int v :: st) := by
  obtain ⟨p, e, R, s, m, args, below, meth, c, Q, kc9, ks9⟩ := K
  obtain ⟨D, cA, b0, zt⟩ := g
  obtain ⟨hx, hb, hml, hown, hts, hK, hb0, hZ, hAO, hR, hQ⟩ := C
  intro H locs ls hP hS hl
  dsimp only at hR
  subst hR
  subst hN
  subst e1
  subst e2
  subst en
  obtain ⟨hP, hsz, hbl⟩ := hP
  dsimp only at hP hsz hK hAO
  refine W.anew hx hb hown (hts _ f) (va_AO.use hAO.2) rfl d rfl hn hB h1 h2 fun c9 kA comp f1 f2 f3 f4 => ?_
  generalize hH1 : H.push ({ cls := c9, slots := Array.replicate v.toNatClampNeg .null, vm := .none } : Cell) = H1
  have z1 : H1.size = H.size + 1 := by rw [← hH1, Array.size_push]
  have e1 : H1[H.size]? = some (arrV c9 v.toNatClampNeg (fun _ => .null)) := by rw [← hH1, Array.getElem?_push_size, ← arrV_new]
  have o1 : ∀ q : Nat, q < H.size → H1[q]? = H[q]? := fun q hq => by rw [← hH1, Array.getElem?_push, if_neg (Nat.ne_of_lt hq)]
  obtain ⟨-, kA2, comp2, g1, g2, g3, g4⟩ := hK.2 4 _ rfl
  have hc9 : c9 = cA 4 := Option.some.inj (f1.symm.trans g4)
  subst hc9
  have hk := k H1 locs ls ⟨?_, by show H1.size = b0 + (n + 1); omega, xi_bl_up hbl⟩ ⟨Nat.le_trans hS.1 (by omega), fun x h1 h2 => (o1 x (by have := hS.1; omega)).trans (hS.2.1 x h1 h2), hS.2.2⟩ hl
  · rw [show xi_ad b0 n = H.size by rw [hsz]; rfl] at hk
    exact hk
  · refine xi_push hP hsz hs o1 ?_
    show H1[b0 + n]? = some (vp_cell _ _)
    rw [← hsz, e1]
    congr 1
    show arrV (cA 4) _ (fun _ => .null) = arrV (cA 4) _ (fun j => va_rf (hp_ro _ (h.2.2 n j)))
    congr 1
    funext j
    rw [(hbl n (Nat.le_refl n)).2.2 j]
    rfl
theorem xi_bl_sR {n a k v : Nat} {h : hp_T} (hb : xi_bl n h) (ha : a < n) : xi_bl n (hp_sR h a k v) := fun b hn => ⟨(hb b hn).1, (hb b hn).2.1, fun j => by rw [(hp_sR_off b (by omega)).2.2 j]; exact (hb b hn).2.2 j⟩
theorem xi_bl_sI {n a k : Nat} {v : Int32} {h : hp_T} (hb : xi_bl n h) (ha : a < n) : xi_bl n (hp_sI h a k v) := fun b hn => ⟨fun j => by rw [(hp_sI_off b (by omega)).1 j]; exact (hb b hn).1 j, (hb b hn).2.1, (hb b hn).2.2⟩
theorem xi_setR {cA : Nat → ClassId} {ad : Nat → Nat} {n a ci k v : Nat} {h : hp_T} {z : Nat × Nat} (ha : hp_sh a = (ci, 0)) (hc : ci < 20) (hf : (hp_F.getD ci []).getD k none = some z) (hv : v ≠ 999) : (hp_wl cA ad n h).set a (ad a, .inr (ci, (hp_fs ad h a ci).set k (.ref (ad v)))) = hp_wl cA ad n (hp_sR h a k v) := by
  have hrow : ∀ j, (hp_sR h a k v).2.2 a j = if j = k then v else h.2.2 a j := by
    intro j
    show hp_u h.2.2 a k v a j = _
    unfold hp_u
    by_cases e : j = k <;> simp [e]
  refine hp_wl_set ha _ ?_ hp_sR_off
  rw [hp_cell_ob hc, hp_fs_set (h' := hp_sR h a k v) (.ref (ad v)) ?_ ?_]
  · unfold hp_fv
    rw [hf, hrow, if_pos rfl, hp_rv_ref hv]
    rfl
  · intro j hj
    refine ⟨rfl, ?_⟩
    rw [hrow, if_neg hj]
theorem xi_setI {cA : Nat → ClassId} {ad : Nat → Nat} {n a ci k : Nat} {v : Int32} {h : hp_T} (ha : hp_sh a = (ci, 0)) (hc : ci < 20) (hf : (hp_F.getD ci []).getD k none = none) : (hp_wl cA ad n h).set a (ad a, .inr (ci, (hp_fs ad h a ci).set k (.int v))) = hp_wl cA ad n (hp_sI h a k v) := by
  refine hp_wl_set ha _ ?_ hp_sI_off
  rw [hp_cell_ob hc, hp_fs_set (h' := hp_sI h a k v) (.int v) ?_ ?_]
  · unfold hp_fv
    rw [hf, hp_sI_row]
    simp [upd]
  · intro j hj
    refine ⟨?_, rfl⟩
    rw [hp_sI_row]
    simp [upd, hj]
theorem xi_putF (C : xi_C g K cc own nL rm Qc) {index ci k a v N : Nat} {C : String} {T : u_T} {ty : Nat → FieldType} {z : Nat × Nat} {ty0 : FieldType} {Q0 : xr_Q} (hQc : Qc = some Q0) (f : xr_fd ci k C T N ty ∧ Cond.fieldLink own index C (T k).2.1 (T k).2.2.1 ∈ hp_GL ∧ (T k).2.2.2 = true ∧ parseFieldDescriptor (T k).2.2.1 = some ty0) (ho : C = own) (hf : (hp_F.getD ci []).getD k none = some z) (hv : v ≠ 999) (hn : ∀ q, narrow ty0 (.ref q) = .ref q) (hfit : ∀ q, fits ty0 (.ref q) = true) (d : decode cc pc = .ok (.putfield index, 3)) (ha : hp_sh a = (ci, 0)) (han : a < n) (k0 : xi_j l g K nL kc ks n (hp_sR h a k v) lv (pc + 3) st) : xi_j l g K nL kc ks n h lv pc (.ref (xi_ad g.2.2.1 v) :: .ref (xi_ad g.2.2.1 a) :: st) := by
  obtain ⟨p, e, R, s, m, args, below, meth, c, Q, kc9, ks9⟩ := K
  obtain ⟨D, cA, b0, zt⟩ := g
  obtain ⟨hx, hb, hml, hown, hts, hK, hb0, hZ, hAO, hR, hQ⟩ := C
  intro H locs ls hP hS hl
  obtain ⟨⟨hc, hcl, hN, hk, hin, hty, hnm, hde⟩, hlk, hf1, hf2⟩ := f
  obtain ⟨hP, hsz, hbl⟩ := hP
  dsimp only at hP hsz hK hown hts hQ
  have hat := hp_wl_at (cA := cA) (ad := xi_ad b0) (n := n) (h := h) ha han
  rw [hp_cell_ob hc] at hat
  have hap := va_apart (own := own) hts hin ty hty hnm hK hcl
  obtain ⟨r, h1, cell, q1, q2, q3, q4⟩ := hP a _ hat
  have hr : r = (C, T, N) := Option.some.inj (h1.symm.trans hcl)
  subst hr
  obtain ⟨hSl, hfc, kC, hkC, hkind⟩ := hK.1 ci _ hcl
  obtain ⟨cf, kf, fi, f, hi, hsl⟩ := hSl k hk
  have hlay := hts _ (hin _ (u_in_lay hk))
  unfold u_lay at hlay
  rw [if_pos hf1] at hlay
  have hst := (u_facts hfc hkC (u_lays hts hin hk) hi).1
  have hcf : m.cls = cf := by
    obtain ⟨_, _, c', _, _, _, -, -, hf', -, -, -, hown2, -⟩ := Cond.laysFinal_spec hlay
    have e1 : c' = cf := by have := hi.symm.trans hf'; simp at this; exact this.1.symm
    rw [hde, ho] at hown2
    rw [← e1]; exact Option.some.inj (hown.symm.trans hown2)
  have h6 := u_fits hfc hkC hkind (Or.inr hlay) hi hf2 (hn (xi_ad b0 v)) (hfit (xi_ad b0 v))
  refine W.putFinK hx hb hown (hts _ hlk) (by rw [hde] at hi; exact hi) hst hcf (hQ Q0 hQc).1 (by rw [q2]; exact h6) q1 q3 (by rw [hsl]; exact k2_hasslot (q4 k hk)) rfl rfl d fun H1 e1 e2 e3 => ?_
  rw [hsl] at e1 ⊢
  have hP1 := hP.set (e := .inr (ci, (hp_fs (xi_ad b0) h a ci).set k (.ref (xi_ad b0 v)))) (H1 := H1) (xi_D cA b0 n h) hat ⟨_, hcl, t_OB.to (V := updV (vp_V (hp_fs (xi_ad b0) h a ci)) k (.ref (xi_ad b0 v))) ⟨_, e1, q2, q3, t_set q4 hap hk _⟩ (fun j _ => vp_updV_set (by rw [show (hp_fs (xi_ad b0) h a ci).length = N by unfold hp_fs; rw [List.length_map, List.length_range]; exact hN]; exact hk) _ j)⟩ e3
  rw [xi_setR ha hc hf hv] at hP1
  exact k0 H1 _ ls ⟨hP1, e2.trans hsz, xi_bl_sR hbl han⟩ (hS.put e2 e3 (show b0 ≤ b0 + a by omega)) hl
theorem xi_putR (C : xi_C g K cc own nL rm Qc) {index ci k a v N : Nat} {C : String} {T : u_T} {ty : Nat → FieldType} {z : Nat × Nat} {ty0 : FieldType} {Q0 : xr_Q} (hQc : Qc = some Q0) (f : xr_fd ci k C T N ty ∧ Cond.fieldLink own index C (T k).2.1 (T k).2.2.1 ∈ hp_GL ∧ (T k).2.2.2 = false ∧ parseFieldDescriptor (T k).2.2.1 = some ty0) (ho : C = own) (hf : (hp_F.getD ci []).getD k none = some z) (hv : v ≠ 999) (hn : ∀ q, narrow ty0 (.ref q) = .ref q) (hfit : ∀ q, fits ty0 (.ref q) = true) (d : decode cc pc = .ok (.putfield index, 3)) (ha : hp_sh a = (ci, 0)) (han : a < n) (k0 : xi_j l g K nL kc ks n (hp_sR h a k v) lv (pc + 3) st) : xi_j l g K nL kc ks n h lv pc (.ref (xi_ad g.2.2.1 v) :: .ref (xi_ad g.2.2.1 a) :: st) := by
  obtain ⟨p, e, R, s, m, args, below, meth, c, Q, kc9, ks9⟩ := K
  obtain ⟨D, cA, b0, zt⟩ := g
  obtain ⟨hx, hb, hml, hown, hts, hK, hb0, hZ, hAO, hR, hQ⟩ := C
  intro H locs ls hP hS hl
  obtain ⟨⟨hc, hcl, hN, hk, hin, hty, hnm, hde⟩, hlk, hf1, hf2⟩ := f
  obtain ⟨hP, hsz, hbl⟩ := hP
  dsimp only at hP hsz hK hown hts hQ
  have hat := hp_wl_at (cA := cA) (ad := xi_ad b0) (n := n) (h := h) ha han
  rw [hp_cell_ob hc] at hat
  have hap := va_apart (own := own) hts hin ty hty hnm hK hcl
  obtain ⟨r, h1, cell, q1, q2, q3, q4⟩ := hP a _ hat
  have hr : r = (C, T, N) := Option.some.inj (h1.symm.trans hcl)
  subst hr
  obtain ⟨hSl, hfc, kC, hkC, hkind⟩ := hK.1 ci _ hcl
  obtain ⟨cf, kf, fi, f, hi, hsl⟩ := hSl k hk
  have hlay := hts _ (hin _ (u_in_lay hk))
  unfold u_lay at hlay
  rw [if_neg (by rw [hf1]; decide)] at hlay
  have hst := (u_facts hfc hkC (u_lays hts hin hk) hi).1
  have h6 := u_store hfc hkC hkind hlay hi hf2 (hn (xi_ad b0 v)) (hfit (xi_ad b0 v))
  refine W.putK hx hb (f := f) ⟨hown, hts _ hlk, ⟨_, _, _, by rw [hde] at hi; exact hi⟩, hst⟩ (by rw [q2]; exact h6) q1 q3 (by rw [hsl]; exact k2_hasslot (q4 k hk)) rfl rfl d fun H1 e1 e2 e3 => ?_
  rw [hsl] at e1 ⊢
  have hP1 := hP.set (e := .inr (ci, (hp_fs (xi_ad b0) h a ci).set k (.ref (xi_ad b0 v)))) (H1 := H1) (xi_D cA b0 n h) hat ⟨_, hcl, t_OB.to (V := updV (vp_V (hp_fs (xi_ad b0) h a ci)) k (.ref (xi_ad b0 v))) ⟨_, e1, q2, q3, t_set q4 hap hk _⟩ (fun j _ => vp_updV_set (by rw [show (hp_fs (xi_ad b0) h a ci).length = N by unfold hp_fs; rw [List.length_map, List.length_range]; exact hN]; exact hk) _ j)⟩ e3
  rw [xi_setR ha hc hf hv] at hP1
  exact k0 H1 _ ls ⟨hP1, e2.trans hsz, xi_bl_sR hbl han⟩ (hS.put e2 e3 (show b0 ≤ b0 + a by omega)) hl
theorem xi_putI (C : xi_C g K cc own nL rm Qc) {index ci k a N : Nat} {v : Int32} {C : String} {T : u_T} {ty : Nat → FieldType} {ty0 : FieldType} (f : xr_fd ci k C T N ty ∧ Cond.fieldLink own index C (T k).2.1 (T k).2.2.1 ∈ hp_GL ∧ (T k).2.2.2 = false ∧ parseFieldDescriptor (T k).2.2.1 = some ty0) (hf : (hp_F.getD ci []).getD k none = none) (hn : narrow ty0 (.int v) = .int v) (hfit : fits ty0 (.int v) = true) (d : decode cc pc = .ok (.putfield index, 3)) (ha : hp_sh a = (ci, 0)) (han : a < n) (k0 : xi_j l g K nL kc ks n (hp_sI h a k v) lv (pc + 3) st) : xi_j l g K nL kc ks n h lv pc (.int v :: .ref (xi_ad g.2.2.1 a) :: st) := by
  obtain ⟨p, e, R, s, m, args, below, meth, c, Q, kc9, ks9⟩ := K
  obtain ⟨D, cA, b0, zt⟩ := g
  obtain ⟨hx, hb, hml, hown, hts, hK, hb0, hZ, hAO, hR, hQ⟩ := C
  intro H locs ls hP hS hl
  obtain ⟨⟨hc, hcl, hN, hk, hin, hty, hnm, hde⟩, hlk, hf1, hf2⟩ := f
  obtain ⟨hP, hsz, hbl⟩ := hP
  dsimp only at hP hsz hK hown hts hQ
  have hat := hp_wl_at (cA := cA) (ad := xi_ad b0) (n := n) (h := h) ha han
  rw [hp_cell_ob hc] at hat
  have hap := va_apart (own := own) hts hin ty hty hnm hK hcl
  obtain ⟨r, h1, cell, q1, q2, q3, q4⟩ := hP a _ hat
  have hr : r = (C, T, N) := Option.some.inj (h1.symm.trans hcl)
  subst hr
  obtain ⟨hSl, hfc, kC, hkC, hkind⟩ := hK.1 ci _ hcl
  obtain ⟨cf, kf, fi, f, hi, hsl⟩ := hSl k hk
  have hlay := hts _ (hin _ (u_in_lay hk))
  unfold u_lay at hlay
  rw [if_neg (by rw [hf1]; decide)] at hlay
  have hst := (u_facts hfc hkC (u_lays hts hin hk) hi).1
  have h6 := u_store hfc hkC hkind hlay hi hf2 hn hfit
  refine W.putK hx hb (f := f) ⟨hown, hts _ hlk, ⟨_, _, _, by rw [hde] at hi; exact hi⟩, hst⟩ (by rw [q2]; exact h6) q1 q3 (by rw [hsl]; exact k2_hasslot (q4 k hk)) rfl rfl d fun H1 e1 e2 e3 => ?_
  rw [hsl] at e1 ⊢
  have hP1 := hP.set (e := .inr (ci, (hp_fs (xi_ad b0) h a ci).set k (.int v))) (H1 := H1) (xi_D cA b0 n h) hat ⟨_, hcl, t_OB.to (V := updV (vp_V (hp_fs (xi_ad b0) h a ci)) k (.int v)) ⟨_, e1, q2, q3, t_set q4 hap hk _⟩ (fun j _ => vp_updV_set (by rw [show (hp_fs (xi_ad b0) h a ci).length = N by unfold hp_fs; rw [List.length_map, List.length_range]; exact hN]; exact hk) _ j)⟩ e3
  rw [xi_setI ha hc hf] at hP1
  exact k0 H1 _ ls ⟨hP1, e2.trans hsz, xi_bl_sI hbl han⟩ (hS.put e2 e3 (show b0 ≤ b0 + a by omega)) hl
theorem xi_getr (C : xi_C g K cc own nL rm Qc) {index ci k a v : Nat} {z : Nat × Nat} (f : xr_fl own index ci k) (hf : (hp_F.getD ci []).getD k none = some z) (d : decode cc pc = .ok (.getfield index, 3)) (ha : hp_sh a = (ci, 0)) (han : a < n) (hv : h.2.2 a k = v) (hv9 : v ≠ 999) (k0 : xi_j l g K nL kc ks n h lv (pc + 3) (.ref (xi_ad g.2.2.1 v) :: st)) : xi_j l g K nL kc ks n h lv pc (.ref (xi_ad g.2.2.1 a) :: st) := by
  obtain ⟨p, e, R, s, m, args, below, meth, c, Q, kc9, ks9⟩ := K
  obtain ⟨D, cA, b0, zt⟩ := g
  obtain ⟨hx, hb, hml, hown, hts, hK, hb0, hZ, hAO, hR, hQ⟩ := C
  intro H locs ls hP hS hl
  obtain ⟨C, T, N, ty, ⟨hc, hcl, hN, hk, hin, hty, hnm, hde⟩, hlk⟩ := f
  obtain ⟨hP, hsz, hbl⟩ := hP
  have hat := hp_wl_at (cA := cA) (ad := xi_ad b0) (n := n) (h := h) ha han
  rw [hp_cell_ob hc] at hat
  have hvv : (hp_fs (xi_ad b0) h a ci)[k]? = some (.ref (xi_ad b0 v)) := by
    rw [hp_fs_at (by rw [hN]; exact hk)]
    unfold hp_fv
    rw [hf, hv, ← hp_rv_ref hv9]; rfl
  exact va_get hx hb hts hin hown hK hP a hat hcl k hk (hts _ hlk) (fun x hx => by rw [hde] at hx; exact hx) hvv d (k0 H locs ls ⟨hP, hsz, hbl⟩ hS hl)
theorem xi_aast23 (C : xi_C g K cc own nL rm Qc) {a v N : Nat} {i : Int32} (d : decode cc pc = .ok (.aastore, 1)) (ha : hp_sh a = (23, N)) (han : a < n) (hi : fx_in i N) (hv : hp_sh v = (1, 0)) (hvn : v < n) (hv9 : v ≠ 999) (k0 : xi_j l g K nL kc ks n (hp_sR h a (fx_ix i) v) lv (pc + 1) st) : xi_j l g K nL kc ks n h lv pc (.ref (xi_ad g.2.2.1 v) :: .int i :: .ref (xi_ad g.2.2.1 a) :: st) := by
  obtain ⟨p, e, R, s, m, args, below, meth, c, Q, kc9, ks9⟩ := K
  obtain ⟨D, cA, b0, zt⟩ := g
  obtain ⟨hx, hb, hml, hown, hts, hK, hb0, hZ, hAO, hR, hQ⟩ := C
  intro H locs ls hP hS hl
  obtain ⟨hP, hsz, hbl⟩ := hP
  dsimp only at hP hsz hK
  have hata := hp_wl_at (cA := cA) (ad := xi_ad b0) (n := n) (h := h) ha han
  have hatv := hp_wl_at (cA := cA) (ad := xi_ad b0) (n := n) (h := h) hv hvn
  rw [hp_cell_ob (by decide)] at hatv
  have hin := fx_vin hi
  have hlt : i.toNatClampNeg < N := Nat.not_le.mp fun q => hin (Or.inr q)
  have h0 : ¬ i < 0 := fun q => hin (Or.inl q)
  obtain ⟨r', hr', cellV, g1, g2, g3, -⟩ := hP v _ hatv
  have hcls := (hK.1 1 _ vc1).2
  obtain ⟨kA, comp, k1, k2, k3, -⟩ := (hK.2 3 _ rfl).2
  have hcomp : comp = D.1 1 := Option.some.inj (k3.symm.trans hcls.1)
  subst hcomp
  obtain ⟨kC, hkC, -⟩ := hcls.2
  refine W.aast hx hb (hP a _ hata) (fun q h => by cases h) (fun h => by cases h) k1 k2 rfl hkC ⟨h0, by show _ < (arrV _ _ _).slots.size; rw [arrV_size]; exact hlt⟩ g1 (fun q h => by rw [g3] at h; cases h) (by rw [g2]; exact hkC) (by rw [g2]; exact va_assign hcls) rfl rfl d fun H1 e z oq => ?_
  have hP1 := hP.set (xi_D cA b0 n h) hata (e := hp_cell cA (xi_ad b0) (hp_sR h a (fx_ix i) v) a (23, N)) ?_ oq
  · rw [hp_wl_set (h' := hp_sR h a (fx_ix i) v) ha _ rfl hp_sR_off] at hP1
    exact k0 H1 _ ls ⟨hP1, z.trans hsz, xi_bl_sR hbl han⟩ (hS.put z oq (show b0 ≤ b0 + a by omega)) hl
  · show H1[b0 + a]? = some (vp_cell _ _)
    rw [show H1[b0 + a]? = _ from e]
    rw [show vp_cell (cA 3) (N, .inr (.inr (.inr (.inr (fun j => hp_ro (xi_ad b0) ((hp_sR h a (fx_ix i) v).2.2 a j)))))) = arrV (cA 3) N (fun j => va_rf (hp_ro (xi_ad b0) ((hp_sR h a (fx_ix i) v).2.2 a j))) from rfl]
    rw [show vp_cell (cA 3) (N, .inr (.inr (.inr (.inr (fun j => hp_ro (xi_ad b0) (h.2.2 a j)))))) = arrV (cA 3) N (fun j => va_rf (hp_ro (xi_ad b0) (h.2.2 a j))) from rfl, arrV_store]
    congr 2
    funext q
    show _ = va_rf (hp_ro (xi_ad b0) (hp_u h.2.2 a (fx_ix i) v a q))
    unfold hp_u
    by_cases hq : q = fx_ix i
    · subst hq
      rw [if_pos ⟨rfl, rfl⟩, hp_ro_some hv9]
      show updV _ (fx_ix i) _ (fx_ix i) = _
      simp [updV, va_rf]
    · rw [if_neg (fun z => hq z.2)]
      show updV _ (fx_ix i) _ q = _
      simp [updV, hq]
theorem xi_aast24 (C : xi_C g K cc own nL rm Qc) {a v N : Nat} {i : Int32} (d : decode cc pc = .ok (.aastore, 1)) (ha : hp_sh a = (24, N)) (han : a < n) (hi : fx_in i N) (hv : hp_sh v = (0, 0)) (hvn : v < n) (hv9 : v ≠ 999) (k0 : xi_j l g K nL kc ks n (hp_sR h a (fx_ix i) v) lv (pc + 1) st) : xi_j l g K nL kc ks n h lv pc (.ref (xi_ad g.2.2.1 v) :: .int i :: .ref (xi_ad g.2.2.1 a) :: st) := by
  obtain ⟨p, e, R, s, m, args, below, meth, c, Q, kc9, ks9⟩ := K
  obtain ⟨D, cA, b0, zt⟩ := g
  obtain ⟨hx, hb, hml, hown, hts, hK, hb0, hZ, hAO, hR, hQ⟩ := C
  intro H locs ls hP hS hl
  obtain ⟨hP, hsz, hbl⟩ := hP
  dsimp only at hP hsz hK
  have hata := hp_wl_at (cA := cA) (ad := xi_ad b0) (n := n) (h := h) ha han
  have hatv := hp_wl_at (cA := cA) (ad := xi_ad b0) (n := n) (h := h) hv hvn
  rw [hp_cell_ob (by decide)] at hatv
  have hin := fx_vin hi
  have hlt : i.toNatClampNeg < N := Nat.not_le.mp fun q => hin (Or.inr q)
  have h0 : ¬ i < 0 := fun q => hin (Or.inl q)
  obtain ⟨r', hr', cellV, g1, g2, g3, -⟩ := hP v _ hatv
  have hcls := (hK.1 0 _ vc0).2
  obtain ⟨kA, comp, k1, k2, k3, -⟩ := (hK.2 4 _ rfl).2
  have hcomp : comp = D.1 0 := Option.some.inj (k3.symm.trans hcls.1)
  subst hcomp
  obtain ⟨kC, hkC, -⟩ := hcls.2
  refine W.aast hx hb (hP a _ hata) (fun q h => by cases h) (fun h => by cases h) k1 k2 rfl hkC ⟨h0, by show _ < (arrV _ _ _).slots.size; rw [arrV_size]; exact hlt⟩ g1 (fun q h => by rw [g3] at h; cases h) (by rw [g2]; exact hkC) (by rw [g2]; exact va_assign hcls) rfl rfl d fun H1 e z oq => ?_
  have hP1 := hP.set (xi_D cA b0 n h) hata (e := hp_cell cA (xi_ad b0) (hp_sR h a (fx_ix i) v) a (24, N)) ?_ oq
  · rw [hp_wl_set (h' := hp_sR h a (fx_ix i) v) ha _ rfl hp_sR_off] at hP1
    exact k0 H1 _ ls ⟨hP1, z.trans hsz, xi_bl_sR hbl han⟩ (hS.put z oq (show b0 ≤ b0 + a by omega)) hl
  · show H1[b0 + a]? = some (vp_cell _ _)
    rw [show H1[b0 + a]? = _ from e]
    rw [show vp_cell (cA 4) (N, .inr (.inr (.inr (.inr (fun j => hp_ro (xi_ad b0) ((hp_sR h a (fx_ix i) v).2.2 a j)))))) = arrV (cA 4) N (fun j => va_rf (hp_ro (xi_ad b0) ((hp_sR h a (fx_ix i) v).2.2 a j))) from rfl]
    rw [show vp_cell (cA 4) (N, .inr (.inr (.inr (.inr (fun j => hp_ro (xi_ad b0) (h.2.2 a j)))))) = arrV (cA 4) N (fun j => va_rf (hp_ro (xi_ad b0) (h.2.2 a j))) from rfl, arrV_store]
    congr 2
    funext q
    show _ = va_rf (hp_ro (xi_ad b0) (hp_u h.2.2 a (fx_ix i) v a q))
    unfold hp_u
    by_cases hq : q = fx_ix i
    · subst hq
      rw [if_pos ⟨rfl, rfl⟩, hp_ro_some hv9]
      show updV _ (fx_ix i) _ (fx_ix i) = _
      simp [updV, va_rf]
    · rw [if_neg (fun z => hq z.2)]
      show updV _ (fx_ix i) _ q = _
      simp [updV, hq]
def xi_M (l : Launch) (g : xi_G) (y : MethodName) (cc : ByteArray) (nL : Nat) (rm : Room) (av : List Value) (n : Nat) (h : hp_T) (n1 : Nat) (h1 : hp_T) : Prop :=
  Met l y (Cond.code y cc nL none :: hp_GL) rm (va_Pc av (fun U => xi_W g n h U)) (va_Qv (fun (_ : Unit) => True) (fun _ t => xi_W g n1 h1 t) (xi_A g.2.2.1)) rm.cells rm.slots (xi_A g.2.2.1)
abbrev xi_Q (g : xi_G) (n1 : Nat) (h1 : hp_T) : xr_Q := va_Qv (fun (_ : Unit) => True) (fun _ t => xi_W g n1 h1 t) (xi_A g.2.2.1)
theorem xi_start {y : MethodName} {av : List Value} {n1 : Nat} {h1 : hp_T} (hy : plainName y.cls = true) (hy1 : y.name = "<init>") (hlen : (lg_sl av).length ≤ nL) (k : ∀ K : xr_K, xi_C g K cc y.cls nL rm (some (xi_Q g n1 h1)) → xi_j l g K nL 0 0 n h (lv_args 0 av) 0 []) : xi_M l g y cc nL rm av n h n1 h1 := by
  refine Met.ofW (cc := cc) (maxL := nL) (ret := none) hy rfl ?_
  intro p e s m args below meth c s₁ B hml hv
  obtain ⟨rfl, hP, hK, hZ, hA1, hA2⟩ := hv
  have hts := atoms_spec (ws := Cond.code y cc nL none :: hp_GL) B.pre
  have hown : s.vm.findClass y.cls = some m.cls := findClass_of_methodNamed B.named
  have hin : meth.name = y.name := (name_of_methodNamed B.named B.method).1
  have hl := lv_entry av hlen
  rw [lg_entry_eq]
  exact k (p, e, rm, s, m, av.toArray, below, meth, c, MQ below (xi_Q g n1 h1) av.toArray s rm.cells rm.slots (xi_A g.2.2.1), 0, 0) ⟨B.exec, B.bytes, hml, hown, fun w hw => hts w (List.mem_cons_of_mem _ hw), hK, by have := hP.2.1; show g.2.2.1 ≤ s.heap.size; omega, hZ, ⟨hA1, hA2⟩, rfl, fun Q0 e => by cases e; exact ⟨hin.trans hy1, B.returns, B.notSynchronized, rfl⟩⟩ s.heap [] _ hP va_S.rf hl
theorem xi_blind (g : xi_G) (n : Nat) (h : hp_T) (av : List Value) : FrameBlind (va_Pc av (fun U => xi_W g n h U)) := fun a U f mk q => by
  obtain ⟨q0, q1, q2, q3, q4, q5⟩ := q
  exact ⟨q0, q1, va_K.moved (u := U) (U := U.calling f mk a) (Vm.Alike.refl U.vm) q2, hp_Z.same (u := U) (U := U.calling f mk a) rfl q3, va_AO.moved (u := U) (U := U.calling f mk a) (Vm.Alike.refl U.vm) q4, va_AO.moved (u := U) (U := U.calling f mk a) (Vm.Alike.refl U.vm) q5⟩
def xi_mi (y : MethodName) (cc' : ByteArray) (nL' : Nat) : Prop := xr_m0 y cc' nL' 0 none ∧ y.name = "<init>" ∧ Cond.instanceMethod y ∈ hp_GL
def xi_rm (rm rm2 : Room) (nL2 : Nat) : Prop := rm2.frames + 1 ≤ rm.frames ∧ 8 + (nL2 + 11) + rm2.locals ≤ rm.locals
theorem xi_vret {n1 : Nat} {h1 : hp_T} (C : xi_C g K cc own nL rm (some (xi_Q g n h))) (e1 : kc = rm.cells) (e2 : ks = rm.slots) (d : decode cc pc = .ok (.return_, 1)) : xi_j l g K nL kc ks n h lv pc [] := by
  obtain ⟨p, e, R, s, m, args, below, meth, c, Q, kc9, ks9⟩ := K
  obtain ⟨D, cA, b0, zt⟩ := g
  obtain ⟨hx, hb, hml, hown, hts, hK, hb0, hZ, hAO, hR, hQ⟩ := C
  intro H locs ls hP hS hl
  obtain ⟨hin, hr, hlocks, hQ⟩ := hQ _ rfl
  dsimp only at hQ hr hlocks hZ hK hP hS hAO ⊢
  subst hQ
  subst e1
  subst e2
  exact W.vret hx hb hr (fun t ht hW => ⟨⟨(), rfl, trivial, by show xi_P _ n h t.heap; rw [ht]; exact hP, va_K.moved hW.alike hK, hp_Z.moved hW (by rw [ht]; exact hp_Z.kept hZ (fun q h1 h2 => hS.2.1 q h1 h2)), va_AO.moved hW.alike hAO.1, va_AO.moved hW.alike hAO.2⟩, hS.F ht⟩) hS.2.2 d
theorem xi_callN (C : xi_C g K cc own nL rm Qc) {index a nL2 n1 : Nat} {y : MethodName} {cc2 : ByteArray} {rm2 : Room} {h1 : hp_T} (f : xi_mi y cc2 nL2 ∧ (own, index, y) ∈ hp_nm) (hM : xi_M l g y cc2 nL2 rm2 [.ref (xi_ad g.2.2.1 a)] n h n1 h1) (hrm : xi_rm rm rm2 nL2) (kc1 ks1 : Nat) (e1 : kc + rm2.cells = kc1) (e2 : ks + rm2.slots = ks1) (h2c : kc1 ≤ rm.cells) (h2s : ks1 ≤ rm.slots) (hw0 : (st.map fun v => v.category).sum ≤ 8) (d : decode cc pc = .ok (.invokespecial index, 3)) (k : xi_j l g K nL kc1 ks1 n1 h1 lv (pc + 3) st) : xi_j l g K nL kc ks n h lv pc (.ref (xi_ad g.2.2.1 a) :: st) := by
  obtain ⟨p, e, R, s, m, args, below, meth, c, Q, kc9, ks9⟩ := K
  obtain ⟨D, cA, b0, zt⟩ := g
  obtain ⟨hx, hb, hml, hown, hts, hK, hb0, hZ, hAO, hR, hQ⟩ := C
  intro H locs ls hP hS hl
  have hpre : ∀ U : State, U.heap = H → s.WarmedH U.vm → xi_W (D, cA, b0, zt) n h U := fun U hU hW => ⟨by rw [hU]; exact hP, va_K.moved hW.alike hK, hp_Z.moved hW (by rw [hU]; exact hp_Z.kept hZ (fun q h1 h2 => hS.2.1 q h1 h2)), va_AO.moved hW.alike hAO.1, va_AO.moved hW.alike hAO.2⟩
  dsimp only at hR
  subst hR
  subst e1
  subst e2
  obtain ⟨⟨⟨f1, f2, f3, f4, f5⟩, f6, f7⟩, f8⟩ := f
  refine va_callv (va_runIN (As := []) (rest := st) ⟨hx, hb, hml, hown, hts⟩ hM ⟨⟨⟨rfl, rfl, hrm.1, hrm.2, pay_in hts (hp_goodG f2), List.mem_cons_self⟩, hts _ f2, hts _ f1, ⟨f3, f4⟩, fun sig h => by have h2 := f5; rw [h] at h2; exact (Option.some.inj h2).symm, va_Nw.use rfl (hZ.2.2.2.1 _ f8)⟩, f6, hts _ f7⟩ ⟨xi_blind _ _ _ _, fun U hU hW => ⟨rfl, hpre U hU hW⟩⟩ rfl rfl hl.1 rfl (lv_room hw0) d ⟨h2c, h2s⟩) hS (fun q _ z => z) (fun q z => z) (fun u t H1 locs1 ht hvm hw hB hz1 hk1 hS1 => ?_)
  obtain ⟨hP1, -⟩ := hB
  rw [ht] at hP1
  exact k H1 locs1 ls hP1 hS1 hl
theorem xi_callI (C : xi_C g K cc own nL rm Qc) {index a nL2 n1 : Nat} {y : MethodName} {cc2 : ByteArray} {rm2 : Room} {h1 : hp_T} (f : xi_mi y cc2 nL2 ∧ Cond.methodLink own index y ∈ hp_GL) (hM : xi_M l g y cc2 nL2 rm2 [.ref (xi_ad g.2.2.1 a)] n h n1 h1) (hrm : xi_rm rm rm2 nL2) (kc1 ks1 : Nat) (e1 : kc + rm2.cells = kc1) (e2 : ks + rm2.slots = ks1) (h2c : kc1 ≤ rm.cells) (h2s : ks1 ≤ rm.slots) (hw0 : (st.map fun v => v.category).sum ≤ 8) (d : decode cc pc = .ok (.invokespecial index, 3)) (k : xi_j l g K nL kc1 ks1 n1 h1 lv (pc + 3) st) : xi_j l g K nL kc ks n h lv pc (.ref (xi_ad g.2.2.1 a) :: st) := by
  obtain ⟨p, e, R, s, m, args, below, meth, c, Q, kc9, ks9⟩ := K
  obtain ⟨D, cA, b0, zt⟩ := g
  obtain ⟨hx, hb, hml, hown, hts, hK, hb0, hZ, hAO, hR, hQ⟩ := C
  intro H locs ls hP hS hl
  have hpre : ∀ U : State, U.heap = H → s.WarmedH U.vm → xi_W (D, cA, b0, zt) n h U := fun U hU hW => ⟨by rw [hU]; exact hP, va_K.moved hW.alike hK, hp_Z.moved hW (by rw [hU]; exact hp_Z.kept hZ (fun q h1 h2 => hS.2.1 q h1 h2)), va_AO.moved hW.alike hAO.1, va_AO.moved hW.alike hAO.2⟩
  dsimp only at hR
  subst hR
  subst e1
  subst e2
  obtain ⟨⟨⟨f1, f2, f3, f4, f5⟩, f6, f7⟩, f8⟩ := f
  refine va_callv (va_runI (As := []) (rest := st) ⟨hx, hb, hml, hown, hts⟩ hM ⟨callB_of 0 hts (hp_goodG f2) rfl rfl rfl (hts _ f1) (hts _ f8) ⟨f3, f4, f5⟩ ⟨hrm.1, hrm.2⟩, f6, hts _ f7⟩ ⟨xi_blind _ _ _ _, fun U hU hW => ⟨rfl, hpre U hU hW⟩⟩ rfl rfl hl.1 rfl (lv_room hw0) d ⟨h2c, h2s⟩) hS (fun q _ z => z) (fun q z => z) (fun u t H1 locs1 ht hvm hw hB hz1 hk1 hS1 => ?_)
  obtain ⟨hP1, -⟩ := hB
  rw [ht] at hP1
  exact k H1 locs1 ls hP1 hS1 hl
end XI
