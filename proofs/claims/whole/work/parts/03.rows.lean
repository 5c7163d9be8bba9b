/-! ===== the judgement: a method's frame over the abstract heap; a row an instruction ===== -/
abbrev xr_G : Type := va_G × (Nat → ClassId) × (Nat → Nat) × (Nat → Prop) × (Nat → Nat)
abbrev xr_K : Type := Program × Env × Room × State × MethodId × Array Value × List Frame × Method × Code × (State → Prop) × Nat × Nat
abbrev xr_Q : Type := Array Value → State → Outcome → State → Prop
def hp_tys (cA : Nat → ClassId) : List (ClassId × FieldType) := [(cA 0, .int), (cA 1, .long), (cA 2, .boolean), (cA 3, .object "CourtSix$Court"), (cA 4, .object "CourtSix$Best")]
/-- the static arrays of CourtSix -/
def hp_Zn : List String := ["FIRST_X", "FIRST_Y", "COUPLE_FIRST", "COUPLE_SECOND", "REAR"]
def hp_Zt : List (List Int32) := [[70, 70, 45, 20, 20, 45], [70, 20, 20, 20, 70, 70], [4, 3, 2, 4, 3, 5, 6], [5, 6, 1, 3, 2, 6, 1], [1, 6, 5]]
def hp_zt (i j : Nat) : Int32 := (hp_Zt.getD i []).getD j 0
def hp_zl (i : Nat) : Nat := (hp_Zt.getD i []).length
/-- the two texts of the model: their bytes -/
def hp_Sl : List Nat := [46, 21]
def hp_Sb : List (List Int32) := [[111, 117, 114, 115, 32, 116, 104, 101, 105, 114, 115, 32, 112, 111, 105, 110, 116, 115, 32, 115, 117, 98, 115, 32, 101, 100, 103, 101, 32, 102, 114, 101, 101, 32, 115, 116, 97, 114, 116, 32, 102, 105, 114, 115, 116, 32], [52, 53, 49, 51, 54, 49, 50, 49, 49, 52, 51, 48, 51, 50, 48, 53, 54, 48, 54, 49, 48]]
def hp_st (i j : Nat) : Int32 := (hp_Sb.getD i []).getD j 0
/-- links of private members of nest mates -/
def hp_nm : List (String × Nat × MethodName) := [("CourtSix", 11, ⟨"CourtSix$Reader", "<init>", "()V"⟩), ("CourtSix", 18, ⟨"CourtSix$Odds", "<init>", "()V"⟩), ("CourtSix", 25, ⟨"CourtSix$Log", "<init>", "()V"⟩), ("CourtSix", 32, ⟨"CourtSix$Court", "<init>", "()V"⟩), ("CourtSix", 53, ⟨"CourtSix$Best", "<init>", "()V"⟩), ("CourtSix", 67, ⟨"CourtSix$Told", "<init>", "()V"⟩), ("CourtSix$Court", 9, ⟨"CourtSix$Side", "<init>", "()V"⟩), ("CourtSix$Force", 24, ⟨"CourtSix", "isFront", "(I)Z"⟩), ("CourtSix$Odds", 11, ⟨"CourtSix$Force", "<init>", "()V"⟩), ("CourtSix$Side", 71, ⟨"CourtSix", "spotBehind", "(II)I"⟩), ("CourtSix$Told", 11, ⟨"CourtSix$Squad", "<init>", "()V"⟩)]
def hp_nf : List (String × Nat × String) := [("CourtSix$Side", 35, "FIRST_X"), ("CourtSix$Side", 38, "FIRST_Y")]
def hp_Z (zt : Nat → Nat) (A : Nat → Prop) (U : State) (H : Heap) : Prop :=
  (∀ i : Nat, i < 5 → va_Z "CourtSix" (hp_Zn.getD i "") "[I" (.ref (zt i)) A U H ∧ va_T .int (zt i) (hp_zl i) (fun j => .int (hp_zt i j)) A U H) ∧
  (vk_R "CourtSixModel" 101 "ours theirs points subs edge free start first " (zt 10) U ∧ vk_R "CourtSixModel" 245 "451361211430320560610" (zt 11) U) ∧
  vk_S 2 hp_Sl hp_Sb (fun i => zt (10 + i)) (fun i => zt (20 + i)) A U H ∧ (∀ q ∈ hp_nm, va_Nw (.methodLinkNest q.1 q.2.1 q.2.2 "CourtSix") U) ∧ (∀ q ∈ hp_nf, va_Nw (.fieldLinkNest q.1 q.2.1 "CourtSix" q.2.2 "[I" "CourtSix") U) ∧ va_Z "java/lang/String" "COMPACT_STRINGS" "Z" (.int 1) A U H ∧ va_Zq "jdk/internal/util/Preconditions" "SIOOBE_FORMATTER" "Ljava/util/function/BiFunction;" A U H
theorem hp_Z.moved {zt : Nat → Nat} {A : Nat → Prop} {u U : State} {H : Heap} (hW : u.WarmedH U.vm) (h : hp_Z zt A u H) : hp_Z zt A U H :=
  ⟨fun i hi => ⟨va_Z.moved hW.alike (h.1 i hi).1, va_T.moved hW.alike (h.1 i hi).2⟩, ⟨vk_R.warm hW h.2.1.1, vk_R.warm hW h.2.1.2⟩, vk_S.moved hW.alike h.2.2.1, fun q hq => va_Nw.warmM hW (h.2.2.2.1 q hq), fun q hq => va_Nw.warmF hW (h.2.2.2.2.1 q hq), va_Z.moved hW.alike h.2.2.2.2.2.1, va_Zq.moved hW.alike h.2.2.2.2.2.2⟩
theorem hp_Z.kept {zt : Nat → Nat} {A : Nat → Prop} {U : State} {H H1 : Heap} (h : hp_Z zt A U H) (hq : ∀ a : Nat, a < H.size → ¬ A a → H1[a]? = H[a]?) : hp_Z zt A U H1 :=
  ⟨fun i hi => ⟨va_Z.kept (h.1 i hi).1 hq, va_T.kept (h.1 i hi).2 hq⟩, h.2.1, vk_S.kept h.2.2.1 hq, h.2.2.2.1, h.2.2.2.2.1, va_Z.kept h.2.2.2.2.2.1 hq, va_Zq.kept h.2.2.2.2.2.2 hq⟩
theorem hp_Z.same {zt : Nat → Nat} {A : Nat → Prop} {u U : State} {H : Heap} (hv : U.vm = u.vm) (h : hp_Z zt A u H) : hp_Z zt A U H :=
  have ha : u.vm.Alike U.vm := by rw [hv]; exact Vm.Alike.refl u.vm
  ⟨fun i hi => ⟨va_Z.moved ha (h.1 i hi).1, va_T.moved ha (h.1 i hi).2⟩, ⟨vk_R.same hv h.2.1.1, vk_R.same hv h.2.1.2⟩, vk_S.moved ha h.2.2.1, fun q hq => va_Nw.same rfl hv.symm (h.2.2.2.1 q hq), fun q hq => va_Nw.same rfl hv.symm (h.2.2.2.2.1 q hq), va_Z.moved ha h.2.2.2.2.2.1, va_Zq.moved ha h.2.2.2.2.2.2⟩
/-- the world at a state -/
def hp_W (G : xr_G) (h : hp_T) (U : State) : Prop :=
  va_P G.1 vwCl (hp_wl G.2.1 G.2.2.1 hp_N h) U.heap ∧ va_K G.1 vwCl (hp_tys G.2.1) U ∧ va_D G.2.2.2.1 (hp_wl G.2.1 G.2.2.1 hp_N h) ∧ hp_Z G.2.2.2.2 G.2.2.2.1 U U.heap ∧ hp_Ty h.2.2
def xr_j (l : Launch) (G : xr_G) (K : xr_K) (nL : Nat) (h : hp_T) (lv : List (Nat × Value)) (pc : Nat) (st : List Value) : Prop :=
  hp_Ty h.2.2 → ∀ (H : Heap) (locs : List Loc) (ls : Array Slot), va_P G.1 vwCl (hp_wl G.2.1 G.2.2.1 hp_N h) H → va_S G.2.2.2.1 K.2.2.2.1.heap H locs → lv_has ls nL lv →
    W K.1 l K.2.1 K.2.2.1 K.2.2.2.1 K.2.2.2.2.1 K.2.2.2.2.2.1 K.2.2.2.2.2.2.1 K.2.2.2.2.2.2.2.1 K.2.2.2.2.2.2.2.2.1 H locs K.2.2.2.2.2.2.2.2.2.2.1 K.2.2.2.2.2.2.2.2.2.2.2 K.2.2.2.2.2.2.2.2.2.1 (F0 K.2.2.2.2.1 pc ls st)
def xr_C (G : xr_G) (K : xr_K) (cc : ByteArray) (own : String) (nL : Nat) (rm : Room) (ret : Option FieldType) (Qc : Option xr_Q) : Prop :=
  K.1.tables.exec = Jvm.exec ∧ K.2.2.2.2.2.2.2.2.1.code = cc ∧ K.2.2.2.2.2.2.2.2.1.maxLocals = nL ∧ K.2.2.2.1.vm.findClass own = some K.2.2.2.2.1.cls ∧ (∀ w ∈ hp_GL, w.before K.2.2.2.2.2.1 K.2.2.2.1 = true) ∧ va_K G.1 vwCl (hp_tys G.2.1) K.2.2.2.1 ∧ (∀ h : hp_T, va_D G.2.2.2.1 (hp_wl G.2.1 G.2.2.1 hp_N h)) ∧ hp_Z G.2.2.2.2 G.2.2.2.1 K.2.2.2.1 K.2.2.2.1.heap ∧ K.2.2.1 = rm ∧ K.2.2.2.2.2.2.2.1.sig.returnType = ret ∧ K.2.2.2.2.2.2.2.1.locks = false ∧ (K.2.2.2.2.2.2.2.2.2.2.1 ≤ rm.cells ∧ K.2.2.2.2.2.2.2.2.2.2.2 ≤ rm.slots) ∧ ∀ Q0 : xr_Q, Qc = some Q0 → K.2.2.2.2.2.2.2.2.2.1 = MQ K.2.2.2.2.2.2.1 Q0 K.2.2.2.2.2.1 K.2.2.2.1 0 0 G.2.2.2.1 ∧ K.2.2.2.2.2.2.2.2.2.2.1 = 0 ∧ K.2.2.2.2.2.2.2.2.2.2.2 = 0
/-! numbers as the machine counts them -/
def fx_rem (x y : Int32) : Int32 := x - x / y * y
def fx_shl (x y : Int32) : Int32 := x <<< (y &&& 31)
def fx_shr (x y : Int32) : Int32 := x >>> (y &&& 31)
def fx_ushr (x y : Int32) : Int32 := (x.toUInt32 >>> (y.toUInt32 &&& Int32.toUInt32 31)).toInt32
def fx_ix (x : Int32) : Nat := x.toNatClampNeg
def fx_N : Nat := 100000
/-- a value with a name -/
def fx_let {α β : Type} (v : α) (f : α → Option β) : Option β := f v
/-- what must hold, lest the machine throw -/
def fx_g {β : Type} (c : Prop) [Decidable c] (x : Option β) : Option β := if c then x else none
abbrev fx_in (x : Int32) (n : Nat) : Prop := 0 ≤ x.toInt ∧ x.toInt < (n : Int)
theorem fx_letE {α β : Type} {v : α} {f : α → Option β} {r : β} (h : fx_let v f = some r) (x : α) (e : x = v) : f x = some r := by rw [e]; exact h
theorem fx_gE {β : Type} {c : Prop} [Decidable c] {x : Option β} {r : β} (h : fx_g c x = some r) : c ∧ x = some r := by
  unfold fx_g at h
  by_cases hc : c
  · rw [if_pos hc] at h; exact ⟨hc, h⟩
  · rw [if_neg hc] at h; cases h
theorem fx_bE {α β : Type} {o : Option α} {f : α → Option β} {r : β} (h : o.bind f = some r) : ∃ q, o = some q ∧ f q = some r := by
  cases o with
  | none => cases h
  | some q => exact ⟨q, rfl, h⟩
/-- a call's answer and heap -/
def fx_b2 {α β γ : Type} (o : Option (α × β)) (f : α → β → Option γ) : Option γ := o.bind fun q => f q.1 q.2
def fx_b1 {β γ : Type} (o : Option β) (f : β → Option γ) : Option γ := o.bind f
theorem fx_b2E {α β γ : Type} {o : Option (α × β)} {f : α → β → Option γ} {r : γ} (h : fx_b2 o f = some r) : ∃ a b, o = some (a, b) ∧ f a b = some r := by
  cases o with
  | none => cases h
  | some q => exact ⟨q.1, q.2, rfl, h⟩
theorem fx_b1E {β γ : Type} {o : Option β} {f : β → Option γ} {r : γ} (h : fx_b1 o f = some r) : ∃ b, o = some b ∧ f b = some r := by
  cases o with
  | none => cases h
  | some q => exact ⟨q, rfl, h⟩
def fx_max (x y : Int32) : Int32 := if x < y then y else x
def fx_min (x y : Int32) : Int32 := if y < x then y else x
theorem fx_pos {β : Type} {c : Prop} [Decidable c] {x y : Option β} {r : β} (h : (if c then x else y) = some r) (hc : c) : x = some r := by rw [if_pos hc] at h; exact h
theorem fx_neg {β : Type} {c : Prop} [Decidable c] {x y : Option β} {r : β} (h : (if c then x else y) = some r) (hc : ¬ c) : y = some r := by rw [if_neg hc] at h; exact h
theorem fx_vin {x : Int32} {n : Nat} (h : fx_in x n) : vp_in x n := vp_in_iff.mpr h
theorem hp_arr_eq {c0 : ClassId} {n : Nat} {f g : Nat → Int32} (h : ∀ j, j < n → Value.int (f j) = Value.int (g j)) : vp_cell c0 (n, .inl f) = vp_cell c0 (n, .inl g) := by
  show arrV c0 n (fun j => .int (f j)) = arrV c0 n (fun j => .int (g j))
  unfold arrV
  congr 1
  apply Array.ext
  · simp
  · intro j h1 h2
    simp only [Array.getElem_ofFn]
    exact h j (by simpa using h1)
section XR
variable {l : Launch} {G : xr_G} {K : xr_K} {cc : ByteArray} {own : String} {nL : Nat} {rm : Room} {ret : Option FieldType} {Qc : Option xr_Q} {h : hp_T} {lv lv' : List (Nat × Value)} {pc : Nat} {st : List Value}
theorem xr_iconst (C : xr_C G K cc own nL rm ret Qc) {n : Int} {v : Int32} (d : decode cc pc = .ok (.iconst n, 1)) (hv : Int32.ofInt n = v) (k : xr_j l G K nL h lv (pc + 1) (.int v :: st)) : xr_j l G K nL h lv pc st := by
  obtain ⟨p, e, R, s, m, args, below, meth, c, Q, kc, ks⟩ := K
  obtain ⟨D, cA, ad, A, zt⟩ := G
  obtain ⟨hx, hb, hml, hown, hts, hK, hD, hZ, hR, hr, hlocks, hcs, hQ⟩ := C
  intro hT H locs ls hP hS hl
  exact lv_iconst hx hb d hv (k hT H locs ls hP hS hl)
theorem xr_bipush (C : xr_C G K cc own nL rm ret Qc) {n : Int} {v : Int32} (d : decode cc pc = .ok (.bipush n, 2)) (hv : (Int8.ofInt n).toInt32 = v) (k : xr_j l G K nL h lv (pc + 2) (.int v :: st)) : xr_j l G K nL h lv pc st := by
  obtain ⟨p, e, R, s, m, args, below, meth, c, Q, kc, ks⟩ := K
  obtain ⟨D, cA, ad, A, zt⟩ := G
  obtain ⟨hx, hb, hml, hown, hts, hK, hD, hZ, hR, hr, hlocks, hcs, hQ⟩ := C
  intro hT H locs ls hP hS hl
  exact lv_bipush hx hb d hv (k hT H locs ls hP hS hl)
theorem xr_sipush (C : xr_C G K cc own nL rm ret Qc) {n : Int} {v : Int32} (d : decode cc pc = .ok (.sipush n, 3)) (hv : (Int16.ofInt n).toInt32 = v) (k : xr_j l G K nL h lv (pc + 3) (.int v :: st)) : xr_j l G K nL h lv pc st := by
  obtain ⟨p, e, R, s, m, args, below, meth, c, Q, kc, ks⟩ := K
  obtain ⟨D, cA, ad, A, zt⟩ := G
  obtain ⟨hx, hb, hml, hown, hts, hK, hD, hZ, hR, hr, hlocks, hcs, hQ⟩ := C
  intro hT H locs ls hP hS hl
  exact lv_sipush hx hb d hv (k hT H locs ls hP hS hl)
theorem xr_lconst (C : xr_C G K cc own nL rm ret Qc) {n : Fin 2} {v : Int64} (d : decode cc pc = .ok (.lconst n, 1)) (hv : Int64.ofNat (n : Nat) = v) (k : xr_j l G K nL h lv (pc + 1) (.long v :: st)) : xr_j l G K nL h lv pc st := by
  obtain ⟨p, e, R, s, m, args, below, meth, c, Q, kc, ks⟩ := K
  obtain ⟨D, cA, ad, A, zt⟩ := G
  obtain ⟨hx, hb, hml, hown, hts, hK, hD, hZ, hR, hr, hlocks, hcs, hQ⟩ := C
  intro hT H locs ls hP hS hl
  exact lv_lconst hx hb d hv (k hT H locs ls hP hS hl)
theorem xr_ldc (C : xr_C G K cc own nL rm ret Qc) {index : Nat} {v : Int32} (hc : Cond.constant own index v ∈ hp_GL) (d : decode cc pc = .ok (.ldc index, 2)) (k : xr_j l G K nL h lv (pc + 2) (.int v :: st)) : xr_j l G K nL h lv pc st := by
  obtain ⟨p, e, R, s, m, args, below, meth, c, Q, kc, ks⟩ := K
  obtain ⟨D, cA, ad, A, zt⟩ := G
  obtain ⟨hx, hb, hml, hown, hts, hK, hD, hZ, hR, hr, hlocks, hcs, hQ⟩ := C
  intro hT H locs ls hP hS hl
  exact lv_ldc hx hb hown (hts _ hc) d (k hT H locs ls hP hS hl)
theorem xr_ldc_w (C : xr_C G K cc own nL rm ret Qc) {index : Nat} {v : Int32} (hc : Cond.constant own index v ∈ hp_GL) (d : decode cc pc = .ok (.ldc_w index, 3)) (k : xr_j l G K nL h lv (pc + 3) (.int v :: st)) : xr_j l G K nL h lv pc st := by
  obtain ⟨p, e, R, s, m, args, below, meth, c, Q, kc, ks⟩ := K
  obtain ⟨D, cA, ad, A, zt⟩ := G
  obtain ⟨hx, hb, hml, hown, hts, hK, hD, hZ, hR, hr, hlocks, hcs, hQ⟩ := C
  intro hT H locs ls hP hS hl
  exact lv_ldcw hx hb hown (hts _ hc) d (k hT H locs ls hP hS hl)
theorem xr_ldc2 (C : xr_C G K cc own nL rm ret Qc) {index : Nat} {v : Int64} (hc : Cond.constantLong own index v ∈ hp_GL) (d : decode cc pc = .ok (.ldc2_w index, 3)) (k : xr_j l G K nL h lv (pc + 3) (.long v :: st)) : xr_j l G K nL h lv pc st := by
  obtain ⟨p, e, R, s, m, args, below, meth, c, Q, kc, ks⟩ := K
  obtain ⟨D, cA, ad, A, zt⟩ := G
  obtain ⟨hx, hb, hml, hown, hts, hK, hD, hZ, hR, hr, hlocks, hcs, hQ⟩ := C
  intro hT H locs ls hP hS hl
  exact lv_ldc2 hx hb hown (hts _ hc) d (k hT H locs ls hP hS hl)
theorem xr_iload_n (C : xr_C G K cc own nL rm ret Qc) {q : Fin 4} {i : Nat} {x : Int32} (b : Nat) (d : decode cc pc = .ok (.iload_n q, 1)) (hi : (q : Nat) = i) (hk : lv[b]? = some (i, .int x)) (k : xr_j l G K nL h lv (pc + 1) (.int x :: st)) : xr_j l G K nL h lv pc st := by
  obtain ⟨p, e, R, s, m, args, below, meth, c, Q, kc, ks⟩ := K
  obtain ⟨D, cA, ad, A, zt⟩ := G
  obtain ⟨hx, hb, hml, hown, hts, hK, hD, hZ, hR, hr, hlocks, hcs, hQ⟩ := C
  intro hT H locs ls hP hS hl
  exact lv_iload_n hx hb d hi (lv_at hl b hk) (k hT H locs ls hP hS hl)
theorem xr_iload (C : xr_C G K cc own nL rm ret Qc) {i : Nat} {x : Int32} (b : Nat) (d : decode cc pc = .ok (.iload i, 2)) (hk : lv[b]? = some (i, .int x)) (k : xr_j l G K nL h lv (pc + 2) (.int x :: st)) : xr_j l G K nL h lv pc st := by
  obtain ⟨p, e, R, s, m, args, below, meth, c, Q, kc, ks⟩ := K
  obtain ⟨D, cA, ad, A, zt⟩ := G
  obtain ⟨hx, hb, hml, hown, hts, hK, hD, hZ, hR, hr, hlocks, hcs, hQ⟩ := C
  intro hT H locs ls hP hS hl
  exact lv_iload hx hb d (lv_at hl b hk) (k hT H locs ls hP hS hl)
theorem xr_lload_n (C : xr_C G K cc own nL rm ret Qc) {q : Fin 4} {i : Nat} {x : Int64} (b : Nat) (d : decode cc pc = .ok (.lload_n q, 1)) (hi : (q : Nat) = i) (hk : lv[b]? = some (i, .long x)) (k : xr_j l G K nL h lv (pc + 1) (.long x :: st)) : xr_j l G K nL h lv pc st := by
  obtain ⟨p, e, R, s, m, args, below, meth, c, Q, kc, ks⟩ := K
  obtain ⟨D, cA, ad, A, zt⟩ := G
  obtain ⟨hx, hb, hml, hown, hts, hK, hD, hZ, hR, hr, hlocks, hcs, hQ⟩ := C
  intro hT H locs ls hP hS hl
  exact lv_lload_n hx hb d hi (lv_at hl b hk) (k hT H locs ls hP hS hl)
theorem xr_lload (C : xr_C G K cc own nL rm ret Qc) {i : Nat} {x : Int64} (b : Nat) (d : decode cc pc = .ok (.lload i, 2)) (hk : lv[b]? = some (i, .long x)) (k : xr_j l G K nL h lv (pc + 2) (.long x :: st)) : xr_j l G K nL h lv pc st := by
  obtain ⟨p, e, R, s, m, args, below, meth, c, Q, kc, ks⟩ := K
  obtain ⟨D, cA, ad, A, zt⟩ := G
  obtain ⟨hx, hb, hml, hown, hts, hK, hD, hZ, hR, hr, hlocks, hcs, hQ⟩ := C
  intro hT H locs ls hP hS hl
  exact lv_lload hx hb d (lv_at hl b hk) (k hT H locs ls hP hS hl)
theorem xr_aload_n (C : xr_C G K cc own nL rm ret Qc) {q : Fin 4} {i : Nat} {x : Nat} (b : Nat) (d : decode cc pc = .ok (.aload_n q, 1)) (hi : (q : Nat) = i) (hk : lv[b]? = some (i, .ref x)) (k : xr_j l G K nL h lv (pc + 1) (.ref x :: st)) : xr_j l G K nL h lv pc st := by
  obtain ⟨p, e, R, s, m, args, below, meth, c, Q, kc, ks⟩ := K
  obtain ⟨D, cA, ad, A, zt⟩ := G
  obtain ⟨hx, hb, hml, hown, hts, hK, hD, hZ, hR, hr, hlocks, hcs, hQ⟩ := C
  intro hT H locs ls hP hS hl
  exact lv_aload_n hx hb d hi (lv_at hl b hk) (k hT H locs ls hP hS hl)
theorem xr_aload (C : xr_C G K cc own nL rm ret Qc) {i : Nat} {x : Nat} (b : Nat) (d : decode cc pc = .ok (.aload i, 2)) (hk : lv[b]? = some (i, .ref x)) (k : xr_j l G K nL h lv (pc + 2) (.ref x :: st)) : xr_j l G K nL h lv pc st := by
  obtain ⟨p, e, R, s, m, args, below, meth, c, Q, kc, ks⟩ := K
  obtain ⟨D, cA, ad, A, zt⟩ := G
  obtain ⟨hx, hb, hml, hown, hts, hK, hD, hZ, hR, hr, hlocks, hcs, hQ⟩ := C
  intro hT H locs ls hP hS hl
  exact lv_aload hx hb d (lv_at hl b hk) (k hT H locs ls hP hS hl)
theorem xr_istore_n (C : xr_C G K cc own nL rm ret Qc) {q : Fin 4} {i : Nat} {x : Int32} (lv' : List (Nat × Value)) (d : decode cc pc = .ok (.istore_n q, 1)) (hi : (q : Nat) = i) (hn : i < nL) (hl0 : (i, Value.int x) :: lv.filter (fun q => !(q.1 == i) && !(q.1 + 1 == i && q.2.category == 2)) = lv') (k : xr_j l G K nL h lv' (pc + 1) st) : xr_j l G K nL h lv pc (.int x :: st) := by
  obtain ⟨p, e, R, s, m, args, below, meth, c, Q, kc, ks⟩ := K
  obtain ⟨D, cA, ad, A, zt⟩ := G
  obtain ⟨hx, hb, hml, hown, hts, hK, hD, hZ, hR, hr, hlocks, hcs, hQ⟩ := C
  intro hT H locs ls hP hS hl
  exact lv_istore_n hx hb d hi hl hn hl0 (fun ls hl => k hT H locs ls hP hS hl)
theorem xr_istore (C : xr_C G K cc own nL rm ret Qc) {i : Nat} {x : Int32} (lv' : List (Nat × Value)) (d : decode cc pc = .ok (.istore i, 2)) (hn : i < nL) (hl0 : (i, Value.int x) :: lv.filter (fun q => !(q.1 == i) && !(q.1 + 1 == i && q.2.category == 2)) = lv') (k : xr_j l G K nL h lv' (pc + 2) st) : xr_j l G K nL h lv pc (.int x :: st) := by
  obtain ⟨p, e, R, s, m, args, below, meth, c, Q, kc, ks⟩ := K
  obtain ⟨D, cA, ad, A, zt⟩ := G
  obtain ⟨hx, hb, hml, hown, hts, hK, hD, hZ, hR, hr, hlocks, hcs, hQ⟩ := C
  intro hT H locs ls hP hS hl
  exact lv_istore hx hb d hl hn hl0 (fun ls hl => k hT H locs ls hP hS hl)
theorem xr_lstore_n (C : xr_C G K cc own nL rm ret Qc) {q : Fin 4} {i : Nat} {x : Int64} (lv' : List (Nat × Value)) (d : decode cc pc = .ok (.lstore_n q, 1)) (hi : (q : Nat) = i) (hn : i + 1 < nL) (hl0 : (i, Value.long x) :: lv.filter (fun q => !(q.1 == i) && (!(q.1 == i + 1) && !(q.1 + 1 == i && q.2.category == 2))) = lv') (k : xr_j l G K nL h lv' (pc + 1) st) : xr_j l G K nL h lv pc (.long x :: st) := by
  obtain ⟨p, e, R, s, m, args, below, meth, c, Q, kc, ks⟩ := K
  obtain ⟨D, cA, ad, A, zt⟩ := G
  obtain ⟨hx, hb, hml, hown, hts, hK, hD, hZ, hR, hr, hlocks, hcs, hQ⟩ := C
  intro hT H locs ls hP hS hl
  exact lv_lstore_n hx hb d hi hl hn hl0 (fun ls hl => k hT H locs ls hP hS hl)
theorem xr_lstore (C : xr_C G K cc own nL rm ret Qc) {i : Nat} {x : Int64} (lv' : List (Nat × Value)) (d : decode cc pc = .ok (.lstore i, 2)) (hn : i + 1 < nL) (hl0 : (i, Value.long x) :: lv.filter (fun q => !(q.1 == i) && (!(q.1 == i + 1) && !(q.1 + 1 == i && q.2.category == 2))) = lv') (k : xr_j l G K nL h lv' (pc + 2) st) : xr_j l G K nL h lv pc (.long x :: st) := by
  obtain ⟨p, e, R, s, m, args, below, meth, c, Q, kc, ks⟩ := K
  obtain ⟨D, cA, ad, A, zt⟩ := G
  obtain ⟨hx, hb, hml, hown, hts, hK, hD, hZ, hR, hr, hlocks, hcs, hQ⟩ := C
  intro hT H locs ls hP hS hl
  exact lv_lstore hx hb d hl hn hl0 (fun ls hl => k hT H locs ls hP hS hl)
theorem xr_astore_n (C : xr_C G K cc own nL rm ret Qc) {q : Fin 4} {i : Nat} {x : Nat} (lv' : List (Nat × Value)) (d : decode cc pc = .ok (.astore_n q, 1)) (hi : (q : Nat) = i) (hn : i < nL) (hl0 : (i, Value.ref x) :: lv.filter (fun q => !(q.1 == i) && !(q.1 + 1 == i && q.2.category == 2)) = lv') (k : xr_j l G K nL h lv' (pc + 1) st) : xr_j l G K nL h lv pc (.ref x :: st) := by
  obtain ⟨p, e, R, s, m, args, below, meth, c, Q, kc, ks⟩ := K
  obtain ⟨D, cA, ad, A, zt⟩ := G
  obtain ⟨hx, hb, hml, hown, hts, hK, hD, hZ, hR, hr, hlocks, hcs, hQ⟩ := C
  intro hT H locs ls hP hS hl
  exact lv_astore_n hx hb d hi hl hn hl0 (fun ls hl => k hT H locs ls hP hS hl)
theorem xr_astore (C : xr_C G K cc own nL rm ret Qc) {i : Nat} {x : Nat} (lv' : List (Nat × Value)) (d : decode cc pc = .ok (.astore i, 2)) (hn : i < nL) (hl0 : (i, Value.ref x) :: lv.filter (fun q => !(q.1 == i) && !(q.1 + 1 == i && q.2.category == 2)) = lv') (k : xr_j l G K nL h lv' (pc + 2) st) : xr_j l G K nL h lv pc (.ref x :: st) := by
  obtain ⟨p, e, R, s, m, args, below, meth, c, Q, kc, ks⟩ := K
  obtain ⟨D, cA, ad, A, zt⟩ := G
  obtain ⟨hx, hb, hml, hown, hts, hK, hD, hZ, hR, hr, hlocks, hcs, hQ⟩ := C
  intro hT H locs ls hP hS hl
  exact lv_astore hx hb d hl hn hl0 (fun ls hl => k hT H locs ls hP hS hl)
theorem xr_iinc (C : xr_C G K cc own nL rm ret Qc) {i : Nat} {n : Int} {x : Int32} (v : Int32) (b : Nat) (lv' : List (Nat × Value)) (d : decode cc pc = .ok (.iinc i n, 3)) (hk : lv[b]? = some (i, .int x)) (hv : x + Int32.ofInt n = v) (hn : i < nL) (hl0 : (i, Value.int v) :: lv.filter (fun q => !(q.1 == i) && !(q.1 + 1 == i && q.2.category == 2)) = lv') (k : xr_j l G K nL h lv' (pc + 3) st) : xr_j l G K nL h lv pc st := by
  obtain ⟨p, e, R, s, m, args, below, meth, c, Q, kc, ks⟩ := K
  obtain ⟨D, cA, ad, A, zt⟩ := G
  obtain ⟨hx, hb, hml, hown, hts, hK, hD, hZ, hR, hr, hlocks, hcs, hQ⟩ := C
  intro hT H locs ls hP hS hl
  exact lv_iinc hx hb d hl hk hv hn hl0 (fun ls hl => k hT H locs ls hP hS hl)
theorem xr_iadd (C : xr_C G K cc own nL rm ret Qc) {x y : Int32} (d : decode cc pc = .ok (.iadd, 1)) (k : xr_j l G K nL h lv (pc + 1) (.int (x + y) :: st)) : xr_j l G K nL h lv pc (.int y :: .int x :: st) := by
  obtain ⟨p, e, R, s, m, args, below, meth, c, Q, kc, ks⟩ := K
  obtain ⟨D, cA, ad, A, zt⟩ := G
  obtain ⟨hx, hb, hml, hown, hts, hK, hD, hZ, hR, hr, hlocks, hcs, hQ⟩ := C
  intro hT H locs ls hP hS hl
  exact lv_iadd hx hb d (k hT H locs ls hP hS hl)
theorem xr_isub (C : xr_C G K cc own nL rm ret Qc) {x y : Int32} (d : decode cc pc = .ok (.isub, 1)) (k : xr_j l G K nL h lv (pc + 1) (.int (x - y) :: st)) : xr_j l G K nL h lv pc (.int y :: .int x :: st) := by
  obtain ⟨p, e, R, s, m, args, below, meth, c, Q, kc, ks⟩ := K
  obtain ⟨D, cA, ad, A, zt⟩ := G
  obtain ⟨hx, hb, hml, hown, hts, hK, hD, hZ, hR, hr, hlocks, hcs, hQ⟩ := C
  intro hT H locs ls hP hS hl
  exact lv_isub hx hb d (k hT H locs ls hP hS hl)
theorem xr_imul (C : xr_C G K cc own nL rm ret Qc) {x y : Int32} (d : decode cc pc = .ok (.imul, 1)) (k : xr_j l G K nL h lv (pc + 1) (.int (x * y) :: st)) : xr_j l G K nL h lv pc (.int y :: .int x :: st) := by
  obtain ⟨p, e, R, s, m, args, below, meth, c, Q, kc, ks⟩ := K
  obtain ⟨D, cA, ad, A, zt⟩ := G
  obtain ⟨hx, hb, hml, hown, hts, hK, hD, hZ, hR, hr, hlocks, hcs, hQ⟩ := C
  intro hT H locs ls hP hS hl
  exact lv_imul hx hb d (k hT H locs ls hP hS hl)
theorem xr_iand (C : xr_C G K cc own nL rm ret Qc) {x y : Int32} (d : decode cc pc = .ok (.iand, 1)) (k : xr_j l G K nL h lv (pc + 1) (.int (x &&& y) :: st)) : xr_j l G K nL h lv pc (.int y :: .int x :: st) := by
  obtain ⟨p, e, R, s, m, args, below, meth, c, Q, kc, ks⟩ := K
  obtain ⟨D, cA, ad, A, zt⟩ := G
  obtain ⟨hx, hb, hml, hown, hts, hK, hD, hZ, hR, hr, hlocks, hcs, hQ⟩ := C
  intro hT H locs ls hP hS hl
  exact lv_iand hx hb d (k hT H locs ls hP hS hl)
theorem xr_ior (C : xr_C G K cc own nL rm ret Qc) {x y : Int32} (d : decode cc pc = .ok (.ior, 1)) (k : xr_j l G K nL h lv (pc + 1) (.int (x ||| y) :: st)) : xr_j l G K nL h lv pc (.int y :: .int x :: st) := by
  obtain ⟨p, e, R, s, m, args, below, meth, c, Q, kc, ks⟩ := K
  obtain ⟨D, cA, ad, A, zt⟩ := G
  obtain ⟨hx, hb, hml, hown, hts, hK, hD, hZ, hR, hr, hlocks, hcs, hQ⟩ := C
  intro hT H locs ls hP hS hl
  exact lv_ior hx hb d (k hT H locs ls hP hS hl)
theorem xr_ishl (C : xr_C G K cc own nL rm ret Qc) {x y : Int32} (d : decode cc pc = .ok (.ishl, 1)) (k : xr_j l G K nL h lv (pc + 1) (.int (fx_shl x y) :: st)) : xr_j l G K nL h lv pc (.int y :: .int x :: st) := by
  obtain ⟨p, e, R, s, m, args, below, meth, c, Q, kc, ks⟩ := K
  obtain ⟨D, cA, ad, A, zt⟩ := G
  obtain ⟨hx, hb, hml, hown, hts, hK, hD, hZ, hR, hr, hlocks, hcs, hQ⟩ := C
  intro hT H locs ls hP hS hl
  exact lv_ishl hx hb d (k hT H locs ls hP hS hl)
theorem xr_ishr (C : xr_C G K cc own nL rm ret Qc) {x y : Int32} (d : decode cc pc = .ok (.ishr, 1)) (k : xr_j l G K nL h lv (pc + 1) (.int (fx_shr x y) :: st)) : xr_j l G K nL h lv pc (.int y :: .int x :: st) := by
  obtain ⟨p, e, R, s, m, args, below, meth, c, Q, kc, ks⟩ := K
  obtain ⟨D, cA, ad, A, zt⟩ := G
  obtain ⟨hx, hb, hml, hown, hts, hK, hD, hZ, hR, hr, hlocks, hcs, hQ⟩ := C
  intro hT H locs ls hP hS hl
  exact lv_ishr hx hb d (k hT H locs ls hP hS hl)
theorem xr_iushr (C : xr_C G K cc own nL rm ret Qc) {x y : Int32} (d : decode cc pc = .ok (.iushr, 1)) (k : xr_j l G K nL h lv (pc + 1) (.int (fx_ushr x y) :: st)) : xr_j l G K nL h lv pc (.int y :: .int x :: st) := by
  obtain ⟨p, e, R, s, m, args, below, meth, c, Q, kc, ks⟩ := K
  obtain ⟨D, cA, ad, A, zt⟩ := G
  obtain ⟨hx, hb, hml, hown, hts, hK, hD, hZ, hR, hr, hlocks, hcs, hQ⟩ := C
  intro hT H locs ls hP hS hl
  exact lv_iushr hx hb d rfl (k hT H locs ls hP hS hl)
theorem xr_idiv (C : xr_C G K cc own nL rm ret Qc) {x y : Int32} (d : decode cc pc = .ok (.idiv, 1)) (hne : ¬ y = 0) (k : xr_j l G K nL h lv (pc + 1) (.int (x / y) :: st)) : xr_j l G K nL h lv pc (.int y :: .int x :: st) := by
  obtain ⟨p, e, R, s, m, args, below, meth, c, Q, kc, ks⟩ := K
  obtain ⟨D, cA, ad, A, zt⟩ := G
  obtain ⟨hx, hb, hml, hown, hts, hK, hD, hZ, hR, hr, hlocks, hcs, hQ⟩ := C
  intro hT H locs ls hP hS hl
  exact lv_idiv hx hb d hne (k hT H locs ls hP hS hl)
theorem xr_irem (C : xr_C G K cc own nL rm ret Qc) {x y : Int32} (d : decode cc pc = .ok (.irem, 1)) (hne : ¬ y = 0) (k : xr_j l G K nL h lv (pc + 1) (.int (fx_rem x y) :: st)) : xr_j l G K nL h lv pc (.int y :: .int x :: st) := by
  obtain ⟨p, e, R, s, m, args, below, meth, c, Q, kc, ks⟩ := K
  obtain ⟨D, cA, ad, A, zt⟩ := G
  obtain ⟨hx, hb, hml, hown, hts, hK, hD, hZ, hR, hr, hlocks, hcs, hQ⟩ := C
  intro hT H locs ls hP hS hl
  exact lv_irem hx hb d hne (k hT H locs ls hP hS hl)
theorem xr_ladd (C : xr_C G K cc own nL rm ret Qc) {x y : Int64} (d : decode cc pc = .ok (.ladd, 1)) (k : xr_j l G K nL h lv (pc + 1) (.long (x + y) :: st)) : xr_j l G K nL h lv pc (.long y :: .long x :: st) := by
  obtain ⟨p, e, R, s, m, args, below, meth, c, Q, kc, ks⟩ := K
  obtain ⟨D, cA, ad, A, zt⟩ := G
  obtain ⟨hx, hb, hml, hown, hts, hK, hD, hZ, hR, hr, hlocks, hcs, hQ⟩ := C
  intro hT H locs ls hP hS hl
  exact lv_ladd hx hb d (k hT H locs ls hP hS hl)
theorem xr_lsub (C : xr_C G K cc own nL rm ret Qc) {x y : Int64} (d : decode cc pc = .ok (.lsub, 1)) (k : xr_j l G K nL h lv (pc + 1) (.long (x - y) :: st)) : xr_j l G K nL h lv pc (.long y :: .long x :: st) := by
  obtain ⟨p, e, R, s, m, args, below, meth, c, Q, kc, ks⟩ := K
  obtain ⟨D, cA, ad, A, zt⟩ := G
  obtain ⟨hx, hb, hml, hown, hts, hK, hD, hZ, hR, hr, hlocks, hcs, hQ⟩ := C
  intro hT H locs ls hP hS hl
  exact lv_lsub hx hb d (k hT H locs ls hP hS hl)
theorem xr_lmul (C : xr_C G K cc own nL rm ret Qc) {x y : Int64} (d : decode cc pc = .ok (.lmul, 1)) (k : xr_j l G K nL h lv (pc + 1) (.long (x * y) :: st)) : xr_j l G K nL h lv pc (.long y :: .long x :: st) := by
  obtain ⟨p, e, R, s, m, args, below, meth, c, Q, kc, ks⟩ := K
  obtain ⟨D, cA, ad, A, zt⟩ := G
  obtain ⟨hx, hb, hml, hown, hts, hK, hD, hZ, hR, hr, hlocks, hcs, hQ⟩ := C
  intro hT H locs ls hP hS hl
  exact lv_lmul hx hb d (k hT H locs ls hP hS hl)
theorem xr_ldiv (C : xr_C G K cc own nL rm ret Qc) {x y : Int64} (d : decode cc pc = .ok (.ldiv, 1)) (hne : ¬ y = 0) (k : xr_j l G K nL h lv (pc + 1) (.long (x / y) :: st)) : xr_j l G K nL h lv pc (.long y :: .long x :: st) := by
  obtain ⟨p, e, R, s, m, args, below, meth, c, Q, kc, ks⟩ := K
  obtain ⟨D, cA, ad, A, zt⟩ := G
  obtain ⟨hx, hb, hml, hown, hts, hK, hD, hZ, hR, hr, hlocks, hcs, hQ⟩ := C
  intro hT H locs ls hP hS hl
  exact lv_ldiv hx hb d hne (k hT H locs ls hP hS hl)
theorem xr_i2l (C : xr_C G K cc own nL rm ret Qc) {x : Int32} (d : decode cc pc = .ok (.i2l, 1)) (k : xr_j l G K nL h lv (pc + 1) (.long x.toInt64 :: st)) : xr_j l G K nL h lv pc (.int x :: st) := by
  obtain ⟨p, e, R, s, m, args, below, meth, c, Q, kc, ks⟩ := K
  obtain ⟨D, cA, ad, A, zt⟩ := G
  obtain ⟨hx, hb, hml, hown, hts, hK, hD, hZ, hR, hr, hlocks, hcs, hQ⟩ := C
  intro hT H locs ls hP hS hl
  exact lv_i2l hx hb d rfl (k hT H locs ls hP hS hl)
theorem xr_l2i (C : xr_C G K cc own nL rm ret Qc) {x : Int64} (d : decode cc pc = .ok (.l2i, 1)) (k : xr_j l G K nL h lv (pc + 1) (.int x.toInt32 :: st)) : xr_j l G K nL h lv pc (.long x :: st) := by
  obtain ⟨p, e, R, s, m, args, below, meth, c, Q, kc, ks⟩ := K
  obtain ⟨D, cA, ad, A, zt⟩ := G
  obtain ⟨hx, hb, hml, hown, hts, hK, hD, hZ, hR, hr, hlocks, hcs, hQ⟩ := C
  intro hT H locs ls hP hS hl
  exact lv_l2i hx hb d rfl (k hT H locs ls hP hS hl)
theorem xr_lcmp (C : xr_C G K cc own nL rm ret Qc) {x y : Int64} (d : decode cc pc = .ok (.lcmp, 1)) (k : xr_j l G K nL h lv (pc + 1) (.int (lg_cmp x y) :: st)) : xr_j l G K nL h lv pc (.long y :: .long x :: st) := by
  obtain ⟨p, e, R, s, m, args, below, meth, c, Q, kc, ks⟩ := K
  obtain ⟨D, cA, ad, A, zt⟩ := G
  obtain ⟨hx, hb, hml, hown, hts, hK, hD, hZ, hR, hr, hlocks, hcs, hQ⟩ := C
  intro hT H locs ls hP hS hl
  exact W.lcmp hx hb d (k hT H locs ls hP hS hl)
theorem xr_dup (C : xr_C G K cc own nL rm ret Qc) {va : Value} (d : decode cc pc = .ok (.dup, 1)) (hva : va.category = 1) (k : xr_j l G K nL h lv (pc + 1) (va :: va :: st)) : xr_j l G K nL h lv pc (va :: st) := by
  obtain ⟨p, e, R, s, m, args, below, meth, c, Q, kc, ks⟩ := K
  obtain ⟨D, cA, ad, A, zt⟩ := G
  obtain ⟨hx, hb, hml, hown, hts, hK, hD, hZ, hR, hr, hlocks, hcs, hQ⟩ := C
  intro hT H locs ls hP hS hl
  exact lv_dup hx hb d hva (k hT H locs ls hP hS hl)
theorem xr_pop (C : xr_C G K cc own nL rm ret Qc) {va : Value} (d : decode cc pc = .ok (.pop, 1)) (hva : va.category = 1) (k : xr_j l G K nL h lv (pc + 1) st) : xr_j l G K nL h lv pc (va :: st) := by
  obtain ⟨p, e, R, s, m, args, below, meth, c, Q, kc, ks⟩ := K
  obtain ⟨D, cA, ad, A, zt⟩ := G
  obtain ⟨hx, hb, hml, hown, hts, hK, hD, hZ, hR, hr, hlocks, hcs, hQ⟩ := C
  intro hT H locs ls hP hS hl
  exact lv_pop hx hb d hva (k hT H locs ls hP hS hl)
theorem xr_dup2 (C : xr_C G K cc own nL rm ret Qc) {va vb : Value} (d : decode cc pc = .ok (.dup2, 1)) (hva : va.category = 1) (hvb : vb.category = 1) (k : xr_j l G K nL h lv (pc + 1) (va :: vb :: va :: vb :: st)) : xr_j l G K nL h lv pc (va :: vb :: st) := by
  obtain ⟨p, e, R, s, m, args, below, meth, c, Q, kc, ks⟩ := K
  obtain ⟨D, cA, ad, A, zt⟩ := G
  obtain ⟨hx, hb, hml, hown, hts, hK, hD, hZ, hR, hr, hlocks, hcs, hQ⟩ := C
  intro hT H locs ls hP hS hl
  exact lv_dup2_11 hx hb d hva hvb (k hT H locs ls hP hS hl)
theorem xr_goto (C : xr_C G K cc own nL rm ret Qc) {off : Int} (tgt : Nat) (d : decode cc pc = .ok (.goto off, 3)) (ht : (pc : Int) + off = (tgt : Int)) (k : xr_j l G K nL h lv tgt st) : xr_j l G K nL h lv pc st := by
  obtain ⟨p, e, R, s, m, args, below, meth, c, Q, kc, ks⟩ := K
  obtain ⟨D, cA, ad, A, zt⟩ := G
  obtain ⟨hx, hb, hml, hown, hts, hK, hD, hZ, hR, hr, hlocks, hcs, hQ⟩ := C
  intro hT H locs ls hP hS hl
  exact lv_goto hx hb d ht (k hT H locs ls hP hS hl)
theorem xr_icmp_eq (C : xr_C G K cc own nL rm ret Qc) {x y : Int32} {off : Int} (tgt : Nat) (d : decode cc pc = .ok (.if_icmp .eq off, 3)) (ht : (pc : Int) + off = (tgt : Int)) (kt : x = y → xr_j l G K nL h lv tgt st) (kf : ¬ x = y → xr_j l G K nL h lv (pc + 3) st) : xr_j l G K nL h lv pc (.int y :: .int x :: st) := by
  obtain ⟨p, e, R, s, m, args, below, meth, c, Q, kc, ks⟩ := K
  obtain ⟨D, cA, ad, A, zt⟩ := G
  obtain ⟨hx, hb, hml, hown, hts, hK, hD, hZ, hR, hr, hlocks, hcs, hQ⟩ := C
  intro hT H locs ls hP hS hl
  exact lv_icmp_eq hx hb d ht (fun q => kt q hT H locs ls hP hS hl) (fun q => kf q hT H locs ls hP hS hl)
theorem xr_icmp_ne (C : xr_C G K cc own nL rm ret Qc) {x y : Int32} {off : Int} (tgt : Nat) (d : decode cc pc = .ok (.if_icmp .ne off, 3)) (ht : (pc : Int) + off = (tgt : Int)) (kt : ¬ x = y → xr_j l G K nL h lv tgt st) (kf : x = y → xr_j l G K nL h lv (pc + 3) st) : xr_j l G K nL h lv pc (.int y :: .int x :: st) := by
  obtain ⟨p, e, R, s, m, args, below, meth, c, Q, kc, ks⟩ := K
  obtain ⟨D, cA, ad, A, zt⟩ := G
  obtain ⟨hx, hb, hml, hown, hts, hK, hD, hZ, hR, hr, hlocks, hcs, hQ⟩ := C
  intro hT H locs ls hP hS hl
  exact lv_icmp_ne hx hb d ht (fun q => kt q hT H locs ls hP hS hl) (fun q => kf q hT H locs ls hP hS hl)
theorem xr_icmp_lt (C : xr_C G K cc own nL rm ret Qc) {x y : Int32} {off : Int} (tgt : Nat) (d : decode cc pc = .ok (.if_icmp .lt off, 3)) (ht : (pc : Int) + off = (tgt : Int)) (kt : x < y → xr_j l G K nL h lv tgt st) (kf : ¬ x < y → xr_j l G K nL h lv (pc + 3) st) : xr_j l G K nL h lv pc (.int y :: .int x :: st) := by
  obtain ⟨p, e, R, s, m, args, below, meth, c, Q, kc, ks⟩ := K
  obtain ⟨D, cA, ad, A, zt⟩ := G
  obtain ⟨hx, hb, hml, hown, hts, hK, hD, hZ, hR, hr, hlocks, hcs, hQ⟩ := C
  intro hT H locs ls hP hS hl
  exact lv_icmp_lt hx hb d ht (fun q => kt q hT H locs ls hP hS hl) (fun q => kf q hT H locs ls hP hS hl)
theorem xr_icmp_ge (C : xr_C G K cc own nL rm ret Qc) {x y : Int32} {off : Int} (tgt : Nat) (d : decode cc pc = .ok (.if_icmp .ge off, 3)) (ht : (pc : Int) + off = (tgt : Int)) (kt : y ≤ x → xr_j l G K nL h lv tgt st) (kf : ¬ y ≤ x → xr_j l G K nL h lv (pc + 3) st) : xr_j l G K nL h lv pc (.int y :: .int x :: st) := by
  obtain ⟨p, e, R, s, m, args, below, meth, c, Q, kc, ks⟩ := K
  obtain ⟨D, cA, ad, A, zt⟩ := G
  obtain ⟨hx, hb, hml, hown, hts, hK, hD, hZ, hR, hr, hlocks, hcs, hQ⟩ := C
  intro hT H locs ls hP hS hl
  exact lv_icmp_ge hx hb d ht (fun q => kt q hT H locs ls hP hS hl) (fun q => kf q hT H locs ls hP hS hl)
theorem xr_icmp_gt (C : xr_C G K cc own nL rm ret Qc) {x y : Int32} {off : Int} (tgt : Nat) (d : decode cc pc = .ok (.if_icmp .gt off, 3)) (ht : (pc : Int) + off = (tgt : Int)) (kt : y < x → xr_j l G K nL h lv tgt st) (kf : ¬ y < x → xr_j l G K nL h lv (pc + 3) st) : xr_j l G K nL h lv pc (.int y :: .int x :: st) := by
  obtain ⟨p, e, R, s, m, args, below, meth, c, Q, kc, ks⟩ := K
  obtain ⟨D, cA, ad, A, zt⟩ := G
  obtain ⟨hx, hb, hml, hown, hts, hK, hD, hZ, hR, hr, hlocks, hcs, hQ⟩ := C
  intro hT H locs ls hP hS hl
  exact lv_icmp_gt hx hb d ht (fun q => kt q hT H locs ls hP hS hl) (fun q => kf q hT H locs ls hP hS hl)
theorem xr_icmp_le (C : xr_C G K cc own nL rm ret Qc) {x y : Int32} {off : Int} (tgt : Nat) (d : decode cc pc = .ok (.if_icmp .le off, 3)) (ht : (pc : Int) + off = (tgt : Int)) (kt : x ≤ y → xr_j l G K nL h lv tgt st) (kf : ¬ x ≤ y → xr_j l G K nL h lv (pc + 3) st) : xr_j l G K nL h lv pc (.int y :: .int x :: st) := by
  obtain ⟨p, e, R, s, m, args, below, meth, c, Q, kc, ks⟩ := K
  obtain ⟨D, cA, ad, A, zt⟩ := G
  obtain ⟨hx, hb, hml, hown, hts, hK, hD, hZ, hR, hr, hlocks, hcs, hQ⟩ := C
  intro hT H locs ls hP hS hl
  exact lv_icmp_le hx hb d ht (fun q => kt q hT H locs ls hP hS hl) (fun q => kf q hT H locs ls hP hS hl)
theorem xr_if_eq (C : xr_C G K cc own nL rm ret Qc) {x : Int32} {off : Int} (tgt : Nat) (d : decode cc pc = .ok (.ifCond .eq off, 3)) (ht : (pc : Int) + off = (tgt : Int)) (kt : x = 0 → xr_j l G K nL h lv tgt st) (kf : ¬ x = 0 → xr_j l G K nL h lv (pc + 3) st) : xr_j l G K nL h lv pc (.int x :: st) := by
  obtain ⟨p, e, R, s, m, args, below, meth, c, Q, kc, ks⟩ := K
  obtain ⟨D, cA, ad, A, zt⟩ := G
  obtain ⟨hx, hb, hml, hown, hts, hK, hD, hZ, hR, hr, hlocks, hcs, hQ⟩ := C
  intro hT H locs ls hP hS hl
  exact lv_if_eq hx hb d ht (fun q => kt q hT H locs ls hP hS hl) (fun q => kf q hT H locs ls hP hS hl)
theorem xr_if_ne (C : xr_C G K cc own nL rm ret Qc) {x : Int32} {off : Int} (tgt : Nat) (d : decode cc pc = .ok (.ifCond .ne off, 3)) (ht : (pc : Int) + off = (tgt : Int)) (kt : ¬ x = 0 → xr_j l G K nL h lv tgt st) (kf : x = 0 → xr_j l G K nL h lv (pc + 3) st) : xr_j l G K nL h lv pc (.int x :: st) := by
  obtain ⟨p, e, R, s, m, args, below, meth, c, Q, kc, ks⟩ := K
  obtain ⟨D, cA, ad, A, zt⟩ := G
  obtain ⟨hx, hb, hml, hown, hts, hK, hD, hZ, hR, hr, hlocks, hcs, hQ⟩ := C
  intro hT H locs ls hP hS hl
  exact lv_if_ne hx hb d ht (fun q => kt q hT H locs ls hP hS hl) (fun q => kf q hT H locs ls hP hS hl)
theorem xr_if_lt (C : xr_C G K cc own nL rm ret Qc) {x : Int32} {off : Int} (tgt : Nat) (d : decode cc pc = .ok (.ifCond .lt off, 3)) (ht : (pc : Int) + off = (tgt : Int)) (kt : x < 0 → xr_j l G K nL h lv tgt st) (kf : ¬ x < 0 → xr_j l G K nL h lv (pc + 3) st) : xr_j l G K nL h lv pc (.int x :: st) := by
  obtain ⟨p, e, R, s, m, args, below, meth, c, Q, kc, ks⟩ := K
  obtain ⟨D, cA, ad, A, zt⟩ := G
  obtain ⟨hx, hb, hml, hown, hts, hK, hD, hZ, hR, hr, hlocks, hcs, hQ⟩ := C
  intro hT H locs ls hP hS hl
  exact lv_if_lt hx hb d ht (fun q => kt q hT H locs ls hP hS hl) (fun q => kf q hT H locs ls hP hS hl)
theorem xr_if_ge (C : xr_C G K cc own nL rm ret Qc) {x : Int32} {off : Int} (tgt : Nat) (d : decode cc pc = .ok (.ifCond .ge off, 3)) (ht : (pc : Int) + off = (tgt : Int)) (kt : 0 ≤ x → xr_j l G K nL h lv tgt st) (kf : ¬ 0 ≤ x → xr_j l G K nL h lv (pc + 3) st) : xr_j l G K nL h lv pc (.int x :: st) := by
  obtain ⟨p, e, R, s, m, args, below, meth, c, Q, kc, ks⟩ := K
  obtain ⟨D, cA, ad, A, zt⟩ := G
  obtain ⟨hx, hb, hml, hown, hts, hK, hD, hZ, hR, hr, hlocks, hcs, hQ⟩ := C
  intro hT H locs ls hP hS hl
  exact lv_if_ge hx hb d ht (fun q => kt q hT H locs ls hP hS hl) (fun q => kf q hT H locs ls hP hS hl)
theorem xr_if_gt (C : xr_C G K cc own nL rm ret Qc) {x : Int32} {off : Int} (tgt : Nat) (d : decode cc pc = .ok (.ifCond .gt off, 3)) (ht : (pc : Int) + off = (tgt : Int)) (kt : 0 < x → xr_j l G K nL h lv tgt st) (kf : ¬ 0 < x → xr_j l G K nL h lv (pc + 3) st) : xr_j l G K nL h lv pc (.int x :: st) := by
  obtain ⟨p, e, R, s, m, args, below, meth, c, Q, kc, ks⟩ := K
  obtain ⟨D, cA, ad, A, zt⟩ := G
  obtain ⟨hx, hb, hml, hown, hts, hK, hD, hZ, hR, hr, hlocks, hcs, hQ⟩ := C
  intro hT H locs ls hP hS hl
  exact lv_if_gt hx hb d ht (fun q => kt q hT H locs ls hP hS hl) (fun q => kf q hT H locs ls hP hS hl)
theorem xr_if_le (C : xr_C G K cc own nL rm ret Qc) {x : Int32} {off : Int} (tgt : Nat) (d : decode cc pc = .ok (.ifCond .le off, 3)) (ht : (pc : Int) + off = (tgt : Int)) (kt : x ≤ 0 → xr_j l G K nL h lv tgt st) (kf : ¬ x ≤ 0 → xr_j l G K nL h lv (pc + 3) st) : xr_j l G K nL h lv pc (.int x :: st) := by
  obtain ⟨p, e, R, s, m, args, below, meth, c, Q, kc, ks⟩ := K
  obtain ⟨D, cA, ad, A, zt⟩ := G
  obtain ⟨hx, hb, hml, hown, hts, hK, hD, hZ, hR, hr, hlocks, hcs, hQ⟩ := C
  intro hT H locs ls hP hS hl
  exact lv_if_le hx hb d ht (fun q => kt q hT H locs ls hP hS hl) (fun q => kf q hT H locs ls hP hS hl)
theorem xr_tableIn (C : xr_C G K cc own nL rm ret Qc) {dflt lo hi : Int} {offs : Array Int} {len : Nat} {x : Int32} {off : Int} (tgt : Nat) (d : decode cc pc = .ok (.tableswitch dflt lo hi offs, len)) (h1 : ¬ x.toInt < lo) (h2 : ¬ hi < x.toInt) (ho : offs[(x.toInt - lo).toNat]? = some off) (ht : (pc : Int) + off = (tgt : Int)) (k : xr_j l G K nL h lv tgt st) : xr_j l G K nL h lv pc (.int x :: st) := by
  obtain ⟨p, e, R, s, m, args, below, meth, c, Q, kc, ks⟩ := K
  obtain ⟨D, cA, ad, A, zt⟩ := G
  obtain ⟨hx, hb, hml, hown, hts, hK, hD, hZ, hR, hr, hlocks, hcs, hQ⟩ := C
  intro hT H locs ls hP hS hl
  exact lv_tableIn hx hb d h1 h2 ho ht (k hT H locs ls hP hS hl)
theorem xr_tableOut (C : xr_C G K cc own nL rm ret Qc) {dflt lo hi : Int} {offs : Array Int} {len : Nat} {x : Int32} (tgt : Nat) (d : decode cc pc = .ok (.tableswitch dflt lo hi offs, len)) (h0 : x.toInt < lo ∨ hi < x.toInt) (ht : (pc : Int) + dflt = (tgt : Int)) (k : xr_j l G K nL h lv tgt st) : xr_j l G K nL h lv pc (.int x :: st) := by
  obtain ⟨p, e, R, s, m, args, below, meth, c, Q, kc, ks⟩ := K
  obtain ⟨D, cA, ad, A, zt⟩ := G
  obtain ⟨hx, hb, hml, hown, hts, hK, hD, hZ, hR, hr, hlocks, hcs, hQ⟩ := C
  intro hT H locs ls hP hS hl
  exact lv_tableOut hx hb d h0 ht (k hT H locs ls hP hS hl)
theorem xr_lookup (C : xr_C G K cc own nL rm ret Qc) {dflt : Int} {ps : Array (Int × Int)} {len : Nat} {x : Int32} {off : Int} (tgt : Nat) (d : decode cc pc = .ok (.lookupswitch dflt ps, len)) (hp : (ps.toList.zip (ps.toList.drop 1)).all (fun (a, next) => a.1 < next.1) = true) (ho : Op.lookupswitch.offset ps.toList dflt x.toInt = off) (ht : (pc : Int) + off = (tgt : Int)) (k : xr_j l G K nL h lv tgt st) : xr_j l G K nL h lv pc (.int x :: st) := by
  obtain ⟨p, e, R, s, m, args, below, meth, c, Q, kc, ks⟩ := K
  obtain ⟨D, cA, ad, A, zt⟩ := G
  obtain ⟨hx, hb, hml, hown, hts, hK, hD, hZ, hR, hr, hlocks, hcs, hQ⟩ := C
  intro hT H locs ls hP hS hl
  exact lv_lookup hx hb d hp ho ht (k hT H locs ls hP hS hl)
theorem xr_topi {x : Int32} (k : ∀ y : Int32, y = x → xr_j l G K nL h lv pc (.int y :: st)) : xr_j l G K nL h lv pc (.int x :: st) := k x rfl
theorem xr_topl {x : Int64} (k : ∀ y : Int64, y = x → xr_j l G K nL h lv pc (.long y :: st)) : xr_j l G K nL h lv pc (.long x :: st) := k x rfl
theorem xr_toph (k : ∀ g : hp_T, g = h → xr_j l G K nL g lv pc st) : xr_j l G K nL h lv pc st := k h rfl
theorem xr_sub (ks : List Nat) (lv' : List (Nat × Value)) (hl0 : lv_pick lv ks = lv') (k : xr_j l G K nL h lv' pc st) : xr_j l G K nL h lv pc st := fun hT H locs ls hP hS hl => k hT H locs ls hP hS (lv_sub hl ks hl0)
/-- what a class's number stands for, and that field k of it is a number (or a reference) -/
def xr_fd (ci k : Nat) (C : String) (T : u_T) (N : Nat) (ty : Nat → FieldType) : Prop := ci < 20 ∧ vwCl[ci]? = some (C, T, N) ∧ (hp_F.getD ci []).length = N ∧ k < N ∧ (∀ w ∈ u_ws C T N, w ∈ hp_GL) ∧ (∀ j, j < N → parseFieldDescriptor (T j).2.2.1 = some (ty j)) ∧ (∀ a, a < N → ∀ b, b < N → a ≠ b → (T a).2.1 ≠ (T b).2.1) ∧ (T k).1 = C
/-- a link of a field: the pool's entry, the class's number, the field's place -/
def xr_fl (own : String) (index ci k : Nat) : Prop := ∃ (C : String) (T : u_T) (N : Nat) (ty : Nat → FieldType), xr_fd ci k C T N ty ∧ Cond.fieldLink own index C (T k).2.1 (T k).2.2.1 ∈ hp_GL
/-- .. and that it may be written: not final, of this type -/
def xr_fp (own : String) (index ci k : Nat) (ty0 : FieldType) : Prop := ∃ (C : String) (T : u_T) (N : Nat) (ty : Nat → FieldType), xr_fd ci k C T N ty ∧ Cond.fieldLink own index C (T k).2.1 (T k).2.2.1 ∈ hp_GL ∧ (T k).2.2.2 = false ∧ parseFieldDescriptor (T k).2.2.1 = some ty0
theorem hp_Ty_at {R : Nat → Nat → Nat} (hT : hp_Ty R) {a ci k : Nat} {z : Nat × Nat} (ha : hp_sh a = (ci, 0)) (hc : ci < 20) (hz : (hp_F.getD ci []).getD k none = some z) : hp_sh (R a k) = z := by
  refine hT a (hp_sh_lt ha (show ci < 99 by omega)) k z ?_
  rw [ha]
  show hp_rt (ci, 0) k = some z
  unfold hp_rt
  rw [if_pos hc]
  exact hz
theorem hp_ne {x : Nat} {z : Nat × Nat} (h : hp_sh x = z) (hz : z.1 < 99) : x ≠ 999 := by
  rintro rfl
  have := hp_sh_lt h hz
  exact absurd this (by decide +kernel)
theorem hp_rv_ref {ad : Nat → Nat} {x : Nat} (h : x ≠ 999) : hp_rv ad x = .ref (ad x) := by unfold hp_rv; rw [if_neg h]
theorem hp_ro_some {ad : Nat → Nat} {x : Nat} (h : x ≠ 999) : hp_ro ad x = some (ad x) := by unfold hp_ro; rw [if_neg h]
theorem xr_geti (C : xr_C G K cc own nL rm ret Qc) {index ci k a : Nat} (f : xr_fl own index ci k) (hf : (hp_F.getD ci []).getD k none = none) (d : decode cc pc = .ok (.getfield index, 3)) (ha : hp_sh a = (ci, 0)) (k0 : xr_j l G K nL h lv (pc + 3) (.int (h.1 a k) :: st)) : xr_j l G K nL h lv pc (.ref (G.2.2.1 a) :: st) := by
  obtain ⟨p, e, R, s, m, args, below, meth, c, Q, kc, ks⟩ := K
  obtain ⟨D, cA, ad, A, zt⟩ := G
  obtain ⟨hx, hb, hml, hown, hts, hK, hD, hZ, hR, hr, hlocks, hcs, hQ⟩ := C
  intro hT H locs ls hP hS hl
  obtain ⟨C, T, N, ty, ⟨hc, hcl, hN, hk, hin, hty, hnm, hde⟩, hlk⟩ := f
  have hat := hp_wl_at (cA := cA) (ad := ad) (n := hp_N) (h := h) ha (hp_sh_lt ha (show ci < 99 by omega))
  rw [hp_cell_ob hc] at hat
  have hv : (hp_fs ad h a ci)[k]? = some (.int (h.1 a k)) := by
    rw [hp_fs_at (by rw [hN]; exact hk)]
    unfold hp_fv
    rw [hf]; rfl
  exact va_get hx hb hts hin hown hK hP a hat hcl k hk (hts _ hlk) (fun x hx => by rw [hde] at hx; exact hx) hv d (k0 hT H locs ls hP hS hl)
theorem xr_getr (C : xr_C G K cc own nL rm ret Qc) {index ci k a : Nat} {z : Nat × Nat} (f : xr_fl own index ci k) (hf : (hp_F.getD ci []).getD k none = some z) (hz : z.1 < 99) (d : decode cc pc = .ok (.getfield index, 3)) (ha : hp_sh a = (ci, 0)) (k0 : hp_sh (h.2.2 a k) = z → xr_j l G K nL h lv (pc + 3) (.ref (G.2.2.1 (h.2.2 a k)) :: st)) : xr_j l G K nL h lv pc (.ref (G.2.2.1 a) :: st) := by
  obtain ⟨p, e, R, s, m, args, below, meth, c, Q, kc, ks⟩ := K
  obtain ⟨D, cA, ad, A, zt⟩ := G
  obtain ⟨hx, hb, hml, hown, hts, hK, hD, hZ, hR, hr, hlocks, hcs, hQ⟩ := C
  intro hT H locs ls hP hS hl
  obtain ⟨C, T, N, ty, ⟨hc, hcl, hN, hk, hin, hty, hnm, hde⟩, hlk⟩ := f
  have hat := hp_wl_at (cA := cA) (ad := ad) (n := hp_N) (h := h) ha (hp_sh_lt ha (show ci < 99 by omega))
  rw [hp_cell_ob hc] at hat
  have hq := hp_Ty_at hT ha hc hf
  have hv : (hp_fs ad h a ci)[k]? = some (.ref (ad (h.2.2 a k))) := by
    rw [hp_fs_at (by rw [hN]; exact hk)]
    unfold hp_fv
    rw [hf, ← hp_rv_ref (hp_ne hq hz)]; rfl
  exact va_get hx hb hts hin hown hK hP a hat hcl k hk (hts _ hlk) (fun x hx => by rw [hde] at hx; exact hx) hv d (k0 hq hT H locs ls hP hS hl)
theorem xr_puti (C : xr_C G K cc own nL rm ret Qc) {index ci k a : Nat} {v : Int32} {ty0 : FieldType} (f : xr_fp own index ci k ty0) (hf : (hp_F.getD ci []).getD k none = none) (hn : narrow ty0 (.int v) = .int v) (hfit : fits ty0 (.int v) = true) (d : decode cc pc = .ok (.putfield index, 3)) (ha : hp_sh a = (ci, 0)) (k0 : ∀ g : hp_T, g = hp_sI h a k v → xr_j l G K nL g lv (pc + 3) st) : xr_j l G K nL h lv pc (.int v :: .ref (G.2.2.1 a) :: st) := by
  obtain ⟨p, e, R, s, m, args, below, meth, c, Q, kc, ks⟩ := K
  obtain ⟨D, cA, ad, A, zt⟩ := G
  obtain ⟨hx, hb, hml, hown, hts, hK, hD, hZ, hR, hr, hlocks, hcs, hQ⟩ := C
  intro hT H locs ls hP hS hl
  obtain ⟨C, T, N, ty, ⟨hc, hcl, hN, hk, hin, hty, hnm, hde⟩, hlk, hf1, hf2⟩ := f
  have hat := hp_wl_at (cA := cA) (ad := ad) (n := hp_N) (h := h) ha (hp_sh_lt ha (show ci < 99 by omega))
  rw [hp_cell_ob hc] at hat
  have hset : (hp_wl cA ad hp_N h).set a (ad a, .inr (ci, (hp_fs ad h a ci).set k (.int v))) = hp_wl cA ad hp_N (hp_sI h a k v) := by
    refine hp_wl_set ha _ ?_ hp_sI_off
    rw [hp_cell_ob hc, hp_fs_set (h' := hp_sI h a k v) (.int v) ?_ ?_]
    · unfold hp_fv
      rw [hf, hp_sI_row]
      simp [upd]
    · intro j hj
      refine ⟨?_, rfl⟩
      rw [hp_sI_row]
      simp [upd, hj]
  refine va_put hx hb hts hin ty hty hnm hown hK hP (hD h) hS a hat hcl k hk (hts _ hlk) (fun x hx => by rw [hde] at hx; exact hx) hf1 hf2 hn hfit (by rw [show (hp_fs ad h a ci).length = N by unfold hp_fs; rw [List.length_map, List.length_range]; exact hN]; exact hk) d (fun H1 locs1 hP1 hD1 hS1 => ?_)
  rw [hset] at hP1
  exact k0 _ rfl hT H1 locs1 ls hP1 hS1 hl
theorem hp_Ty_set {R : Nat → Nat → Nat} (hT : hp_Ty R) {a k v : Nat} (hv : ∀ z, hp_rt (hp_sh a) k = some z → hp_sh v = z) : hp_Ty (hp_u R a k v) := by
  intro b hb j z hz
  unfold hp_u
  by_cases e : b = a ∧ j = k
  · obtain ⟨rfl, rfl⟩ := e
    rw [if_pos ⟨rfl, rfl⟩]
    exact hv z hz
  · rw [if_neg e]
    exact hT b hb j z hz
theorem xr_putr (C : xr_C G K cc own nL rm ret Qc) {index ci k a v : Nat} {z : Nat × Nat} {ty0 : FieldType} (f : xr_fp own index ci k ty0) (hf : (hp_F.getD ci []).getD k none = some z) (hz : z.1 < 99) (hn : ∀ q, narrow ty0 (.ref q) = .ref q) (hfit : ∀ q, fits ty0 (.ref q) = true) (d : decode cc pc = .ok (.putfield index, 3)) (ha : hp_sh a = (ci, 0)) (hv : hp_sh v = z) (k0 : ∀ g : hp_T, g = hp_sR h a k v → xr_j l G K nL g lv (pc + 3) st) : xr_j l G K nL h lv pc (.ref (G.2.2.1 v) :: .ref (G.2.2.1 a) :: st) := by
  obtain ⟨p, e, R, s, m, args, below, meth, c, Q, kc, ks⟩ := K
  obtain ⟨D, cA, ad, A, zt⟩ := G
  obtain ⟨hx, hb, hml, hown, hts, hK, hD, hZ, hR, hr, hlocks, hcs, hQ⟩ := C
  intro hT H locs ls hP hS hl
  obtain ⟨C, T, N, ty, ⟨hc, hcl, hN, hk, hin, hty, hnm, hde⟩, hlk, hf1, hf2⟩ := f
  have hat := hp_wl_at (cA := cA) (ad := ad) (n := hp_N) (h := h) ha (hp_sh_lt ha (show ci < 99 by omega))
  rw [hp_cell_ob hc] at hat
  have hrow : ∀ j, (hp_sR h a k v).2.2 a j = if j = k then v else h.2.2 a j := by
    intro j
    show hp_u h.2.2 a k v a j = _
    unfold hp_u
    by_cases e : j = k <;> simp [e]
  have hset : (hp_wl cA ad hp_N h).set a (ad a, .inr (ci, (hp_fs ad h a ci).set k (.ref (ad v)))) = hp_wl cA ad hp_N (hp_sR h a k v) := by
    refine hp_wl_set ha _ ?_ hp_sR_off
    rw [hp_cell_ob hc, hp_fs_set (h' := hp_sR h a k v) (.ref (ad v)) ?_ ?_]
    · unfold hp_fv
      rw [hf, hrow, if_pos rfl, hp_rv_ref (hp_ne hv hz)]
      rfl
    · intro j hj
      refine ⟨rfl, ?_⟩
      rw [hrow, if_neg hj]
  refine va_put hx hb hts hin ty hty hnm hown hK hP (hD h) hS a hat hcl k hk (hts _ hlk) (fun x hx => by rw [hde] at hx; exact hx) hf1 hf2 (hn _) (hfit _) (by rw [show (hp_fs ad h a ci).length = N by unfold hp_fs; rw [List.length_map, List.length_range]; exact hN]; exact hk) d (fun H1 locs1 hP1 hD1 hS1 => ?_)
  rw [hset] at hP1
  refine k0 _ rfl (hp_Ty_set hT (fun z' hz' => ?_)) H1 locs1 ls hP1 hS1 hl
  rw [ha] at hz'
  unfold hp_rt at hz'
  rw [if_pos hc] at hz'
  rw [show (hp_F.getD ci []).getD k none = some z from hf] at hz'
  exact hv.trans (Option.some.inj hz')
theorem xr_iald (C : xr_C G K cc own nL rm ret Qc) {a n : Nat} {i : Int32} (d : decode cc pc = .ok (.iaload, 1)) (ha : hp_sh a = (20, n)) (hi : fx_in i n) (k0 : xr_j l G K nL h lv (pc + 1) (.int (h.1 a (fx_ix i)) :: st)) : xr_j l G K nL h lv pc (.int i :: .ref (G.2.2.1 a) :: st) := by
  obtain ⟨p, e, R, s, m, args, below, meth, c, Q, kc, ks⟩ := K
  obtain ⟨D, cA, ad, A, zt⟩ := G
  obtain ⟨hx, hb, hml, hown, hts, hK, hD, hZ, hR, hr, hlocks, hcs, hQ⟩ := C
  intro hT H locs ls hP hS hl
  have hat := hp_wl_at (cA := cA) (ad := ad) (n := hp_N) (h := h) ha (hp_sh_lt ha (show 20 < 99 by decide))
  exact va_iald hx hb hK hP a 0 hat rfl (fx_vin hi) d (k0 hT H locs ls hP hS hl)
theorem xr_lald (C : xr_C G K cc own nL rm ret Qc) {a n : Nat} {i : Int32} (d : decode cc pc = .ok (.laload, 1)) (ha : hp_sh a = (21, n)) (hi : fx_in i n) (k0 : xr_j l G K nL h lv (pc + 1) (.long (h.2.1 a (fx_ix i)) :: st)) : xr_j l G K nL h lv pc (.int i :: .ref (G.2.2.1 a) :: st) := by
  obtain ⟨p, e, R, s, m, args, below, meth, c, Q, kc, ks⟩ := K
  obtain ⟨D, cA, ad, A, zt⟩ := G
  obtain ⟨hx, hb, hml, hown, hts, hK, hD, hZ, hR, hr, hlocks, hcs, hQ⟩ := C
  intro hT H locs ls hP hS hl
  have hat := hp_wl_at (cA := cA) (ad := ad) (n := hp_N) (h := h) ha (hp_sh_lt ha (show 21 < 99 by decide))
  exact va_lald hx hb hK hP a 1 hat rfl (fx_vin hi) d (k0 hT H locs ls hP hS hl)
theorem xr_zald (C : xr_C G K cc own nL rm ret Qc) {a n : Nat} {i : Int32} (d : decode cc pc = .ok (.baload, 1)) (ha : hp_sh a = (22, n)) (hi : fx_in i n) (k0 : xr_j l G K nL h lv (pc + 1) (.int (h.1 a (fx_ix i)) :: st)) : xr_j l G K nL h lv pc (.int i :: .ref (G.2.2.1 a) :: st) := by
  obtain ⟨p, e, R, s, m, args, below, meth, c, Q, kc, ks⟩ := K
  obtain ⟨D, cA, ad, A, zt⟩ := G
  obtain ⟨hx, hb, hml, hown, hts, hK, hD, hZ, hR, hr, hlocks, hcs, hQ⟩ := C
  intro hT H locs ls hP hS hl
  have hat := hp_wl_at (cA := cA) (ad := ad) (n := hp_N) (h := h) ha (hp_sh_lt ha (show 22 < 99 by decide))
  exact va_zald hx hb hK hP a 2 hat rfl (fx_vin hi) d (k0 hT H locs ls hP hS hl)
theorem xr_aald23 (C : xr_C G K cc own nL rm ret Qc) {a n : Nat} {i : Int32} (d : decode cc pc = .ok (.aaload, 1)) (ha : hp_sh a = (23, n)) (hi : fx_in i n) (k0 : hp_sh (h.2.2 a (fx_ix i)) = (1, 0) → xr_j l G K nL h lv (pc + 1) (.ref (G.2.2.1 (h.2.2 a (fx_ix i))) :: st)) : xr_j l G K nL h lv pc (.int i :: .ref (G.2.2.1 a) :: st) := by
  obtain ⟨p, e, R, s, m, args, below, meth, c, Q, kc, ks⟩ := K
  obtain ⟨D, cA, ad, A, zt⟩ := G
  obtain ⟨hx, hb, hml, hown, hts, hK, hD, hZ, hR, hr, hlocks, hcs, hQ⟩ := C
  intro hT H locs ls hP hS hl
  have hat := hp_wl_at (cA := cA) (ad := ad) (n := hp_N) (h := h) ha (hp_sh_lt ha (show 23 < 99 by decide))
  have hlt : fx_ix i < n := Nat.not_le.mp fun q => (fx_vin hi) (Or.inr q)
  have hq : hp_sh (h.2.2 a (fx_ix i)) = (1, 0) := hT a (hp_sh_lt ha (show 23 < 99 by decide)) _ _ (by rw [ha]; show (if fx_ix i < n then some (1, 0) else none) = _; rw [if_pos hlt])
  refine va_aldq hx hb hK hP a 3 hat rfl (fx_vin hi) d ?_
  rw [hp_rf_ro]
  have h9 := k0 hq hT H locs ls hP hS hl
  rw [← hp_rv_ref (ad := ad) (hp_ne hq (by decide))] at h9
  exact h9
theorem xr_aald24 (C : xr_C G K cc own nL rm ret Qc) {a n : Nat} {i : Int32} (d : decode cc pc = .ok (.aaload, 1)) (ha : hp_sh a = (24, n)) (hi : fx_in i n) (k0 : hp_sh (h.2.2 a (fx_ix i)) = (0, 0) → xr_j l G K nL h lv (pc + 1) (.ref (G.2.2.1 (h.2.2 a (fx_ix i))) :: st)) : xr_j l G K nL h lv pc (.int i :: .ref (G.2.2.1 a) :: st) := by
  obtain ⟨p, e, R, s, m, args, below, meth, c, Q, kc, ks⟩ := K
  obtain ⟨D, cA, ad, A, zt⟩ := G
  obtain ⟨hx, hb, hml, hown, hts, hK, hD, hZ, hR, hr, hlocks, hcs, hQ⟩ := C
  intro hT H locs ls hP hS hl
  have hat := hp_wl_at (cA := cA) (ad := ad) (n := hp_N) (h := h) ha (hp_sh_lt ha (show 24 < 99 by decide))
  have hlt : fx_ix i < n := Nat.not_le.mp fun q => (fx_vin hi) (Or.inr q)
  have hq : hp_sh (h.2.2 a (fx_ix i)) = (0, 0) := hT a (hp_sh_lt ha (show 24 < 99 by decide)) _ _ (by rw [ha]; show (if fx_ix i < n then some (0, 0) else none) = _; rw [if_pos hlt])
  refine va_aldq hx hb hK hP a 4 hat rfl (fx_vin hi) d ?_
  rw [hp_rf_ro]
  have h9 := k0 hq hT H locs ls hP hS hl
  rw [← hp_rv_ref (ad := ad) (hp_ne hq (by decide))] at h9
  exact h9
theorem xr_alen (C : xr_C G K cc own nL rm ret Qc) {a n : Nat} {v : Int32} (d : decode cc pc = .ok (.arraylength, 1)) (ha : hp_sh a = (20, n)) (hv : Int32.ofNat n = v) (k0 : xr_j l G K nL h lv (pc + 1) (.int v :: st)) : xr_j l G K nL h lv pc (.ref (G.2.2.1 a) :: st) := by
  obtain ⟨p, e, R, s, m, args, below, meth, c, Q, kc, ks⟩ := K
  obtain ⟨D, cA, ad, A, zt⟩ := G
  obtain ⟨hx, hb, hml, hown, hts, hK, hD, hZ, hR, hr, hlocks, hcs, hQ⟩ := C
  intro hT H locs ls hP hS hl
  have hat := hp_wl_at (cA := cA) (ad := ad) (n := hp_N) (h := h) ha (hp_sh_lt ha (show 20 < 99 by decide))
  exact va_alen hx hb hK hP a 0 hat rfl hv d (k0 hT H locs ls hP hS hl)
theorem xr_lalen (C : xr_C G K cc own nL rm ret Qc) {a n : Nat} {v : Int32} (d : decode cc pc = .ok (.arraylength, 1)) (ha : hp_sh a = (21, n)) (hv : Int32.ofNat n = v) (k0 : xr_j l G K nL h lv (pc + 1) (.int v :: st)) : xr_j l G K nL h lv pc (.ref (G.2.2.1 a) :: st) := by
  obtain ⟨p, e, R, s, m, args, below, meth, c, Q, kc, ks⟩ := K
  obtain ⟨D, cA, ad, A, zt⟩ := G
  obtain ⟨hx, hb, hml, hown, hts, hK, hD, hZ, hR, hr, hlocks, hcs, hQ⟩ := C
  intro hT H locs ls hP hS hl
  have hat := hp_wl_at (cA := cA) (ad := ad) (n := hp_N) (h := h) ha (hp_sh_lt ha (show 21 < 99 by decide))
  exact va_alen hx hb hK hP a 1 hat rfl hv d (k0 hT H locs ls hP hS hl)
theorem xr_iast (C : xr_C G K cc own nL rm ret Qc) {a n : Nat} {i : Int32} {v : Int32} (d : decode cc pc = .ok (.iastore, 1)) (ha : hp_sh a = (20, n)) (hi : fx_in i n) (k0 : ∀ g : hp_T, g = hp_sI h a (fx_ix i) v → xr_j l G K nL g lv (pc + 1) st) : xr_j l G K nL h lv pc (.int v :: .int i :: .ref (G.2.2.1 a) :: st) := by
  obtain ⟨p, e, R, s, m, args, below, meth, c, Q, kc, ks⟩ := K
  obtain ⟨D, cA, ad, A, zt⟩ := G
  obtain ⟨hx, hb, hml, hown, hts, hK, hD, hZ, hR, hr, hlocks, hcs, hQ⟩ := C
  intro hT H locs ls hP hS hl
  have hat := hp_wl_at (cA := cA) (ad := ad) (n := hp_N) (h := h) ha (hp_sh_lt ha (show 20 < 99 by decide))
  refine va_iast hx hb hK hP (hD h) hS a 0 hat rfl (fx_vin hi) d (fun H1 locs1 hP1 hD1 hS1 => ?_)
  rw [hp_wl_set (h' := hp_sI h a (fx_ix i) v) ha _ (by rw [show hp_cell cA ad (hp_sI h a (fx_ix i) v) a (20, n) = _ from hp_cell_20, hp_sI_row]; rfl) hp_sI_off] at hP1
  exact k0 _ rfl hT H1 locs1 ls hP1 hS1 hl
theorem xr_last (C : xr_C G K cc own nL rm ret Qc) {a n : Nat} {i : Int32} {v : Int64} (d : decode cc pc = .ok (.lastore, 1)) (ha : hp_sh a = (21, n)) (hi : fx_in i n) (k0 : ∀ g : hp_T, g = hp_sL h a (fx_ix i) v → xr_j l G K nL g lv (pc + 1) st) : xr_j l G K nL h lv pc (.long v :: .int i :: .ref (G.2.2.1 a) :: st) := by
  obtain ⟨p, e, R, s, m, args, below, meth, c, Q, kc, ks⟩ := K
  obtain ⟨D, cA, ad, A, zt⟩ := G
  obtain ⟨hx, hb, hml, hown, hts, hK, hD, hZ, hR, hr, hlocks, hcs, hQ⟩ := C
  intro hT H locs ls hP hS hl
  have hat := hp_wl_at (cA := cA) (ad := ad) (n := hp_N) (h := h) ha (hp_sh_lt ha (show 21 < 99 by decide))
  refine va_last hx hb hK hP (hD h) hS a 1 hat rfl (fx_vin hi) d (fun H1 locs1 hP1 hD1 hS1 => ?_)
  rw [hp_wl_set (h' := hp_sL h a (fx_ix i) v) ha _ (by rw [show hp_cell cA ad (hp_sL h a (fx_ix i) v) a (21, n) = _ from hp_cell_21, hp_sL_row]; rfl) hp_sL_off] at hP1
  exact k0 _ rfl hT H1 locs1 ls hP1 hS1 hl
theorem xr_zast (C : xr_C G K cc own nL rm ret Qc) {a n : Nat} {i : Int32} {v : Int32} (d : decode cc pc = .ok (.bastore, 1)) (ha : hp_sh a = (22, n)) (hi : fx_in i n) (hz : vp_nar .boolean v = v) (k0 : ∀ g : hp_T, g = hp_sI h a (fx_ix i) v → xr_j l G K nL g lv (pc + 1) st) : xr_j l G K nL h lv pc (.int v :: .int i :: .ref (G.2.2.1 a) :: st) := by
  obtain ⟨p, e, R, s, m, args, below, meth, c, Q, kc, ks⟩ := K
  obtain ⟨D, cA, ad, A, zt⟩ := G
  obtain ⟨hx, hb, hml, hown, hts, hK, hD, hZ, hR, hr, hlocks, hcs, hQ⟩ := C
  intro hT H locs ls hP hS hl
  have hat := hp_wl_at (cA := cA) (ad := ad) (n := hp_N) (h := h) ha (hp_sh_lt ha (show 22 < 99 by decide))
  refine va_zast hx hb hK hP (hD h) hS a 2 hat rfl (fx_vin hi) d (fun H1 locs1 hP1 hD1 hS1 => ?_)
  rw [hz] at hP1
  rw [hp_wl_set (h' := hp_sI h a (fx_ix i) v) ha _ (by rw [show hp_cell cA ad (hp_sI h a (fx_ix i) v) a (22, n) = _ from hp_cell_22, hp_sI_row]; rfl) hp_sI_off] at hP1
  exact k0 _ rfl hT H1 locs1 ls hP1 hS1 hl
theorem xr_gets (C : xr_C G K cc own nL rm ret Qc) {index : Nat} (i : Nat) (hi : i < 5) (f : Cond.fieldLink own index "CourtSix" (hp_Zn.getD i "") "[I" ∈ hp_GL) (d : decode cc pc = .ok (.getstatic index, 3)) (k0 : xr_j l G K nL h lv (pc + 3) (.ref (G.2.2.2.2 i) :: st)) : xr_j l G K nL h lv pc st := by
  obtain ⟨p, e, R, s, m, args, below, meth, c, Q, kc, ks⟩ := K
  obtain ⟨D, cA, ad, A, zt⟩ := G
  obtain ⟨hx, hb, hml, hown, hts, hK, hD, hZ, hR, hr, hlocks, hcs, hQ⟩ := C
  intro hT H locs ls hP hS hl
  exact va_gets hx hb (hZ.1 i hi).1 hS hown (hts _ f) (fun x hx => hx) d (k0 hT H locs ls hP hS hl)
theorem xr_getsN (C : xr_C G K cc own nL rm ret Qc) {index : Nat} (i : Nat) (hi : i < 5) (f : (own, index, hp_Zn.getD i "") ∈ hp_nf) (d : decode cc pc = .ok (.getstatic index, 3)) (k0 : xr_j l G K nL h lv (pc + 3) (.ref (G.2.2.2.2 i) :: st)) : xr_j l G K nL h lv pc st := by
  obtain ⟨p, e, R, s, m, args, below, meth, c, Q, kc, ks⟩ := K
  obtain ⟨D, cA, ad, A, zt⟩ := G
  obtain ⟨hx, hb, hml, hown, hts, hK, hD, hZ, hR, hr, hlocks, hcs, hQ⟩ := C
  intro hT H locs ls hP hS hl
  exact va_getsN hx hb (hZ.1 i hi).1 hS hown (va_Nw.use rfl (hZ.2.2.2.2.1 _ f)) (fun x hx => hx) d (k0 hT H locs ls hP hS hl)
theorem xr_tald (C : xr_C G K cc own nL rm ret Qc) {x : Int32} (i : Nat) (hi : i < 5) (d : decode cc pc = .ok (.iaload, 1)) (hin : fx_in x (hp_zl i)) (k0 : xr_j l G K nL h lv (pc + 1) (.int (hp_zt i (fx_ix x)) :: st)) : xr_j l G K nL h lv pc (.int x :: .ref (G.2.2.2.2 i) :: st) := by
  obtain ⟨p, e, R, s, m, args, below, meth, c, Q, kc, ks⟩ := K
  obtain ⟨D, cA, ad, A, zt⟩ := G
  obtain ⟨hx, hb, hml, hown, hts, hK, hD, hZ, hR, hr, hlocks, hcs, hQ⟩ := C
  intro hT H locs ls hP hS hl
  exact va_ti hx hb (hZ.1 i hi).2 hS (fx_vin hin) rfl d (k0 hT H locs ls hP hS hl)
theorem xr_tlen (C : xr_C G K cc own nL rm ret Qc) {v : Int32} (i : Nat) (hi : i < 5) (d : decode cc pc = .ok (.arraylength, 1)) (hv : Int32.ofNat (hp_zl i) = v) (k0 : xr_j l G K nL h lv (pc + 1) (.int v :: st)) : xr_j l G K nL h lv pc (.ref (G.2.2.2.2 i) :: st) := by
  obtain ⟨p, e, R, s, m, args, below, meth, c, Q, kc, ks⟩ := K
  obtain ⟨D, cA, ad, A, zt⟩ := G
  obtain ⟨hx, hb, hml, hown, hts, hK, hD, hZ, hR, hr, hlocks, hcs, hQ⟩ := C
  intro hT H locs ls hP hS hl
  exact va_tlen hx hb (hZ.1 i hi).2 hS hv d (k0 hT H locs ls hP hS hl)
theorem xr_mmax (C : xr_C G K cc own nL rm ret Qc) {index : Nat} {x y : Int32} (f : Cond.methodLink own index Lib.Math.max.name ∈ hp_GL ∧ Cond.static Lib.Math.max.name ∈ hp_GL ∧ Cond.initialized "java/lang/Math" ∈ hp_GL ∧ Cond.code Lib.Math.max.name Lib.Math.max.code 2 (some .int) ∈ hp_GL) (hfr : 1 ≤ rm.frames) (hlo : (st.map fun v => v.category).sum + 13 ≤ rm.locals) (d : decode cc pc = .ok (.invokestatic index, 3)) (k0 : xr_j l G K nL h lv (pc + 3) (.int (fx_max x y) :: st)) : xr_j l G K nL h lv pc (.int y :: .int x :: st) := by
  obtain ⟨p, e, R, s, m, args, below, meth, c, Q, kc, ks⟩ := K
  obtain ⟨D, cA, ad, A, zt⟩ := G
  obtain ⟨hx, hb, hml, hown, hts, hK, hD, hZ, hR, hr, hlocks, hcs, hQ⟩ := C
  intro hT H locs ls hP hS hl
  dsimp only at hR hcs
  subst hR
  exact va_mmax hx hb (hml.trans hl.1.symm) hown (hts _ f.1) (hts _ f.2.1) (hts _ f.2.2.1) (hts _ f.2.2.2) hfr hlo hcs.1 hcs.2 d (k0 hT H locs ls hP hS hl)
theorem xr_mmin (C : xr_C G K cc own nL rm ret Qc) {index : Nat} {x y : Int32} (f : Cond.methodLink own index Lib.Math.min.name ∈ hp_GL ∧ Cond.static Lib.Math.min.name ∈ hp_GL ∧ Cond.initialized "java/lang/Math" ∈ hp_GL ∧ Cond.code Lib.Math.min.name Lib.Math.min.code 2 (some .int) ∈ hp_GL) (hfr : 1 ≤ rm.frames) (hlo : (st.map fun v => v.category).sum + 13 ≤ rm.locals) (d : decode cc pc = .ok (.invokestatic index, 3)) (k0 : xr_j l G K nL h lv (pc + 3) (.int (fx_min x y) :: st)) : xr_j l G K nL h lv pc (.int y :: .int x :: st) := by
  obtain ⟨p, e, R, s, m, args, below, meth, c, Q, kc, ks⟩ := K
  obtain ⟨D, cA, ad, A, zt⟩ := G
  obtain ⟨hx, hb, hml, hown, hts, hK, hD, hZ, hR, hr, hlocks, hcs, hQ⟩ := C
  intro hT H locs ls hP hS hl
  dsimp only at hR hcs
  subst hR
  exact va_mmin hx hb (hml.trans hl.1.symm) hown (hts _ f.1) (hts _ f.2.1) (hts _ f.2.2.1) (hts _ f.2.2.2) hfr hlo hcs.1 hcs.2 d (k0 hT H locs ls hP hS hl)
theorem xr_copy (C : xr_C G K cc own nL rm ret Qc) {index a b n : Nat} {v : Int32} (f : Cond.methodLink own index arraycopyName ∈ hp_GL ∧ Cond.native arraycopyName ∈ hp_GL ∧ Cond.static arraycopyName ∈ hp_GL ∧ Cond.initialized "java/lang/System" ∈ hp_GL) (hv : v = nI n) (hn : n < 2 ^ 31) (ha : hp_sh a = (20, n)) (hb0 : hp_sh b = (20, n)) (hfr : 1 ≤ rm.frames) (hlo : (st.map fun v => v.category).sum + (nativeFrameWords "java/lang/System" "arraycopy" 5 + 11) ≤ rm.locals) (d : decode cc pc = .ok (.invokestatic index, 3)) (k0 : ∀ g : hp_T, g = hp_wI h b (h.1 a) → xr_j l G K nL g lv (pc + 3) st) : xr_j l G K nL h lv pc (.int v :: .int 0 :: .ref (G.2.2.1 b) :: .int 0 :: .ref (G.2.2.1 a) :: st) := by
  obtain ⟨p, e, R, s, m, args, below, meth, c, Q, kc, ks⟩ := K
  obtain ⟨D, cA, ad, A, zt⟩ := G
  obtain ⟨hx, hb, hml, hown, hts, hK, hD, hZ, hR, hr, hlocks, hcs, hQ⟩ := C
  intro hT H locs ls hP hS hl
  dsimp only at hR
  subst hR
  subst hv
  have hata := hp_wl_at (cA := cA) (ad := ad) (n := hp_N) (h := h) ha (hp_sh_lt ha (show 20 < 99 by decide))
  have hatb := hp_wl_at (cA := cA) (ad := ad) (n := hp_N) (h := h) hb0 (hp_sh_lt hb0 (show 20 < 99 by decide))
  refine va_copyi hx hb (hml.trans hl.1.symm) hown (hts _ f.1) (hts _ f.2.1) (hts _ f.2.2.1) (hts _ f.2.2.2) hK hP (hD h) hS a b 0 0 hata hatb rfl rfl rfl (by decide) (by decide) (nI_pos hn) (by rw [nI_clamp hn]; simp) (by rw [nI_clamp hn]; simp) (fun i _ => rfl) hfr hlo d (fun H1 locs1 hP1 hD1 hS1 => ?_)
  refine k0 _ rfl hT H1 locs1 ls ?_ hS1 hl
  intro q e he
  have hq : q < hp_N := by
    have := (List.getElem?_eq_some_iff.mp he).1
    simpa [hp_wl] using this
  by_cases hqb : q = b
  · subst hqb
    have h9 := hP1 q _ (by rw [List.getElem?_set_self (by simpa [hp_wl] using hq)])
    rw [hp_wl_at hb0 hq] at he
    cases he
    show H1[ad q]? = some (vp_cell _ _)
    rw [show H1[ad q]? = some (vp_cell _ _) from h9, nI_clamp hn]
    congr 1
    refine hp_arr_eq (fun j hj => ?_)
    show Value.int _ = Value.int _
    rw [hp_wI_row]
    show Value.int (va_cpy _ _ 0 0 n j) = _
    rw [pk_cpy_in (Nat.zero_le _) (by omega)]
    simp
  · refine hP1 q e ?_
    rw [List.getElem?_set_ne (fun z => hqb z.symm)]
    rw [hp_wl_at rfl hq] at he
    rw [hp_wl_at rfl hq, ← he, hp_cell_eq _ (hp_wI_off q hqb).1 (hp_wI_off q hqb).2.1 (hp_wI_off q hqb).2.2]
theorem xr_copyW {p : Program} {l : Launch} {e : Env} {R : Room} {s : State} {m : MethodId} {args : Array Value} {below : List Frame} {meth : Method} {c : Code} {H : Heap} {locs : List Loc} {cells slots : Nat} {Q : State → Prop} {cc : ByteArray} {pc : Nat} {ls : Array Slot} {rest : List Value} {D : va_G} {cl : List vw_C} {A : Nat → Prop} {a : Nat} {tys : List (ClassId × FieldType)} {ws : va_W} (hexec : p.tables.exec = Jvm.exec) (hb : c.code = cc) (hml : c.maxLocals = ls.size) {own : String} {index : Nat} (hown : s.vm.findClass own = some m.cls) (hlink : (Cond.methodLink own index arraycopyName).before args s = true) (hnat : (Cond.native arraycopyName).before args s = true) (hstat : (Cond.static arraycopyName).before args s = true) (hini : (Cond.initialized "java/lang/System").before args s = true)
    (hK : va_K D cl tys s) (hP : va_P D cl ws H) (hD : va_D A ws) (hS : va_S A s.heap H locs) {b0 n0 : Nat} {f : Nat → Int32} (hX : va_T .int b0 n0 (fun j => .int (f j)) A s s.heap) (q1 t1 : Nat) {c1 : ClassId} {n1 : Nat} {g : Nat → Int32} (ha1 : ws[q1]? = some (a, .inl (c1, n1, .inl g))) (ht1 : tys[t1]? = some (c1, .int))
    {sp dp n : Int32} (h1 : ¬ sp < 0) (h2 : ¬ dp < 0) (h3 : ¬ n < 0) (h4 : sp.toNatClampNeg + n.toNatClampNeg ≤ n0) (h5 : dp.toNatClampNeg + n.toNatClampNeg ≤ n1)
    (hframes : 1 ≤ R.frames) (hlocals : (rest.map fun v => v.category).sum + (nativeFrameWords "java/lang/System" "arraycopy" 5 + 11) ≤ R.locals) (hdg : decode cc pc = .ok (.invokestatic index, 3))
    (kk : ∀ (H1 : Heap) (locs1 : List Loc), va_P D cl (ws.set q1 (a, .inl (c1, n1, .inl (va_cpy f g sp.toNatClampNeg dp.toNatClampNeg n.toNatClampNeg)))) H1 → va_D A (ws.set q1 (a, .inl (c1, n1, .inl (va_cpy f g sp.toNatClampNeg dp.toNatClampNeg n.toNatClampNeg)))) → va_S A s.heap H1 locs1 → W p l e R s m args below meth c H1 locs1 cells slots Q (F0 m (pc + 3) ls rest)) : W p l e R s m args below meth c H locs cells slots Q (F0 m pc ls (.int n :: .int dp :: .ref a :: .int sp :: .ref b0 :: rest)) := by
  have nn : ∀ z : Int32, ¬ z < 0 → z.toInt = (z.toNatClampNeg : Int) := by
    intro z hz
    have hz0 : (0 : Int) ≤ z.toInt := by
      have := Int32.not_lt.mp hz
      simpa using Int32.le_iff_toInt_le.mp this
    show z.toInt = ((z.toInt.toNat : Nat) : Int)
    omega
  intro T hT X
  obtain ⟨scr, hs1, hs2, hs3, hs4, -, hs5, hs7⟩ := hX
  have hc0 : H[b0]? = some scr := by rw [hS.2.1 b0 (Array.getElem?_eq_some_iff.mp hs1).1 hs7]; exact hs1
  have hc1 : H[a]? = some (vp_cell c1 (n1, .inl g)) := hP q1 _ ha1
  obtain ⟨hs6, k0, hk0, cm0, hkk0⟩ := hs2
  obtain ⟨-, k1, hk1, cm1, hkk1⟩ := (hK.2 t1 _ ht1).1 n1 (fun j => .int (g j))
  obtain ⟨vm', X', step⟩ := X.arraycopy hexec hown hlink hnat hstat hini (src := b0) (dst := a) (cs := scr) (cd := vp_cell c1 (n1, .inl g)) (srcPos := sp) (destPos := dp) (n := n) (by rw [hT]; exact hc0) (by rw [hT]; exact hc1)
    hs6 (fun _ h => by cases h) hs3 (fun h => by cases h) hk0 hk1 hkk0 hkk1 (by simp [refKind]) h1 h2 h3
    (by rw [nn sp h1, nn n h3]; omega)
    (by rw [nn dp h2, nn n h3]; show ¬ _ > ((arrV c1 n1 (fun j => .int (g j))).slots.size : Int); rw [arrV_size]; omega)
    (fun vm₁ _ i hi => by
      have e : scr.slots.getD (sp.toNatClampNeg + i) .null = .int (f (sp.toNatClampNeg + i)) := by
        rw [Array.getD_eq_getD_getElem?, hs5 _ (by omega)]
        rfl
      refine ⟨?_, ?_⟩
      · rw [e]
        rfl
      · rw [e]
        exact trivial)
    (g := F0 m pc ls (.int n :: .int dp :: .ref a :: .int sp :: .ref b0 :: rest)) rfl (by rw [hml]) (rest := rest) rfl (by rw [hb]; exact hdg) hframes (by show 2 * 0 + _ + _ ≤ _; omega)
  have e1 : copied scr (vp_cell c1 (n1, .inl g)) sp dp n = vp_cell c1 (n1, .inl (va_cpy f g sp.toNatClampNeg dp.toNatClampNeg n.toNatClampNeg)) := va_copiedX (fun z => .int z) scr c1 f g hs5 h4
  rw [e1] at X' step
  have hl : a < H.size := (Array.getElem?_eq_some_iff.mp hc1).1
  have hheap : ((T.setVm vm').setCell a (vp_cell c1 (n1, .inl (va_cpy f g sp.toNatClampNeg dp.toNatClampNeg n.toNatClampNeg)))).heap = H.setIfInBounds a (vp_cell c1 (n1, .inl (va_cpy f g sp.toNatClampNeg dp.toNatClampNeg n.toNatClampNeg))) := by rw [← hT]; rfl
  have oq : ∀ q : Nat, q ≠ a → (H.setIfInBounds a (vp_cell c1 (n1, .inl (va_cpy f g sp.toNatClampNeg dp.toNatClampNeg n.toNatClampNeg))))[q]? = H[q]? := fun q hq => by simp [Array.getElem?_setIfInBounds, Ne.symm hq]
  obtain ⟨t, a1, b1⟩ := kk _ _ (hP.set hD ha1 (show (H.setIfInBounds a _)[a]? = some _ by simp [Array.getElem?_setIfInBounds, hl]) oq) (hD.set ha1) ⟨by simp; exact hS.1, fun q g1 g2 => by
      rw [oq q (fun e => g2 (by rw [e]; exact hD.2 q1 _ ha1))]
      exact hS.2.1 q g1 g2, fun q hq => by
      rcases List.mem_append.mp hq with h | h
      · exact hS.2.2 q h
      · obtain ⟨z, -, hz⟩ := List.mem_map.mp h
        rw [← hz]
        exact hD.2 q1 _ ha1⟩ _ hheap X'
  exact ⟨t, step t a1, b1⟩
theorem xr_copyT (C : xr_C G K cc own nL rm ret Qc) {index b n : Nat} {v : Int32} (f : Cond.methodLink own index arraycopyName ∈ hp_GL ∧ Cond.native arraycopyName ∈ hp_GL ∧ Cond.static arraycopyName ∈ hp_GL ∧ Cond.initialized "java/lang/System" ∈ hp_GL) (i : Nat) (hi : i < 5) (hv : v = nI n) (hn : n < 2 ^ 31) (hz : hp_zl i = n) (hb0 : hp_sh b = (20, n)) (hfr : 1 ≤ rm.frames) (hlo : (st.map fun v => v.category).sum + (nativeFrameWords "java/lang/System" "arraycopy" 5 + 11) ≤ rm.locals) (d : decode cc pc = .ok (.invokestatic index, 3)) (k0 : ∀ g : hp_T, g = hp_wI h b (hp_zt i) → xr_j l G K nL g lv (pc + 3) st) : xr_j l G K nL h lv pc (.int v :: .int 0 :: .ref (G.2.2.1 b) :: .int 0 :: .ref (G.2.2.2.2 i) :: st) := by
  obtain ⟨p, e, R, s, m, args, below, meth, c, Q, kc, ks⟩ := K
  obtain ⟨D, cA, ad, A, zt⟩ := G
  obtain ⟨hx, hb, hml, hown, hts, hK, hD, hZ, hR, hr, hlocks, hcs, hQ⟩ := C
  intro hT H locs ls hP hS hl
  dsimp only at hR
  subst hR
  subst hv
  have hatb := hp_wl_at (cA := cA) (ad := ad) (n := hp_N) (h := h) hb0 (hp_sh_lt hb0 (show 20 < 99 by decide))
  refine xr_copyW hx hb (hml.trans hl.1.symm) hown (hts _ f.1) (hts _ f.2.1) (hts _ f.2.2.1) (hts _ f.2.2.2) hK hP (hD h) hS (hZ.1 i hi).2 b 0 hatb rfl (by decide) (by decide) (nI_pos hn) (by rw [nI_clamp hn, hz]; simp) (by rw [nI_clamp hn]; simp) hfr hlo d (fun H1 locs1 hP1 hD1 hS1 => ?_)
  refine k0 _ rfl hT H1 locs1 ls ?_ hS1 hl
  intro q e he
  have hq : q < hp_N := by
    have := (List.getElem?_eq_some_iff.mp he).1
    simpa [hp_wl] using this
  by_cases hqb : q = b
  · subst hqb
    have h9 := hP1 q _ (by rw [List.getElem?_set_self (by simpa [hp_wl] using hq)])
    rw [hp_wl_at hb0 hq] at he
    cases he
    show H1[ad q]? = some (vp_cell _ _)
    rw [show H1[ad q]? = some (vp_cell _ _) from h9, nI_clamp hn]
    congr 1
    refine hp_arr_eq (fun j hj => ?_)
    show Value.int _ = Value.int _
    rw [hp_wI_row]
    show Value.int (va_cpy _ _ 0 0 n j) = _
    rw [pk_cpy_in (Nat.zero_le _) (by omega)]
    simp
  · refine hP1 q e ?_
    rw [List.getElem?_set_ne (fun z => hqb z.symm)]
    rw [hp_wl_at rfl hq] at he
    rw [hp_wl_at rfl hq, ← he, hp_cell_eq _ (hp_wI_off q hqb).1 (hp_wI_off q hqb).2.1 (hp_wI_off q hqb).2.2]
theorem xr_ldcS0 (C : xr_C G K cc own nL rm ret Qc) (hw : own = "CourtSixModel") (d : decode cc pc = .ok (.ldc 101, 2)) (k : xr_j l G K nL h lv (pc + 2) (.ref (G.2.2.2.2 10) :: st)) : xr_j l G K nL h lv pc st := by
  obtain ⟨p, e, R, s, m, args, below, meth, c, Q, kc, ks⟩ := K
  obtain ⟨D, cA, ad, A, zt⟩ := G
  obtain ⟨hx, hb, hml, hown, hts, hK, hD, hZ, hR, hr, hlocks, hcs, hQ⟩ := C
  intro hT H locs ls hP hS hl
  subst hw
  exact va_ldcS hx hb hown hZ.2.1.1 d (k hT H locs ls hP hS hl)
theorem xr_ldcS1 (C : xr_C G K cc own nL rm ret Qc) (hw : own = "CourtSixModel") (d : decode cc pc = .ok (.ldc 245, 2)) (k : xr_j l G K nL h lv (pc + 2) (.ref (G.2.2.2.2 11) :: st)) : xr_j l G K nL h lv pc st := by
  obtain ⟨p, e, R, s, m, args, below, meth, c, Q, kc, ks⟩ := K
  obtain ⟨D, cA, ad, A, zt⟩ := G
  obtain ⟨hx, hb, hml, hown, hts, hK, hD, hZ, hR, hr, hlocks, hcs, hQ⟩ := C
  intro hT H locs ls hP hS hl
  subst hw
  exact va_ldcS hx hb hown hZ.2.1.2 d (k hT H locs ls hP hS hl)
/-- what a method gives back: the answer, and the world -/
def xr_Qi (G : xr_G) (r : Int32) (h : hp_T) : xr_Q := va_Qi (fun (x : Int32) (_ : Unit) => x = r) (fun _ t => hp_W G h t) G.2.2.2.1
def xr_Ql (G : xr_G) (r : Int64) (h : hp_T) : xr_Q := va_Ql (fun (x : Int64) (_ : Unit) => x = r) (fun _ t => hp_W G h t) G.2.2.2.1
def xr_Qv (G : xr_G) (h : hp_T) : xr_Q := va_Qv (fun (_ : Unit) => True) (fun _ t => hp_W G h t) G.2.2.2.1
def xr_Qr (G : xr_G) (r : Nat) (z : Nat × Nat) (h : hp_T) : xr_Q := va_Qr (fun (_ : Unit) => hp_sh r = z) (fun _ a t => a = G.2.2.1 r ∧ hp_W G h t) G.2.2.2.1
theorem xr_iret {r : Int32} (C : xr_C G K cc own nL rm (some .int) (some (xr_Qi G r h))) (d : decode cc pc = .ok (.ireturn, 1)) : xr_j l G K nL h lv pc [.int r] := by
  obtain ⟨p, e, R, s, m, args, below, meth, c, Q, kc, ks⟩ := K
  obtain ⟨D, cA, ad, A, zt⟩ := G
  obtain ⟨hx, hb, hml, hown, hts, hK, hD, hZ, hR, hr, hlocks, hcs, hQ⟩ := C
  intro hT H locs ls hP hS hl
  have hW9 : ∀ t : State, t.heap = H → s.WarmedH t.vm → hp_W (D, cA, ad, A, zt) h t := fun t ht hW => ⟨by rw [ht]; exact hP, va_K.moved hW.alike hK, hD h, hp_Z.moved hW (by rw [ht]; exact hp_Z.kept hZ (fun q h1 h2 => hS.2.1 q h1 h2)), hT⟩
  obtain ⟨hQ, hq1, hq2⟩ := hQ _ rfl
  dsimp only at hQ hr hlocks hZ hK hD hP hS hq1 hq2 ⊢
  subst hQ
  subst hq1
  subst hq2
  exact W.iret hx hb hr (fun t ht hW => ⟨⟨r, (), rfl, rfl, hW9 t ht hW⟩, hS.F ht⟩) hS.2.2 d
theorem xr_zret {r : Int32} (C : xr_C G K cc own nL rm (some .boolean) (some (xr_Qi G r h))) (hn : narrow .boolean (.int r) = .int r) (d : decode cc pc = .ok (.ireturn, 1)) : xr_j l G K nL h lv pc [.int r] := by
  obtain ⟨p, e, R, s, m, args, below, meth, c, Q, kc, ks⟩ := K
  obtain ⟨D, cA, ad, A, zt⟩ := G
  obtain ⟨hx, hb, hml, hown, hts, hK, hD, hZ, hR, hr, hlocks, hcs, hQ⟩ := C
  intro hT H locs ls hP hS hl
  have hW9 : ∀ t : State, t.heap = H → s.WarmedH t.vm → hp_W (D, cA, ad, A, zt) h t := fun t ht hW => ⟨by rw [ht]; exact hP, va_K.moved hW.alike hK, hD h, hp_Z.moved hW (by rw [ht]; exact hp_Z.kept hZ (fun q h1 h2 => hS.2.1 q h1 h2)), hT⟩
  obtain ⟨hQ, hq1, hq2⟩ := hQ _ rfl
  dsimp only at hQ hr hlocks hZ hK hD hP hS hq1 hq2 ⊢
  subst hQ
  subst hq1
  subst hq2
  exact W.zret hx hb hr hn (fun t ht hW => ⟨⟨r, (), rfl, rfl, hW9 t ht hW⟩, hS.F ht⟩) hS.2.2 d
theorem xr_lret {r : Int64} (C : xr_C G K cc own nL rm (some .long) (some (xr_Ql G r h))) (d : decode cc pc = .ok (.lreturn, 1)) : xr_j l G K nL h lv pc [.long r] := by
  obtain ⟨p, e, R, s, m, args, below, meth, c, Q, kc, ks⟩ := K
  obtain ⟨D, cA, ad, A, zt⟩ := G
  obtain ⟨hx, hb, hml, hown, hts, hK, hD, hZ, hR, hr, hlocks, hcs, hQ⟩ := C
  intro hT H locs ls hP hS hl
  have hW9 : ∀ t : State, t.heap = H → s.WarmedH t.vm → hp_W (D, cA, ad, A, zt) h t := fun t ht hW => ⟨by rw [ht]; exact hP, va_K.moved hW.alike hK, hD h, hp_Z.moved hW (by rw [ht]; exact hp_Z.kept hZ (fun q h1 h2 => hS.2.1 q h1 h2)), hT⟩
  obtain ⟨hQ, hq1, hq2⟩ := hQ _ rfl
  dsimp only at hQ hr hlocks hZ hK hD hP hS hq1 hq2 ⊢
  subst hQ
  subst hq1
  subst hq2
  exact W.lret hx hb hr (fun t ht hW => ⟨⟨r, (), rfl, rfl, hW9 t ht hW⟩, hS.F ht⟩) hS.2.2 d
theorem xr_vret (C : xr_C G K cc own nL rm none (some (xr_Qv G h))) (d : decode cc pc = .ok (.return_, 1)) : xr_j l G K nL h lv pc [] := by
  obtain ⟨p, e, R, s, m, args, below, meth, c, Q, kc, ks⟩ := K
  obtain ⟨D, cA, ad, A, zt⟩ := G
  obtain ⟨hx, hb, hml, hown, hts, hK, hD, hZ, hR, hr, hlocks, hcs, hQ⟩ := C
  intro hT H locs ls hP hS hl
  have hW9 : ∀ t : State, t.heap = H → s.WarmedH t.vm → hp_W (D, cA, ad, A, zt) h t := fun t ht hW => ⟨by rw [ht]; exact hP, va_K.moved hW.alike hK, hD h, hp_Z.moved hW (by rw [ht]; exact hp_Z.kept hZ (fun q h1 h2 => hS.2.1 q h1 h2)), hT⟩
  obtain ⟨hQ, hq1, hq2⟩ := hQ _ rfl
  dsimp only at hQ hr hlocks hZ hK hD hP hS hq1 hq2 ⊢
  subst hQ
  subst hq1
  subst hq2
  exact W.vret hx hb hr (fun t ht hW => ⟨⟨(), rfl, trivial, hW9 t ht hW⟩, hS.F ht⟩) hS.2.2 d
theorem xr_aret {r : Nat} {z : Nat × Nat} {rt : FieldType} (C : xr_C G K cc own nL rm (some rt) (some (xr_Qr G r z h))) (hz : hp_sh r = z) (hrt : (∃ n, rt = .object n) ∨ ∃ t, rt = .array t) (d : decode cc pc = .ok (.areturn, 1)) : xr_j l G K nL h lv pc [.ref (G.2.2.1 r)] := by
  obtain ⟨p, e, R, s, m, args, below, meth, c, Q, kc, ks⟩ := K
  obtain ⟨D, cA, ad, A, zt⟩ := G
  obtain ⟨hx, hb, hml, hown, hts, hK, hD, hZ, hR, hr, hlocks, hcs, hQ⟩ := C
  intro hT H locs ls hP hS hl
  have hW9 : ∀ t : State, t.heap = H → s.WarmedH t.vm → hp_W (D, cA, ad, A, zt) h t := fun t ht hW => ⟨by rw [ht]; exact hP, va_K.moved hW.alike hK, hD h, hp_Z.moved hW (by rw [ht]; exact hp_Z.kept hZ (fun q h1 h2 => hS.2.1 q h1 h2)), hT⟩
  obtain ⟨hQ, hq1, hq2⟩ := hQ _ rfl
  dsimp only at hQ hr hlocks hZ hK hD hP hS hq1 hq2 ⊢
  subst hQ
  subst hq1
  subst hq2
  exact W.aret hx hb hr hrt (Or.inr ⟨_, rfl⟩) (fun t ht hW => ⟨⟨(), ad r, rfl, hz, rfl, hW9 t ht hW⟩, hS.F ht⟩) hS.2.2 d
theorem hp_goodG {c1 : Cond} (h : c1 ∈ hp_GL) : GoodIn hp_GL (c1 :: hp_GL) := fun w hw => by
  rcases List.mem_cons.mp hw with rfl | hw
  · exact ⟨h, hp_good (List.mem_filter.mp h).2⟩
  · exact ⟨hw, hp_good (List.mem_filter.mp hw).2⟩
/-- a method's contract -/
def xr_M (l : Launch) (G : xr_G) (y : MethodName) (cc : ByteArray) (nL : Nat) (rm : Room) (ret : Option FieldType) (av : List Value) (h : hp_T) (Qc : xr_Q) : Prop :=
  Met l y (Cond.code y cc nL ret :: hp_GL) rm (va_Pc av (fun U => hp_W G h U)) Qc 0 0 G.2.2.2.1
theorem xr_start {Qc : xr_Q} {y : MethodName} {av : List Value} (hy : plainName y.cls = true) (hlen : (lg_sl av).length ≤ nL) (k : ∀ K : xr_K, xr_C G K cc y.cls nL rm ret (some Qc) → xr_j l G K nL h (lv_args 0 av) 0 []) : xr_M l G y cc nL rm ret av h Qc := by
  refine Met.ofW (cc := cc) (maxL := nL) (ret := ret) hy rfl ?_
  intro p e s m args below meth c s₁ B hml hv
  obtain ⟨rfl, hP, hK, hD, hZ, hT⟩ := hv
  have hts := atoms_spec (ws := Cond.code y cc nL ret :: hp_GL) B.pre
  have hown : s.vm.findClass y.cls = some m.cls := findClass_of_methodNamed B.named
  have hl := lv_entry av hlen
  rw [lg_entry_eq]
  exact k (p, e, rm, s, m, av.toArray, below, meth, c, MQ below Qc av.toArray s 0 0 G.2.2.2.1, 0, 0) ⟨B.exec, B.bytes, hml, hown, fun w hw => hts w (List.mem_cons_of_mem _ hw), hK, fun h' => hp_D_any hD, hZ, rfl, B.returns, B.notSynchronized, ⟨Nat.zero_le _, Nat.zero_le _⟩, fun Q0 e => by cases e; exact ⟨rfl, rfl, rfl⟩⟩ hT s.heap [] _ hP va_S.rf hl
def xr_m0 (y : MethodName) (cc' : ByteArray) (nL' n : Nat) (ret' : Option FieldType) : Prop := Cond.initialized y.cls ∈ hp_GL ∧ Cond.code y cc' nL' ret' ∈ hp_GL ∧ y.cls ≠ "java/lang/invoke/MethodHandle" ∧ y.cls ≠ "java/lang/invoke/VarHandle" ∧ (parseMethodDescriptor y.desc).map (fun d => d.parameters.length) = some n
def xr_mv (own : String) (index : Nat) (y : MethodName) (cc' : ByteArray) (nL' n : Nat) (ret' : Option FieldType) : Prop := xr_m0 y cc' nL' n ret' ∧ Cond.methodLink own index y ∈ hp_GL ∧ Cond.instanceMethod y ∈ hp_GL ∧ Cond.selects y.cls y y ∈ hp_GL
def xr_ms (own : String) (index : Nat) (y : MethodName) (cc' : ByteArray) (nL' n : Nat) (ret' : Option FieldType) : Prop := xr_m0 y cc' nL' n ret' ∧ Cond.methodLink own index y ∈ hp_GL ∧ Cond.static y ∈ hp_GL
def xr_mn (own : String) (index : Nat) (y : MethodName) (cc' : ByteArray) (nL' n : Nat) (ret' : Option FieldType) : Prop := xr_m0 y cc' nL' n ret' ∧ (own, index, y) ∈ hp_nm ∧ Cond.static y ∈ hp_GL
def xr_rm (rm rm' : Room) (nL' : Nat) : Prop := rm'.cells = 0 ∧ rm'.slots = 0 ∧ rm'.frames + 1 ≤ rm.frames ∧ 8 + (nL' + 11) + rm'.locals ≤ rm.locals
theorem xr_blind (G : xr_G) (h : hp_T) (av : List Value) : FrameBlind (va_Pc av (fun U => hp_W G h U)) := fun a U g mk q => by
  obtain ⟨q0, q1, q2, q3, q4, q5⟩ := q
  exact ⟨q0, q1, va_K.moved (u := U) (U := U.calling g mk a) (Vm.Alike.refl U.vm) q2, q3, hp_Z.same (u := U) (U := U.calling g mk a) rfl q4, q5⟩
theorem xr_callVi (C : xr_C G K cc own nL rm ret Qc) {index n nL2 : Nat} {y : MethodName} {cc2 : ByteArray} {ret2 : Option FieldType} {rm2 : Room} {h1 : hp_T} {a ci N : Nat} {T : u_T} {r : Int32} (f : xr_mv own index y cc2 nL2 n ret2) (As rest : List Value) (hM : xr_M l G y cc2 nL2 rm2 ret2 (.ref (G.2.2.1 a) :: As) h (xr_Qi G r h1)) (ha : hp_sh a = (ci, 0)) (hc : ci < 20) (hcl : vwCl[ci]? = some (y.cls, T, N)) (hn : As.length = n) (hrm : xr_rm rm rm2 nL2) (hst : st = As.reverse ++ .ref (G.2.2.1 a) :: rest) (hw0 : (rest.map fun v => v.category).sum ≤ 8) (d : decode cc pc = .ok (.invokevirtual index, 3)) (k : xr_j l G K nL h1 lv (pc + 3) (.int r :: rest)) : xr_j l G K nL h lv pc st := by
  obtain ⟨p, e, R, s, m, args, below, meth, c, Q, kc, ks⟩ := K
  obtain ⟨D, cA, ad, A, zt⟩ := G
  obtain ⟨hx, hb, hml, hown, hts, hK, hD, hZ, hR, hr, hlocks, hcs, hQ⟩ := C
  intro hT H locs ls hP hS hl
  have hpre : ∀ U : State, U.heap = H → s.WarmedH U.vm → hp_W (D, cA, ad, A, zt) h U := fun U hU hW => ⟨by rw [hU]; exact hP, va_K.moved hW.alike hK, hD h, hp_Z.moved hW (by rw [hU]; exact hp_Z.kept hZ (fun q h1 h2 => hS.2.1 q h1 h2)), hT⟩
  dsimp only at hR
  dsimp only at hcs
  subst hR
  obtain ⟨hr1, hr2, hr3, hr4⟩ := hrm
  obtain ⟨⟨f1, f2, f3, f4, f5⟩, f6, f7, f8⟩ := f
  have hat := hp_wl_at (cA := cA) (ad := ad) (n := hp_N) (h := h) ha (hp_sh_lt ha (show ci < 99 by omega))
  rw [hp_cell_ob hc] at hat
  have hrecv := va_recv hK hP hcl hat
  have hcw : CallW R s args own y.cls index y cc2 nL2 ret2 (Cond.code y cc2 nL2 ret2 :: hp_GL) rm2 0 0 n := ⟨callB_of n hts (hp_goodG f2) rfl hr1 hr2 (hts _ f1) (hts _ f6) ⟨f3, f4, f5⟩ ⟨hr3, hr4⟩, hts _ f7, hts _ f8⟩
  subst hst
  refine va_calli (va_runV (As := As) (rest := rest) ⟨hx, hb, hml, hown, hts⟩ hM hcw ⟨xr_blind _ _ _, hrecv, fun U hU hW => ⟨rfl, hpre U hU hW⟩⟩ rfl hn hl.1 rfl (lv_room hw0) d ⟨hcs.1, hcs.2⟩) hS (fun q _ z => z) (fun q z => z) (fun r2 u t H1 locs1 ht hvm hw hB hz1 hk1 hS1 => ?_)
  obtain rfl : r2 = r := hw
  obtain ⟨hP1, hK1, hD1, hZ1, hT1⟩ := hB
  rw [ht] at hP1
  exact k hT1 H1 locs1 ls hP1 hS1 hl
theorem xr_callVl (C : xr_C G K cc own nL rm ret Qc) {index n nL2 : Nat} {y : MethodName} {cc2 : ByteArray} {ret2 : Option FieldType} {rm2 : Room} {h1 : hp_T} {a ci N : Nat} {T : u_T} {r : Int64} (f : xr_mv own index y cc2 nL2 n ret2) (As rest : List Value) (hM : xr_M l G y cc2 nL2 rm2 ret2 (.ref (G.2.2.1 a) :: As) h (xr_Ql G r h1)) (ha : hp_sh a = (ci, 0)) (hc : ci < 20) (hcl : vwCl[ci]? = some (y.cls, T, N)) (hn : As.length = n) (hrm : xr_rm rm rm2 nL2) (hst : st = As.reverse ++ .ref (G.2.2.1 a) :: rest) (hw0 : (rest.map fun v => v.category).sum ≤ 8) (d : decode cc pc = .ok (.invokevirtual index, 3)) (k : xr_j l G K nL h1 lv (pc + 3) (.long r :: rest)) : xr_j l G K nL h lv pc st := by
  obtain ⟨p, e, R, s, m, args, below, meth, c, Q, kc, ks⟩ := K
  obtain ⟨D, cA, ad, A, zt⟩ := G
  obtain ⟨hx, hb, hml, hown, hts, hK, hD, hZ, hR, hr, hlocks, hcs, hQ⟩ := C
  intro hT H locs ls hP hS hl
  have hpre : ∀ U : State, U.heap = H → s.WarmedH U.vm → hp_W (D, cA, ad, A, zt) h U := fun U hU hW => ⟨by rw [hU]; exact hP, va_K.moved hW.alike hK, hD h, hp_Z.moved hW (by rw [hU]; exact hp_Z.kept hZ (fun q h1 h2 => hS.2.1 q h1 h2)), hT⟩
  dsimp only at hR
  dsimp only at hcs
  subst hR
  obtain ⟨hr1, hr2, hr3, hr4⟩ := hrm
  obtain ⟨⟨f1, f2, f3, f4, f5⟩, f6, f7, f8⟩ := f
  have hat := hp_wl_at (cA := cA) (ad := ad) (n := hp_N) (h := h) ha (hp_sh_lt ha (show ci < 99 by omega))
  rw [hp_cell_ob hc] at hat
  have hrecv := va_recv hK hP hcl hat
  have hcw : CallW R s args own y.cls index y cc2 nL2 ret2 (Cond.code y cc2 nL2 ret2 :: hp_GL) rm2 0 0 n := ⟨callB_of n hts (hp_goodG f2) rfl hr1 hr2 (hts _ f1) (hts _ f6) ⟨f3, f4, f5⟩ ⟨hr3, hr4⟩, hts _ f7, hts _ f8⟩
  subst hst
  refine va_calll (va_runV (As := As) (rest := rest) ⟨hx, hb, hml, hown, hts⟩ hM hcw ⟨xr_blind _ _ _, hrecv, fun U hU hW => ⟨rfl, hpre U hU hW⟩⟩ rfl hn hl.1 rfl (lv_room hw0) d ⟨hcs.1, hcs.2⟩) hS (fun q _ z => z) (fun q z => z) (fun r2 u t H1 locs1 ht hvm hw hB hz1 hk1 hS1 => ?_)
  obtain rfl : r2 = r := hw
  obtain ⟨hP1, hK1, hD1, hZ1, hT1⟩ := hB
  rw [ht] at hP1
  exact k hT1 H1 locs1 ls hP1 hS1 hl
theorem xr_callVv (C : xr_C G K cc own nL rm ret Qc) {index n nL2 : Nat} {y : MethodName} {cc2 : ByteArray} {ret2 : Option FieldType} {rm2 : Room} {h1 : hp_T} {a ci N : Nat} {T : u_T} (f : xr_mv own index y cc2 nL2 n ret2) (As rest : List Value) (hM : xr_M l G y cc2 nL2 rm2 ret2 (.ref (G.2.2.1 a) :: As) h (xr_Qv G h1)) (ha : hp_sh a = (ci, 0)) (hc : ci < 20) (hcl : vwCl[ci]? = some (y.cls, T, N)) (hn : As.length = n) (hrm : xr_rm rm rm2 nL2) (hst : st = As.reverse ++ .ref (G.2.2.1 a) :: rest) (hw0 : (rest.map fun v => v.category).sum ≤ 8) (d : decode cc pc = .ok (.invokevirtual index, 3)) (k : xr_j l G K nL h1 lv (pc + 3) rest) : xr_j l G K nL h lv pc st := by
  obtain ⟨p, e, R, s, m, args, below, meth, c, Q, kc, ks⟩ := K
  obtain ⟨D, cA, ad, A, zt⟩ := G
  obtain ⟨hx, hb, hml, hown, hts, hK, hD, hZ, hR, hr, hlocks, hcs, hQ⟩ := C
  intro hT H locs ls hP hS hl
  have hpre : ∀ U : State, U.heap = H → s.WarmedH U.vm → hp_W (D, cA, ad, A, zt) h U := fun U hU hW => ⟨by rw [hU]; exact hP, va_K.moved hW.alike hK, hD h, hp_Z.moved hW (by rw [hU]; exact hp_Z.kept hZ (fun q h1 h2 => hS.2.1 q h1 h2)), hT⟩
  dsimp only at hR
  dsimp only at hcs
  subst hR
  obtain ⟨hr1, hr2, hr3, hr4⟩ := hrm
  obtain ⟨⟨f1, f2, f3, f4, f5⟩, f6, f7, f8⟩ := f
  have hat := hp_wl_at (cA := cA) (ad := ad) (n := hp_N) (h := h) ha (hp_sh_lt ha (show ci < 99 by omega))
  rw [hp_cell_ob hc] at hat
  have hrecv := va_recv hK hP hcl hat
  have hcw : CallW R s args own y.cls index y cc2 nL2 ret2 (Cond.code y cc2 nL2 ret2 :: hp_GL) rm2 0 0 n := ⟨callB_of n hts (hp_goodG f2) rfl hr1 hr2 (hts _ f1) (hts _ f6) ⟨f3, f4, f5⟩ ⟨hr3, hr4⟩, hts _ f7, hts _ f8⟩
  subst hst
  refine va_callv (va_runV (As := As) (rest := rest) ⟨hx, hb, hml, hown, hts⟩ hM hcw ⟨xr_blind _ _ _, hrecv, fun U hU hW => ⟨rfl, hpre U hU hW⟩⟩ rfl hn hl.1 rfl (lv_room hw0) d ⟨hcs.1, hcs.2⟩) hS (fun q _ z => z) (fun q z => z) (fun u t H1 locs1 ht hvm hw hB hz1 hk1 hS1 => ?_)
  obtain ⟨hP1, hK1, hD1, hZ1, hT1⟩ := hB
  rw [ht] at hP1
  exact k hT1 H1 locs1 ls hP1 hS1 hl
theorem xr_callVr (C : xr_C G K cc own nL rm ret Qc) {index n nL2 : Nat} {y : MethodName} {cc2 : ByteArray} {ret2 : Option FieldType} {rm2 : Room} {h1 : hp_T} {a ci N : Nat} {T : u_T} {r : Nat} {z : Nat × Nat} (f : xr_mv own index y cc2 nL2 n ret2) (As rest : List Value) (hM : xr_M l G y cc2 nL2 rm2 ret2 (.ref (G.2.2.1 a) :: As) h (xr_Qr G r z h1)) (ha : hp_sh a = (ci, 0)) (hc : ci < 20) (hcl : vwCl[ci]? = some (y.cls, T, N)) (hn : As.length = n) (hrm : xr_rm rm rm2 nL2) (hst : st = As.reverse ++ .ref (G.2.2.1 a) :: rest) (hw0 : (rest.map fun v => v.category).sum ≤ 8) (d : decode cc pc = .ok (.invokevirtual index, 3)) (k : hp_sh r = z → xr_j l G K nL h1 lv (pc + 3) (.ref (G.2.2.1 r) :: rest)) : xr_j l G K nL h lv pc st := by
  obtain ⟨p, e, R, s, m, args, below, meth, c, Q, kc, ks⟩ := K
  obtain ⟨D, cA, ad, A, zt⟩ := G
  obtain ⟨hx, hb, hml, hown, hts, hK, hD, hZ, hR, hr, hlocks, hcs, hQ⟩ := C
  intro hT H locs ls hP hS hl
  have hpre : ∀ U : State, U.heap = H → s.WarmedH U.vm → hp_W (D, cA, ad, A, zt) h U := fun U hU hW => ⟨by rw [hU]; exact hP, va_K.moved hW.alike hK, hD h, hp_Z.moved hW (by rw [hU]; exact hp_Z.kept hZ (fun q h1 h2 => hS.2.1 q h1 h2)), hT⟩
  dsimp only at hR
  dsimp only at hcs
  subst hR
  obtain ⟨hr1, hr2, hr3, hr4⟩ := hrm
  obtain ⟨⟨f1, f2, f3, f4, f5⟩, f6, f7, f8⟩ := f
  have hat := hp_wl_at (cA := cA) (ad := ad) (n := hp_N) (h := h) ha (hp_sh_lt ha (show ci < 99 by omega))
  rw [hp_cell_ob hc] at hat
  have hrecv := va_recv hK hP hcl hat
  have hcw : CallW R s args own y.cls index y cc2 nL2 ret2 (Cond.code y cc2 nL2 ret2 :: hp_GL) rm2 0 0 n := ⟨callB_of n hts (hp_goodG f2) rfl hr1 hr2 (hts _ f1) (hts _ f6) ⟨f3, f4, f5⟩ ⟨hr3, hr4⟩, hts _ f7, hts _ f8⟩
  subst hst
  refine va_callr (va_runV (As := As) (rest := rest) ⟨hx, hb, hml, hown, hts⟩ hM hcw ⟨xr_blind _ _ _, hrecv, fun U hU hW => ⟨rfl, hpre U hU hW⟩⟩ rfl hn hl.1 rfl (lv_room hw0) d ⟨hcs.1, hcs.2⟩) hS (fun q _ z => z) (fun q z => z) (fun u ra t H1 locs1 ht hvm hw hB hz1 hk1 hS1 => ?_)
  obtain ⟨rfl, hP1, hK1, hD1, hZ1, hT1⟩ := hB
  rw [ht] at hP1
  exact k hw hT1 H1 locs1 ls hP1 hS1 hl
theorem xr_callSi (C : xr_C G K cc own nL rm ret Qc) {index n nL2 : Nat} {y : MethodName} {cc2 : ByteArray} {ret2 : Option FieldType} {rm2 : Room} {h1 : hp_T} {r : Int32} (f : xr_ms own index y cc2 nL2 n ret2) (As rest : List Value) (hM : xr_M l G y cc2 nL2 rm2 ret2 As h (xr_Qi G r h1)) (hn : As.length = n) (hrm : xr_rm rm rm2 nL2) (hst : st = As.reverse ++ rest) (hw0 : (rest.map fun v => v.category).sum ≤ 8) (d : decode cc pc = .ok (.invokestatic index, 3)) (k : xr_j l G K nL h1 lv (pc + 3) (.int r :: rest)) : xr_j l G K nL h lv pc st := by
  obtain ⟨p, e, R, s, m, args, below, meth, c, Q, kc, ks⟩ := K
  obtain ⟨D, cA, ad, A, zt⟩ := G
  obtain ⟨hx, hb, hml, hown, hts, hK, hD, hZ, hR, hr, hlocks, hcs, hQ⟩ := C
  intro hT H locs ls hP hS hl
  have hpre : ∀ U : State, U.heap = H → s.WarmedH U.vm → hp_W (D, cA, ad, A, zt) h U := fun U hU hW => ⟨by rw [hU]; exact hP, va_K.moved hW.alike hK, hD h, hp_Z.moved hW (by rw [hU]; exact hp_Z.kept hZ (fun q h1 h2 => hS.2.1 q h1 h2)), hT⟩
  dsimp only at hR
  dsimp only at hcs
  subst hR
  obtain ⟨hr1, hr2, hr3, hr4⟩ := hrm
  obtain ⟨⟨f1, f2, f3, f4, f5⟩, f6, f7⟩ := f
  have hcw : CallB R s args own index y cc2 nL2 ret2 (Cond.code y cc2 nL2 ret2 :: hp_GL) rm2 0 0 n := callB_of n hts (hp_goodG f2) rfl hr1 hr2 (hts _ f1) (hts _ f6) ⟨f3, f4, f5⟩ ⟨hr3, hr4⟩
  subst hst
  refine va_calli (va_runS (As := As) (rest := rest) ⟨hx, hb, hml, hown, hts⟩ hM ⟨hcw, hts _ f7⟩ ⟨xr_blind _ _ _, fun U hU hW => ⟨rfl, hpre U hU hW⟩⟩ rfl hn hl.1 rfl (lv_room hw0) d ⟨hcs.1, hcs.2⟩) hS (fun q _ z => z) (fun q z => z) (fun r2 u t H1 locs1 ht hvm hw hB hz1 hk1 hS1 => ?_)
  obtain rfl : r2 = r := hw
  obtain ⟨hP1, hK1, hD1, hZ1, hT1⟩ := hB
  rw [ht] at hP1
  exact k hT1 H1 locs1 ls hP1 hS1 hl
theorem xr_callSl (C : xr_C G K cc own nL rm ret Qc) {index n nL2 : Nat} {y : MethodName} {cc2 : ByteArray} {ret2 : Option FieldType} {rm2 : Room} {h1 : hp_T} {r : Int64} (f : xr_ms own index y cc2 nL2 n ret2) (As rest : List Value) (hM : xr_M l G y cc2 nL2 rm2 ret2 As h (xr_Ql G r h1)) (hn : As.length = n) (hrm : xr_rm rm rm2 nL2) (hst : st = As.reverse ++ rest) (hw0 : (rest.map fun v => v.category).sum ≤ 8) (d : decode cc pc = .ok (.invokestatic index, 3)) (k : xr_j l G K nL h1 lv (pc + 3) (.long r :: rest)) : xr_j l G K nL h lv pc st := by
  obtain ⟨p, e, R, s, m, args, below, meth, c, Q, kc, ks⟩ := K
  obtain ⟨D, cA, ad, A, zt⟩ := G
  obtain ⟨hx, hb, hml, hown, hts, hK, hD, hZ, hR, hr, hlocks, hcs, hQ⟩ := C
  intro hT H locs ls hP hS hl
  have hpre : ∀ U : State, U.heap = H → s.WarmedH U.vm → hp_W (D, cA, ad, A, zt) h U := fun U hU hW => ⟨by rw [hU]; exact hP, va_K.moved hW.alike hK, hD h, hp_Z.moved hW (by rw [hU]; exact hp_Z.kept hZ (fun q h1 h2 => hS.2.1 q h1 h2)), hT⟩
  dsimp only at hR
  dsimp only at hcs
  subst hR
  obtain ⟨hr1, hr2, hr3, hr4⟩ := hrm
  obtain ⟨⟨f1, f2, f3, f4, f5⟩, f6, f7⟩ := f
  have hcw : CallB R s args own index y cc2 nL2 ret2 (Cond.code y cc2 nL2 ret2 :: hp_GL) rm2 0 0 n := callB_of n hts (hp_goodG f2) rfl hr1 hr2 (hts _ f1) (hts _ f6) ⟨f3, f4, f5⟩ ⟨hr3, hr4⟩
  subst hst
  refine va_calll (va_runS (As := As) (rest := rest) ⟨hx, hb, hml, hown, hts⟩ hM ⟨hcw, hts _ f7⟩ ⟨xr_blind _ _ _, fun U hU hW => ⟨rfl, hpre U hU hW⟩⟩ rfl hn hl.1 rfl (lv_room hw0) d ⟨hcs.1, hcs.2⟩) hS (fun q _ z => z) (fun q z => z) (fun r2 u t H1 locs1 ht hvm hw hB hz1 hk1 hS1 => ?_)
  obtain rfl : r2 = r := hw
  obtain ⟨hP1, hK1, hD1, hZ1, hT1⟩ := hB
  rw [ht] at hP1
  exact k hT1 H1 locs1 ls hP1 hS1 hl
theorem xr_callSv (C : xr_C G K cc own nL rm ret Qc) {index n nL2 : Nat} {y : MethodName} {cc2 : ByteArray} {ret2 : Option FieldType} {rm2 : Room} {h1 : hp_T} (f : xr_ms own index y cc2 nL2 n ret2) (As rest : List Value) (hM : xr_M l G y cc2 nL2 rm2 ret2 As h (xr_Qv G h1)) (hn : As.length = n) (hrm : xr_rm rm rm2 nL2) (hst : st = As.reverse ++ rest) (hw0 : (rest.map fun v => v.category).sum ≤ 8) (d : decode cc pc = .ok (.invokestatic index, 3)) (k : xr_j l G K nL h1 lv (pc + 3) rest) : xr_j l G K nL h lv pc st := by
  obtain ⟨p, e, R, s, m, args, below, meth, c, Q, kc, ks⟩ := K
  obtain ⟨D, cA, ad, A, zt⟩ := G
  obtain ⟨hx, hb, hml, hown, hts, hK, hD, hZ, hR, hr, hlocks, hcs, hQ⟩ := C
  intro hT H locs ls hP hS hl
  have hpre : ∀ U : State, U.heap = H → s.WarmedH U.vm → hp_W (D, cA, ad, A, zt) h U := fun U hU hW => ⟨by rw [hU]; exact hP, va_K.moved hW.alike hK, hD h, hp_Z.moved hW (by rw [hU]; exact hp_Z.kept hZ (fun q h1 h2 => hS.2.1 q h1 h2)), hT⟩
  dsimp only at hR
  dsimp only at hcs
  subst hR
  obtain ⟨hr1, hr2, hr3, hr4⟩ := hrm
  obtain ⟨⟨f1, f2, f3, f4, f5⟩, f6, f7⟩ := f
  have hcw : CallB R s args own index y cc2 nL2 ret2 (Cond.code y cc2 nL2 ret2 :: hp_GL) rm2 0 0 n := callB_of n hts (hp_goodG f2) rfl hr1 hr2 (hts _ f1) (hts _ f6) ⟨f3, f4, f5⟩ ⟨hr3, hr4⟩
  subst hst
  refine va_callv (va_runS (As := As) (rest := rest) ⟨hx, hb, hml, hown, hts⟩ hM ⟨hcw, hts _ f7⟩ ⟨xr_blind _ _ _, fun U hU hW => ⟨rfl, hpre U hU hW⟩⟩ rfl hn hl.1 rfl (lv_room hw0) d ⟨hcs.1, hcs.2⟩) hS (fun q _ z => z) (fun q z => z) (fun u t H1 locs1 ht hvm hw hB hz1 hk1 hS1 => ?_)
  obtain ⟨hP1, hK1, hD1, hZ1, hT1⟩ := hB
  rw [ht] at hP1
  exact k hT1 H1 locs1 ls hP1 hS1 hl
theorem xr_callSr (C : xr_C G K cc own nL rm ret Qc) {index n nL2 : Nat} {y : MethodName} {cc2 : ByteArray} {ret2 : Option FieldType} {rm2 : Room} {h1 : hp_T} {r : Nat} {z : Nat × Nat} (f : xr_ms own index y cc2 nL2 n ret2) (As rest : List Value) (hM : xr_M l G y cc2 nL2 rm2 ret2 As h (xr_Qr G r z h1)) (hn : As.length = n) (hrm : xr_rm rm rm2 nL2) (hst : st = As.reverse ++ rest) (hw0 : (rest.map fun v => v.category).sum ≤ 8) (d : decode cc pc = .ok (.invokestatic index, 3)) (k : hp_sh r = z → xr_j l G K nL h1 lv (pc + 3) (.ref (G.2.2.1 r) :: rest)) : xr_j l G K nL h lv pc st := by
  obtain ⟨p, e, R, s, m, args, below, meth, c, Q, kc, ks⟩ := K
  obtain ⟨D, cA, ad, A, zt⟩ := G
  obtain ⟨hx, hb, hml, hown, hts, hK, hD, hZ, hR, hr, hlocks, hcs, hQ⟩ := C
  intro hT H locs ls hP hS hl
  have hpre : ∀ U : State, U.heap = H → s.WarmedH U.vm → hp_W (D, cA, ad, A, zt) h U := fun U hU hW => ⟨by rw [hU]; exact hP, va_K.moved hW.alike hK, hD h, hp_Z.moved hW (by rw [hU]; exact hp_Z.kept hZ (fun q h1 h2 => hS.2.1 q h1 h2)), hT⟩
  dsimp only at hR
  dsimp only at hcs
  subst hR
  obtain ⟨hr1, hr2, hr3, hr4⟩ := hrm
  obtain ⟨⟨f1, f2, f3, f4, f5⟩, f6, f7⟩ := f
  have hcw : CallB R s args own index y cc2 nL2 ret2 (Cond.code y cc2 nL2 ret2 :: hp_GL) rm2 0 0 n := callB_of n hts (hp_goodG f2) rfl hr1 hr2 (hts _ f1) (hts _ f6) ⟨f3, f4, f5⟩ ⟨hr3, hr4⟩
  subst hst
  refine va_callr (va_runS (As := As) (rest := rest) ⟨hx, hb, hml, hown, hts⟩ hM ⟨hcw, hts _ f7⟩ ⟨xr_blind _ _ _, fun U hU hW => ⟨rfl, hpre U hU hW⟩⟩ rfl hn hl.1 rfl (lv_room hw0) d ⟨hcs.1, hcs.2⟩) hS (fun q _ z => z) (fun q z => z) (fun u ra t H1 locs1 ht hvm hw hB hz1 hk1 hS1 => ?_)
  obtain ⟨rfl, hP1, hK1, hD1, hZ1, hT1⟩ := hB
  rw [ht] at hP1
  exact k hw hT1 H1 locs1 ls hP1 hS1 hl
theorem xr_callNi (C : xr_C G K cc own nL rm ret Qc) {index n nL2 : Nat} {y : MethodName} {cc2 : ByteArray} {ret2 : Option FieldType} {rm2 : Room} {h1 : hp_T} {r : Int32} (f : xr_mn own index y cc2 nL2 n ret2) (As rest : List Value) (hM : xr_M l G y cc2 nL2 rm2 ret2 As h (xr_Qi G r h1)) (hn : As.length = n) (hrm : xr_rm rm rm2 nL2) (hst : st = As.reverse ++ rest) (hw0 : (rest.map fun v => v.category).sum ≤ 8) (d : decode cc pc = .ok (.invokestatic index, 3)) (k : xr_j l G K nL h1 lv (pc + 3) (.int r :: rest)) : xr_j l G K nL h lv pc st := by
  obtain ⟨p, e, R, s, m, args, below, meth, c, Q, kc, ks⟩ := K
  obtain ⟨D, cA, ad, A, zt⟩ := G
  obtain ⟨hx, hb, hml, hown, hts, hK, hD, hZ, hR, hr, hlocks, hcs, hQ⟩ := C
  intro hT H locs ls hP hS hl
  have hpre : ∀ U : State, U.heap = H → s.WarmedH U.vm → hp_W (D, cA, ad, A, zt) h U := fun U hU hW => ⟨by rw [hU]; exact hP, va_K.moved hW.alike hK, hD h, hp_Z.moved hW (by rw [hU]; exact hp_Z.kept hZ (fun q h1 h2 => hS.2.1 q h1 h2)), hT⟩
  dsimp only at hR
  dsimp only at hcs
  subst hR
  obtain ⟨hr1, hr2, hr3, hr4⟩ := hrm
  obtain ⟨⟨f1, f2, f3, f4, f5⟩, f6, f7⟩ := f
  have hcw : va_CN R s args own index y "CourtSix" cc2 nL2 ret2 (Cond.code y cc2 nL2 ret2 :: hp_GL) rm2 0 0 n := ⟨⟨hr1, hr2, hr3, hr4, pay_in hts (hp_goodG f2), List.mem_cons_self⟩, hts _ f2, hts _ f1, ⟨f3, f4⟩, fun sig h => by have h2 := f5; rw [h] at h2; exact (Option.some.inj h2).symm, va_Nw.use rfl (hZ.2.2.2.1 _ f6)⟩
  subst hst
  refine va_calli (va_runSN (As := As) (rest := rest) ⟨hx, hb, hml, hown, hts⟩ hM ⟨hcw, hts _ f7, trivial⟩ ⟨xr_blind _ _ _, fun U hU hW => ⟨rfl, hpre U hU hW⟩⟩ rfl hn hl.1 rfl (lv_room hw0) d ⟨hcs.1, hcs.2⟩) hS (fun q _ z => z) (fun q z => z) (fun r2 u t H1 locs1 ht hvm hw hB hz1 hk1 hS1 => ?_)
  obtain rfl : r2 = r := hw
  obtain ⟨hP1, hK1, hD1, hZ1, hT1⟩ := hB
  rw [ht] at hP1
  exact k hT1 H1 locs1 ls hP1 hS1 hl
theorem xr_callNl (C : xr_C G K cc own nL rm ret Qc) {index n nL2 : Nat} {y : MethodName} {cc2 : ByteArray} {ret2 : Option FieldType} {rm2 : Room} {h1 : hp_T} {r : Int64} (f : xr_mn own index y cc2 nL2 n ret2) (As rest : List Value) (hM : xr_M l G y cc2 nL2 rm2 ret2 As h (xr_Ql G r h1)) (hn : As.length = n) (hrm : xr_rm rm rm2 nL2) (hst : st = As.reverse ++ rest) (hw0 : (rest.map fun v => v.category).sum ≤ 8) (d : decode cc pc = .ok (.invokestatic index, 3)) (k : xr_j l G K nL h1 lv (pc + 3) (.long r :: rest)) : xr_j l G K nL h lv pc st := by
  obtain ⟨p, e, R, s, m, args, below, meth, c, Q, kc, ks⟩ := K
  obtain ⟨D, cA, ad, A, zt⟩ := G
  obtain ⟨hx, hb, hml, hown, hts, hK, hD, hZ, hR, hr, hlocks, hcs, hQ⟩ := C
  intro hT H locs ls hP hS hl
  have hpre : ∀ U : State, U.heap = H → s.WarmedH U.vm → hp_W (D, cA, ad, A, zt) h U := fun U hU hW => ⟨by rw [hU]; exact hP, va_K.moved hW.alike hK, hD h, hp_Z.moved hW (by rw [hU]; exact hp_Z.kept hZ (fun q h1 h2 => hS.2.1 q h1 h2)), hT⟩
  dsimp only at hR
  dsimp only at hcs
  subst hR
  obtain ⟨hr1, hr2, hr3, hr4⟩ := hrm
  obtain ⟨⟨f1, f2, f3, f4, f5⟩, f6, f7⟩ := f
  have hcw : va_CN R s args own index y "CourtSix" cc2 nL2 ret2 (Cond.code y cc2 nL2 ret2 :: hp_GL) rm2 0 0 n := ⟨⟨hr1, hr2, hr3, hr4, pay_in hts (hp_goodG f2), List.mem_cons_self⟩, hts _ f2, hts _ f1, ⟨f3, f4⟩, fun sig h => by have h2 := f5; rw [h] at h2; exact (Option.some.inj h2).symm, va_Nw.use rfl (hZ.2.2.2.1 _ f6)⟩
  subst hst
  refine va_calll (va_runSN (As := As) (rest := rest) ⟨hx, hb, hml, hown, hts⟩ hM ⟨hcw, hts _ f7, trivial⟩ ⟨xr_blind _ _ _, fun U hU hW => ⟨rfl, hpre U hU hW⟩⟩ rfl hn hl.1 rfl (lv_room hw0) d ⟨hcs.1, hcs.2⟩) hS (fun q _ z => z) (fun q z => z) (fun r2 u t H1 locs1 ht hvm hw hB hz1 hk1 hS1 => ?_)
  obtain rfl : r2 = r := hw
  obtain ⟨hP1, hK1, hD1, hZ1, hT1⟩ := hB
  rw [ht] at hP1
  exact k hT1 H1 locs1 ls hP1 hS1 hl
theorem xr_callNv (C : xr_C G K cc own nL rm ret Qc) {index n nL2 : Nat} {y : MethodName} {cc2 : ByteArray} {ret2 : Option FieldType} {rm2 : Room} {h1 : hp_T} (f : xr_mn own index y cc2 nL2 n ret2) (As rest : List Value) (hM : xr_M l G y cc2 nL2 rm2 ret2 As h (xr_Qv G h1)) (hn : As.length = n) (hrm : xr_rm rm rm2 nL2) (hst : st = As.reverse ++ rest) (hw0 : (rest.map fun v => v.category).sum ≤ 8) (d : decode cc pc = .ok (.invokestatic index, 3)) (k : xr_j l G K nL h1 lv (pc + 3) rest) : xr_j l G K nL h lv pc st := by
  obtain ⟨p, e, R, s, m, args, below, meth, c, Q, kc, ks⟩ := K
  obtain ⟨D, cA, ad, A, zt⟩ := G
  obtain ⟨hx, hb, hml, hown, hts, hK, hD, hZ, hR, hr, hlocks, hcs, hQ⟩ := C
  intro hT H locs ls hP hS hl
  have hpre : ∀ U : State, U.heap = H → s.WarmedH U.vm → hp_W (D, cA, ad, A, zt) h U := fun U hU hW => ⟨by rw [hU]; exact hP, va_K.moved hW.alike hK, hD h, hp_Z.moved hW (by rw [hU]; exact hp_Z.kept hZ (fun q h1 h2 => hS.2.1 q h1 h2)), hT⟩
  dsimp only at hR
  dsimp only at hcs
  subst hR
  obtain ⟨hr1, hr2, hr3, hr4⟩ := hrm
  obtain ⟨⟨f1, f2, f3, f4, f5⟩, f6, f7⟩ := f
  have hcw : va_CN R s args own index y "CourtSix" cc2 nL2 ret2 (Cond.code y cc2 nL2 ret2 :: hp_GL) rm2 0 0 n := ⟨⟨hr1, hr2, hr3, hr4, pay_in hts (hp_goodG f2), List.mem_cons_self⟩, hts _ f2, hts _ f1, ⟨f3, f4⟩, fun sig h => by have h2 := f5; rw [h] at h2; exact (Option.some.inj h2).symm, va_Nw.use rfl (hZ.2.2.2.1 _ f6)⟩
  subst hst
  refine va_callv (va_runSN (As := As) (rest := rest) ⟨hx, hb, hml, hown, hts⟩ hM ⟨hcw, hts _ f7, trivial⟩ ⟨xr_blind _ _ _, fun U hU hW => ⟨rfl, hpre U hU hW⟩⟩ rfl hn hl.1 rfl (lv_room hw0) d ⟨hcs.1, hcs.2⟩) hS (fun q _ z => z) (fun q z => z) (fun u t H1 locs1 ht hvm hw hB hz1 hk1 hS1 => ?_)
  obtain ⟨hP1, hK1, hD1, hZ1, hT1⟩ := hB
  rw [ht] at hP1
  exact k hT1 H1 locs1 ls hP1 hS1 hl
theorem xr_callNr (C : xr_C G K cc own nL rm ret Qc) {index n nL2 : Nat} {y : MethodName} {cc2 : ByteArray} {ret2 : Option FieldType} {rm2 : Room} {h1 : hp_T} {r : Nat} {z : Nat × Nat} (f : xr_mn own index y cc2 nL2 n ret2) (As rest : List Value) (hM : xr_M l G y cc2 nL2 rm2 ret2 As h (xr_Qr G r z h1)) (hn : As.length = n) (hrm : xr_rm rm rm2 nL2) (hst : st = As.reverse ++ rest) (hw0 : (rest.map fun v => v.category).sum ≤ 8) (d : decode cc pc = .ok (.invokestatic index, 3)) (k : hp_sh r = z → xr_j l G K nL h1 lv (pc + 3) (.ref (G.2.2.1 r) :: rest)) : xr_j l G K nL h lv pc st := by
  obtain ⟨p, e, R, s, m, args, below, meth, c, Q, kc, ks⟩ := K
  obtain ⟨D, cA, ad, A, zt⟩ := G
  obtain ⟨hx, hb, hml, hown, hts, hK, hD, hZ, hR, hr, hlocks, hcs, hQ⟩ := C
  intro hT H locs ls hP hS hl
  have hpre : ∀ U : State, U.heap = H → s.WarmedH U.vm → hp_W (D, cA, ad, A, zt) h U := fun U hU hW => ⟨by rw [hU]; exact hP, va_K.moved hW.alike hK, hD h, hp_Z.moved hW (by rw [hU]; exact hp_Z.kept hZ (fun q h1 h2 => hS.2.1 q h1 h2)), hT⟩
  dsimp only at hR
  dsimp only at hcs
  subst hR
  obtain ⟨hr1, hr2, hr3, hr4⟩ := hrm
  obtain ⟨⟨f1, f2, f3, f4, f5⟩, f6, f7⟩ := f
  have hcw : va_CN R s args own index y "CourtSix" cc2 nL2 ret2 (Cond.code y cc2 nL2 ret2 :: hp_GL) rm2 0 0 n := ⟨⟨hr1, hr2, hr3, hr4, pay_in hts (hp_goodG f2), List.mem_cons_self⟩, hts _ f2, hts _ f1, ⟨f3, f4⟩, fun sig h => by have h2 := f5; rw [h] at h2; exact (Option.some.inj h2).symm, va_Nw.use rfl (hZ.2.2.2.1 _ f6)⟩
  subst hst
  refine va_callr (va_runSN (As := As) (rest := rest) ⟨hx, hb, hml, hown, hts⟩ hM ⟨hcw, hts _ f7, trivial⟩ ⟨xr_blind _ _ _, fun U hU hW => ⟨rfl, hpre U hU hW⟩⟩ rfl hn hl.1 rfl (lv_room hw0) d ⟨hcs.1, hcs.2⟩) hS (fun q _ z => z) (fun q z => z) (fun u ra t H1 locs1 ht hvm hw hB hz1 hk1 hS1 => ?_)
  obtain ⟨rfl, hP1, hK1, hD1, hZ1, hT1⟩ := hB
  rw [ht] at hP1
  exact k hw hT1 H1 locs1 ls hP1 hS1 hl
end XR
