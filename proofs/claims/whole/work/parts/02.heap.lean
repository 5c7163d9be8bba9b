/-! ===== the words that every method has: all good words of the tables ===== -/
def hp_GL : List Cond := lw_tbl.filter (fun w => goodWord w || k2_isCode w)
theorem hp_good {w : Cond} (h : (goodWord w || k2_isCode w) = true) : (w.onTables && w.keeps) = true ∨ ∃ ty, w = .arrayClass ty := by
  rcases Bool.or_eq_true _ _ ▸ h with h | h
  · exact good_of_word h
  · cases w <;> first | (simp [k2_isCode] at h; done) | exact Or.inl rfl
theorem hp_GL_in {w : Cond} (h : w ∈ hp_GL) : w ∈ lw_tbl := (List.mem_filter.mp h).1
theorem hp_GL_mem {w : Cond} (h : w ∈ lw_tbl) (hg : (goodWord w || k2_isCode w) = true) : w ∈ hp_GL := List.mem_filter.mpr ⟨h, hg⟩
theorem hp_GL_good : GoodIn lw_tbl hp_GL := fun w h => ⟨(List.mem_filter.mp h).1, hp_good (List.mem_filter.mp h).2⟩
theorem hp_goodIn {c0 c1 : Cond} (h : c1 ∈ hp_GL) : GoodIn (c0 :: hp_GL) (c1 :: hp_GL) := fun w hw => by
  rcases List.mem_cons.mp hw with rfl | hw
  · exact ⟨List.mem_cons_of_mem _ h, hp_good (List.mem_filter.mp h).2⟩
  · exact ⟨List.mem_cons_of_mem _ hw, hp_good (List.mem_filter.mp hw).2⟩
/-- a word of the tables by its place -/
theorem hp_pl {w : Cond} (i : Nat) (h : tables_1[i]? = some w) (hg : (goodWord w || k2_isCode w) = true) : w ∈ hp_GL :=
  hp_GL_mem (List.mem_append_right _ (List.mem_of_getElem? h)) hg
theorem hp_ps {y : MethodName} {n : Nat} (i : Nat) (h : lw_privs[i]? = some (y, n)) : Cond.selects y.cls y y ∈ hp_GL :=
  hp_GL_mem (List.mem_append_left _ (List.mem_map.mpr ⟨(y, n), List.mem_of_getElem? h, rfl⟩)) rfl
/-! ===== the abstract heap: ints, longs, references, by a cell's number and the place in it ===== -/
abbrev hp_T : Type := (Nat → Nat → Int32) × (Nat → Nat → Int64) × (Nat → Nat → Nat)
def hp_u {α : Type} (f : Nat → Nat → α) (a k : Nat) (v : α) : Nat → Nat → α := fun x j => if x = a ∧ j = k then v else f x j
def hp_sI (h : hp_T) (a k : Nat) (v : Int32) : hp_T := (hp_u h.1 a k v, h.2.1, h.2.2)
def hp_sL (h : hp_T) (a k : Nat) (v : Int64) : hp_T := (h.1, hp_u h.2.1 a k v, h.2.2)
def hp_sR (h : hp_T) (a k : Nat) (v : Nat) : hp_T := (h.1, h.2.1, hp_u h.2.2 a k v)
/-- a whole row put anew -/
def hp_w {α : Type} (f : Nat → Nat → α) (a : Nat) (r : Nat → α) : Nat → Nat → α := fun x => if x = a then r else f x
def hp_wI (h : hp_T) (a : Nat) (r : Nat → Int32) : hp_T := (hp_w h.1 a r, h.2.1, h.2.2)
def hp_wL (h : hp_T) (a : Nat) (r : Nat → Int64) : hp_T := (h.1, hp_w h.2.1 a r, h.2.2)
/-- the fields of the classes: 'none' a number, 'some (kind, length)' a reference to a cell of that shape -/
def hp_F : List (List (Option (Nat × Nat))) := [
  [none, none, none, none],
  [some (6, 0), some (6, 0), none, none],
  [some (20, 6), some (20, 6), some (20, 6)],
  [some (20, 49), some (20, 49), some (20, 49)],
  [some (2, 0), some (2, 0), some (20, 12), some (21, 676), some (20, 312), some (20, 312), some (21, 312), some (21, 312), none, none],
  [some (20, 900), none, none, none, none, none, none, none, none],
  [some (20, 6), some (20, 12), some (20, 6), some (20, 6), none, none, none, none, none],
  [some (20, 12), some (20, 12), some (20, 12), some (20, 12), some (20, 6), none, none, none],
  [some (7, 0), some (7, 0), none, none, none, none, none],
  [some (5, 0), some (4, 0), some (3, 0), some (1, 0), some (23, 20), some (20, 36), some (20, 6), some (20, 6), some (0, 0), some (24, 2), some (24, 2), some (8, 0), some (8, 0), none, none, none, none],
  [none, some (20, 900), none, some (20, 117), some (20, 117), some (20, 24), some (20, 24), none, none, none, none, none, none, none, none, none, none, none, some (22, 8), some (22, 2), some (20, 120), some (20, 2400), none, some (20, 150), some (20, 12), some (20, 48672), some (20, 72), some (21, 48672)]]
/-- the shapes of the cells, in the order in which they are made -/
def hp_side : List (Nat × Nat) := [(6, 0), (20, 6), (20, 12), (20, 6), (20, 6)]
def hp_court : List (Nat × Nat) := (1, 0) :: (hp_side ++ hp_side)
def hp_squad : List (Nat × Nat) := [(7, 0), (20, 12), (20, 12), (20, 12), (20, 12), (20, 6)]
def hp_told : List (Nat × Nat) := (8, 0) :: (hp_squad ++ hp_squad)
def hp_force : List (Nat × Nat) := [(2, 0), (20, 6), (20, 6), (20, 6)]
def hp_shl : List (Nat × Nat) := [(9, 0), (5, 0), (20, 900), (4, 0)] ++ hp_force ++ hp_force ++ [(20, 12), (21, 676), (20, 312), (20, 312), (21, 312), (21, 312), (3, 0), (20, 49), (20, 49), (20, 49)] ++ hp_court ++ [(23, 20), (20, 36), (20, 6), (20, 6), (0, 0), (24, 2), (24, 2)] ++ hp_told ++ hp_told
  ++ (List.range 20).flatMap (fun _ => hp_court) ++ [(0, 0), (0, 0), (0, 0), (0, 0)] ++ [(10, 0), (20, 900), (20, 117), (20, 117), (20, 24), (20, 24), (22, 8), (22, 2), (20, 120), (20, 2400), (20, 150), (20, 12), (20, 48672), (20, 72), (21, 48672), (21, 1)]
def hp_N : Nat := 306
theorem hp_shl_len : hp_shl.length = hp_N := by decide +kernel
def hp_sh (a : Nat) : Nat × Nat := hp_shl.getD a (99, 0)
theorem hp_sh_lt {a : Nat} {z : Nat × Nat} (h : hp_sh a = z) (hz : z.1 < 99) : a < hp_N := by
  rcases Nat.lt_or_ge a hp_N with q | q
  · exact q
  · have : hp_sh a = (99, 0) := by
      unfold hp_sh
      rw [List.getD_eq_getElem?_getD, List.getElem?_eq_none (by rw [hp_shl_len]; exact q)]
      rfl
    rw [h] at this
    rw [this] at hz
    exact absurd hz (by decide)
/-- which shape a reference at place k of a cell has -/
def hp_rt (z : Nat × Nat) (k : Nat) : Option (Nat × Nat) :=
  if z.1 < 20 then (hp_F.getD z.1 []).getD k none else if z.1 = 23 then (if k < z.2 then some (1, 0) else none) else if z.1 = 24 then (if k < z.2 then some (0, 0) else none) else none
/-- the references are of the shapes that their fields say -/
def hp_Ty (R : Nat → Nat → Nat) : Prop := ∀ (a : Nat), a < hp_N → ∀ (k : Nat) (z : Nat × Nat), hp_rt (hp_sh a) k = some z → hp_sh (R a k) = z
/-! ===== the world's list of cells ===== -/
/-- what a cell number stands for: 999 is null -/
def hp_rv (ad : Nat → Nat) (x : Nat) : Value := if x = 999 then .null else .ref (ad x)
def hp_ro (ad : Nat → Nat) (x : Nat) : Option Nat := if x = 999 then none else some (ad x)
theorem hp_rf_ro (ad : Nat → Nat) (x : Nat) : va_rf (hp_ro ad x) = hp_rv ad x := by unfold hp_ro hp_rv; by_cases h : x = 999 <;> simp [h, va_rf]
def hp_fv (ad : Nat → Nat) (h : hp_T) (a : Nat) (t : List (Option (Nat × Nat))) (k : Nat) : Value := if (t.getD k none).isSome then hp_rv ad (h.2.2 a k) else .int (h.1 a k)
def hp_fs (ad : Nat → Nat) (h : hp_T) (a : Nat) (ci : Nat) : List Value := (List.range (hp_F.getD ci []).length).map (hp_fv ad h a (hp_F.getD ci []))
def hp_cell (cA : Nat → ClassId) (ad : Nat → Nat) (h : hp_T) (a : Nat) (z : Nat × Nat) : va_E :=
  if z.1 = 20 then .inl (cA 0, z.2, .inl (h.1 a)) else if z.1 = 21 then .inl (cA 1, z.2, .inr (.inl (h.2.1 a))) else if z.1 = 22 then .inl (cA 2, z.2, .inl (h.1 a))
  else if z.1 = 23 then .inl (cA 3, z.2, .inr (.inr (.inr (.inr (fun j => hp_ro ad (h.2.2 a j)))))) else if z.1 = 24 then .inl (cA 4, z.2, .inr (.inr (.inr (.inr (fun j => hp_ro ad (h.2.2 a j))))))
  else .inr (z.1, hp_fs ad h a z.1)
def hp_at (cA : Nat → ClassId) (ad : Nat → Nat) (h : hp_T) (a : Nat) : Nat × va_E := (ad a, hp_cell cA ad h a (hp_sh a))
def hp_wl (cA : Nat → ClassId) (ad : Nat → Nat) (n : Nat) (h : hp_T) : va_W := (List.range n).map (hp_at cA ad h)
theorem hp_map_at {α : Type} {f : Nat → α} {n k : Nat} (h : k < n) : ((List.range n).map f)[k]? = some (f k) := by
  rw [List.getElem?_map, List.getElem?_range h]; rfl
theorem hp_map_set {α : Type} {f g : Nat → α} {n k : Nat} (v : α) (hv : v = g k) (h : ∀ j, j < n → j ≠ k → g j = f j) : ((List.range n).map f).set k v = (List.range n).map g := by
  apply List.ext_getElem?
  intro j
  rw [List.getElem?_set, List.getElem?_map, List.getElem?_map, List.length_map, List.length_range]
  by_cases e : k = j
  · subst e
    by_cases hk : k < n
    · rw [if_pos rfl, if_pos hk, List.getElem?_range hk, hv]; rfl
    · rw [if_pos rfl, if_neg hk, List.getElem?_eq_none (by simpa using hk)]; rfl
  · rw [if_neg e]
    by_cases hj : j < n
    · rw [List.getElem?_range hj]
      show some (f j) = some (g j)
      rw [h j hj (fun z => e z.symm)]
    · rw [List.getElem?_eq_none (by simpa using hj)]; rfl
theorem hp_wl_at {cA : Nat → ClassId} {ad : Nat → Nat} {n : Nat} {h : hp_T} {a : Nat} {z : Nat × Nat} (hz : hp_sh a = z) (ha : a < n) : (hp_wl cA ad n h)[a]? = some (ad a, hp_cell cA ad h a z) := by
  subst hz
  exact hp_map_at ha
theorem hp_fs_at {ad : Nat → Nat} {h : hp_T} {a ci k : Nat} (hk : k < (hp_F.getD ci []).length) : (hp_fs ad h a ci)[k]? = some (hp_fv ad h a (hp_F.getD ci []) k) := hp_map_at hk
/-- cells that the two heaps have alike -/
theorem hp_cell_eq {cA : Nat → ClassId} {ad : Nat → Nat} {h h' : hp_T} {a : Nat} (z : Nat × Nat) (e1 : ∀ j, h'.1 a j = h.1 a j) (e2 : ∀ j, h'.2.1 a j = h.2.1 a j) (e3 : ∀ j, h'.2.2 a j = h.2.2 a j) : hp_cell cA ad h' a z = hp_cell cA ad h a z := by
  have f1 : h'.1 a = h.1 a := funext e1
  have f2 : h'.2.1 a = h.2.1 a := funext e2
  have f3 : h'.2.2 a = h.2.2 a := funext e3
  have f4 : hp_fs ad h' a z.1 = hp_fs ad h a z.1 := by
    unfold hp_fs
    refine List.map_congr_left (fun k _ => ?_)
    unfold hp_fv
    rw [f1, f3]
  unfold hp_cell
  rw [f1, f2, f3, f4]
theorem hp_wl_set {cA : Nat → ClassId} {ad : Nat → Nat} {n : Nat} {h h' : hp_T} {a : Nat} {z : Nat × Nat} (hz : hp_sh a = z) (v : va_E) (hv : v = hp_cell cA ad h' a z) (hx : ∀ b, b ≠ a → (∀ j, h'.1 b j = h.1 b j) ∧ (∀ j, h'.2.1 b j = h.2.1 b j) ∧ ∀ j, h'.2.2 b j = h.2.2 b j) : (hp_wl cA ad n h).set a (ad a, v) = hp_wl cA ad n h' := by
  subst hz
  refine hp_map_set _ (by rw [hv]; rfl) (fun j _ hj => ?_)
  unfold hp_at
  rw [hp_cell_eq _ (hx j hj).1 (hx j hj).2.1 (hx j hj).2.2]
theorem hp_u_ne {α : Type} (f : Nat → Nat → α) {a b : Nat} (k : Nat) (v : α) (h : b ≠ a) (j : Nat) : hp_u f a k v b j = f b j := by unfold hp_u; rw [if_neg (fun q => h q.1)]
theorem hp_sI_off {h : hp_T} {a k : Nat} {v : Int32} : ∀ b, b ≠ a → (∀ j, (hp_sI h a k v).1 b j = h.1 b j) ∧ (∀ j, (hp_sI h a k v).2.1 b j = h.2.1 b j) ∧ ∀ j, (hp_sI h a k v).2.2 b j = h.2.2 b j := fun b hb => ⟨fun j => hp_u_ne _ _ _ hb j, fun _ => rfl, fun _ => rfl⟩
theorem hp_sL_off {h : hp_T} {a k : Nat} {v : Int64} : ∀ b, b ≠ a → (∀ j, (hp_sL h a k v).1 b j = h.1 b j) ∧ (∀ j, (hp_sL h a k v).2.1 b j = h.2.1 b j) ∧ ∀ j, (hp_sL h a k v).2.2 b j = h.2.2 b j := fun b hb => ⟨fun _ => rfl, fun j => hp_u_ne _ _ _ hb j, fun _ => rfl⟩
theorem hp_sR_off {h : hp_T} {a k : Nat} {v : Nat} : ∀ b, b ≠ a → (∀ j, (hp_sR h a k v).1 b j = h.1 b j) ∧ (∀ j, (hp_sR h a k v).2.1 b j = h.2.1 b j) ∧ ∀ j, (hp_sR h a k v).2.2 b j = h.2.2 b j := fun b hb => ⟨fun _ => rfl, fun _ => rfl, fun j => hp_u_ne _ _ _ hb j⟩
theorem hp_wI_off {h : hp_T} {a : Nat} {r : Nat → Int32} : ∀ b, b ≠ a → (∀ j, (hp_wI h a r).1 b j = h.1 b j) ∧ (∀ j, (hp_wI h a r).2.1 b j = h.2.1 b j) ∧ ∀ j, (hp_wI h a r).2.2 b j = h.2.2 b j := fun b hb => ⟨fun j => by show hp_w h.1 a r b j = _; unfold hp_w; rw [if_neg hb], fun _ => rfl, fun _ => rfl⟩
theorem hp_wL_off {h : hp_T} {a : Nat} {r : Nat → Int64} : ∀ b, b ≠ a → (∀ j, (hp_wL h a r).1 b j = h.1 b j) ∧ (∀ j, (hp_wL h a r).2.1 b j = h.2.1 b j) ∧ ∀ j, (hp_wL h a r).2.2 b j = h.2.2 b j := fun b hb => ⟨fun _ => rfl, fun j => by show hp_w h.2.1 a r b j = _; unfold hp_w; rw [if_neg hb], fun _ => rfl⟩
theorem hp_sI_row (h : hp_T) (a k : Nat) (v : Int32) : (hp_sI h a k v).1 a = upd (h.1 a) k v := by
  funext j
  show hp_u h.1 a k v a j = _
  unfold hp_u upd
  by_cases e : j = k <;> simp [e]
theorem hp_sL_row (h : hp_T) (a k : Nat) (v : Int64) : (hp_sL h a k v).2.1 a = vp_updL (h.2.1 a) k v := by
  funext j
  show hp_u h.2.1 a k v a j = _
  unfold hp_u vp_updL
  by_cases e : j = k <;> simp [e]
theorem hp_wI_row (h : hp_T) (a : Nat) (r : Nat → Int32) : (hp_wI h a r).1 a = r := by show hp_w h.1 a r a = r; unfold hp_w; rw [if_pos rfl]
theorem hp_wL_row (h : hp_T) (a : Nat) (r : Nat → Int64) : (hp_wL h a r).2.1 a = r := by show hp_w h.2.1 a r a = r; unfold hp_w; rw [if_pos rfl]
theorem hp_fs_set {ad : Nat → Nat} {h h' : hp_T} {a ci k : Nat} (v : Value) (hv : v = hp_fv ad h' a (hp_F.getD ci []) k) (hx : ∀ j, j ≠ k → h'.1 a j = h.1 a j ∧ h'.2.2 a j = h.2.2 a j) : (hp_fs ad h a ci).set k v = hp_fs ad h' a ci :=
  hp_map_set v hv (fun j _ hj => by unfold hp_fv; rw [(hx j hj).1, (hx j hj).2])
theorem hp_cell_20 {cA : Nat → ClassId} {ad : Nat → Nat} {h : hp_T} {a n : Nat} : hp_cell cA ad h a (20, n) = .inl (cA 0, n, .inl (h.1 a)) := rfl
theorem hp_cell_21 {cA : Nat → ClassId} {ad : Nat → Nat} {h : hp_T} {a n : Nat} : hp_cell cA ad h a (21, n) = .inl (cA 1, n, .inr (.inl (h.2.1 a))) := rfl
theorem hp_cell_22 {cA : Nat → ClassId} {ad : Nat → Nat} {h : hp_T} {a n : Nat} : hp_cell cA ad h a (22, n) = .inl (cA 2, n, .inl (h.1 a)) := rfl
theorem hp_cell_ob {cA : Nat → ClassId} {ad : Nat → Nat} {h : hp_T} {a ci n : Nat} (hc : ci < 20) : hp_cell cA ad h a (ci, n) = .inr (ci, hp_fs ad h a ci) := by
  unfold hp_cell
  rw [if_neg (show ¬ ci = 20 by omega), if_neg (show ¬ ci = 21 by omega), if_neg (show ¬ ci = 22 by omega), if_neg (show ¬ ci = 23 by omega), if_neg (show ¬ ci = 24 by omega)]
theorem hp_D_any {cA : Nat → ClassId} {ad : Nat → Nat} {n : Nat} {h h' : hp_T} {A : Nat → Prop} (hD : va_D A (hp_wl cA ad n h)) : va_D A (hp_wl cA ad n h') := by
  have key : ∀ (i : Nat) (p : Nat × va_E), (hp_wl cA ad n h')[i]? = some p → ∃ q, (hp_wl cA ad n h)[i]? = some q ∧ q.1 = p.1 := by
    intro i p hp
    have hi : i < n := by
      have := (List.getElem?_eq_some_iff.mp hp).1
      simpa [hp_wl] using this
    rw [hp_wl_at rfl hi] at hp
    cases hp
    exact ⟨_, hp_wl_at rfl hi, rfl⟩
  refine ⟨fun i j p q hi hj e => ?_, fun k q hk => ?_⟩
  · obtain ⟨p', h1, h2⟩ := key i p hi
    obtain ⟨q', h3, h4⟩ := key j q hj
    exact hD.1 i j p' q' h1 h3 (h2.trans (e.trans h4.symm))
  · obtain ⟨q', h1, h2⟩ := key k q hk
    rw [← h2]
    exact hD.2 k q' h1
