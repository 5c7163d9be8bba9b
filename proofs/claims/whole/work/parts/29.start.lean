/-! ===== the references that never change, and the three pairs that are exchanged ===== -/
def px_T : List (List Nat) := [[1, 3, 18, 22, 33, 34, 35, 36, 37, 38, 39], [2], [], [4, 8, 12, 13], [5, 6, 7], [], [], [], [9, 10, 11], [], [], [], [], [], [], [], [], [], [19, 20, 21], [], [], [], [23, 28], [24, 25, 26, 27], [], [], [], [], [29, 30, 31, 32], [], [], [], [], [66, 77, 88, 99, 110, 121, 132, 143, 154, 165, 176, 187, 198, 209, 220, 231, 242, 253, 264, 275], [], [], [], [], [286, 288], [287, 289], [41, 47], [42, 43, 44, 45, 46], [], [], [], [], [], [48, 49, 50, 51, 52], [], [], [], [], [], [54, 60], [55, 56, 57, 58, 59], [], [], [], [], [], [61, 62, 63, 64, 65], [], [], [], [], []]
def px_M : List Nat := [999, 291, 999, 292, 293, 294, 295, 999, 999, 999, 999, 999, 999, 999, 999, 999, 999, 999, 296, 297, 298, 299, 999, 300, 301, 302, 303, 304]
def px_B (a k : Nat) : Nat := if a < 66 then (px_T.getD a []).getD k 999 else if a < 286 then (if (a - 66) % 11 = 0 then [a + 1, a + 6].getD k 999 else if (a - 66) % 11 = 1 ∨ (a - 66) % 11 = 6 then [a + 1, a + 2, a + 3, a + 4].getD k 999 else 999) else if a = 290 then px_M.getD k 999 else 999
def px_R (t v w : Bool) (a k : Nat) : Nat :=
  if a = 0 ∧ k = 11 then (if t then 53 else 40) else if a = 0 ∧ k = 12 then (if t then 40 else 53)
  else if a = 3 ∧ k = 4 then (if v then 15 else 14) else if a = 3 ∧ k = 5 then (if v then 14 else 15)
  else if a = 3 ∧ k = 6 then (if w then 17 else 16) else if a = 3 ∧ k = 7 then (if w then 16 else 17) else px_B a k
theorem px_len : ∀ a, a < 306 → (hp_F.getD (hp_sh a).1 []).length ≤ 28 ∧ ((hp_sh a).1 = 23 ∨ (hp_sh a).1 = 24 → (hp_sh a).2 ≤ 28) := by decide +kernel
theorem px_rt_out {a k : Nat} (ha : a < 306) (hk : 28 ≤ k) : hp_rt (hp_sh a) k = none := by
  obtain ⟨h1, h2⟩ := px_len a ha
  unfold hp_rt
  by_cases c1 : (hp_sh a).1 < 20
  · rw [if_pos c1, List.getD_eq_getElem?_getD, List.getElem?_eq_none (by omega)]; rfl
  · rw [if_neg c1]
    by_cases c2 : (hp_sh a).1 = 23
    · rw [if_pos c2, if_neg (by have := h2 (Or.inl c2); omega)]
    · rw [if_neg c2]
      by_cases c3 : (hp_sh a).1 = 24
      · rw [if_pos c3, if_neg (by have := h2 (Or.inr c3); omega)]
      · rw [if_neg c3]
theorem px_ty0 : ∀ t v w : Bool, ∀ a, a < 306 → ∀ k, k < 28 → hp_rt (hp_sh a) k = none ∨ hp_rt (hp_sh a) k = some (hp_sh (px_R t v w a k)) := by decide +kernel
theorem px_Ty (t v w : Bool) : hp_Ty (px_R t v w) := by
  intro a ha k z hz
  rcases Nat.lt_or_ge k 28 with q | q
  · rcases px_ty0 t v w a ha k q with h | h
    · rw [h] at hz; cases hz
    · rw [h] at hz; exact Option.some.inj hz
  · rw [px_rt_out ha q] at hz; cases hz
/-- what is made, with the references in their fixed form -/
def px_hc : hp_T := iX10_init 290 291 iX9_init
def px_h0 : hp_T := (px_hc.1, px_hc.2.1, px_R false false false)
def px_nz (z : Nat × Nat) : Nat := if z.1 = 23 ∨ z.1 = 24 then z.2 else (hp_F.getD z.1 []).length
def px_lk : List (Nat × Nat × Nat) → Nat → Nat → Nat
  | [] => hp_0.2.2
  | q :: r => hp_u (px_lk r) q.1 q.2.1 q.2.2
def px_lkb : List (Nat × Nat × Nat) → Nat → Nat → Nat
  | [], _, _ => 999
  | q :: r, a, k => bif Nat.beq a q.1 && Nat.beq k q.2.1 then q.2.2 else px_lkb r a k
theorem px_lk_eq : ∀ (L : List (Nat × Nat × Nat)) (a k : Nat), px_lk L a k = px_lkb L a k
  | [], a, k => rfl
  | q :: r, a, k => by
    show hp_u (px_lk r) q.1 q.2.1 q.2.2 a k = _
    unfold hp_u px_lkb
    rw [px_lk_eq r a k]
    by_cases h1 : a = q.1
    · by_cases h2 : k = q.2.1
      · rw [if_pos ⟨h1, h2⟩, h1, h2]; simp
      · rw [if_neg (fun c => h2 c.2)]
        have : Nat.beq k q.2.1 = false := by cases e : Nat.beq k q.2.1 with | false => rfl | true => exact absurd (Nat.eq_of_beq_eq_true e) h2
        rw [this, Bool.and_false]; rfl
    · rw [if_neg (fun c => h1 c.1)]
      have : Nat.beq a q.1 = false := by cases e : Nat.beq a q.1 with | false => rfl | true => exact absurd (Nat.eq_of_beq_eq_true e) h1
      rw [this, Bool.false_and]; rfl
def px_up : List (Nat × Nat × Nat) := [(290, 27, 304), (290, 26, 303), (290, 25, 302), (290, 24, 301), (290, 23, 300), (290, 21, 299), (290, 20, 298), (290, 19, 297), (290, 18, 296), (290, 6, 295), (290, 5, 294), (290, 4, 293), (290, 3, 292), (290, 1, 291), (39, (fx_ix (1 : Int32)), 289), (38, (fx_ix (1 : Int32)), 288), (39, (fx_ix (0 : Int32)), 287), (38, (fx_ix (0 : Int32)), 286), (33, (fx_ix (19 : Int32)), 275), (275, 1, 281), (281, 3, 285), (281, 2, 284), (281, 1, 283), (281, 0, 282), (275, 0, 276), (276, 3, 280), (276, 2, 279), (276, 1, 278), (276, 0, 277), (33, (fx_ix (18 : Int32)), 264), (264, 1, 270), (270, 3, 274), (270, 2, 273), (270, 1, 272), (270, 0, 271), (264, 0, 265), (265, 3, 269), (265, 2, 268), (265, 1, 267), (265, 0, 266), (33, (fx_ix (17 : Int32)), 253), (253, 1, 259), (259, 3, 263), (259, 2, 262), (259, 1, 261), (259, 0, 260), (253, 0, 254), (254, 3, 258), (254, 2, 257), (254, 1, 256), (254, 0, 255), (33, (fx_ix (16 : Int32)), 242), (242, 1, 248), (248, 3, 252), (248, 2, 251), (248, 1, 250), (248, 0, 249), (242, 0, 243), (243, 3, 247), (243, 2, 246), (243, 1, 245), (243, 0, 244), (33, (fx_ix (15 : Int32)), 231), (231, 1, 237), (237, 3, 241), (237, 2, 240), (237, 1, 239), (237, 0, 238), (231, 0, 232), (232, 3, 236), (232, 2, 235), (232, 1, 234), (232, 0, 233), (33, (fx_ix (14 : Int32)), 220), (220, 1, 226), (226, 3, 230), (226, 2, 229), (226, 1, 228), (226, 0, 227), (220, 0, 221), (221, 3, 225), (221, 2, 224), (221, 1, 223), (221, 0, 222), (33, (fx_ix (13 : Int32)), 209), (209, 1, 215), (215, 3, 219), (215, 2, 218), (215, 1, 217), (215, 0, 216), (209, 0, 210), (210, 3, 214), (210, 2, 213), (210, 1, 212), (210, 0, 211), (33, (fx_ix (12 : Int32)), 198), (198, 1, 204), (204, 3, 208), (204, 2, 207), (204, 1, 206), (204, 0, 205), (198, 0, 199), (199, 3, 203), (199, 2, 202), (199, 1, 201), (199, 0, 200), (33, (fx_ix (11 : Int32)), 187), (187, 1, 193), (193, 3, 197), (193, 2, 196), (193, 1, 195), (193, 0, 194), (187, 0, 188), (188, 3, 192), (188, 2, 191), (188, 1, 190), (188, 0, 189), (33, (fx_ix (10 : Int32)), 176), (176, 1, 182), (182, 3, 186), (182, 2, 185), (182, 1, 184), (182, 0, 183), (176, 0, 177), (177, 3, 181), (177, 2, 180), (177, 1, 179), (177, 0, 178), (33, (fx_ix (9 : Int32)), 165), (165, 1, 171), (171, 3, 175), (171, 2, 174), (171, 1, 173), (171, 0, 172), (165, 0, 166), (166, 3, 170), (166, 2, 169), (166, 1, 168), (166, 0, 167), (33, (fx_ix (8 : Int32)), 154), (154, 1, 160), (160, 3, 164), (160, 2, 163), (160, 1, 162), (160, 0, 161), (154, 0, 155), (155, 3, 159), (155, 2, 158), (155, 1, 157), (155, 0, 156), (33, (fx_ix (7 : Int32)), 143), (143, 1, 149), (149, 3, 153), (149, 2, 152), (149, 1, 151), (149, 0, 150), (143, 0, 144), (144, 3, 148), (144, 2, 147), (144, 1, 146), (144, 0, 145), (33, (fx_ix (6 : Int32)), 132), (132, 1, 138), (138, 3, 142), (138, 2, 141), (138, 1, 140), (138, 0, 139), (132, 0, 133), (133, 3, 137), (133, 2, 136), (133, 1, 135), (133, 0, 134), (33, (fx_ix (5 : Int32)), 121), (121, 1, 127), (127, 3, 131), (127, 2, 130), (127, 1, 129), (127, 0, 128), (121, 0, 122), (122, 3, 126), (122, 2, 125), (122, 1, 124), (122, 0, 123), (33, (fx_ix (4 : Int32)), 110), (110, 1, 116), (116, 3, 120), (116, 2, 119), (116, 1, 118), (116, 0, 117), (110, 0, 111), (111, 3, 115), (111, 2, 114), (111, 1, 113), (111, 0, 112), (33, (fx_ix (3 : Int32)), 99), (99, 1, 105), (105, 3, 109), (105, 2, 108), (105, 1, 107), (105, 0, 106), (99, 0, 100), (100, 3, 104), (100, 2, 103), (100, 1, 102), (100, 0, 101), (33, (fx_ix (2 : Int32)), 88), (88, 1, 94), (94, 3, 98), (94, 2, 97), (94, 1, 96), (94, 0, 95), (88, 0, 89), (89, 3, 93), (89, 2, 92), (89, 1, 91), (89, 0, 90), (33, (fx_ix (1 : Int32)), 77), (77, 1, 83), (83, 3, 87), (83, 2, 86), (83, 1, 85), (83, 0, 84), (77, 0, 78), (78, 3, 82), (78, 2, 81), (78, 1, 80), (78, 0, 79), (33, (fx_ix (0 : Int32)), 66), (66, 1, 72), (72, 3, 76), (72, 2, 75), (72, 1, 74), (72, 0, 73), (66, 0, 67), (67, 3, 71), (67, 2, 70), (67, 1, 69), (67, 0, 68), (0, 12, 53), (53, 1, 60), (60, 4, 65), (60, 3, 64), (60, 2, 63), (60, 1, 62), (60, 0, 61), (53, 0, 54), (54, 4, 59), (54, 3, 58), (54, 2, 57), (54, 1, 56), (54, 0, 55), (0, 11, 40), (40, 1, 47), (47, 4, 52), (47, 3, 51), (47, 2, 50), (47, 1, 49), (47, 0, 48), (40, 0, 41), (41, 4, 46), (41, 3, 45), (41, 2, 44), (41, 1, 43), (41, 0, 42), (0, 10, 39), (0, 9, 38), (0, 8, 37), (0, 7, 36), (0, 6, 35), (0, 5, 34), (0, 4, 33), (0, 3, 22), (22, 1, 28), (28, 3, 32), (28, 2, 31), (28, 1, 30), (28, 0, 29), (22, 0, 23), (23, 3, 27), (23, 2, 26), (23, 1, 25), (23, 0, 24), (0, 2, 18), (18, 2, 21), (18, 1, 20), (18, 0, 19), (0, 1, 3), (3, 7, 17), (3, 6, 16), (3, 5, 15), (3, 4, 14), (3, 3, 13), (3, 2, 12), (3, 1, 8), (8, 2, 11), (8, 1, 10), (8, 0, 9), (3, 0, 4), (4, 2, 7), (4, 1, 6), (4, 0, 5), (0, 0, 1), (1, 0, 2)]
set_option maxRecDepth 1000000 in
theorem px_hc_R : px_hc.2.2 = px_lk px_up := rfl
def px_agb : Bool := (List.range 306).all fun a => (List.range (px_nz (hp_sh a))).all fun k => Nat.beq (px_lkb px_up a k) (px_R false false false a k)
theorem px_agb_ok : px_agb = true := by decide +kernel
theorem px_agree : ∀ a, a < 306 → ∀ k, k < px_nz (hp_sh a) → px_hc.2.2 a k = px_R false false false a k := by
  intro a ha k hk
  rw [px_hc_R, px_lk_eq]
  exact Nat.eq_of_beq_eq_true (List.all_eq_true.mp (List.all_eq_true.mp px_agb_ok a (List.mem_range.mpr ha)) k (List.mem_range.mpr hk))
theorem px_congr {D : va_G} {cA : Nat → ClassId} {ad : Nat → Nat} {h : hp_T} {R : Nat → Nat → Nat} {H : Heap} (hR : ∀ a, a < 306 → ∀ k, k < px_nz (hp_sh a) → h.2.2 a k = R a k) (hP : va_P D vwCl (hp_wl cA ad 306 h) H) : va_P D vwCl (hp_wl cA ad 306 (h.1, h.2.1, R)) H := by
  intro q x hx
  have hq : q < 306 := by
    have := (List.getElem?_eq_some_iff.mp hx).1
    simpa [hp_wl] using this
  have hn := hR q hq
  have h0 := hP q _ (hp_wl_at rfl hq)
  rw [hp_wl_at rfl hq] at hx
  cases hx
  revert h0
  generalize hp_sh q = z at hn
  obtain ⟨z1, z2⟩ := z
  unfold hp_cell
  dsimp only
  by_cases c1 : z1 = 20
  · rw [if_pos c1, if_pos c1]; exact id
  rw [if_neg c1, if_neg c1]
  by_cases c2 : z1 = 21
  · rw [if_pos c2, if_pos c2]; exact id
  rw [if_neg c2, if_neg c2]
  by_cases c3 : z1 = 22
  · rw [if_pos c3, if_pos c3]; exact id
  rw [if_neg c3, if_neg c3]
  have arr : ∀ c0 : ClassId, z1 = 23 ∨ z1 = 24 → arrV c0 z2 (fun j => va_rf (hp_ro ad (h.2.2 q j))) = arrV c0 z2 (fun j => va_rf (hp_ro ad (R q j))) := by
    intro c0 hz
    unfold arrV
    congr 1
    apply Array.ext
    · simp
    · intro j h1 h2
      simp only [Array.getElem_ofFn]
      rw [hn j (by rw [px_nz, if_pos hz]; simpa using h1)]
  by_cases c4 : z1 = 23
  · rw [if_pos c4, if_pos c4]
    intro h0
    exact (show H[ad q]? = some (arrV (cA 3) z2 (fun j => va_rf (hp_ro ad (h.2.2 q j)))) from h0).trans (by rw [arr (cA 3) (Or.inl c4)]; rfl)
  rw [if_neg c4, if_neg c4]
  by_cases c5 : z1 = 24
  · rw [if_pos c5, if_pos c5]
    intro h0
    exact (show H[ad q]? = some (arrV (cA 4) z2 (fun j => va_rf (hp_ro ad (h.2.2 q j)))) from h0).trans (by rw [arr (cA 4) (Or.inr c5)]; rfl)
  rw [if_neg c5, if_neg c5]
  intro h0
  have e : hp_fs ad (h.1, h.2.1, R) q z1 = hp_fs ad h q z1 := by
    unfold hp_fs
    refine List.map_congr_left (fun k hk => ?_)
    unfold hp_fv
    rw [show h.2.2 q k = R q k from hn k (by rw [px_nz, if_neg (fun c => c.elim c4 c5)]; exact List.mem_range.mp hk)]
  rw [e]
  exact h0
theorem px_in0 : ∀ j, j < 46 → Cond.eq (.elem (.field (.string "CourtSixModel" 101) "java/lang/String" "value" "[B") (.int (Int32.ofNat j))) (.int ((hp_Sb.getD 0 []).getD j 0)) ∈ flatC (Jvm.Cond.and given_1 narrow_1) := by decide +kernel
theorem px_in1 : ∀ j, j < 21 → Cond.eq (.elem (.field (.string "CourtSixModel" 245) "java/lang/String" "value" "[B") (.int (Int32.ofNat j))) (.int ((hp_Sb.getD 1 []).getD j 0)) ∈ flatC (Jvm.Cond.and given_1 narrow_1) := by decide +kernel
theorem px_nm : ∀ q ∈ hp_nm, Cond.methodLinkNest q.1 q.2.1 q.2.2 "CourtSix" ∈ lw_tbl := by decide +kernel
theorem px_nf : ∀ q ∈ hp_nf, Cond.fieldLinkNest q.1 q.2.1 "CourtSix" q.2.2 "[I" "CourtSix" ∈ lw_tbl := by decide +kernel
theorem px_x1 : ∀ w ∈ hp_X1, w ∈ lw_tbl := by decide +kernel
theorem px_x2 : ∀ w ∈ hp_X2, w ∈ lw_tbl := by decide +kernel
theorem px_nc {args : Array Value} {s : State} {X Y : String} (h : (Cond.not (Cond.castable X Y)).before args s = true) : va_Nc X Y s := by
  simp only [Cond.before, Cond.holds, Cond.value] at h
  cases ha : s.vm.findClass X with
  | none => simp [ha] at h
  | some a =>
    cases hb : s.vm.findClass Y with
    | none => simp [ha, hb] at h
    | some c => exact ⟨a, c, ha, hb, by simpa [ha, hb] using h⟩
set_option maxRecDepth 100000 in
set_option maxHeartbeats 4000000 in
theorem px_statics {b : Nat} {s : State} (hts : ∀ w ∈ lw_tbl, w.before #[Value.ref b] s = true) (hgv : (Jvm.Cond.and given_1 narrow_1).before #[Value.ref b] s = true) (A : Nat → Prop) (hA : ∀ a : Nat, a < s.heap.size → ¬ A a) : ∃ zt : Nat → Nat, hp_Z zt A s s.heap ∧ hp_X zt A s s.heap := by
  have hs := flat_of_before _ hgv
  obtain ⟨t0, et0, hT0⟩ := va_Tof (tm := .static "CourtSix" "FIRST_X" "[I") (ty := .int) (N := 6) (f := fun j => .int (hp_zt 0 j)) (A := A) (by decide) (hs _ (by decide +kernel)) (va_eqt (hs _ (by decide +kernel))) (fun j hj => by
    rcases (show j = 0 ∨ j = 1 ∨ j = 2 ∨ j = 3 ∨ j = 4 ∨ j = 5 by omega) with rfl | rfl | rfl | rfl | rfl | rfl
    · exact va_eqt (z := 70) (hs _ (by decide +kernel))
    · exact va_eqt (z := 70) (hs _ (by decide +kernel))
    · exact va_eqt (z := 45) (hs _ (by decide +kernel))
    · exact va_eqt (z := 20) (hs _ (by decide +kernel))
    · exact va_eqt (z := 20) (hs _ (by decide +kernel))
    · exact va_eqt (z := 45) (hs _ (by decide +kernel))) hA
  have hZ0 := va_Zof (C := "CourtSix") (n := "FIRST_X") (d := "[I") (hts _ (List.mem_append_right _ (List.mem_of_getElem? (i := 520) (by decide +kernel)))) (hts _ (List.mem_append_right _ (List.mem_of_getElem? (i := 1) (by decide +kernel)))) et0 hA
  obtain ⟨t1, et1, hT1⟩ := va_Tof (tm := .static "CourtSix" "FIRST_Y" "[I") (ty := .int) (N := 6) (f := fun j => .int (hp_zt 1 j)) (A := A) (by decide) (hs _ (by decide +kernel)) (va_eqt (hs _ (by decide +kernel))) (fun j hj => by
    rcases (show j = 0 ∨ j = 1 ∨ j = 2 ∨ j = 3 ∨ j = 4 ∨ j = 5 by omega) with rfl | rfl | rfl | rfl | rfl | rfl
    · exact va_eqt (z := 70) (hs _ (by decide +kernel))
    · exact va_eqt (z := 20) (hs _ (by decide +kernel))
    · exact va_eqt (z := 20) (hs _ (by decide +kernel))
    · exact va_eqt (z := 20) (hs _ (by decide +kernel))
    · exact va_eqt (z := 70) (hs _ (by decide +kernel))
    · exact va_eqt (z := 70) (hs _ (by decide +kernel))) hA
  have hZ1 := va_Zof (C := "CourtSix") (n := "FIRST_Y") (d := "[I") (hts _ (List.mem_append_right _ (List.mem_of_getElem? (i := 522) (by decide +kernel)))) (hts _ (List.mem_append_right _ (List.mem_of_getElem? (i := 1) (by decide +kernel)))) et1 hA
  obtain ⟨t2, et2, hT2⟩ := va_Tof (tm := .static "CourtSix" "COUPLE_FIRST" "[I") (ty := .int) (N := 7) (f := fun j => .int (hp_zt 2 j)) (A := A) (by decide) (hs _ (by decide +kernel)) (va_eqt (hs _ (by decide +kernel))) (fun j hj => by
    rcases (show j = 0 ∨ j = 1 ∨ j = 2 ∨ j = 3 ∨ j = 4 ∨ j = 5 ∨ j = 6 by omega) with rfl | rfl | rfl | rfl | rfl | rfl | rfl
    · exact va_eqt (z := 4) (hs _ (by decide +kernel))
    · exact va_eqt (z := 3) (hs _ (by decide +kernel))
    · exact va_eqt (z := 2) (hs _ (by decide +kernel))
    · exact va_eqt (z := 4) (hs _ (by decide +kernel))
    · exact va_eqt (z := 3) (hs _ (by decide +kernel))
    · exact va_eqt (z := 5) (hs _ (by decide +kernel))
    · exact va_eqt (z := 6) (hs _ (by decide +kernel))) hA
  have hZ2 := va_Zof (C := "CourtSix") (n := "COUPLE_FIRST") (d := "[I") (hts _ (List.mem_append_right _ (List.mem_of_getElem? (i := 745) (by decide +kernel)))) (hts _ (List.mem_append_right _ (List.mem_of_getElem? (i := 1) (by decide +kernel)))) et2 hA
  obtain ⟨t3, et3, hT3⟩ := va_Tof (tm := .static "CourtSix" "COUPLE_SECOND" "[I") (ty := .int) (N := 7) (f := fun j => .int (hp_zt 3 j)) (A := A) (by decide) (hs _ (by decide +kernel)) (va_eqt (hs _ (by decide +kernel))) (fun j hj => by
    rcases (show j = 0 ∨ j = 1 ∨ j = 2 ∨ j = 3 ∨ j = 4 ∨ j = 5 ∨ j = 6 by omega) with rfl | rfl | rfl | rfl | rfl | rfl | rfl
    · exact va_eqt (z := 5) (hs _ (by decide +kernel))
    · exact va_eqt (z := 6) (hs _ (by decide +kernel))
    · exact va_eqt (z := 1) (hs _ (by decide +kernel))
    · exact va_eqt (z := 3) (hs _ (by decide +kernel))
    · exact va_eqt (z := 2) (hs _ (by decide +kernel))
    · exact va_eqt (z := 6) (hs _ (by decide +kernel))
    · exact va_eqt (z := 1) (hs _ (by decide +kernel))) hA
  have hZ3 := va_Zof (C := "CourtSix") (n := "COUPLE_SECOND") (d := "[I") (hts _ (List.mem_append_right _ (List.mem_of_getElem? (i := 747) (by decide +kernel)))) (hts _ (List.mem_append_right _ (List.mem_of_getElem? (i := 1) (by decide +kernel)))) et3 hA
  obtain ⟨t4, et4, hT4⟩ := va_Tof (tm := .static "CourtSix" "REAR" "[I") (ty := .int) (N := 3) (f := fun j => .int (hp_zt 4 j)) (A := A) (by decide) (hs _ (by decide +kernel)) (va_eqt (hs _ (by decide +kernel))) (fun j hj => by
    rcases (show j = 0 ∨ j = 1 ∨ j = 2 by omega) with rfl | rfl | rfl
    · exact va_eqt (z := 1) (hs _ (by decide +kernel))
    · exact va_eqt (z := 6) (hs _ (by decide +kernel))
    · exact va_eqt (z := 5) (hs _ (by decide +kernel))) hA
  have hZ4 := va_Zof (C := "CourtSix") (n := "REAR") (d := "[I") (hts _ (List.mem_append_right _ (List.mem_of_getElem? (i := 806) (by decide +kernel)))) (hts _ (List.mem_append_right _ (List.mem_of_getElem? (i := 1) (by decide +kernel)))) et4 hA
  have hS2 := vk_Sof (args := #[Value.ref b]) (s := s) (N := 2) (tm := fun i => .string "CourtSixModel" (if i = 0 then 101 else 245)) (len := hp_Sl) (byt := hp_Sb) (A := A) (by decide)
    (fun i hi => by rcases (show i = 0 ∨ i = 1 by omega) with rfl | rfl <;> exact hs _ (by decide +kernel)) (fun i hi => by rcases (show i = 0 ∨ i = 1 by omega) with rfl | rfl <;> exact hs _ (by decide +kernel))
    (fun i hi => by rcases (show i = 0 ∨ i = 1 by omega) with rfl | rfl <;> exact hs _ (by decide +kernel)) (fun i hi => by rcases (show i = 0 ∨ i = 1 by omega) with rfl | rfl <;> exact hs _ (by decide +kernel))
    (fun i hi j hj => by
      rcases (show i = 0 ∨ i = 1 by omega) with rfl | rfl
      · have hj : j < 46 := hj
        exact hs _ (px_in0 j hj)
      · have hj : j < 21 := hj
        exact hs _ (px_in1 j hj))
    (fun i j hi hj hij => by
      rcases (show i = 0 ∨ i = 1 by omega) with rfl | rfl <;> rcases (show j = 0 ∨ j = 1 by omega) with rfl | rfl
      · exact absurd rfl hij
      · exact Or.inl (hs _ (by decide +kernel))
      · exact Or.inr (hs _ (by decide +kernel))
      · exact absurd rfl hij) hA
  obtain ⟨adK, adV, hSS, hSe⟩ := hS2
  obtain ⟨s1, _, _, _, es1, -⟩ := Cond.exactly_spec (args := #[Value.ref b]) (first := s) (o := none) (s := s) (idx := []) (t := .string "CourtSix" 159) (cls := "java/lang/String") (hs _ (by decide +kernel))
  obtain ⟨s2, _, _, _, es2, -⟩ := Cond.exactly_spec (args := #[Value.ref b]) (first := s) (o := none) (s := s) (idx := []) (t := .string "CourtSix" 195) (cls := "java/lang/String") (hs _ (by decide +kernel))
  have hcs := va_Zof (C := "java/lang/String") (n := "COMPACT_STRINGS") (d := "Z") (hts _ (List.mem_append_right _ (List.mem_of_getElem? (i := 1224) (by decide +kernel)))) (hts _ (List.mem_append_right _ (List.mem_of_getElem? (i := 15) (by decide +kernel)))) (va_eqt (z := 1) (hs _ (by decide +kernel))) hA
  have hfm := va_Zqof (C := "jdk/internal/util/Preconditions") (n := "SIOOBE_FORMATTER") (d := "Ljava/util/function/BiFunction;") (hts _ (List.mem_append_right _ (List.mem_of_getElem? (i := 1240) (by decide +kernel)))) (hts _ (List.mem_append_right _ (List.mem_of_getElem? (i := 17) (by decide +kernel)))) (hs _ (by decide +kernel)) hA
  have hun := vx_Zqof (C := Bundle.tN) (n := "UNASSIGNED_STACK") (d := Bundle.steD) (hts _ (List.mem_append_right _ (List.mem_of_getElem? (i := 1026) (by decide +kernel)))) (hts _ (List.mem_append_right _ (List.mem_of_getElem? (i := 19) (by decide +kernel)))) (hs _ (by decide +kernel)) hA
  have hsu := vx_Zqof (C := Bundle.tN) (n := "SUPPRESSED_SENTINEL") (d := Bundle.listD) (hts _ (List.mem_append_right _ (List.mem_of_getElem? (i := 1028) (by decide +kernel)))) (hts _ (List.mem_append_right _ (List.mem_of_getElem? (i := 19) (by decide +kernel)))) (hs _ (by decide +kernel)) hA
  refine ⟨fun i => if i = 0 then t0 else if i = 1 then t1 else if i = 2 then t2 else if i = 3 then t3 else if i = 4 then t4 else if i = 10 then adK 0 else if i = 11 then adK 1 else if i = 12 then s1 else if i = 13 then s2 else if i = 20 then adV 0 else adV 1, ⟨?_, ⟨?_, ?_⟩, ?_, ?_, ?_, hcs, hfm⟩, ?_, ?_, hun, hsu, ?_, ?_, ?_⟩
  · intro i hi
    rcases (show i = 0 ∨ i = 1 ∨ i = 2 ∨ i = 3 ∨ i = 4 by omega) with rfl | rfl | rfl | rfl | rfl
    · exact ⟨hZ0, hT0⟩
    · exact ⟨hZ1, hT1⟩
    · exact ⟨hZ2, hT2⟩
    · exact ⟨hZ3, hT3⟩
    · exact ⟨hZ4, hT4⟩
  · exact vk_R.of (A := #[Value.ref b]) (hts _ (List.mem_append_right _ (List.mem_of_getElem? (i := 1214) (by decide +kernel)))) (hSe 0 (by decide))
  · exact vk_R.of (A := #[Value.ref b]) (hts _ (List.mem_append_right _ (List.mem_of_getElem? (i := 1454) (by decide +kernel)))) (hSe 1 (by decide))
  · refine ⟨fun i hi => ?_, fun i j hi hj e => ?_⟩
    · rcases (show i = 0 ∨ i = 1 by omega) with rfl | rfl
      · exact hSS.1 0 (by decide)
      · exact hSS.1 1 (by decide)
    · rcases (show i = 0 ∨ i = 1 by omega) with rfl | rfl <;> rcases (show j = 0 ∨ j = 1 by omega) with rfl | rfl
      · rfl
      · exact hSS.2 0 1 (by decide) (by decide) e
      · exact hSS.2 1 0 (by decide) (by decide) e
      · rfl
  · intro q hq
    exact va_Nw.of rfl (hts _ (px_nm q hq))
  · intro q hq
    exact va_Nw.of rfl (hts _ (px_nf q hq))
  · intro w hw
    exact va_Nw.of (by have := hp_X1_ok w hw; simp only [Bool.and_eq_true] at this; exact this.1) (hts _ (px_x1 w hw))
  · intro w hw
    exact va_Nw.of (by have := hp_X2_ok w hw; simp only [Bool.and_eq_true] at this; exact this.1) (hts _ (px_x2 w hw))
  · exact vk_R.of (A := #[Value.ref b]) (hts _ (List.mem_append_right _ (List.mem_of_getElem? (i := 1039) (by decide +kernel)))) es1
  · exact vk_R.of (A := #[Value.ref b]) (hts _ (List.mem_append_right _ (List.mem_of_getElem? (i := 1083) (by decide +kernel)))) es2
  · exact px_nc (hs _ (by decide +kernel))
