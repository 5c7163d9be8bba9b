/-- the law's frame, with what it has made so far -/
abbrev xl_K (p : Program) (e : Env) (s : State) (m : MethodId) (below : List Frame) (meth : Method) (c : Code) (b kc ks : Nat) : xr_K := (p, e, room_1, s, m, #[Value.ref b], below, meth, c, lw_Z below #[Value.ref b] s, kc, ks)
abbrev xl_V (G : xr_G) (b j : Nat) : List (Nat × Value) := [(0, .ref b), (1, .ref (G.2.2.1 0)), (2, .ref (G.2.2.1 290)), (3, .ref (G.2.2.1 305)), (4, .int (nI (6 * j)))]
theorem xl_sld {l : Launch} {G : xr_G} {K : xr_K} {cc : ByteArray} {own : String} {nL : Nat} {rm : Room} {ret : Option FieldType} {Qc : Option xr_Q} {h : hp_T} {lv : List (Nat × Value)} {pc : Nat} {st : List Value} {b L i k : Nat} {x v : Int32} {xs : Nat → Int32} (C : xr_C G K cc own nL rm ret Qc) (hX : va_X b L xs K.2.2.2.1 K.2.2.2.1.heap) (hbl : b < K.2.2.2.1.heap.size ∧ ¬ G.2.2.2.1 b) (hx0 : x = nI i) (hv : v = nI k) (hlt : i + k < L) (hL : L ≤ 3072) (d : decode cc pc = .ok (.iaload, 1)) (k0 : xr_j l G K nL h lv (pc + 1) (.int (xs (i + k)) :: st)) : xr_j l G K nL h lv pc (.int (x + v) :: .ref b :: st) := by
  obtain ⟨p, e, R, s, m, args, below, meth, c, Q, kc, ks⟩ := K
  obtain ⟨D, cA, ad, A, zt⟩ := G
  obtain ⟨hx, hb, hml, hown, hts, hK, hD, hZ, hR, hr, hlocks, hcs, hQ⟩ := C
  intro hT H locs ls hP hS hl
  subst hx0
  subst hv
  rw [nI_add]
  have h9 := k0 hT H locs ls hP hS hl
  refine va_sld hx hb hX hbl.1 hbl.2 hS (vp_in_nI hlt (by omega)) d ?_
  rw [nI_clamp (by omega)]
  exact h9
theorem xl_slen {l : Launch} {G : xr_G} {K : xr_K} {cc : ByteArray} {own : String} {nL : Nat} {rm : Room} {ret : Option FieldType} {Qc : Option xr_Q} {h : hp_T} {lv : List (Nat × Value)} {pc : Nat} {st : List Value} {b L : Nat} {xs : Nat → Int32} (C : xr_C G K cc own nL rm ret Qc) (hX : va_X b L xs K.2.2.2.1 K.2.2.2.1.heap) (hbl : b < K.2.2.2.1.heap.size ∧ ¬ G.2.2.2.1 b) (d : decode cc pc = .ok (.arraylength, 1)) (k0 : xr_j l G K nL h lv (pc + 1) (.int (nI L) :: st)) : xr_j l G K nL h lv pc (.ref b :: st) := by
  obtain ⟨p, e, R, s, m, args, below, meth, c, Q, kc, ks⟩ := K
  obtain ⟨D, cA, ad, A, zt⟩ := G
  obtain ⟨hx, hb, hml, hown, hts, hK, hD, hZ, hR, hr, hlocks, hcs, hQ⟩ := C
  intro hT H locs ls hP hS hl
  exact va_slen hx hb hX hbl.1 hbl.2 hS d (k0 hT H locs ls hP hS hl)
theorem lm0_21 : xr_m0 yX9_feed cX9_feed 6 5 (some .int) := ⟨(hp_pl 1 (by decide +kernel) rfl), (hp_pl 391 (by decide +kernel) rfl), by decide +kernel, by decide +kernel, by decide +kernel⟩
theorem lm_21 : xr_mv RL 21 yX9_feed cX9_feed 6 5 (some .int) := ⟨lm0_21, (hp_pl 388 (by decide +kernel) rfl), (hp_pl 389 (by decide +kernel) rfl), (hp_pl 390 (by decide +kernel) rfl)⟩
theorem lm0_25 : xr_m0 yX10_feed cX10_feed 8 5 (some .int) := ⟨(hp_pl 11 (by decide +kernel) rfl), (hp_pl 1190 (by decide +kernel) rfl), by decide +kernel, by decide +kernel, by decide +kernel⟩
theorem lm_25 : xr_mv RL 25 yX10_feed cX10_feed 8 5 (some .int) := ⟨lm0_25, (hp_pl 1187 (by decide +kernel) rfl), (hp_pl 1188 (by decide +kernel) rfl), (hp_pl 1189 (by decide +kernel) rfl)⟩
theorem lm0_26 : xr_m0 yX9_text cX9_text 3 1 (some .int) := ⟨(hp_pl 1 (by decide +kernel) rfl), (hp_pl 399 (by decide +kernel) rfl), by decide +kernel, by decide +kernel, by decide +kernel⟩
theorem lm_26 : xr_mv RL 26 yX9_text cX9_text 3 1 (some .int) := ⟨lm0_26, (hp_pl 396 (by decide +kernel) rfl), (hp_pl 397 (by decide +kernel) rfl), (hp_pl 398 (by decide +kernel) rfl)⟩
theorem lm0_30 : xr_m0 yX10_text cX10_text 3 1 (some .int) := ⟨(hp_pl 11 (by decide +kernel) rfl), (hp_pl 1194 (by decide +kernel) rfl), by decide +kernel, by decide +kernel, by decide +kernel⟩
theorem lm_30 : xr_mv RL 30 yX10_text cX10_text 3 1 (some .int) := ⟨lm0_30, (hp_pl 1191 (by decide +kernel) rfl), (hp_pl 1192 (by decide +kernel) rfl), (hp_pl 1193 (by decide +kernel) rfl)⟩
theorem lm0_31 : xr_m0 yX9_fault cX9_fault 2 1 (some .int) := ⟨(hp_pl 1 (by decide +kernel) rfl), (hp_pl 537 (by decide +kernel) rfl), by decide +kernel, by decide +kernel, by decide +kernel⟩
theorem lm_31 : xr_mv RL 31 yX9_fault cX9_fault 2 1 (some .int) := ⟨lm0_31, (hp_pl 534 (by decide +kernel) rfl), (hp_pl 535 (by decide +kernel) rfl), (hp_pl 536 (by decide +kernel) rfl)⟩
theorem lm0_34 : xr_m0 yX10_fault cX10_fault 2 1 (some .int) := ⟨(hp_pl 11 (by decide +kernel) rfl), (hp_pl 1327 (by decide +kernel) rfl), by decide +kernel, by decide +kernel, by decide +kernel⟩
theorem lm_34 : xr_mv RL 34 yX10_fault cX10_fault 2 1 (some .int) := ⟨lm0_34, (hp_pl 1324 (by decide +kernel) rfl), (hp_pl 1325 (by decide +kernel) rfl), (hp_pl 1326 (by decide +kernel) rfl)⟩
theorem lm0_45 : xr_m0 yX9_on cX9_on 3 2 (some .int) := ⟨(hp_pl 1 (by decide +kernel) rfl), (hp_pl 567 (by decide +kernel) rfl), by decide +kernel, by decide +kernel, by decide +kernel⟩
theorem lm_45 : xr_mv RL 45 yX9_on cX9_on 3 2 (some .int) := ⟨lm0_45, (hp_pl 564 (by decide +kernel) rfl), (hp_pl 565 (by decide +kernel) rfl), (hp_pl 566 (by decide +kernel) rfl)⟩
theorem lm0_49 : xr_m0 yX10_on cX10_on 3 2 (some .int) := ⟨(hp_pl 11 (by decide +kernel) rfl), (hp_pl 1367 (by decide +kernel) rfl), by decide +kernel, by decide +kernel, by decide +kernel⟩
theorem lm_49 : xr_mv RL 49 yX10_on cX10_on 3 2 (some .int) := ⟨lm0_49, (hp_pl 1364 (by decide +kernel) rfl), (hp_pl 1365 (by decide +kernel) rfl), (hp_pl 1366 (by decide +kernel) rfl)⟩
theorem lm0_50 : xr_m0 yX9_lineUp cX9_lineUp 3 2 (some .int) := ⟨(hp_pl 1 (by decide +kernel) rfl), (hp_pl 582 (by decide +kernel) rfl), by decide +kernel, by decide +kernel, by decide +kernel⟩
theorem lm_50 : xr_mv RL 50 yX9_lineUp cX9_lineUp 3 2 (some .int) := ⟨lm0_50, (hp_pl 579 (by decide +kernel) rfl), (hp_pl 580 (by decide +kernel) rfl), (hp_pl 581 (by decide +kernel) rfl)⟩
theorem lm0_53 : xr_m0 yX10_lineUp cX10_lineUp 3 2 (some .int) := ⟨(hp_pl 11 (by decide +kernel) rfl), (hp_pl 1374 (by decide +kernel) rfl), by decide +kernel, by decide +kernel, by decide +kernel⟩
theorem lm_53 : xr_mv RL 53 yX10_lineUp cX10_lineUp 3 2 (some .int) := ⟨lm0_53, (hp_pl 1371 (by decide +kernel) rfl), (hp_pl 1372 (by decide +kernel) rfl), (hp_pl 1373 (by decide +kernel) rfl)⟩
theorem lm0_54 : xr_m0 yX9_point cX9_point 2 1 (some .int) := ⟨(hp_pl 1 (by decide +kernel) rfl), (hp_pl 637 (by decide +kernel) rfl), by decide +kernel, by decide +kernel, by decide +kernel⟩
theorem lm_54 : xr_mv RL 54 yX9_point cX9_point 2 1 (some .int) := ⟨lm0_54, (hp_pl 634 (by decide +kernel) rfl), (hp_pl 635 (by decide +kernel) rfl), (hp_pl 636 (by decide +kernel) rfl)⟩
theorem lm0_57 : xr_m0 yX10_point cX10_point 5 1 (some .int) := ⟨(hp_pl 11 (by decide +kernel) rfl), (hp_pl 1386 (by decide +kernel) rfl), by decide +kernel, by decide +kernel, by decide +kernel⟩
theorem lm_57 : xr_mv RL 57 yX10_point cX10_point 5 1 (some .int) := ⟨lm0_57, (hp_pl 1383 (by decide +kernel) rfl), (hp_pl 1384 (by decide +kernel) rfl), (hp_pl 1385 (by decide +kernel) rfl)⟩
theorem lm0_58 : xr_m0 yX9_sub cX9_sub 6 3 (some .int) := ⟨(hp_pl 1 (by decide +kernel) rfl), (hp_pl 675 (by decide +kernel) rfl), by decide +kernel, by decide +kernel, by decide +kernel⟩
theorem lm_58 : xr_mv RL 58 yX9_sub cX9_sub 6 3 (some .int) := ⟨lm0_58, (hp_pl 672 (by decide +kernel) rfl), (hp_pl 673 (by decide +kernel) rfl), (hp_pl 674 (by decide +kernel) rfl)⟩
theorem lm0_61 : xr_m0 yX10_sub cX10_sub 5 3 (some .int) := ⟨(hp_pl 11 (by decide +kernel) rfl), (hp_pl 1406 (by decide +kernel) rfl), by decide +kernel, by decide +kernel, by decide +kernel⟩
theorem lm_61 : xr_mv RL 61 yX10_sub cX10_sub 5 3 (some .int) := ⟨lm0_61, (hp_pl 1403 (by decide +kernel) rfl), (hp_pl 1404 (by decide +kernel) rfl), (hp_pl 1405 (by decide +kernel) rfl)⟩
theorem lm0_62 : xr_m0 yX9_move cX9_move 6 2 (some .int) := ⟨(hp_pl 1 (by decide +kernel) rfl), (hp_pl 701 (by decide +kernel) rfl), by decide +kernel, by decide +kernel, by decide +kernel⟩
theorem lm_62 : xr_mv RL 62 yX9_move cX9_move 6 2 (some .int) := ⟨lm0_62, (hp_pl 698 (by decide +kernel) rfl), (hp_pl 699 (by decide +kernel) rfl), (hp_pl 700 (by decide +kernel) rfl)⟩
theorem lm0_65 : xr_m0 yX10_move cX10_move 4 2 (some .int) := ⟨(hp_pl 11 (by decide +kernel) rfl), (hp_pl 1422 (by decide +kernel) rfl), by decide +kernel, by decide +kernel, by decide +kernel⟩
theorem lm_65 : xr_mv RL 65 yX10_move cX10_move 4 2 (some .int) := ⟨lm0_65, (hp_pl 1419 (by decide +kernel) rfl), (hp_pl 1420 (by decide +kernel) rfl), (hp_pl 1421 (by decide +kernel) rfl)⟩
theorem lm0_66 : xr_m0 yX9_stand cX9_stand 6 4 (some .boolean) := ⟨(hp_pl 1 (by decide +kernel) rfl), (hp_pl 712 (by decide +kernel) rfl), by decide +kernel, by decide +kernel, by decide +kernel⟩
theorem lm_66 : xr_mv RL 66 yX9_stand cX9_stand 6 4 (some .boolean) := ⟨lm0_66, (hp_pl 709 (by decide +kernel) rfl), (hp_pl 710 (by decide +kernel) rfl), (hp_pl 711 (by decide +kernel) rfl)⟩
theorem lm0_70 : xr_m0 yX10_stand cX10_stand 6 4 (some .boolean) := ⟨(hp_pl 11 (by decide +kernel) rfl), (hp_pl 1437 (by decide +kernel) rfl), by decide +kernel, by decide +kernel, by decide +kernel⟩
theorem lm_70 : xr_mv RL 70 yX10_stand cX10_stand 6 4 (some .boolean) := ⟨lm0_70, (hp_pl 1434 (by decide +kernel) rfl), (hp_pl 1435 (by decide +kernel) rfl), (hp_pl 1436 (by decide +kernel) rfl)⟩
theorem lm0_71 : xr_m0 yX9_standing cX9_standing 5 3 (some .int) := ⟨(hp_pl 1 (by decide +kernel) rfl), (hp_pl 735 (by decide +kernel) rfl), by decide +kernel, by decide +kernel, by decide +kernel⟩
theorem lm_71 : xr_mv RL 71 yX9_standing cX9_standing 5 3 (some .int) := ⟨lm0_71, (hp_pl 732 (by decide +kernel) rfl), (hp_pl 733 (by decide +kernel) rfl), (hp_pl 734 (by decide +kernel) rfl)⟩
theorem lm0_74 : xr_m0 yX10_standing cX10_standing 4 3 (some .int) := ⟨(hp_pl 11 (by decide +kernel) rfl), (hp_pl 1441 (by decide +kernel) rfl), by decide +kernel, by decide +kernel, by decide +kernel⟩
theorem lm_74 : xr_mv RL 74 yX10_standing cX10_standing 4 3 (some .int) := ⟨lm0_74, (hp_pl 1438 (by decide +kernel) rfl), (hp_pl 1439 (by decide +kernel) rfl), (hp_pl 1440 (by decide +kernel) rfl)⟩
theorem lm0_75 : xr_m0 yX9_wrong cX9_wrong 5 2 (some .int) := ⟨(hp_pl 1 (by decide +kernel) rfl), (hp_pl 739 (by decide +kernel) rfl), by decide +kernel, by decide +kernel, by decide +kernel⟩
theorem lm_75 : xr_mv RL 75 yX9_wrong cX9_wrong 5 2 (some .int) := ⟨lm0_75, (hp_pl 736 (by decide +kernel) rfl), (hp_pl 737 (by decide +kernel) rfl), (hp_pl 738 (by decide +kernel) rfl)⟩
theorem lm0_78 : xr_m0 yX10_wrong_ cX10_wrong_ 5 2 (some .int) := ⟨(hp_pl 11 (by decide +kernel) rfl), (hp_pl 1449 (by decide +kernel) rfl), by decide +kernel, by decide +kernel, by decide +kernel⟩
theorem lm_78 : xr_mv RL 78 yX10_wrong_ cX10_wrong_ 5 2 (some .int) := ⟨lm0_78, (hp_pl 1446 (by decide +kernel) rfl), (hp_pl 1447 (by decide +kernel) rfl), (hp_pl 1448 (by decide +kernel) rfl)⟩
theorem lm0_79 : xr_m0 yX9_undo cX9_undo 1 0 (some .int) := ⟨(hp_pl 1 (by decide +kernel) rfl), (hp_pl 719 (by decide +kernel) rfl), by decide +kernel, by decide +kernel, by decide +kernel⟩
theorem lm_79 : xr_mv RL 79 yX9_undo cX9_undo 1 0 (some .int) := ⟨lm0_79, (hp_pl 716 (by decide +kernel) rfl), (hp_pl 717 (by decide +kernel) rfl), (hp_pl 718 (by decide +kernel) rfl)⟩
theorem lm0_82 : xr_m0 yX10_undo cX10_undo 2 0 (some .int) := ⟨(hp_pl 11 (by decide +kernel) rfl), (hp_pl 1382 (by decide +kernel) rfl), by decide +kernel, by decide +kernel, by decide +kernel⟩
theorem lm_82 : xr_mv RL 82 yX10_undo cX10_undo 2 0 (some .int) := ⟨lm0_82, (hp_pl 1379 (by decide +kernel) rfl), (hp_pl 1380 (by decide +kernel) rfl), (hp_pl 1381 (by decide +kernel) rfl)⟩
theorem lm0_83 : xr_m0 yX9_now cX9_now 2 1 (some .int) := ⟨(hp_pl 1 (by decide +kernel) rfl), (hp_pl 751 (by decide +kernel) rfl), by decide +kernel, by decide +kernel, by decide +kernel⟩
theorem lm_83 : xr_mv RL 83 yX9_now cX9_now 2 1 (some .int) := ⟨lm0_83, (hp_pl 748 (by decide +kernel) rfl), (hp_pl 749 (by decide +kernel) rfl), (hp_pl 750 (by decide +kernel) rfl)⟩
theorem lm0_86 : xr_m0 yX10_now cX10_now 2 1 (some .int) := ⟨(hp_pl 11 (by decide +kernel) rfl), (hp_pl 1458 (by decide +kernel) rfl), by decide +kernel, by decide +kernel, by decide +kernel⟩
theorem lm_86 : xr_mv RL 86 yX10_now cX10_now 2 1 (some .int) := ⟨lm0_86, (hp_pl 1455 (by decide +kernel) rfl), (hp_pl 1456 (by decide +kernel) rfl), (hp_pl 1457 (by decide +kernel) rfl)⟩
theorem lm0_87 : xr_m0 yX9_chance cX9_chance 1 0 (some .int) := ⟨(hp_pl 1 (by decide +kernel) rfl), (hp_pl 781 (by decide +kernel) rfl), by decide +kernel, by decide +kernel, by decide +kernel⟩
theorem lm_87 : xr_mv RL 87 yX9_chance cX9_chance 1 0 (some .int) := ⟨lm0_87, (hp_pl 778 (by decide +kernel) rfl), (hp_pl 779 (by decide +kernel) rfl), (hp_pl 780 (by decide +kernel) rfl)⟩
theorem lm0_90 : xr_m0 yX10_chance cX10_chance 1 0 (some .int) := ⟨(hp_pl 11 (by decide +kernel) rfl), (hp_pl 1462 (by decide +kernel) rfl), by decide +kernel, by decide +kernel, by decide +kernel⟩
theorem lm_90 : xr_mv RL 90 yX10_chance cX10_chance 1 0 (some .int) := ⟨lm0_90, (hp_pl 1459 (by decide +kernel) rfl), (hp_pl 1460 (by decide +kernel) rfl), (hp_pl 1461 (by decide +kernel) rfl)⟩
theorem lm0_91 : xr_m0 yX9_chanceAt cX9_chanceAt 4 3 (some .int) := ⟨(hp_pl 1 (by decide +kernel) rfl), (hp_pl 793 (by decide +kernel) rfl), by decide +kernel, by decide +kernel, by decide +kernel⟩
theorem lm_91 : xr_mv RL 91 yX9_chanceAt cX9_chanceAt 4 3 (some .int) := ⟨lm0_91, (hp_pl 790 (by decide +kernel) rfl), (hp_pl 791 (by decide +kernel) rfl), (hp_pl 792 (by decide +kernel) rfl)⟩
theorem lm0_94 : xr_m0 yX10_chanceAt cX10_chanceAt 4 3 (some .int) := ⟨(hp_pl 11 (by decide +kernel) rfl), (hp_pl 1478 (by decide +kernel) rfl), by decide +kernel, by decide +kernel, by decide +kernel⟩
theorem lm_94 : xr_mv RL 94 yX10_chanceAt cX10_chanceAt 4 3 (some .int) := ⟨lm0_94, (hp_pl 1475 (by decide +kernel) rfl), (hp_pl 1476 (by decide +kernel) rfl), (hp_pl 1477 (by decide +kernel) rfl)⟩
theorem lm0_95 : xr_m0 yX9_value cX9_value 1 0 (some .int) := ⟨(hp_pl 1 (by decide +kernel) rfl), (hp_pl 845 (by decide +kernel) rfl), by decide +kernel, by decide +kernel, by decide +kernel⟩
theorem lm_95 : xr_mv RL 95 yX9_value cX9_value 1 0 (some .int) := ⟨lm0_95, (hp_pl 842 (by decide +kernel) rfl), (hp_pl 843 (by decide +kernel) rfl), (hp_pl 844 (by decide +kernel) rfl)⟩
theorem lm0_98 : xr_m0 yX10_value cX10_value 1 0 (some .int) := ⟨(hp_pl 11 (by decide +kernel) rfl), (hp_pl 1490 (by decide +kernel) rfl), by decide +kernel, by decide +kernel, by decide +kernel⟩
theorem lm_98 : xr_mv RL 98 yX10_value cX10_value 1 0 (some .int) := ⟨lm0_98, (hp_pl 1487 (by decide +kernel) rfl), (hp_pl 1488 (by decide +kernel) rfl), (hp_pl 1489 (by decide +kernel) rfl)⟩
theorem lm0_99 : xr_m0 yX9_valueAt cX9_valueAt 6 5 (some .int) := ⟨(hp_pl 1 (by decide +kernel) rfl), (hp_pl 870 (by decide +kernel) rfl), by decide +kernel, by decide +kernel, by decide +kernel⟩
theorem lm_99 : xr_mv RL 99 yX9_valueAt cX9_valueAt 6 5 (some .int) := ⟨lm0_99, (hp_pl 867 (by decide +kernel) rfl), (hp_pl 868 (by decide +kernel) rfl), (hp_pl 869 (by decide +kernel) rfl)⟩
theorem lm0_102 : xr_m0 yX10_valueAt cX10_valueAt 6 5 (some .int) := ⟨(hp_pl 11 (by decide +kernel) rfl), (hp_pl 1511 (by decide +kernel) rfl), by decide +kernel, by decide +kernel, by decide +kernel⟩
theorem lm_102 : xr_mv RL 102 yX10_valueAt cX10_valueAt 6 5 (some .int) := ⟨lm0_102, (hp_pl 1508 (by decide +kernel) rfl), (hp_pl 1509 (by decide +kernel) rfl), (hp_pl 1510 (by decide +kernel) rfl)⟩
theorem lm0_103 : xr_m0 yX9_table cX9_table 3 2 (some .int) := ⟨(hp_pl 1 (by decide +kernel) rfl), (hp_pl 935 (by decide +kernel) rfl), by decide +kernel, by decide +kernel, by decide +kernel⟩
theorem lm_103 : xr_mv RL 103 yX9_table cX9_table 3 2 (some .int) := ⟨lm0_103, (hp_pl 932 (by decide +kernel) rfl), (hp_pl 933 (by decide +kernel) rfl), (hp_pl 934 (by decide +kernel) rfl)⟩
theorem lm0_106 : xr_m0 yX10_table cX10_table 3 2 (some .int) := ⟨(hp_pl 11 (by decide +kernel) rfl), (hp_pl 1519 (by decide +kernel) rfl), by decide +kernel, by decide +kernel, by decide +kernel⟩
theorem lm_106 : xr_mv RL 106 yX10_table cX10_table 3 2 (some .int) := ⟨lm0_106, (hp_pl 1516 (by decide +kernel) rfl), (hp_pl 1517 (by decide +kernel) rfl), (hp_pl 1518 (by decide +kernel) rfl)⟩
theorem lm0_107 : xr_m0 yX9_safe cX9_safe 3 2 (some .int) := ⟨(hp_pl 1 (by decide +kernel) rfl), (hp_pl 947 (by decide +kernel) rfl), by decide +kernel, by decide +kernel, by decide +kernel⟩
theorem lm_107 : xr_mv RL 107 yX9_safe cX9_safe 3 2 (some .int) := ⟨lm0_107, (hp_pl 944 (by decide +kernel) rfl), (hp_pl 945 (by decide +kernel) rfl), (hp_pl 946 (by decide +kernel) rfl)⟩
theorem lm0_110 : xr_m0 yX10_safe cX10_safe 4 2 (some .int) := ⟨(hp_pl 11 (by decide +kernel) rfl), (hp_pl 1535 (by decide +kernel) rfl), by decide +kernel, by decide +kernel, by decide +kernel⟩
theorem lm_110 : xr_mv RL 110 yX10_safe cX10_safe 4 2 (some .int) := ⟨lm0_110, (hp_pl 1532 (by decide +kernel) rfl), (hp_pl 1533 (by decide +kernel) rfl), (hp_pl 1534 (by decide +kernel) rfl)⟩
theorem lm0_111 : xr_m0 yX9_saddle cX9_saddle 2 0 (some .int) := ⟨(hp_pl 1 (by decide +kernel) rfl), (hp_pl 965 (by decide +kernel) rfl), by decide +kernel, by decide +kernel, by decide +kernel⟩
theorem lm_111 : xr_mv RL 111 yX9_saddle cX9_saddle 2 0 (some .int) := ⟨lm0_111, (hp_pl 962 (by decide +kernel) rfl), (hp_pl 963 (by decide +kernel) rfl), (hp_pl 964 (by decide +kernel) rfl)⟩
theorem lm0_114 : xr_m0 yX10_saddle cX10_saddle 1 0 (some .int) := ⟨(hp_pl 11 (by decide +kernel) rfl), (hp_pl 1549 (by decide +kernel) rfl), by decide +kernel, by decide +kernel, by decide +kernel⟩
theorem lm_114 : xr_mv RL 114 yX10_saddle cX10_saddle 1 0 (some .int) := ⟨lm0_114, (hp_pl 1546 (by decide +kernel) rfl), (hp_pl 1547 (by decide +kernel) rfl), (hp_pl 1548 (by decide +kernel) rfl)⟩
theorem lm0_115 : xr_m0 yX9_reply cX9_reply 3 2 (some .int) := ⟨(hp_pl 1 (by decide +kernel) rfl), (hp_pl 969 (by decide +kernel) rfl), by decide +kernel, by decide +kernel, by decide +kernel⟩
theorem lm_115 : xr_mv RL 115 yX9_reply cX9_reply 3 2 (some .int) := ⟨lm0_115, (hp_pl 966 (by decide +kernel) rfl), (hp_pl 967 (by decide +kernel) rfl), (hp_pl 968 (by decide +kernel) rfl)⟩
theorem lm0_118 : xr_m0 yX10_reply cX10_reply 6 2 (some .int) := ⟨(hp_pl 11 (by decide +kernel) rfl), (hp_pl 1553 (by decide +kernel) rfl), by decide +kernel, by decide +kernel, by decide +kernel⟩
theorem lm_118 : xr_mv RL 118 yX10_reply cX10_reply 6 2 (some .int) := ⟨lm0_118, (hp_pl 1550 (by decide +kernel) rfl), (hp_pl 1551 (by decide +kernel) rfl), (hp_pl 1552 (by decide +kernel) rfl)⟩
theorem lm0_119 : xr_m0 yX9_worth cX9_worth 6 1 (some .int) := ⟨(hp_pl 1 (by decide +kernel) rfl), (hp_pl 878 (by decide +kernel) rfl), by decide +kernel, by decide +kernel, by decide +kernel⟩
theorem lm_119 : xr_mv RL 119 yX9_worth cX9_worth 6 1 (some .int) := ⟨lm0_119, (hp_pl 875 (by decide +kernel) rfl), (hp_pl 876 (by decide +kernel) rfl), (hp_pl 877 (by decide +kernel) rfl)⟩
theorem lm0_122 : xr_m0 yX10_worth cX10_worth 6 1 (some .int) := ⟨(hp_pl 11 (by decide +kernel) rfl), (hp_pl 1557 (by decide +kernel) rfl), by decide +kernel, by decide +kernel, by decide +kernel⟩
theorem lm_122 : xr_mv RL 122 yX10_worth cX10_worth 6 1 (some .int) := ⟨lm0_122, (hp_pl 1554 (by decide +kernel) rfl), (hp_pl 1555 (by decide +kernel) rfl), (hp_pl 1556 (by decide +kernel) rfl)⟩
theorem lm0_123 : xr_m0 yX9_ifSub cX9_ifSub 5 3 (some .int) := ⟨(hp_pl 1 (by decide +kernel) rfl), (hp_pl 883 (by decide +kernel) rfl), by decide +kernel, by decide +kernel, by decide +kernel⟩
theorem lm_123 : xr_mv RL 123 yX9_ifSub cX9_ifSub 5 3 (some .int) := ⟨lm0_123, (hp_pl 880 (by decide +kernel) rfl), (hp_pl 881 (by decide +kernel) rfl), (hp_pl 882 (by decide +kernel) rfl)⟩
theorem lm0_126 : xr_m0 yX10_ifSub cX10_ifSub 5 3 (some .int) := ⟨(hp_pl 11 (by decide +kernel) rfl), (hp_pl 1562 (by decide +kernel) rfl), by decide +kernel, by decide +kernel, by decide +kernel⟩
theorem lm_126 : xr_mv RL 126 yX10_ifSub cX10_ifSub 5 3 (some .int) := ⟨lm0_126, (hp_pl 1559 (by decide +kernel) rfl), (hp_pl 1560 (by decide +kernel) rfl), (hp_pl 1561 (by decide +kernel) rfl)⟩
theorem lm0_127 : xr_m0 yX9_bestSub cX9_bestSub 4 2 (some .int) := ⟨(hp_pl 1 (by decide +kernel) rfl), (hp_pl 892 (by decide +kernel) rfl), by decide +kernel, by decide +kernel, by decide +kernel⟩
theorem lm_127 : xr_mv RL 127 yX9_bestSub cX9_bestSub 4 2 (some .int) := ⟨lm0_127, (hp_pl 889 (by decide +kernel) rfl), (hp_pl 890 (by decide +kernel) rfl), (hp_pl 891 (by decide +kernel) rfl)⟩
theorem lm0_130 : xr_m0 yX10_bestSub cX10_bestSub 10 2 (some .int) := ⟨(hp_pl 11 (by decide +kernel) rfl), (hp_pl 1570 (by decide +kernel) rfl), by decide +kernel, by decide +kernel, by decide +kernel⟩
theorem lm_130 : xr_mv RL 130 yX10_bestSub cX10_bestSub 10 2 (some .int) := ⟨lm0_130, (hp_pl 1567 (by decide +kernel) rfl), (hp_pl 1568 (by decide +kernel) rfl), (hp_pl 1569 (by decide +kernel) rfl)⟩
theorem lm0_131 : xr_m0 yX9_bestMove cX9_bestMove 5 2 (some .int) := ⟨(hp_pl 1 (by decide +kernel) rfl), (hp_pl 804 (by decide +kernel) rfl), by decide +kernel, by decide +kernel, by decide +kernel⟩
theorem lm_131 : xr_mv RL 131 yX9_bestMove cX9_bestMove 5 2 (some .int) := ⟨lm0_131, (hp_pl 801 (by decide +kernel) rfl), (hp_pl 802 (by decide +kernel) rfl), (hp_pl 803 (by decide +kernel) rfl)⟩
theorem lm0_134 : xr_m0 yX10_bestMove cX10_bestMove 10 2 (some .int) := ⟨(hp_pl 11 (by decide +kernel) rfl), (hp_pl 1574 (by decide +kernel) rfl), by decide +kernel, by decide +kernel, by decide +kernel⟩
theorem lm_134 : xr_mv RL 134 yX10_bestMove cX10_bestMove 10 2 (some .int) := ⟨lm0_134, (hp_pl 1571 (by decide +kernel) rfl), (hp_pl 1572 (by decide +kernel) rfl), (hp_pl 1573 (by decide +kernel) rfl)⟩
theorem lm0_135 : xr_m0 yX9_likely cX9_likely 3 2 (some .int) := ⟨(hp_pl 1 (by decide +kernel) rfl), (hp_pl 900 (by decide +kernel) rfl), by decide +kernel, by decide +kernel, by decide +kernel⟩
theorem lm_135 : xr_mv RL 135 yX9_likely cX9_likely 3 2 (some .int) := ⟨lm0_135, (hp_pl 897 (by decide +kernel) rfl), (hp_pl 898 (by decide +kernel) rfl), (hp_pl 899 (by decide +kernel) rfl)⟩
theorem lm0_138 : xr_m0 yX10_likely cX10_likely 3 2 (some .int) := ⟨(hp_pl 11 (by decide +kernel) rfl), (hp_pl 1606 (by decide +kernel) rfl), by decide +kernel, by decide +kernel, by decide +kernel⟩
theorem lm_138 : xr_mv RL 138 yX10_likely cX10_likely 3 2 (some .int) := ⟨lm0_138, (hp_pl 1603 (by decide +kernel) rfl), (hp_pl 1604 (by decide +kernel) rfl), (hp_pl 1605 (by decide +kernel) rfl)⟩
theorem lm0_139 : xr_m0 yX9_ends cX9_ends 5 2 (some .int) := ⟨(hp_pl 1 (by decide +kernel) rfl), (hp_pl 926 (by decide +kernel) rfl), by decide +kernel, by decide +kernel, by decide +kernel⟩
theorem lm_139 : xr_mv RL 139 yX9_ends cX9_ends 5 2 (some .int) := ⟨lm0_139, (hp_pl 923 (by decide +kernel) rfl), (hp_pl 924 (by decide +kernel) rfl), (hp_pl 925 (by decide +kernel) rfl)⟩
theorem lm0_142 : xr_m0 yX10_ends cX10_ends 5 2 (some .int) := ⟨(hp_pl 11 (by decide +kernel) rfl), (hp_pl 1624 (by decide +kernel) rfl), by decide +kernel, by decide +kernel, by decide +kernel⟩
theorem lm_142 : xr_mv RL 142 yX10_ends cX10_ends 5 2 (some .int) := ⟨lm0_142, (hp_pl 1621 (by decide +kernel) rfl), (hp_pl 1622 (by decide +kernel) rfl), (hp_pl 1623 (by decide +kernel) rfl)⟩
theorem lm0_143 : xr_m0 yX9_length cX9_length 5 0 (some .int) := ⟨(hp_pl 1 (by decide +kernel) rfl), (hp_pl 930 (by decide +kernel) rfl), by decide +kernel, by decide +kernel, by decide +kernel⟩
theorem lm_143 : xr_mv RL 143 yX9_length cX9_length 5 0 (some .int) := ⟨lm0_143, (hp_pl 927 (by decide +kernel) rfl), (hp_pl 928 (by decide +kernel) rfl), (hp_pl 929 (by decide +kernel) rfl)⟩
theorem lm0_146 : xr_m0 yX10_length cX10_length 5 0 (some .int) := ⟨(hp_pl 11 (by decide +kernel) rfl), (hp_pl 1628 (by decide +kernel) rfl), by decide +kernel, by decide +kernel, by decide +kernel⟩
theorem lm_146 : xr_mv RL 146 yX10_length cX10_length 5 0 (some .int) := ⟨lm0_146, (hp_pl 1625 (by decide +kernel) rfl), (hp_pl 1626 (by decide +kernel) rfl), (hp_pl 1627 (by decide +kernel) rfl)⟩
theorem lm0_147 : xr_m0 yX9_streak cX9_streak 4 2 (some .int) := ⟨(hp_pl 1 (by decide +kernel) rfl), (hp_pl 835 (by decide +kernel) rfl), by decide +kernel, by decide +kernel, by decide +kernel⟩
theorem lm_147 : xr_mv RL 147 yX9_streak cX9_streak 4 2 (some .int) := ⟨lm0_147, (hp_pl 832 (by decide +kernel) rfl), (hp_pl 833 (by decide +kernel) rfl), (hp_pl 834 (by decide +kernel) rfl)⟩
theorem lm0_150 : xr_m0 yX10_streak cX10_streak 10 2 (some .int) := ⟨(hp_pl 11 (by decide +kernel) rfl), (hp_pl 1633 (by decide +kernel) rfl), by decide +kernel, by decide +kernel, by decide +kernel⟩
theorem lm_150 : xr_mv RL 150 yX10_streak cX10_streak 10 2 (some .int) := ⟨lm0_150, (hp_pl 1630 (by decide +kernel) rfl), (hp_pl 1631 (by decide +kernel) rfl), (hp_pl 1632 (by decide +kernel) rfl)⟩
theorem lm0_151 : xr_m0 yX9_weak cX9_weak 3 2 (some .int) := ⟨(hp_pl 1 (by decide +kernel) rfl), (hp_pl 823 (by decide +kernel) rfl), by decide +kernel, by decide +kernel, by decide +kernel⟩
theorem lm_151 : xr_mv RL 151 yX9_weak cX9_weak 3 2 (some .int) := ⟨lm0_151, (hp_pl 820 (by decide +kernel) rfl), (hp_pl 821 (by decide +kernel) rfl), (hp_pl 822 (by decide +kernel) rfl)⟩
theorem lm0_154 : xr_m0 yX10_weak cX10_weak 7 2 (some .int) := ⟨(hp_pl 11 (by decide +kernel) rfl), (hp_pl 1637 (by decide +kernel) rfl), by decide +kernel, by decide +kernel, by decide +kernel⟩
theorem lm_154 : xr_mv RL 154 yX10_weak cX10_weak 7 2 (some .int) := ⟨lm0_154, (hp_pl 1634 (by decide +kernel) rfl), (hp_pl 1635 (by decide +kernel) rfl), (hp_pl 1636 (by decide +kernel) rfl)⟩
theorem lm0_155 : xr_m0 yX9_ifSwapped cX9_ifSwapped 4 3 (some .int) := ⟨(hp_pl 1 (by decide +kernel) rfl), (hp_pl 977 (by decide +kernel) rfl), by decide +kernel, by decide +kernel, by decide +kernel⟩
theorem lm_155 : xr_mv RL 155 yX9_ifSwapped cX9_ifSwapped 4 3 (some .int) := ⟨lm0_155, (hp_pl 974 (by decide +kernel) rfl), (hp_pl 975 (by decide +kernel) rfl), (hp_pl 976 (by decide +kernel) rfl)⟩
theorem lm0_158 : xr_m0 yX10_ifSwapped cX10_ifSwapped 4 3 (some .int) := ⟨(hp_pl 11 (by decide +kernel) rfl), (hp_pl 1641 (by decide +kernel) rfl), by decide +kernel, by decide +kernel, by decide +kernel⟩
theorem lm_158 : xr_mv RL 158 yX10_ifSwapped cX10_ifSwapped 4 3 (some .int) := ⟨lm0_158, (hp_pl 1638 (by decide +kernel) rfl), (hp_pl 1639 (by decide +kernel) rfl), (hp_pl 1640 (by decide +kernel) rfl)⟩
theorem lm0_159 : xr_m0 yX9_strength cX9_strength 4 2 (some .int) := ⟨(hp_pl 1 (by decide +kernel) rfl), (hp_pl 586 (by decide +kernel) rfl), by decide +kernel, by decide +kernel, by decide +kernel⟩
theorem lm_159 : xr_mv RL 159 yX9_strength cX9_strength 4 2 (some .int) := ⟨lm0_159, (hp_pl 583 (by decide +kernel) rfl), (hp_pl 584 (by decide +kernel) rfl), (hp_pl 585 (by decide +kernel) rfl)⟩
theorem lm0_162 : xr_m0 yX10_strength cX10_strength 6 2 (some .int) := ⟨(hp_pl 11 (by decide +kernel) rfl), (hp_pl 1578 (by decide +kernel) rfl), by decide +kernel, by decide +kernel, by decide +kernel⟩
theorem lm_162 : xr_mv RL 162 yX10_strength cX10_strength 6 2 (some .int) := ⟨lm0_162, (hp_pl 1575 (by decide +kernel) rfl), (hp_pl 1576 (by decide +kernel) rfl), (hp_pl 1577 (by decide +kernel) rfl)⟩
theorem lm0_163 : xr_m0 yX9_together cX9_together 10 4 (some .int) := ⟨(hp_pl 1 (by decide +kernel) rfl), (hp_pl 617 (by decide +kernel) rfl), by decide +kernel, by decide +kernel, by decide +kernel⟩
theorem lm_163 : xr_mv RL 163 yX9_together cX9_together 10 4 (some .int) := ⟨lm0_163, (hp_pl 614 (by decide +kernel) rfl), (hp_pl 615 (by decide +kernel) rfl), (hp_pl 616 (by decide +kernel) rfl)⟩
theorem lm0_167 : xr_m0 yX10_together cX10_together 11 4 (some .int) := ⟨(hp_pl 11 (by decide +kernel) rfl), (hp_pl 1582 (by decide +kernel) rfl), by decide +kernel, by decide +kernel, by decide +kernel⟩
theorem lm_167 : xr_mv RL 167 yX10_together cX10_together 11 4 (some .int) := ⟨lm0_167, (hp_pl 1579 (by decide +kernel) rfl), (hp_pl 1580 (by decide +kernel) rfl), (hp_pl 1581 (by decide +kernel) rfl)⟩
theorem lm0_168 : xr_m0 yX9_strong cX9_strong 3 2 (some .int) := ⟨(hp_pl 1 (by decide +kernel) rfl), (hp_pl 831 (by decide +kernel) rfl), by decide +kernel, by decide +kernel, by decide +kernel⟩
theorem lm_168 : xr_mv RL 168 yX9_strong cX9_strong 3 2 (some .int) := ⟨lm0_168, (hp_pl 828 (by decide +kernel) rfl), (hp_pl 829 (by decide +kernel) rfl), (hp_pl 830 (by decide +kernel) rfl)⟩
theorem lm0_171 : xr_m0 yX10_strong cX10_strong 7 2 (some .int) := ⟨(hp_pl 11 (by decide +kernel) rfl), (hp_pl 1590 (by decide +kernel) rfl), by decide +kernel, by decide +kernel, by decide +kernel⟩
theorem lm_171 : xr_mv RL 171 yX10_strong cX10_strong 7 2 (some .int) := ⟨lm0_171, (hp_pl 1587 (by decide +kernel) rfl), (hp_pl 1588 (by decide +kernel) rfl), (hp_pl 1589 (by decide +kernel) rfl)⟩
theorem lm0_172 : xr_m0 yX9_maySub cX9_maySub 4 3 (some .int) := ⟨(hp_pl 1 (by decide +kernel) rfl), (hp_pl 723 (by decide +kernel) rfl), by decide +kernel, by decide +kernel, by decide +kernel⟩
theorem lm_172 : xr_mv RL 172 yX9_maySub cX9_maySub 4 3 (some .int) := ⟨lm0_172, (hp_pl 720 (by decide +kernel) rfl), (hp_pl 721 (by decide +kernel) rfl), (hp_pl 722 (by decide +kernel) rfl)⟩
theorem lm0_175 : xr_m0 yX10_maySub cX10_maySub 4 3 (some .int) := ⟨(hp_pl 11 (by decide +kernel) rfl), (hp_pl 1594 (by decide +kernel) rfl), by decide +kernel, by decide +kernel, by decide +kernel⟩
theorem lm_175 : xr_mv RL 175 yX10_maySub cX10_maySub 4 3 (some .int) := ⟨lm0_175, (hp_pl 1591 (by decide +kernel) rfl), (hp_pl 1592 (by decide +kernel) rfl), (hp_pl 1593 (by decide +kernel) rfl)⟩
theorem lm0_176 : xr_m0 yX9_mayMove cX9_mayMove 3 2 (some .int) := ⟨(hp_pl 1 (by decide +kernel) rfl), (hp_pl 727 (by decide +kernel) rfl), by decide +kernel, by decide +kernel, by decide +kernel⟩
theorem lm_176 : xr_mv RL 176 yX9_mayMove cX9_mayMove 3 2 (some .int) := ⟨lm0_176, (hp_pl 724 (by decide +kernel) rfl), (hp_pl 725 (by decide +kernel) rfl), (hp_pl 726 (by decide +kernel) rfl)⟩
theorem lm0_179 : xr_m0 yX10_mayMove cX10_mayMove 3 2 (some .int) := ⟨(hp_pl 11 (by decide +kernel) rfl), (hp_pl 1598 (by decide +kernel) rfl), by decide +kernel, by decide +kernel, by decide +kernel⟩
theorem lm_179 : xr_mv RL 179 yX10_mayMove cX10_mayMove 3 2 (some .int) := ⟨lm0_179, (hp_pl 1595 (by decide +kernel) rfl), (hp_pl 1596 (by decide +kernel) rfl), (hp_pl 1597 (by decide +kernel) rfl)⟩
theorem lm0_180 : xr_m0 yX9_subsNow cX9_subsNow 6 1 (some .int) := ⟨(hp_pl 1 (by decide +kernel) rfl), (hp_pl 731 (by decide +kernel) rfl), by decide +kernel, by decide +kernel, by decide +kernel⟩
theorem lm_180 : xr_mv RL 180 yX9_subsNow cX9_subsNow 6 1 (some .int) := ⟨lm0_180, (hp_pl 728 (by decide +kernel) rfl), (hp_pl 729 (by decide +kernel) rfl), (hp_pl 730 (by decide +kernel) rfl)⟩
theorem lm0_183 : xr_m0 yX10_subsNow cX10_subsNow 5 1 (some .int) := ⟨(hp_pl 11 (by decide +kernel) rfl), (hp_pl 1602 (by decide +kernel) rfl), by decide +kernel, by decide +kernel, by decide +kernel⟩
theorem lm_183 : xr_mv RL 183 yX10_subsNow cX10_subsNow 5 1 (some .int) := ⟨lm0_183, (hp_pl 1599 (by decide +kernel) rfl), (hp_pl 1600 (by decide +kernel) rfl), (hp_pl 1601 (by decide +kernel) rfl)⟩
theorem lm0_184 : xr_m0 yX9_bestSwap cX9_bestSwap 4 2 (some .int) := ⟨(hp_pl 1 (by decide +kernel) rfl), (hp_pl 985 (by decide +kernel) rfl), by decide +kernel, by decide +kernel, by decide +kernel⟩
theorem lm_184 : xr_mv RL 184 yX9_bestSwap cX9_bestSwap 4 2 (some .int) := ⟨lm0_184, (hp_pl 982 (by decide +kernel) rfl), (hp_pl 983 (by decide +kernel) rfl), (hp_pl 984 (by decide +kernel) rfl)⟩
theorem lm0_187 : xr_m0 yX10_bestSwap cX10_bestSwap 10 2 (some .int) := ⟨(hp_pl 11 (by decide +kernel) rfl), (hp_pl 1649 (by decide +kernel) rfl), by decide +kernel, by decide +kernel, by decide +kernel⟩
theorem lm_187 : xr_mv RL 187 yX10_bestSwap cX10_bestSwap 10 2 (some .int) := ⟨lm0_187, (hp_pl 1646 (by decide +kernel) rfl), (hp_pl 1647 (by decide +kernel) rfl), (hp_pl 1648 (by decide +kernel) rfl)⟩
theorem lm0_188 : xr_m0 yX9_ranked cX9_ranked 5 2 (some .int) := ⟨(hp_pl 1 (by decide +kernel) rfl), (hp_pl 555 (by decide +kernel) rfl), by decide +kernel, by decide +kernel, by decide +kernel⟩
theorem lm_188 : xr_mv RL 188 yX9_ranked cX9_ranked 5 2 (some .int) := ⟨lm0_188, (hp_pl 552 (by decide +kernel) rfl), (hp_pl 553 (by decide +kernel) rfl), (hp_pl 554 (by decide +kernel) rfl)⟩
theorem lm0_191 : xr_m0 yX10_ranked cX10_ranked 6 2 (some .int) := ⟨(hp_pl 11 (by decide +kernel) rfl), (hp_pl 1653 (by decide +kernel) rfl), by decide +kernel, by decide +kernel, by decide +kernel⟩
theorem lm_191 : xr_mv RL 191 yX10_ranked cX10_ranked 6 2 (some .int) := ⟨lm0_191, (hp_pl 1650 (by decide +kernel) rfl), (hp_pl 1651 (by decide +kernel) rfl), (hp_pl 1652 (by decide +kernel) rfl)⟩
theorem lm0_192 : xr_m0 yX9_named cX9_named 4 2 (some .int) := ⟨(hp_pl 1 (by decide +kernel) rfl), (hp_pl 541 (by decide +kernel) rfl), by decide +kernel, by decide +kernel, by decide +kernel⟩
theorem lm_192 : xr_mv RL 192 yX9_named cX9_named 4 2 (some .int) := ⟨lm0_192, (hp_pl 538 (by decide +kernel) rfl), (hp_pl 539 (by decide +kernel) rfl), (hp_pl 540 (by decide +kernel) rfl)⟩
theorem lm0_195 : xr_m0 yX10_named cX10_named 4 2 (some .int) := ⟨(hp_pl 11 (by decide +kernel) rfl), (hp_pl 1661 (by decide +kernel) rfl), by decide +kernel, by decide +kernel, by decide +kernel⟩
theorem lm_195 : xr_mv RL 195 yX10_named cX10_named 4 2 (some .int) := ⟨lm0_195, (hp_pl 1658 (by decide +kernel) rfl), (hp_pl 1659 (by decide +kernel) rfl), (hp_pl 1660 (by decide +kernel) rfl)⟩
theorem lm0_196 : xr_m0 yX9_run cX9_run 3 1 (some .int) := ⟨(hp_pl 1 (by decide +kernel) rfl), (hp_pl 755 (by decide +kernel) rfl), by decide +kernel, by decide +kernel, by decide +kernel⟩
theorem lm_196 : xr_mv RL 196 yX9_run cX9_run 3 1 (some .int) := ⟨lm0_196, (hp_pl 752 (by decide +kernel) rfl), (hp_pl 753 (by decide +kernel) rfl), (hp_pl 754 (by decide +kernel) rfl)⟩
theorem lm0_199 : xr_m0 yX10_run cX10_run 6 1 (some .int) := ⟨(hp_pl 11 (by decide +kernel) rfl), (hp_pl 1665 (by decide +kernel) rfl), by decide +kernel, by decide +kernel, by decide +kernel⟩
theorem lm_199 : xr_mv RL 199 yX10_run cX10_run 6 1 (some .int) := ⟨lm0_199, (hp_pl 1662 (by decide +kernel) rfl), (hp_pl 1663 (by decide +kernel) rfl), (hp_pl 1664 (by decide +kernel) rfl)⟩
theorem lm0_200 : xr_m0 yX9_was cX9_was 3 2 (some .int) := ⟨(hp_pl 1 (by decide +kernel) rfl), (hp_pl 777 (by decide +kernel) rfl), by decide +kernel, by decide +kernel, by decide +kernel⟩
theorem lm_200 : xr_mv RL 200 yX9_was cX9_was 3 2 (some .int) := ⟨lm0_200, (hp_pl 774 (by decide +kernel) rfl), (hp_pl 775 (by decide +kernel) rfl), (hp_pl 776 (by decide +kernel) rfl)⟩
theorem lm0_203 : xr_m0 yX10_was cX10_was 3 2 (some .int) := ⟨(hp_pl 11 (by decide +kernel) rfl), (hp_pl 1681 (by decide +kernel) rfl), by decide +kernel, by decide +kernel, by decide +kernel⟩
theorem lm_203 : xr_mv RL 203 yX10_was cX10_was 3 2 (some .int) := ⟨lm0_203, (hp_pl 1678 (by decide +kernel) rfl), (hp_pl 1679 (by decide +kernel) rfl), (hp_pl 1680 (by decide +kernel) rfl)⟩
theorem lm0_204 : xr_m0 yX9_till cX9_till 5 3 (some .int) := ⟨(hp_pl 1 (by decide +kernel) rfl), (hp_pl 633 (by decide +kernel) rfl), by decide +kernel, by decide +kernel, by decide +kernel⟩
theorem lm_204 : xr_mv RL 204 yX9_till cX9_till 5 3 (some .int) := ⟨lm0_204, (hp_pl 630 (by decide +kernel) rfl), (hp_pl 631 (by decide +kernel) rfl), (hp_pl 632 (by decide +kernel) rfl)⟩
theorem lm0_207 : xr_m0 yX10_till cX10_till 5 3 (some .int) := ⟨(hp_pl 11 (by decide +kernel) rfl), (hp_pl 1685 (by decide +kernel) rfl), by decide +kernel, by decide +kernel, by decide +kernel⟩
theorem lm_207 : xr_mv RL 207 yX10_till cX10_till 5 3 (some .int) := ⟨lm0_207, (hp_pl 1682 (by decide +kernel) rfl), (hp_pl 1683 (by decide +kernel) rfl), (hp_pl 1684 (by decide +kernel) rfl)⟩
theorem lm0_208 : xr_m0 yX9_count cX9_count 2 1 (some .int) := ⟨(hp_pl 1 (by decide +kernel) rfl), (hp_pl 551 (by decide +kernel) rfl), by decide +kernel, by decide +kernel, by decide +kernel⟩
theorem lm_208 : xr_mv RL 208 yX9_count cX9_count 2 1 (some .int) := ⟨lm0_208, (hp_pl 548 (by decide +kernel) rfl), (hp_pl 549 (by decide +kernel) rfl), (hp_pl 550 (by decide +kernel) rfl)⟩
theorem lm0_211 : xr_m0 yX10_count cX10_count 2 1 (some .int) := ⟨(hp_pl 11 (by decide +kernel) rfl), (hp_pl 1689 (by decide +kernel) rfl), by decide +kernel, by decide +kernel, by decide +kernel⟩
theorem lm_211 : xr_mv RL 211 yX10_count cX10_count 2 1 (some .int) := ⟨lm0_211, (hp_pl 1686 (by decide +kernel) rfl), (hp_pl 1687 (by decide +kernel) rfl), (hp_pl 1688 (by decide +kernel) rfl)⟩
/-! what the class and the reference owe: a call on both answers alike, and keeps the invariant -/
def lw_o0 (Inv : hp_T → Prop) (fx fm : hp_T → Option (Int32 × hp_T)) : Prop := ∀ (h : hp_T), Inv h → ∃ (r : Int32) (h1 h2 : hp_T), fx  h = some (r, h1) ∧ fm  h1 = some (r, h2) ∧ Inv h2
def lw_o1 (Inv : hp_T → Prop) (fx fm : Int32 → hp_T → Option (Int32 × hp_T)) : Prop := ∀ (h : hp_T), Inv h → ∀ (a1 : Int32), ∃ (r : Int32) (h1 h2 : hp_T), fx a1 h = some (r, h1) ∧ fm a1 h1 = some (r, h2) ∧ Inv h2
def lw_o2 (Inv : hp_T → Prop) (fx fm : Int32 → Int32 → hp_T → Option (Int32 × hp_T)) : Prop := ∀ (h : hp_T), Inv h → ∀ (a1 a2 : Int32), ∃ (r : Int32) (h1 h2 : hp_T), fx a1 a2 h = some (r, h1) ∧ fm a1 a2 h1 = some (r, h2) ∧ Inv h2
def lw_o3 (Inv : hp_T → Prop) (fx fm : Int32 → Int32 → Int32 → hp_T → Option (Int32 × hp_T)) : Prop := ∀ (h : hp_T), Inv h → ∀ (a1 a2 a3 : Int32), ∃ (r : Int32) (h1 h2 : hp_T), fx a1 a2 a3 h = some (r, h1) ∧ fm a1 a2 a3 h1 = some (r, h2) ∧ Inv h2
def lw_o4 (Inv : hp_T → Prop) (fx fm : Int32 → Int32 → Int32 → Int32 → hp_T → Option (Int32 × hp_T)) : Prop := ∀ (h : hp_T), Inv h → ∀ (a1 a2 a3 a4 : Int32), ∃ (r : Int32) (h1 h2 : hp_T), fx a1 a2 a3 a4 h = some (r, h1) ∧ fm a1 a2 a3 a4 h1 = some (r, h2) ∧ Inv h2
def lw_o5 (Inv : hp_T → Prop) (fx fm : Int32 → Int32 → Int32 → Int32 → Int32 → hp_T → Option (Int32 × hp_T)) : Prop := ∀ (h : hp_T), Inv h → ∀ (a1 a2 a3 a4 a5 : Int32), ∃ (r : Int32) (h1 h2 : hp_T), fx a1 a2 a3 a4 a5 h = some (r, h1) ∧ fm a1 a2 a3 a4 a5 h1 = some (r, h2) ∧ Inv h2
/-- player: an answer, or one of the two throws -/
def lw_op (Inv : hp_T → Prop) : Prop := ∀ (h : hp_T), Inv h → ∀ (a1 a2 a3 : Int32),
  (∃ (r : Int32) (h1 h2 h3 : hp_T), fX9_player 0 a1 a2 a3 h = some (r, h1) ∧ fX10_player 290 a1 a2 a3 (hp_sL h1 305 0 (Int32.toInt64 r)) = some (r, h2) ∧ fX10_thrown 290 h2 = some (0, h3) ∧ h3.2.1 305 0 = Int32.toInt64 r ∧ Inv h3) ∨
  (∃ (r : Int32) (h2 h3 : hp_T), fX9_isPlayer 0 a1 a2 h = some (0, h) ∧ fX10_player 290 a1 a2 a3 h = some (r, h2) ∧ fX10_thrown 290 h2 = some (1, h3) ∧ Inv h3) ∨
  (∃ (q0 r : Int32) (q : Nat) (h2 h3 : hp_T), fX9_isPlayer 0 a1 a2 h = some (q0, h) ∧ ¬ q0 = 0 ∧ fX8_squad (h.2.2 0 11) a1 h = some (q, h) ∧ (a3.toInt < 0 ∨ 7 < a3.toInt) ∧ fX10_player 290 a1 a2 a3 h = some (r, h2) ∧ fX10_thrown 290 h2 = some (2, h3) ∧ Inv h3)
theorem lm0_40 : xr_m0 yX10_player cX10_player 4 3 (some .int) := ⟨(hp_pl 11 (by decide +kernel) rfl), (hp_pl 1331 (by decide +kernel) rfl), by decide +kernel, by decide +kernel, by decide +kernel⟩
theorem lm_40 : xr_mv RL 40 yX10_player cX10_player 4 3 (some .int) := ⟨lm0_40, (hp_pl 1328 (by decide +kernel) rfl), (hp_pl 1329 (by decide +kernel) rfl), (hp_pl 1330 (by decide +kernel) rfl)⟩
theorem lm0_41 : xr_m0 yX10_thrown cX10_thrown 1 0 (some .int) := ⟨(hp_pl 11 (by decide +kernel) rfl), (hp_pl 1186 (by decide +kernel) rfl), by decide +kernel, by decide +kernel, by decide +kernel⟩
theorem lm_41 : xr_mv RL 41 yX10_thrown cX10_thrown 1 0 (some .int) := ⟨lm0_41, (hp_pl 1183 (by decide +kernel) rfl), (hp_pl 1184 (by decide +kernel) rfl), (hp_pl 1185 (by decide +kernel) rfl)⟩
theorem xl_callP {l : Launch} {G : xr_G} {p : Program} {e : Env} {s : State} {m : MethodId} {below : List Frame} {meth : Method} {c : Code} {b kc ks mc ms pc : Nat} {rm2 : Room} {h h1 : hp_T} {lv : List (Nat × Value)} {rest : List Value} {a0 a4 : Nat} {a1 a2 a3 k : Int32} (C : xr_C G (xl_K p e s m below meth c b kc ks) cL_law RL 7 room_1 (some .boolean) none) (hX : hp_X G.2.2.2.2 G.2.2.2.1 s s.heap) (hM : Met l yL_player (lp_code :: hp_GL) rm2 (va_Pc (lp_av G a0 a1 a2 a3 a4) (fun U => hp_PX G h U)) (xr_Qi G k h1) mc ms G.2.2.2.1) (r1 : rm2.cells = mc) (r2 : rm2.slots = ms) (r3 : rm2.frames + 1 ≤ 14) (r4 : 8 + (6 + 11) + rm2.locals ≤ 530) (hf : kc + mc ≤ 601024 ∧ ks + ms ≤ 7293034) (hw0 : (rest.map fun v => v.category).sum ≤ 8) (d : decode cL_law pc = .ok (.invokestatic 35, 3)) (k0 : xr_j l G (xl_K p e s m below meth c b (kc + mc) (ks + ms)) 7 h1 lv (pc + 3) (.int k :: rest)) : xr_j l G (xl_K p e s m below meth c b kc ks) 7 h lv pc (.ref (G.2.2.1 a4) :: .int a3 :: .int a2 :: .int a1 :: .ref (G.2.2.1 a0) :: rest) := by
  obtain ⟨D, cA, ad, A, zt⟩ := G
  obtain ⟨hx, hb, hml, hown, hts, hK, hD, hZ, hR, hr, hlocks, hcs, hQ⟩ := C
  intro hT H locs ls hP hS hl
  have hpre : ∀ U : State, U.heap = H → s.WarmedH U.vm → hp_PX (D, cA, ad, A, zt) h U := fun U hU hW => ⟨⟨by rw [hU]; exact hP, va_K.moved hW.alike hK, hD h, hp_Z.moved hW (by rw [hU]; exact hp_Z.kept hZ (fun q h1 h2 => hS.2.1 q h1 h2)), hT⟩, hp_X.moved hW (by rw [hU]; exact hp_X.kept hX (fun q h1 h2 => hS.2.1 q h1 h2))⟩
  have hcw : vx_CSW room_1 s #[Value.ref b] RL 35 yL_player cL_player 6 (some .int) lp_hh (lp_code :: hp_GL) rm2 mc ms 5 := ⟨⟨r1, r2, r3, r4, pay_in hts (hp_goodG lp_in), List.mem_cons_self⟩, hts _ lp_in, hts _ (hp_pl 0 (by decide +kernel) rfl), ⟨by decide +kernel, by decide +kernel⟩, fun sig h => by
    have h2 : (parseMethodDescriptor yL_player.desc).map (fun d => d.parameters.length) = some 5 := by decide +kernel
    rw [h] at h2
    exact (Option.some.inj h2).symm, hts _ (hp_pl 990 (by decide +kernel) rfl), hts _ (hp_pl 991 (by decide +kernel) rfl)⟩
  refine va_calli (vx_runSW (As := [.ref (ad a0), .int a1, .int a2, .int a3, .ref (ad a4)]) (rest := rest) ⟨hx, hb, hml, hown, hts⟩ hM hcw ⟨xp_blind _ _ _, fun U hU hW => ⟨rfl, hpre U hU hW⟩⟩ rfl rfl hl.1 rfl (lv_room hw0) d hf) hS (fun q _ z => z) (fun q z => z) (fun r2 u t H1 locs1 ht hvm hw hB hz1 hk1 hS1 => ?_)
  obtain rfl : r2 = k := hw
  obtain ⟨hP1, hK1, hD1, hZ1, hT1⟩ := hB
  rw [ht] at hP1
  exact k0 hT1 H1 locs1 ls hP1 hS1 hl
def lw_OPS (Inv : hp_T → Prop) : Prop := lw_o5 Inv (fun a1 a2 a3 a4 a5 h => fX9_feed 0 a1 a2 a3 a4 a5 h) (fun a1 a2 a3 a4 a5 h => fX10_feed 290 a1 a2 a3 a4 a5 h) ∧ lw_o1 Inv (fun a1 h => fX9_text 0 a1 h) (fun a1 h => fX10_text 290 a1 h) ∧ lw_o1 Inv (fun a1 h => fX9_fault 0 a1 h) (fun a1 h => fX10_fault 290 a1 h) ∧ lw_op Inv ∧ lw_o2 Inv (fun a1 a2 h => fX9_on 0 a1 a2 h) (fun a1 a2 h => fX10_on 290 a1 a2 h) ∧ lw_o2 Inv (fun a1 a2 h => fX9_lineUp 0 a1 a2 h) (fun a1 a2 h => fX10_lineUp 290 a1 a2 h) ∧ lw_o1 Inv (fun a1 h => fX9_point 0 a1 h) (fun a1 h => fX10_point 290 a1 h) ∧ lw_o3 Inv (fun a1 a2 a3 h => fX9_sub 0 a1 a2 a3 h) (fun a1 a2 a3 h => fX10_sub 290 a1 a2 a3 h) ∧ lw_o2 Inv (fun a1 a2 h => fX9_move 0 a1 a2 h) (fun a1 a2 h => fX10_move 290 a1 a2 h) ∧ lw_o4 Inv (fun a1 a2 a3 a4 h => fX9_stand 0 a1 a2 a3 a4 h) (fun a1 a2 a3 a4 h => fX10_stand 290 a1 a2 a3 a4 h) ∧ lw_o3 Inv (fun a1 a2 a3 h => fX9_standing 0 a1 a2 a3 h) (fun a1 a2 a3 h => fX10_standing 290 a1 a2 a3 h) ∧ lw_o2 Inv (fun a1 a2 h => fX9_wrong 0 a1 a2 h) (fun a1 a2 h => fX10_wrong_ 290 a1 a2 h) ∧ lw_o0 Inv (fun h => fX9_undo 0 h) (fun h => fX10_undo 290 h) ∧ lw_o1 Inv (fun a1 h => fX9_now 0 a1 h) (fun a1 h => fX10_now 290 a1 h) ∧ lw_o0 Inv (fun h => fX9_chance 0 h) (fun h => fX10_chance 290 h) ∧ lw_o3 Inv (fun a1 a2 a3 h => fX9_chanceAt 0 a1 a2 a3 h) (fun a1 a2 a3 h => fX10_chanceAt 290 a1 a2 a3 h) ∧ lw_o0 Inv (fun h => fX9_value 0 h) (fun h => fX10_value 290 h) ∧ lw_o5 Inv (fun a1 a2 a3 a4 a5 h => fX9_valueAt 0 a1 a2 a3 a4 a5 h) (fun a1 a2 a3 a4 a5 h => fX10_valueAt 290 a1 a2 a3 a4 a5 h) ∧ lw_o2 Inv (fun a1 a2 h => fX9_table 0 a1 a2 h) (fun a1 a2 h => fX10_table 290 a1 a2 h) ∧ lw_o2 Inv (fun a1 a2 h => fX9_safe 0 a1 a2 h) (fun a1 a2 h => fX10_safe 290 a1 a2 h) ∧ lw_o0 Inv (fun h => fX9_saddle 0 h) (fun h => fX10_saddle 290 h) ∧ lw_o2 Inv (fun a1 a2 h => fX9_reply 0 a1 a2 h) (fun a1 a2 h => fX10_reply 290 a1 a2 h) ∧ lw_o1 Inv (fun a1 h => fX9_worth 0 a1 h) (fun a1 h => fX10_worth 290 a1 h) ∧ lw_o3 Inv (fun a1 a2 a3 h => fX9_ifSub 0 a1 a2 a3 h) (fun a1 a2 a3 h => fX10_ifSub 290 a1 a2 a3 h) ∧ lw_o2 Inv (fun a1 a2 h => fX9_bestSub 0 a1 a2 h) (fun a1 a2 h => fX10_bestSub 290 a1 a2 h) ∧ lw_o2 Inv (fun a1 a2 h => fX9_bestMove 0 a1 a2 h) (fun a1 a2 h => fX10_bestMove 290 a1 a2 h) ∧ lw_o2 Inv (fun a1 a2 h => fX9_likely 0 a1 a2 h) (fun a1 a2 h => fX10_likely 290 a1 a2 h) ∧ lw_o2 Inv (fun a1 a2 h => fX9_ends 0 a1 a2 h) (fun a1 a2 h => fX10_ends 290 a1 a2 h) ∧ lw_o0 Inv (fun h => fX9_length 0 h) (fun h => fX10_length 290 h) ∧ lw_o2 Inv (fun a1 a2 h => fX9_streak 0 a1 a2 h) (fun a1 a2 h => fX10_streak 290 a1 a2 h) ∧ lw_o2 Inv (fun a1 a2 h => fX9_weak 0 a1 a2 h) (fun a1 a2 h => fX10_weak 290 a1 a2 h) ∧ lw_o3 Inv (fun a1 a2 a3 h => fX9_ifSwapped 0 a1 a2 a3 h) (fun a1 a2 a3 h => fX10_ifSwapped 290 a1 a2 a3 h) ∧ lw_o2 Inv (fun a1 a2 h => fX9_strength 0 a1 a2 h) (fun a1 a2 h => fX10_strength 290 a1 a2 h) ∧ lw_o4 Inv (fun a1 a2 a3 a4 h => fX9_together 0 a1 a2 a3 a4 h) (fun a1 a2 a3 a4 h => fX10_together 290 a1 a2 a3 a4 h) ∧ lw_o2 Inv (fun a1 a2 h => fX9_strong 0 a1 a2 h) (fun a1 a2 h => fX10_strong 290 a1 a2 h) ∧ lw_o3 Inv (fun a1 a2 a3 h => fX9_maySub 0 a1 a2 a3 h) (fun a1 a2 a3 h => fX10_maySub 290 a1 a2 a3 h) ∧ lw_o2 Inv (fun a1 a2 h => fX9_mayMove 0 a1 a2 h) (fun a1 a2 h => fX10_mayMove 290 a1 a2 h) ∧ lw_o1 Inv (fun a1 h => fX9_subsNow 0 a1 h) (fun a1 h => fX10_subsNow 290 a1 h) ∧ lw_o2 Inv (fun a1 a2 h => fX9_bestSwap 0 a1 a2 h) (fun a1 a2 h => fX10_bestSwap 290 a1 a2 h) ∧ lw_o2 Inv (fun a1 a2 h => fX9_ranked 0 a1 a2 h) (fun a1 a2 h => fX10_ranked 290 a1 a2 h) ∧ lw_o2 Inv (fun a1 a2 h => fX9_named 0 a1 a2 h) (fun a1 a2 h => fX10_named 290 a1 a2 h) ∧ lw_o1 Inv (fun a1 h => fX9_run 0 a1 h) (fun a1 h => fX10_run 290 a1 h) ∧ lw_o2 Inv (fun a1 a2 h => fX9_was 0 a1 a2 h) (fun a1 a2 h => fX10_was 290 a1 a2 h) ∧ lw_o3 Inv (fun a1 a2 a3 h => fX9_till 0 a1 a2 a3 h) (fun a1 a2 a3 h => fX10_till 290 a1 a2 a3 h) ∧ lw_o1 Inv (fun a1 h => fX9_count 0 a1 h) (fun a1 h => fX10_count 290 a1 h)
theorem fx_out45 {x : Int32} (c0 : ¬ x = 0) (c1 : ¬ x = 1) (c2 : ¬ x = 2) (c3 : ¬ x = 3) (c4 : ¬ x = 4) (c5 : ¬ x = 5) (c6 : ¬ x = 6) (c7 : ¬ x = 7) (c8 : ¬ x = 8) (c9 : ¬ x = 9) (c10 : ¬ x = 10) (c11 : ¬ x = 11) (c12 : ¬ x = 12) (c13 : ¬ x = 13) (c14 : ¬ x = 14) (c15 : ¬ x = 15) (c16 : ¬ x = 16) (c17 : ¬ x = 17) (c18 : ¬ x = 18) (c19 : ¬ x = 19) (c20 : ¬ x = 20) (c21 : ¬ x = 21) (c22 : ¬ x = 22) (c23 : ¬ x = 23) (c24 : ¬ x = 24) (c25 : ¬ x = 25) (c26 : ¬ x = 26) (c27 : ¬ x = 27) (c28 : ¬ x = 28) (c29 : ¬ x = 29) (c30 : ¬ x = 30) (c31 : ¬ x = 31) (c32 : ¬ x = 32) (c33 : ¬ x = 33) (c34 : ¬ x = 34) (c35 : ¬ x = 35) (c36 : ¬ x = 36) (c37 : ¬ x = 37) (c38 : ¬ x = 38) (c39 : ¬ x = 39) (c40 : ¬ x = 40) (c41 : ¬ x = 41) (c42 : ¬ x = 42) (c43 : ¬ x = 43) (c44 : ¬ x = 44) : x.toInt < 0 ∨ 44 < x.toInt := by
  rcases Int.lt_or_le x.toInt 0 with h | h
  · exact Or.inl h
  · rcases Int.lt_or_le 44 x.toInt with h9 | h9
    · exact Or.inr h9
    · exfalso
      have key : ∀ (v : Int32) (z : Int), v.toInt = z → ¬ x = v → ¬ x.toInt = z := fun v z q c e => c (Int32.toInt_inj.mp (e.trans q.symm))
      have k0 := key 0 0 (by decide) c0
      have k1 := key 1 1 (by decide) c1
      have k2 := key 2 2 (by decide) c2
      have k3 := key 3 3 (by decide) c3
      have k4 := key 4 4 (by decide) c4
      have k5 := key 5 5 (by decide) c5
      have k6 := key 6 6 (by decide) c6
      have k7 := key 7 7 (by decide) c7
      have k8 := key 8 8 (by decide) c8
      have k9 := key 9 9 (by decide) c9
      have k10 := key 10 10 (by decide) c10
      have k11 := key 11 11 (by decide) c11
      have k12 := key 12 12 (by decide) c12
      have k13 := key 13 13 (by decide) c13
      have k14 := key 14 14 (by decide) c14
      have k15 := key 15 15 (by decide) c15
      have k16 := key 16 16 (by decide) c16
      have k17 := key 17 17 (by decide) c17
      have k18 := key 18 18 (by decide) c18
      have k19 := key 19 19 (by decide) c19
      have k20 := key 20 20 (by decide) c20
      have k21 := key 21 21 (by decide) c21
      have k22 := key 22 22 (by decide) c22
      have k23 := key 23 23 (by decide) c23
      have k24 := key 24 24 (by decide) c24
      have k25 := key 25 25 (by decide) c25
      have k26 := key 26 26 (by decide) c26
      have k27 := key 27 27 (by decide) c27
      have k28 := key 28 28 (by decide) c28
      have k29 := key 29 29 (by decide) c29
      have k30 := key 30 30 (by decide) c30
      have k31 := key 31 31 (by decide) c31
      have k32 := key 32 32 (by decide) c32
      have k33 := key 33 33 (by decide) c33
      have k34 := key 34 34 (by decide) c34
      have k35 := key 35 35 (by decide) c35
      have k36 := key 36 36 (by decide) c36
      have k37 := key 37 37 (by decide) c37
      have k38 := key 38 38 (by decide) c38
      have k39 := key 39 39 (by decide) c39
      have k40 := key 40 40 (by decide) c40
      have k41 := key 41 41 (by decide) c41
      have k42 := key 42 42 (by decide) c42
      have k43 := key 43 43 (by decide) c43
      have k44 := key 44 44 (by decide) c44
      omega
theorem xl_lt {L i : Nat} (hL : L ≤ 3072) (h : L < i + 6) (hi : i ≤ 100000) : nI L - 6 < nI i := by
  rw [Int32.lt_iff_toInt_lt, show (6 : Int32) = nI 6 by decide, pk_sub_toInt (by omega) (by omega), nI_toInt (by omega)]
  omega
theorem xl_sld0 {l : Launch} {G : xr_G} {K : xr_K} {cc : ByteArray} {own : String} {nL : Nat} {rm : Room} {ret : Option FieldType} {Qc : Option xr_Q} {h : hp_T} {lv : List (Nat × Value)} {pc : Nat} {st : List Value} {b L i : Nat} {x : Int32} {xs : Nat → Int32} (C : xr_C G K cc own nL rm ret Qc) (hX : va_X b L xs K.2.2.2.1 K.2.2.2.1.heap) (hbl : b < K.2.2.2.1.heap.size ∧ ¬ G.2.2.2.1 b) (hx0 : x = nI i) (hlt : i < L) (hL : L ≤ 3072) (d : decode cc pc = .ok (.iaload, 1)) (k0 : xr_j l G K nL h lv (pc + 1) (.int (xs i) :: st)) : xr_j l G K nL h lv pc (.int x :: .ref b :: st) := by
  obtain ⟨p, e, R, s, m, args, below, meth, c, Q, kc, ks⟩ := K
  obtain ⟨D, cA, ad, A, zt⟩ := G
  obtain ⟨hx, hb, hml, hown, hts, hK, hD, hZ, hR, hr, hlocks, hcs, hQ⟩ := C
  intro hT H locs ls hP hS hl
  subst hx0
  have h9 := k0 hT H locs ls hP hS hl
  refine va_sld hx hb hX hbl.1 hbl.2 hS (vp_in_nI hlt (by omega)) d ?_
  rw [nI_clamp (by omega)]
  exact h9
theorem law_end {l : Launch} {G : xr_G} {p : Program} {e : Env} {s : State} {m : MethodId} {below : List Frame} {meth : Method} {c : Code} {b kc ks : Nat} {h : hp_T} {lv : List (Nat × Value)} (C : xr_C G (xl_K p e s m below meth c b kc ks) cL_law RL 7 room_1 (some .boolean) none) (hA : G.2.2.2.1 = xi_A s.heap.size) (hret : meth.sig.returnType = ret) (h1 : kc ≤ 601024) (h2 : ks ≤ 7293034) : xr_j l G (xl_K p e s m below meth c b kc ks) 7 h lv 1938 [] := by
  obtain ⟨D, cA, ad, A, zt⟩ := G
  obtain ⟨hx, hb, hml, hown, hts, hK, hD, hZ, hR, hr, hlocks, hcs, hQ⟩ := C
  intro hT H locs ls hP hS hl
  dsimp only at hA hS hx hb hlocks
  subst hA
  refine lv_iconst (v := 1) hx hb dL_law_1938 (by decide) ?_
  refine va_forget (fun q hq => hS.2.2 q hq) ?_
  refine W.widen (k := 601024) (n := 7293034) h1 h2 ?_
  exact lw_ret hx hb hret hlocks dL_law_1939
set_option maxRecDepth 100000 in
set_option maxHeartbeats 4000000 in
theorem lc_0 {p : Program} {e : Env} {s : State} {m : MethodId} {below : List Frame} {meth : Method} {c : Code} {l : Launch} {G : xr_G} {b L j : Nat} {xs : Nat → Int32} {Inv : hp_T → Prop} (hC : ∀ kc ks : Nat, kc ≤ 601024 → ks ≤ 7293034 → xr_C G (xl_K p e s m below meth c b kc ks) cL_law RL 7 room_1 (some .boolean) none) (hXs : va_X b L xs s s.heap) (hbl : b < s.heap.size ∧ ¬ G.2.2.2.1 b) (hL : L ≤ 3072) (hj : 6 * j + 6 ≤ L) {kc ks : Nat} (hkc : kc ≤ 306 + j) (hks : ks ≤ 106459 + 6 * j) (op : lw_o5 Inv (fun a1 a2 a3 a4 a5 h => fX9_feed 0 a1 a2 a3 a4 a5 h) (fun a1 a2 a3 a4 a5 h => fX10_feed 290 a1 a2 a3 a4 a5 h)) (h : hp_T) (hI : Inv h) (hk : ∀ (kc2 ks2 : Nat) (h2 : hp_T), kc2 ≤ kc + 1 → ks2 ≤ ks + 6 → Inv h2 → xr_j l G (xl_K p e s m below meth c b kc2 ks2) 7 h2 (xl_V G b j) 1932 []) : xr_j l G (xl_K p e s m below meth c b kc ks) 7 h (xl_V G b j) 236 [] := by
  have C := hC kc ks (by omega) (by omega)
  obtain ⟨r, h1, h2, e1, e2, hI⟩ := op h hI (xs (6 * j + 1)) (xs (6 * j + 2)) (xs (6 * j + 3)) (xs (6 * j + 4)) (xs (6 * j + 5))
  dsimp only at e1 e2
  refine xr_aload_n C 1 dL_law_236 rfl rfl ?_
  refine xr_aload_n C 0 dL_law_237 rfl rfl ?_
  refine xr_iload C 4 dL_law_238 rfl ?_
  refine xr_iconst (v := 1) C dL_law_240 (by decide) ?_
  refine xr_iadd C dL_law_241 ?_
  refine xl_sld (k := 1) C hXs hbl rfl rfl (by omega) hL dL_law_242 ?_
  refine xr_aload_n C 0 dL_law_243 rfl rfl ?_
  refine xr_iload C 4 dL_law_244 rfl ?_
  refine xr_iconst (v := 2) C dL_law_246 (by decide) ?_
  refine xr_iadd C dL_law_247 ?_
  refine xl_sld (k := 2) C hXs hbl rfl rfl (by omega) hL dL_law_248 ?_
  refine xr_aload_n C 0 dL_law_249 rfl rfl ?_
  refine xr_iload C 4 dL_law_250 rfl ?_
  refine xr_iconst (v := 3) C dL_law_252 (by decide) ?_
  refine xr_iadd C dL_law_253 ?_
  refine xl_sld (k := 3) C hXs hbl rfl rfl (by omega) hL dL_law_254 ?_
  refine xr_aload_n C 0 dL_law_255 rfl rfl ?_
  refine xr_iload C 4 dL_law_256 rfl ?_
  refine xr_iconst (v := 4) C dL_law_258 (by decide) ?_
  refine xr_iadd C dL_law_259 ?_
  refine xl_sld (k := 4) C hXs hbl rfl rfl (by omega) hL dL_law_260 ?_
  refine xr_aload_n C 0 dL_law_261 rfl rfl ?_
  refine xr_iload C 4 dL_law_262 rfl ?_
  refine xr_iconst (v := 5) C dL_law_264 (by decide) ?_
  refine xr_iadd C dL_law_265 ?_
  refine xl_sld (k := 5) C hXs hbl rfl rfl (by omega) hL dL_law_266 ?_
  refine xr_callVi C lm_21 [.int (xs (6 * j + 1)), .int (xs (6 * j + 2)), .int (xs (6 * j + 3)), .int (xs (6 * j + 4)), .int (xs (6 * j + 5))] [] (mX9_feed l G 0 (xs (6 * j + 1)) (xs (6 * j + 2)) (xs (6 * j + 3)) (xs (6 * j + 4)) (xs (6 * j + 5)) (by decide +kernel) h h1 r e1) (by decide +kernel) (by decide) vc9 rfl ⟨rfl, rfl, Nat.le_of_ble_eq_true rfl, Nat.le_of_ble_eq_true rfl⟩ rfl (Nat.le_of_ble_eq_true rfl) dL_law_267 ?_
  refine xr_aload_n C 2 dL_law_270 rfl rfl ?_
  refine xr_aload_n C 0 dL_law_271 rfl rfl ?_
  refine xr_iload C 4 dL_law_272 rfl ?_
  refine xr_iconst (v := 1) C dL_law_274 (by decide) ?_
  refine xr_iadd C dL_law_275 ?_
  refine xl_sld (k := 1) C hXs hbl rfl rfl (by omega) hL dL_law_276 ?_
  refine xr_aload_n C 0 dL_law_277 rfl rfl ?_
  refine xr_iload C 4 dL_law_278 rfl ?_
  refine xr_iconst (v := 2) C dL_law_280 (by decide) ?_
  refine xr_iadd C dL_law_281 ?_
  refine xl_sld (k := 2) C hXs hbl rfl rfl (by omega) hL dL_law_282 ?_
  refine xr_aload_n C 0 dL_law_283 rfl rfl ?_
  refine xr_iload C 4 dL_law_284 rfl ?_
  refine xr_iconst (v := 3) C dL_law_286 (by decide) ?_
  refine xr_iadd C dL_law_287 ?_
  refine xl_sld (k := 3) C hXs hbl rfl rfl (by omega) hL dL_law_288 ?_
  refine xr_aload_n C 0 dL_law_289 rfl rfl ?_
  refine xr_iload C 4 dL_law_290 rfl ?_
  refine xr_iconst (v := 4) C dL_law_292 (by decide) ?_
  refine xr_iadd C dL_law_293 ?_
  refine xl_sld (k := 4) C hXs hbl rfl rfl (by omega) hL dL_law_294 ?_
  refine xr_aload_n C 0 dL_law_295 rfl rfl ?_
  refine xr_iload C 4 dL_law_296 rfl ?_
  refine xr_iconst (v := 5) C dL_law_298 (by decide) ?_
  refine xr_iadd C dL_law_299 ?_
  refine xl_sld (k := 5) C hXs hbl rfl rfl (by omega) hL dL_law_300 ?_
  refine xr_callVi C lm_25 [.int (xs (6 * j + 1)), .int (xs (6 * j + 2)), .int (xs (6 * j + 3)), .int (xs (6 * j + 4)), .int (xs (6 * j + 5))] [.int r] (mX10_feed l G 290 (xs (6 * j + 1)) (xs (6 * j + 2)) (xs (6 * j + 3)) (xs (6 * j + 4)) (xs (6 * j + 5)) (by decide +kernel) h1 h2 r e2) (by decide +kernel) (by decide) vc10 rfl ⟨rfl, rfl, Nat.le_of_ble_eq_true rfl, Nat.le_of_ble_eq_true rfl⟩ rfl (Nat.le_of_ble_eq_true rfl) dL_law_301 ?_
  refine xr_icmp_eq C 1932 dL_law_304 (by decide) (fun _ => ?_) (fun c => absurd rfl c)
  exact hk kc ks h2 (Nat.le_succ _) (by omega) hI
set_option maxRecDepth 100000 in
set_option maxHeartbeats 4000000 in
theorem lc_1 {p : Program} {e : Env} {s : State} {m : MethodId} {below : List Frame} {meth : Method} {c : Code} {l : Launch} {G : xr_G} {b L j : Nat} {xs : Nat → Int32} {Inv : hp_T → Prop} (hC : ∀ kc ks : Nat, kc ≤ 601024 → ks ≤ 7293034 → xr_C G (xl_K p e s m below meth c b kc ks) cL_law RL 7 room_1 (some .boolean) none) (hXs : va_X b L xs s s.heap) (hbl : b < s.heap.size ∧ ¬ G.2.2.2.1 b) (hL : L ≤ 3072) (hj : 6 * j + 6 ≤ L) {kc ks : Nat} (hkc : kc ≤ 306 + j) (hks : ks ≤ 106459 + 6 * j) (op : lw_o1 Inv (fun a1 h => fX9_text 0 a1 h) (fun a1 h => fX10_text 290 a1 h)) (h : hp_T) (hI : Inv h) (hk : ∀ (kc2 ks2 : Nat) (h2 : hp_T), kc2 ≤ kc + 1 → ks2 ≤ ks + 6 → Inv h2 → xr_j l G (xl_K p e s m below meth c b kc2 ks2) 7 h2 (xl_V G b j) 1932 []) : xr_j l G (xl_K p e s m below meth c b kc ks) 7 h (xl_V G b j) 309 [] := by
  have C := hC kc ks (by omega) (by omega)
  obtain ⟨r, h1, h2, e1, e2, hI⟩ := op h hI (xs (6 * j + 1))
  dsimp only at e1 e2
  refine xr_aload_n C 1 dL_law_309 rfl rfl ?_
  refine xr_aload_n C 0 dL_law_310 rfl rfl ?_
  refine xr_iload C 4 dL_law_311 rfl ?_
  refine xr_iconst (v := 1) C dL_law_313 (by decide) ?_
  refine xr_iadd C dL_law_314 ?_
  refine xl_sld (k := 1) C hXs hbl rfl rfl (by omega) hL dL_law_315 ?_
  refine xr_callVi C lm_26 [.int (xs (6 * j + 1))] [] (mX9_text l G 0 (xs (6 * j + 1)) (by decide +kernel) h h1 r e1) (by decide +kernel) (by decide) vc9 rfl ⟨rfl, rfl, Nat.le_of_ble_eq_true rfl, Nat.le_of_ble_eq_true rfl⟩ rfl (Nat.le_of_ble_eq_true rfl) dL_law_316 ?_
  refine xr_aload_n C 2 dL_law_319 rfl rfl ?_
  refine xr_aload_n C 0 dL_law_320 rfl rfl ?_
  refine xr_iload C 4 dL_law_321 rfl ?_
  refine xr_iconst (v := 1) C dL_law_323 (by decide) ?_
  refine xr_iadd C dL_law_324 ?_
  refine xl_sld (k := 1) C hXs hbl rfl rfl (by omega) hL dL_law_325 ?_
  refine xr_callVi C lm_30 [.int (xs (6 * j + 1))] [.int r] (mX10_text l G 290 (xs (6 * j + 1)) (by decide +kernel) h1 h2 r e2) (by decide +kernel) (by decide) vc10 rfl ⟨rfl, rfl, Nat.le_of_ble_eq_true rfl, Nat.le_of_ble_eq_true rfl⟩ rfl (Nat.le_of_ble_eq_true rfl) dL_law_326 ?_
  refine xr_icmp_eq C 1932 dL_law_329 (by decide) (fun _ => ?_) (fun c => absurd rfl c)
  exact hk kc ks h2 (Nat.le_succ _) (by omega) hI
set_option maxRecDepth 100000 in
set_option maxHeartbeats 4000000 in
theorem lc_2 {p : Program} {e : Env} {s : State} {m : MethodId} {below : List Frame} {meth : Method} {c : Code} {l : Launch} {G : xr_G} {b L j : Nat} {xs : Nat → Int32} {Inv : hp_T → Prop} (hC : ∀ kc ks : Nat, kc ≤ 601024 → ks ≤ 7293034 → xr_C G (xl_K p e s m below meth c b kc ks) cL_law RL 7 room_1 (some .boolean) none) (hXs : va_X b L xs s s.heap) (hbl : b < s.heap.size ∧ ¬ G.2.2.2.1 b) (hL : L ≤ 3072) (hj : 6 * j + 6 ≤ L) {kc ks : Nat} (hkc : kc ≤ 306 + j) (hks : ks ≤ 106459 + 6 * j) (op : lw_o1 Inv (fun a1 h => fX9_fault 0 a1 h) (fun a1 h => fX10_fault 290 a1 h)) (h : hp_T) (hI : Inv h) (hk : ∀ (kc2 ks2 : Nat) (h2 : hp_T), kc2 ≤ kc + 1 → ks2 ≤ ks + 6 → Inv h2 → xr_j l G (xl_K p e s m below meth c b kc2 ks2) 7 h2 (xl_V G b j) 1932 []) : xr_j l G (xl_K p e s m below meth c b kc ks) 7 h (xl_V G b j) 334 [] := by
  have C := hC kc ks (by omega) (by omega)
  obtain ⟨r, h1, h2, e1, e2, hI⟩ := op h hI (xs (6 * j + 1))
  dsimp only at e1 e2
  refine xr_aload_n C 1 dL_law_334 rfl rfl ?_
  refine xr_aload_n C 0 dL_law_335 rfl rfl ?_
  refine xr_iload C 4 dL_law_336 rfl ?_
  refine xr_iconst (v := 1) C dL_law_338 (by decide) ?_
  refine xr_iadd C dL_law_339 ?_
  refine xl_sld (k := 1) C hXs hbl rfl rfl (by omega) hL dL_law_340 ?_
  refine xr_callVi C lm_31 [.int (xs (6 * j + 1))] [] (mX9_fault l G 0 (xs (6 * j + 1)) (by decide +kernel) h h1 r e1) (by decide +kernel) (by decide) vc9 rfl ⟨rfl, rfl, Nat.le_of_ble_eq_true rfl, Nat.le_of_ble_eq_true rfl⟩ rfl (Nat.le_of_ble_eq_true rfl) dL_law_341 ?_
  refine xr_aload_n C 2 dL_law_344 rfl rfl ?_
  refine xr_aload_n C 0 dL_law_345 rfl rfl ?_
  refine xr_iload C 4 dL_law_346 rfl ?_
  refine xr_iconst (v := 1) C dL_law_348 (by decide) ?_
  refine xr_iadd C dL_law_349 ?_
  refine xl_sld (k := 1) C hXs hbl rfl rfl (by omega) hL dL_law_350 ?_
  refine xr_callVi C lm_34 [.int (xs (6 * j + 1))] [.int r] (mX10_fault l G 290 (xs (6 * j + 1)) (by decide +kernel) h1 h2 r e2) (by decide +kernel) (by decide) vc10 rfl ⟨rfl, rfl, Nat.le_of_ble_eq_true rfl, Nat.le_of_ble_eq_true rfl⟩ rfl (Nat.le_of_ble_eq_true rfl) dL_law_351 ?_
  refine xr_icmp_eq C 1932 dL_law_354 (by decide) (fun _ => ?_) (fun c => absurd rfl c)
  exact hk kc ks h2 (Nat.le_succ _) (by omega) hI
set_option maxRecDepth 100000 in
set_option maxHeartbeats 4000000 in
theorem lc_4 {p : Program} {e : Env} {s : State} {m : MethodId} {below : List Frame} {meth : Method} {c : Code} {l : Launch} {G : xr_G} {b L j : Nat} {xs : Nat → Int32} {Inv : hp_T → Prop} (hC : ∀ kc ks : Nat, kc ≤ 601024 → ks ≤ 7293034 → xr_C G (xl_K p e s m below meth c b kc ks) cL_law RL 7 room_1 (some .boolean) none) (hXs : va_X b L xs s s.heap) (hbl : b < s.heap.size ∧ ¬ G.2.2.2.1 b) (hL : L ≤ 3072) (hj : 6 * j + 6 ≤ L) {kc ks : Nat} (hkc : kc ≤ 306 + j) (hks : ks ≤ 106459 + 6 * j) (op : lw_o2 Inv (fun a1 a2 h => fX9_on 0 a1 a2 h) (fun a1 a2 h => fX10_on 290 a1 a2 h)) (h : hp_T) (hI : Inv h) (hk : ∀ (kc2 ks2 : Nat) (h2 : hp_T), kc2 ≤ kc + 1 → ks2 ≤ ks + 6 → Inv h2 → xr_j l G (xl_K p e s m below meth c b kc2 ks2) 7 h2 (xl_V G b j) 1932 []) : xr_j l G (xl_K p e s m below meth c b kc ks) 7 h (xl_V G b j) 439 [] := by
  have C := hC kc ks (by omega) (by omega)
  obtain ⟨r, h1, h2, e1, e2, hI⟩ := op h hI (xs (6 * j + 1)) (xs (6 * j + 2))
  dsimp only at e1 e2
  refine xr_aload_n C 1 dL_law_439 rfl rfl ?_
  refine xr_aload_n C 0 dL_law_440 rfl rfl ?_
  refine xr_iload C 4 dL_law_441 rfl ?_
  refine xr_iconst (v := 1) C dL_law_443 (by decide) ?_
  refine xr_iadd C dL_law_444 ?_
  refine xl_sld (k := 1) C hXs hbl rfl rfl (by omega) hL dL_law_445 ?_
  refine xr_aload_n C 0 dL_law_446 rfl rfl ?_
  refine xr_iload C 4 dL_law_447 rfl ?_
  refine xr_iconst (v := 2) C dL_law_449 (by decide) ?_
  refine xr_iadd C dL_law_450 ?_
  refine xl_sld (k := 2) C hXs hbl rfl rfl (by omega) hL dL_law_451 ?_
  refine xr_callVi C lm_45 [.int (xs (6 * j + 1)), .int (xs (6 * j + 2))] [] (mX9_on l G 0 (xs (6 * j + 1)) (xs (6 * j + 2)) (by decide +kernel) h h1 r e1) (by decide +kernel) (by decide) vc9 rfl ⟨rfl, rfl, Nat.le_of_ble_eq_true rfl, Nat.le_of_ble_eq_true rfl⟩ rfl (Nat.le_of_ble_eq_true rfl) dL_law_452 ?_
  refine xr_aload_n C 2 dL_law_455 rfl rfl ?_
  refine xr_aload_n C 0 dL_law_456 rfl rfl ?_
  refine xr_iload C 4 dL_law_457 rfl ?_
  refine xr_iconst (v := 1) C dL_law_459 (by decide) ?_
  refine xr_iadd C dL_law_460 ?_
  refine xl_sld (k := 1) C hXs hbl rfl rfl (by omega) hL dL_law_461 ?_
  refine xr_aload_n C 0 dL_law_462 rfl rfl ?_
  refine xr_iload C 4 dL_law_463 rfl ?_
  refine xr_iconst (v := 2) C dL_law_465 (by decide) ?_
  refine xr_iadd C dL_law_466 ?_
  refine xl_sld (k := 2) C hXs hbl rfl rfl (by omega) hL dL_law_467 ?_
  refine xr_callVi C lm_49 [.int (xs (6 * j + 1)), .int (xs (6 * j + 2))] [.int r] (mX10_on l G 290 (xs (6 * j + 1)) (xs (6 * j + 2)) (by decide +kernel) h1 h2 r e2) (by decide +kernel) (by decide) vc10 rfl ⟨rfl, rfl, Nat.le_of_ble_eq_true rfl, Nat.le_of_ble_eq_true rfl⟩ rfl (Nat.le_of_ble_eq_true rfl) dL_law_468 ?_
  refine xr_icmp_eq C 1932 dL_law_471 (by decide) (fun _ => ?_) (fun c => absurd rfl c)
  exact hk kc ks h2 (Nat.le_succ _) (by omega) hI
set_option maxRecDepth 100000 in
set_option maxHeartbeats 4000000 in
theorem lc_5 {p : Program} {e : Env} {s : State} {m : MethodId} {below : List Frame} {meth : Method} {c : Code} {l : Launch} {G : xr_G} {b L j : Nat} {xs : Nat → Int32} {Inv : hp_T → Prop} (hC : ∀ kc ks : Nat, kc ≤ 601024 → ks ≤ 7293034 → xr_C G (xl_K p e s m below meth c b kc ks) cL_law RL 7 room_1 (some .boolean) none) (hXs : va_X b L xs s s.heap) (hbl : b < s.heap.size ∧ ¬ G.2.2.2.1 b) (hL : L ≤ 3072) (hj : 6 * j + 6 ≤ L) {kc ks : Nat} (hkc : kc ≤ 306 + j) (hks : ks ≤ 106459 + 6 * j) (op : lw_o2 Inv (fun a1 a2 h => fX9_lineUp 0 a1 a2 h) (fun a1 a2 h => fX10_lineUp 290 a1 a2 h)) (h : hp_T) (hI : Inv h) (hk : ∀ (kc2 ks2 : Nat) (h2 : hp_T), kc2 ≤ kc + 1 → ks2 ≤ ks + 6 → Inv h2 → xr_j l G (xl_K p e s m below meth c b kc2 ks2) 7 h2 (xl_V G b j) 1932 []) : xr_j l G (xl_K p e s m below meth c b kc ks) 7 h (xl_V G b j) 476 [] := by
  have C := hC kc ks (by omega) (by omega)
  obtain ⟨r, h1, h2, e1, e2, hI⟩ := op h hI (xs (6 * j + 1)) (xs (6 * j + 2))
  dsimp only at e1 e2
  refine xr_aload_n C 1 dL_law_476 rfl rfl ?_
  refine xr_aload_n C 0 dL_law_477 rfl rfl ?_
  refine xr_iload C 4 dL_law_478 rfl ?_
  refine xr_iconst (v := 1) C dL_law_480 (by decide) ?_
  refine xr_iadd C dL_law_481 ?_
  refine xl_sld (k := 1) C hXs hbl rfl rfl (by omega) hL dL_law_482 ?_
  refine xr_aload_n C 0 dL_law_483 rfl rfl ?_
  refine xr_iload C 4 dL_law_484 rfl ?_
  refine xr_iconst (v := 2) C dL_law_486 (by decide) ?_
  refine xr_iadd C dL_law_487 ?_
  refine xl_sld (k := 2) C hXs hbl rfl rfl (by omega) hL dL_law_488 ?_
  refine xr_callVi C lm_50 [.int (xs (6 * j + 1)), .int (xs (6 * j + 2))] [] (mX9_lineUp l G 0 (xs (6 * j + 1)) (xs (6 * j + 2)) (by decide +kernel) h h1 r e1) (by decide +kernel) (by decide) vc9 rfl ⟨rfl, rfl, Nat.le_of_ble_eq_true rfl, Nat.le_of_ble_eq_true rfl⟩ rfl (Nat.le_of_ble_eq_true rfl) dL_law_489 ?_
  refine xr_aload_n C 2 dL_law_492 rfl rfl ?_
  refine xr_aload_n C 0 dL_law_493 rfl rfl ?_
  refine xr_iload C 4 dL_law_494 rfl ?_
  refine xr_iconst (v := 1) C dL_law_496 (by decide) ?_
  refine xr_iadd C dL_law_497 ?_
  refine xl_sld (k := 1) C hXs hbl rfl rfl (by omega) hL dL_law_498 ?_
  refine xr_aload_n C 0 dL_law_499 rfl rfl ?_
  refine xr_iload C 4 dL_law_500 rfl ?_
  refine xr_iconst (v := 2) C dL_law_502 (by decide) ?_
  refine xr_iadd C dL_law_503 ?_
  refine xl_sld (k := 2) C hXs hbl rfl rfl (by omega) hL dL_law_504 ?_
  refine xr_callVi C lm_53 [.int (xs (6 * j + 1)), .int (xs (6 * j + 2))] [.int r] (mX10_lineUp l G 290 (xs (6 * j + 1)) (xs (6 * j + 2)) (by decide +kernel) h1 h2 r e2) (by decide +kernel) (by decide) vc10 rfl ⟨rfl, rfl, Nat.le_of_ble_eq_true rfl, Nat.le_of_ble_eq_true rfl⟩ rfl (Nat.le_of_ble_eq_true rfl) dL_law_505 ?_
  refine xr_icmp_eq C 1932 dL_law_508 (by decide) (fun _ => ?_) (fun c => absurd rfl c)
  exact hk kc ks h2 (Nat.le_succ _) (by omega) hI
set_option maxRecDepth 100000 in
set_option maxHeartbeats 4000000 in
theorem lc_6 {p : Program} {e : Env} {s : State} {m : MethodId} {below : List Frame} {meth : Method} {c : Code} {l : Launch} {G : xr_G} {b L j : Nat} {xs : Nat → Int32} {Inv : hp_T → Prop} (hC : ∀ kc ks : Nat, kc ≤ 601024 → ks ≤ 7293034 → xr_C G (xl_K p e s m below meth c b kc ks) cL_law RL 7 room_1 (some .boolean) none) (hXs : va_X b L xs s s.heap) (hbl : b < s.heap.size ∧ ¬ G.2.2.2.1 b) (hL : L ≤ 3072) (hj : 6 * j + 6 ≤ L) {kc ks : Nat} (hkc : kc ≤ 306 + j) (hks : ks ≤ 106459 + 6 * j) (op : lw_o1 Inv (fun a1 h => fX9_point 0 a1 h) (fun a1 h => fX10_point 290 a1 h)) (h : hp_T) (hI : Inv h) (hk : ∀ (kc2 ks2 : Nat) (h2 : hp_T), kc2 ≤ kc + 1 → ks2 ≤ ks + 6 → Inv h2 → xr_j l G (xl_K p e s m below meth c b kc2 ks2) 7 h2 (xl_V G b j) 1932 []) : xr_j l G (xl_K p e s m below meth c b kc ks) 7 h (xl_V G b j) 513 [] := by
  have C := hC kc ks (by omega) (by omega)
  obtain ⟨r, h1, h2, e1, e2, hI⟩ := op h hI (xs (6 * j + 1))
  dsimp only at e1 e2
  refine xr_aload_n C 1 dL_law_513 rfl rfl ?_
  refine xr_aload_n C 0 dL_law_514 rfl rfl ?_
  refine xr_iload C 4 dL_law_515 rfl ?_
  refine xr_iconst (v := 1) C dL_law_517 (by decide) ?_
  refine xr_iadd C dL_law_518 ?_
  refine xl_sld (k := 1) C hXs hbl rfl rfl (by omega) hL dL_law_519 ?_
  refine xr_callVi C lm_54 [.int (xs (6 * j + 1))] [] (mX9_point l G 0 (xs (6 * j + 1)) (by decide +kernel) h h1 r e1) (by decide +kernel) (by decide) vc9 rfl ⟨rfl, rfl, Nat.le_of_ble_eq_true rfl, Nat.le_of_ble_eq_true rfl⟩ rfl (Nat.le_of_ble_eq_true rfl) dL_law_520 ?_
  refine xr_aload_n C 2 dL_law_523 rfl rfl ?_
  refine xr_aload_n C 0 dL_law_524 rfl rfl ?_
  refine xr_iload C 4 dL_law_525 rfl ?_
  refine xr_iconst (v := 1) C dL_law_527 (by decide) ?_
  refine xr_iadd C dL_law_528 ?_
  refine xl_sld (k := 1) C hXs hbl rfl rfl (by omega) hL dL_law_529 ?_
  refine xr_callVi C lm_57 [.int (xs (6 * j + 1))] [.int r] (mX10_point l G 290 (xs (6 * j + 1)) (by decide +kernel) h1 h2 r e2) (by decide +kernel) (by decide) vc10 rfl ⟨rfl, rfl, Nat.le_of_ble_eq_true rfl, Nat.le_of_ble_eq_true rfl⟩ rfl (Nat.le_of_ble_eq_true rfl) dL_law_530 ?_
  refine xr_icmp_eq C 1932 dL_law_533 (by decide) (fun _ => ?_) (fun c => absurd rfl c)
  exact hk kc ks h2 (Nat.le_succ _) (by omega) hI
set_option maxRecDepth 100000 in
set_option maxHeartbeats 4000000 in
theorem lc_7 {p : Program} {e : Env} {s : State} {m : MethodId} {below : List Frame} {meth : Method} {c : Code} {l : Launch} {G : xr_G} {b L j : Nat} {xs : Nat → Int32} {Inv : hp_T → Prop} (hC : ∀ kc ks : Nat, kc ≤ 601024 → ks ≤ 7293034 → xr_C G (xl_K p e s m below meth c b kc ks) cL_law RL 7 room_1 (some .boolean) none) (hXs : va_X b L xs s s.heap) (hbl : b < s.heap.size ∧ ¬ G.2.2.2.1 b) (hL : L ≤ 3072) (hj : 6 * j + 6 ≤ L) {kc ks : Nat} (hkc : kc ≤ 306 + j) (hks : ks ≤ 106459 + 6 * j) (op : lw_o3 Inv (fun a1 a2 a3 h => fX9_sub 0 a1 a2 a3 h) (fun a1 a2 a3 h => fX10_sub 290 a1 a2 a3 h)) (h : hp_T) (hI : Inv h) (hk : ∀ (kc2 ks2 : Nat) (h2 : hp_T), kc2 ≤ kc + 1 → ks2 ≤ ks + 6 → Inv h2 → xr_j l G (xl_K p e s m below meth c b kc2 ks2) 7 h2 (xl_V G b j) 1932 []) : xr_j l G (xl_K p e s m below meth c b kc ks) 7 h (xl_V G b j) 538 [] := by
  have C := hC kc ks (by omega) (by omega)
  obtain ⟨r, h1, h2, e1, e2, hI⟩ := op h hI (xs (6 * j + 1)) (xs (6 * j + 2)) (xs (6 * j + 3))
  dsimp only at e1 e2
  refine xr_aload_n C 1 dL_law_538 rfl rfl ?_
  refine xr_aload_n C 0 dL_law_539 rfl rfl ?_
  refine xr_iload C 4 dL_law_540 rfl ?_
  refine xr_iconst (v := 1) C dL_law_542 (by decide) ?_
  refine xr_iadd C dL_law_543 ?_
  refine xl_sld (k := 1) C hXs hbl rfl rfl (by omega) hL dL_law_544 ?_
  refine xr_aload_n C 0 dL_law_545 rfl rfl ?_
  refine xr_iload C 4 dL_law_546 rfl ?_
  refine xr_iconst (v := 2) C dL_law_548 (by decide) ?_
  refine xr_iadd C dL_law_549 ?_
  refine xl_sld (k := 2) C hXs hbl rfl rfl (by omega) hL dL_law_550 ?_
  refine xr_aload_n C 0 dL_law_551 rfl rfl ?_
  refine xr_iload C 4 dL_law_552 rfl ?_
  refine xr_iconst (v := 3) C dL_law_554 (by decide) ?_
  refine xr_iadd C dL_law_555 ?_
  refine xl_sld (k := 3) C hXs hbl rfl rfl (by omega) hL dL_law_556 ?_
  refine xr_callVi C lm_58 [.int (xs (6 * j + 1)), .int (xs (6 * j + 2)), .int (xs (6 * j + 3))] [] (mX9_sub l G 0 (xs (6 * j + 1)) (xs (6 * j + 2)) (xs (6 * j + 3)) (by decide +kernel) h h1 r e1) (by decide +kernel) (by decide) vc9 rfl ⟨rfl, rfl, Nat.le_of_ble_eq_true rfl, Nat.le_of_ble_eq_true rfl⟩ rfl (Nat.le_of_ble_eq_true rfl) dL_law_557 ?_
  refine xr_aload_n C 2 dL_law_560 rfl rfl ?_
  refine xr_aload_n C 0 dL_law_561 rfl rfl ?_
  refine xr_iload C 4 dL_law_562 rfl ?_
  refine xr_iconst (v := 1) C dL_law_564 (by decide) ?_
  refine xr_iadd C dL_law_565 ?_
  refine xl_sld (k := 1) C hXs hbl rfl rfl (by omega) hL dL_law_566 ?_
  refine xr_aload_n C 0 dL_law_567 rfl rfl ?_
  refine xr_iload C 4 dL_law_568 rfl ?_
  refine xr_iconst (v := 2) C dL_law_570 (by decide) ?_
  refine xr_iadd C dL_law_571 ?_
  refine xl_sld (k := 2) C hXs hbl rfl rfl (by omega) hL dL_law_572 ?_
  refine xr_aload_n C 0 dL_law_573 rfl rfl ?_
  refine xr_iload C 4 dL_law_574 rfl ?_
  refine xr_iconst (v := 3) C dL_law_576 (by decide) ?_
  refine xr_iadd C dL_law_577 ?_
  refine xl_sld (k := 3) C hXs hbl rfl rfl (by omega) hL dL_law_578 ?_
  refine xr_callVi C lm_61 [.int (xs (6 * j + 1)), .int (xs (6 * j + 2)), .int (xs (6 * j + 3))] [.int r] (mX10_sub l G 290 (xs (6 * j + 1)) (xs (6 * j + 2)) (xs (6 * j + 3)) (by decide +kernel) h1 h2 r e2) (by decide +kernel) (by decide) vc10 rfl ⟨rfl, rfl, Nat.le_of_ble_eq_true rfl, Nat.le_of_ble_eq_true rfl⟩ rfl (Nat.le_of_ble_eq_true rfl) dL_law_579 ?_
  refine xr_icmp_eq C 1932 dL_law_582 (by decide) (fun _ => ?_) (fun c => absurd rfl c)
  exact hk kc ks h2 (Nat.le_succ _) (by omega) hI
set_option maxRecDepth 100000 in
set_option maxHeartbeats 4000000 in
theorem lc_8 {p : Program} {e : Env} {s : State} {m : MethodId} {below : List Frame} {meth : Method} {c : Code} {l : Launch} {G : xr_G} {b L j : Nat} {xs : Nat → Int32} {Inv : hp_T → Prop} (hC : ∀ kc ks : Nat, kc ≤ 601024 → ks ≤ 7293034 → xr_C G (xl_K p e s m below meth c b kc ks) cL_law RL 7 room_1 (some .boolean) none) (hXs : va_X b L xs s s.heap) (hbl : b < s.heap.size ∧ ¬ G.2.2.2.1 b) (hL : L ≤ 3072) (hj : 6 * j + 6 ≤ L) {kc ks : Nat} (hkc : kc ≤ 306 + j) (hks : ks ≤ 106459 + 6 * j) (op : lw_o2 Inv (fun a1 a2 h => fX9_move 0 a1 a2 h) (fun a1 a2 h => fX10_move 290 a1 a2 h)) (h : hp_T) (hI : Inv h) (hk : ∀ (kc2 ks2 : Nat) (h2 : hp_T), kc2 ≤ kc + 1 → ks2 ≤ ks + 6 → Inv h2 → xr_j l G (xl_K p e s m below meth c b kc2 ks2) 7 h2 (xl_V G b j) 1932 []) : xr_j l G (xl_K p e s m below meth c b kc ks) 7 h (xl_V G b j) 587 [] := by
  have C := hC kc ks (by omega) (by omega)
  obtain ⟨r, h1, h2, e1, e2, hI⟩ := op h hI (xs (6 * j + 1)) (xs (6 * j + 2))
  dsimp only at e1 e2
  refine xr_aload_n C 1 dL_law_587 rfl rfl ?_
  refine xr_aload_n C 0 dL_law_588 rfl rfl ?_
  refine xr_iload C 4 dL_law_589 rfl ?_
  refine xr_iconst (v := 1) C dL_law_591 (by decide) ?_
  refine xr_iadd C dL_law_592 ?_
  refine xl_sld (k := 1) C hXs hbl rfl rfl (by omega) hL dL_law_593 ?_
  refine xr_aload_n C 0 dL_law_594 rfl rfl ?_
  refine xr_iload C 4 dL_law_595 rfl ?_
  refine xr_iconst (v := 2) C dL_law_597 (by decide) ?_
  refine xr_iadd C dL_law_598 ?_
  refine xl_sld (k := 2) C hXs hbl rfl rfl (by omega) hL dL_law_599 ?_
  refine xr_callVi C lm_62 [.int (xs (6 * j + 1)), .int (xs (6 * j + 2))] [] (mX9_move l G 0 (xs (6 * j + 1)) (xs (6 * j + 2)) (by decide +kernel) h h1 r e1) (by decide +kernel) (by decide) vc9 rfl ⟨rfl, rfl, Nat.le_of_ble_eq_true rfl, Nat.le_of_ble_eq_true rfl⟩ rfl (Nat.le_of_ble_eq_true rfl) dL_law_600 ?_
  refine xr_aload_n C 2 dL_law_603 rfl rfl ?_
  refine xr_aload_n C 0 dL_law_604 rfl rfl ?_
  refine xr_iload C 4 dL_law_605 rfl ?_
  refine xr_iconst (v := 1) C dL_law_607 (by decide) ?_
  refine xr_iadd C dL_law_608 ?_
  refine xl_sld (k := 1) C hXs hbl rfl rfl (by omega) hL dL_law_609 ?_
  refine xr_aload_n C 0 dL_law_610 rfl rfl ?_
  refine xr_iload C 4 dL_law_611 rfl ?_
  refine xr_iconst (v := 2) C dL_law_613 (by decide) ?_
  refine xr_iadd C dL_law_614 ?_
  refine xl_sld (k := 2) C hXs hbl rfl rfl (by omega) hL dL_law_615 ?_
  refine xr_callVi C lm_65 [.int (xs (6 * j + 1)), .int (xs (6 * j + 2))] [.int r] (mX10_move l G 290 (xs (6 * j + 1)) (xs (6 * j + 2)) (by decide +kernel) h1 h2 r e2) (by decide +kernel) (by decide) vc10 rfl ⟨rfl, rfl, Nat.le_of_ble_eq_true rfl, Nat.le_of_ble_eq_true rfl⟩ rfl (Nat.le_of_ble_eq_true rfl) dL_law_616 ?_
  refine xr_icmp_eq C 1932 dL_law_619 (by decide) (fun _ => ?_) (fun c => absurd rfl c)
  exact hk kc ks h2 (Nat.le_succ _) (by omega) hI
set_option maxRecDepth 100000 in
set_option maxHeartbeats 4000000 in
theorem lc_9 {p : Program} {e : Env} {s : State} {m : MethodId} {below : List Frame} {meth : Method} {c : Code} {l : Launch} {G : xr_G} {b L j : Nat} {xs : Nat → Int32} {Inv : hp_T → Prop} (hC : ∀ kc ks : Nat, kc ≤ 601024 → ks ≤ 7293034 → xr_C G (xl_K p e s m below meth c b kc ks) cL_law RL 7 room_1 (some .boolean) none) (hXs : va_X b L xs s s.heap) (hbl : b < s.heap.size ∧ ¬ G.2.2.2.1 b) (hL : L ≤ 3072) (hj : 6 * j + 6 ≤ L) {kc ks : Nat} (hkc : kc ≤ 306 + j) (hks : ks ≤ 106459 + 6 * j) (op : lw_o4 Inv (fun a1 a2 a3 a4 h => fX9_stand 0 a1 a2 a3 a4 h) (fun a1 a2 a3 a4 h => fX10_stand 290 a1 a2 a3 a4 h)) (h : hp_T) (hI : Inv h) (hk : ∀ (kc2 ks2 : Nat) (h2 : hp_T), kc2 ≤ kc + 1 → ks2 ≤ ks + 6 → Inv h2 → xr_j l G (xl_K p e s m below meth c b kc2 ks2) 7 h2 (xl_V G b j) 1932 []) : xr_j l G (xl_K p e s m below meth c b kc ks) 7 h (xl_V G b j) 624 [] := by
  have C := hC kc ks (by omega) (by omega)
  obtain ⟨r, h1, h2, e1, e2, hI⟩ := op h hI (xs (6 * j + 1)) (xs (6 * j + 2)) (xs (6 * j + 3)) (xs (6 * j + 4))
  dsimp only at e1 e2
  refine xr_aload_n C 1 dL_law_624 rfl rfl ?_
  refine xr_aload_n C 0 dL_law_625 rfl rfl ?_
  refine xr_iload C 4 dL_law_626 rfl ?_
  refine xr_iconst (v := 1) C dL_law_628 (by decide) ?_
  refine xr_iadd C dL_law_629 ?_
  refine xl_sld (k := 1) C hXs hbl rfl rfl (by omega) hL dL_law_630 ?_
  refine xr_aload_n C 0 dL_law_631 rfl rfl ?_
  refine xr_iload C 4 dL_law_632 rfl ?_
  refine xr_iconst (v := 2) C dL_law_634 (by decide) ?_
  refine xr_iadd C dL_law_635 ?_
  refine xl_sld (k := 2) C hXs hbl rfl rfl (by omega) hL dL_law_636 ?_
  refine xr_aload_n C 0 dL_law_637 rfl rfl ?_
  refine xr_iload C 4 dL_law_638 rfl ?_
  refine xr_iconst (v := 3) C dL_law_640 (by decide) ?_
  refine xr_iadd C dL_law_641 ?_
  refine xl_sld (k := 3) C hXs hbl rfl rfl (by omega) hL dL_law_642 ?_
  refine xr_aload_n C 0 dL_law_643 rfl rfl ?_
  refine xr_iload C 4 dL_law_644 rfl ?_
  refine xr_iconst (v := 4) C dL_law_646 (by decide) ?_
  refine xr_iadd C dL_law_647 ?_
  refine xl_sld (k := 4) C hXs hbl rfl rfl (by omega) hL dL_law_648 ?_
  refine xr_callVi C lm_66 [.int (xs (6 * j + 1)), .int (xs (6 * j + 2)), .int (xs (6 * j + 3)), .int (xs (6 * j + 4))] [] (mX9_stand l G 0 (xs (6 * j + 1)) (xs (6 * j + 2)) (xs (6 * j + 3)) (xs (6 * j + 4)) (by decide +kernel) h h1 r e1) (by decide +kernel) (by decide) vc9 rfl ⟨rfl, rfl, Nat.le_of_ble_eq_true rfl, Nat.le_of_ble_eq_true rfl⟩ rfl (Nat.le_of_ble_eq_true rfl) dL_law_649 ?_
  refine xr_aload_n C 2 dL_law_652 rfl rfl ?_
  refine xr_aload_n C 0 dL_law_653 rfl rfl ?_
  refine xr_iload C 4 dL_law_654 rfl ?_
  refine xr_iconst (v := 1) C dL_law_656 (by decide) ?_
  refine xr_iadd C dL_law_657 ?_
  refine xl_sld (k := 1) C hXs hbl rfl rfl (by omega) hL dL_law_658 ?_
  refine xr_aload_n C 0 dL_law_659 rfl rfl ?_
  refine xr_iload C 4 dL_law_660 rfl ?_
  refine xr_iconst (v := 2) C dL_law_662 (by decide) ?_
  refine xr_iadd C dL_law_663 ?_
  refine xl_sld (k := 2) C hXs hbl rfl rfl (by omega) hL dL_law_664 ?_
  refine xr_aload_n C 0 dL_law_665 rfl rfl ?_
  refine xr_iload C 4 dL_law_666 rfl ?_
  refine xr_iconst (v := 3) C dL_law_668 (by decide) ?_
  refine xr_iadd C dL_law_669 ?_
  refine xl_sld (k := 3) C hXs hbl rfl rfl (by omega) hL dL_law_670 ?_
  refine xr_aload_n C 0 dL_law_671 rfl rfl ?_
  refine xr_iload C 4 dL_law_672 rfl ?_
  refine xr_iconst (v := 4) C dL_law_674 (by decide) ?_
  refine xr_iadd C dL_law_675 ?_
  refine xl_sld (k := 4) C hXs hbl rfl rfl (by omega) hL dL_law_676 ?_
  refine xr_callVi C lm_70 [.int (xs (6 * j + 1)), .int (xs (6 * j + 2)), .int (xs (6 * j + 3)), .int (xs (6 * j + 4))] [.int r] (mX10_stand l G 290 (xs (6 * j + 1)) (xs (6 * j + 2)) (xs (6 * j + 3)) (xs (6 * j + 4)) (by decide +kernel) h1 h2 r e2) (by decide +kernel) (by decide) vc10 rfl ⟨rfl, rfl, Nat.le_of_ble_eq_true rfl, Nat.le_of_ble_eq_true rfl⟩ rfl (Nat.le_of_ble_eq_true rfl) dL_law_677 ?_
  refine xr_icmp_eq C 1932 dL_law_680 (by decide) (fun _ => ?_) (fun c => absurd rfl c)
  exact hk kc ks h2 (Nat.le_succ _) (by omega) hI
set_option maxRecDepth 100000 in
set_option maxHeartbeats 4000000 in
theorem lc_10 {p : Program} {e : Env} {s : State} {m : MethodId} {below : List Frame} {meth : Method} {c : Code} {l : Launch} {G : xr_G} {b L j : Nat} {xs : Nat → Int32} {Inv : hp_T → Prop} (hC : ∀ kc ks : Nat, kc ≤ 601024 → ks ≤ 7293034 → xr_C G (xl_K p e s m below meth c b kc ks) cL_law RL 7 room_1 (some .boolean) none) (hXs : va_X b L xs s s.heap) (hbl : b < s.heap.size ∧ ¬ G.2.2.2.1 b) (hL : L ≤ 3072) (hj : 6 * j + 6 ≤ L) {kc ks : Nat} (hkc : kc ≤ 306 + j) (hks : ks ≤ 106459 + 6 * j) (op : lw_o3 Inv (fun a1 a2 a3 h => fX9_standing 0 a1 a2 a3 h) (fun a1 a2 a3 h => fX10_standing 290 a1 a2 a3 h)) (h : hp_T) (hI : Inv h) (hk : ∀ (kc2 ks2 : Nat) (h2 : hp_T), kc2 ≤ kc + 1 → ks2 ≤ ks + 6 → Inv h2 → xr_j l G (xl_K p e s m below meth c b kc2 ks2) 7 h2 (xl_V G b j) 1932 []) : xr_j l G (xl_K p e s m below meth c b kc ks) 7 h (xl_V G b j) 685 [] := by
  have C := hC kc ks (by omega) (by omega)
  obtain ⟨r, h1, h2, e1, e2, hI⟩ := op h hI (xs (6 * j + 1)) (xs (6 * j + 2)) (xs (6 * j + 3))
  dsimp only at e1 e2
  refine xr_aload_n C 1 dL_law_685 rfl rfl ?_
  refine xr_aload_n C 0 dL_law_686 rfl rfl ?_
  refine xr_iload C 4 dL_law_687 rfl ?_
  refine xr_iconst (v := 1) C dL_law_689 (by decide) ?_
  refine xr_iadd C dL_law_690 ?_
  refine xl_sld (k := 1) C hXs hbl rfl rfl (by omega) hL dL_law_691 ?_
  refine xr_aload_n C 0 dL_law_692 rfl rfl ?_
  refine xr_iload C 4 dL_law_693 rfl ?_
  refine xr_iconst (v := 2) C dL_law_695 (by decide) ?_
  refine xr_iadd C dL_law_696 ?_
  refine xl_sld (k := 2) C hXs hbl rfl rfl (by omega) hL dL_law_697 ?_
  refine xr_aload_n C 0 dL_law_698 rfl rfl ?_
  refine xr_iload C 4 dL_law_699 rfl ?_
  refine xr_iconst (v := 3) C dL_law_701 (by decide) ?_
  refine xr_iadd C dL_law_702 ?_
  refine xl_sld (k := 3) C hXs hbl rfl rfl (by omega) hL dL_law_703 ?_
  refine xr_callVi C lm_71 [.int (xs (6 * j + 1)), .int (xs (6 * j + 2)), .int (xs (6 * j + 3))] [] (mX9_standing l G 0 (xs (6 * j + 1)) (xs (6 * j + 2)) (xs (6 * j + 3)) (by decide +kernel) h h1 r e1) (by decide +kernel) (by decide) vc9 rfl ⟨rfl, rfl, Nat.le_of_ble_eq_true rfl, Nat.le_of_ble_eq_true rfl⟩ rfl (Nat.le_of_ble_eq_true rfl) dL_law_704 ?_
  refine xr_aload_n C 2 dL_law_707 rfl rfl ?_
  refine xr_aload_n C 0 dL_law_708 rfl rfl ?_
  refine xr_iload C 4 dL_law_709 rfl ?_
  refine xr_iconst (v := 1) C dL_law_711 (by decide) ?_
  refine xr_iadd C dL_law_712 ?_
  refine xl_sld (k := 1) C hXs hbl rfl rfl (by omega) hL dL_law_713 ?_
  refine xr_aload_n C 0 dL_law_714 rfl rfl ?_
  refine xr_iload C 4 dL_law_715 rfl ?_
  refine xr_iconst (v := 2) C dL_law_717 (by decide) ?_
  refine xr_iadd C dL_law_718 ?_
  refine xl_sld (k := 2) C hXs hbl rfl rfl (by omega) hL dL_law_719 ?_
  refine xr_aload_n C 0 dL_law_720 rfl rfl ?_
  refine xr_iload C 4 dL_law_721 rfl ?_
  refine xr_iconst (v := 3) C dL_law_723 (by decide) ?_
  refine xr_iadd C dL_law_724 ?_
  refine xl_sld (k := 3) C hXs hbl rfl rfl (by omega) hL dL_law_725 ?_
  refine xr_callVi C lm_74 [.int (xs (6 * j + 1)), .int (xs (6 * j + 2)), .int (xs (6 * j + 3))] [.int r] (mX10_standing l G 290 (xs (6 * j + 1)) (xs (6 * j + 2)) (xs (6 * j + 3)) (by decide +kernel) h1 h2 r e2) (by decide +kernel) (by decide) vc10 rfl ⟨rfl, rfl, Nat.le_of_ble_eq_true rfl, Nat.le_of_ble_eq_true rfl⟩ rfl (Nat.le_of_ble_eq_true rfl) dL_law_726 ?_
  refine xr_icmp_eq C 1932 dL_law_729 (by decide) (fun _ => ?_) (fun c => absurd rfl c)
  exact hk kc ks h2 (Nat.le_succ _) (by omega) hI
set_option maxRecDepth 100000 in
set_option maxHeartbeats 4000000 in
theorem lc_11 {p : Program} {e : Env} {s : State} {m : MethodId} {below : List Frame} {meth : Method} {c : Code} {l : Launch} {G : xr_G} {b L j : Nat} {xs : Nat → Int32} {Inv : hp_T → Prop} (hC : ∀ kc ks : Nat, kc ≤ 601024 → ks ≤ 7293034 → xr_C G (xl_K p e s m below meth c b kc ks) cL_law RL 7 room_1 (some .boolean) none) (hXs : va_X b L xs s s.heap) (hbl : b < s.heap.size ∧ ¬ G.2.2.2.1 b) (hL : L ≤ 3072) (hj : 6 * j + 6 ≤ L) {kc ks : Nat} (hkc : kc ≤ 306 + j) (hks : ks ≤ 106459 + 6 * j) (op : lw_o2 Inv (fun a1 a2 h => fX9_wrong 0 a1 a2 h) (fun a1 a2 h => fX10_wrong_ 290 a1 a2 h)) (h : hp_T) (hI : Inv h) (hk : ∀ (kc2 ks2 : Nat) (h2 : hp_T), kc2 ≤ kc + 1 → ks2 ≤ ks + 6 → Inv h2 → xr_j l G (xl_K p e s m below meth c b kc2 ks2) 7 h2 (xl_V G b j) 1932 []) : xr_j l G (xl_K p e s m below meth c b kc ks) 7 h (xl_V G b j) 734 [] := by
  have C := hC kc ks (by omega) (by omega)
  obtain ⟨r, h1, h2, e1, e2, hI⟩ := op h hI (xs (6 * j + 1)) (xs (6 * j + 2))
  dsimp only at e1 e2
  refine xr_aload_n C 1 dL_law_734 rfl rfl ?_
  refine xr_aload_n C 0 dL_law_735 rfl rfl ?_
  refine xr_iload C 4 dL_law_736 rfl ?_
  refine xr_iconst (v := 1) C dL_law_738 (by decide) ?_
  refine xr_iadd C dL_law_739 ?_
  refine xl_sld (k := 1) C hXs hbl rfl rfl (by omega) hL dL_law_740 ?_
  refine xr_aload_n C 0 dL_law_741 rfl rfl ?_
  refine xr_iload C 4 dL_law_742 rfl ?_
  refine xr_iconst (v := 2) C dL_law_744 (by decide) ?_
  refine xr_iadd C dL_law_745 ?_
  refine xl_sld (k := 2) C hXs hbl rfl rfl (by omega) hL dL_law_746 ?_
  refine xr_callVi C lm_75 [.int (xs (6 * j + 1)), .int (xs (6 * j + 2))] [] (mX9_wrong l G 0 (xs (6 * j + 1)) (xs (6 * j + 2)) (by decide +kernel) h h1 r e1) (by decide +kernel) (by decide) vc9 rfl ⟨rfl, rfl, Nat.le_of_ble_eq_true rfl, Nat.le_of_ble_eq_true rfl⟩ rfl (Nat.le_of_ble_eq_true rfl) dL_law_747 ?_
  refine xr_aload_n C 2 dL_law_750 rfl rfl ?_
  refine xr_aload_n C 0 dL_law_751 rfl rfl ?_
  refine xr_iload C 4 dL_law_752 rfl ?_
  refine xr_iconst (v := 1) C dL_law_754 (by decide) ?_
  refine xr_iadd C dL_law_755 ?_
  refine xl_sld (k := 1) C hXs hbl rfl rfl (by omega) hL dL_law_756 ?_
  refine xr_aload_n C 0 dL_law_757 rfl rfl ?_
  refine xr_iload C 4 dL_law_758 rfl ?_
  refine xr_iconst (v := 2) C dL_law_760 (by decide) ?_
  refine xr_iadd C dL_law_761 ?_
  refine xl_sld (k := 2) C hXs hbl rfl rfl (by omega) hL dL_law_762 ?_
  refine xr_callVi C lm_78 [.int (xs (6 * j + 1)), .int (xs (6 * j + 2))] [.int r] (mX10_wrong_ l G 290 (xs (6 * j + 1)) (xs (6 * j + 2)) (by decide +kernel) h1 h2 r e2) (by decide +kernel) (by decide) vc10 rfl ⟨rfl, rfl, Nat.le_of_ble_eq_true rfl, Nat.le_of_ble_eq_true rfl⟩ rfl (Nat.le_of_ble_eq_true rfl) dL_law_763 ?_
  refine xr_icmp_eq C 1932 dL_law_766 (by decide) (fun _ => ?_) (fun c => absurd rfl c)
  exact hk kc ks h2 (Nat.le_succ _) (by omega) hI
set_option maxRecDepth 100000 in
set_option maxHeartbeats 4000000 in
theorem lc_12 {p : Program} {e : Env} {s : State} {m : MethodId} {below : List Frame} {meth : Method} {c : Code} {l : Launch} {G : xr_G} {b L j : Nat} {xs : Nat → Int32} {Inv : hp_T → Prop} (hC : ∀ kc ks : Nat, kc ≤ 601024 → ks ≤ 7293034 → xr_C G (xl_K p e s m below meth c b kc ks) cL_law RL 7 room_1 (some .boolean) none) (hXs : va_X b L xs s s.heap) (hbl : b < s.heap.size ∧ ¬ G.2.2.2.1 b) (hL : L ≤ 3072) (hj : 6 * j + 6 ≤ L) {kc ks : Nat} (hkc : kc ≤ 306 + j) (hks : ks ≤ 106459 + 6 * j) (op : lw_o0 Inv (fun h => fX9_undo 0 h) (fun h => fX10_undo 290 h)) (h : hp_T) (hI : Inv h) (hk : ∀ (kc2 ks2 : Nat) (h2 : hp_T), kc2 ≤ kc + 1 → ks2 ≤ ks + 6 → Inv h2 → xr_j l G (xl_K p e s m below meth c b kc2 ks2) 7 h2 (xl_V G b j) 1932 []) : xr_j l G (xl_K p e s m below meth c b kc ks) 7 h (xl_V G b j) 771 [] := by
  have C := hC kc ks (by omega) (by omega)
  obtain ⟨r, h1, h2, e1, e2, hI⟩ := op h hI 
  dsimp only at e1 e2
  refine xr_aload_n C 1 dL_law_771 rfl rfl ?_
  refine xr_callVi C lm_79 [] [] (mX9_undo l G 0  (by decide +kernel) h h1 r e1) (by decide +kernel) (by decide) vc9 rfl ⟨rfl, rfl, Nat.le_of_ble_eq_true rfl, Nat.le_of_ble_eq_true rfl⟩ rfl (Nat.le_of_ble_eq_true rfl) dL_law_772 ?_
  refine xr_aload_n C 2 dL_law_775 rfl rfl ?_
  refine xr_callVi C lm_82 [] [.int r] (mX10_undo l G 290  (by decide +kernel) h1 h2 r e2) (by decide +kernel) (by decide) vc10 rfl ⟨rfl, rfl, Nat.le_of_ble_eq_true rfl, Nat.le_of_ble_eq_true rfl⟩ rfl (Nat.le_of_ble_eq_true rfl) dL_law_776 ?_
  refine xr_icmp_eq C 1932 dL_law_779 (by decide) (fun _ => ?_) (fun c => absurd rfl c)
  exact hk kc ks h2 (Nat.le_succ _) (by omega) hI
set_option maxRecDepth 100000 in
set_option maxHeartbeats 4000000 in
theorem lc_13 {p : Program} {e : Env} {s : State} {m : MethodId} {below : List Frame} {meth : Method} {c : Code} {l : Launch} {G : xr_G} {b L j : Nat} {xs : Nat → Int32} {Inv : hp_T → Prop} (hC : ∀ kc ks : Nat, kc ≤ 601024 → ks ≤ 7293034 → xr_C G (xl_K p e s m below meth c b kc ks) cL_law RL 7 room_1 (some .boolean) none) (hXs : va_X b L xs s s.heap) (hbl : b < s.heap.size ∧ ¬ G.2.2.2.1 b) (hL : L ≤ 3072) (hj : 6 * j + 6 ≤ L) {kc ks : Nat} (hkc : kc ≤ 306 + j) (hks : ks ≤ 106459 + 6 * j) (op : lw_o1 Inv (fun a1 h => fX9_now 0 a1 h) (fun a1 h => fX10_now 290 a1 h)) (h : hp_T) (hI : Inv h) (hk : ∀ (kc2 ks2 : Nat) (h2 : hp_T), kc2 ≤ kc + 1 → ks2 ≤ ks + 6 → Inv h2 → xr_j l G (xl_K p e s m below meth c b kc2 ks2) 7 h2 (xl_V G b j) 1932 []) : xr_j l G (xl_K p e s m below meth c b kc ks) 7 h (xl_V G b j) 784 [] := by
  have C := hC kc ks (by omega) (by omega)
  obtain ⟨r, h1, h2, e1, e2, hI⟩ := op h hI (xs (6 * j + 1))
  dsimp only at e1 e2
  refine xr_aload_n C 1 dL_law_784 rfl rfl ?_
  refine xr_aload_n C 0 dL_law_785 rfl rfl ?_
  refine xr_iload C 4 dL_law_786 rfl ?_
  refine xr_iconst (v := 1) C dL_law_788 (by decide) ?_
  refine xr_iadd C dL_law_789 ?_
  refine xl_sld (k := 1) C hXs hbl rfl rfl (by omega) hL dL_law_790 ?_
  refine xr_callVi C lm_83 [.int (xs (6 * j + 1))] [] (mX9_now l G 0 (xs (6 * j + 1)) (by decide +kernel) h h1 r e1) (by decide +kernel) (by decide) vc9 rfl ⟨rfl, rfl, Nat.le_of_ble_eq_true rfl, Nat.le_of_ble_eq_true rfl⟩ rfl (Nat.le_of_ble_eq_true rfl) dL_law_791 ?_
  refine xr_aload_n C 2 dL_law_794 rfl rfl ?_
  refine xr_aload_n C 0 dL_law_795 rfl rfl ?_
  refine xr_iload C 4 dL_law_796 rfl ?_
  refine xr_iconst (v := 1) C dL_law_798 (by decide) ?_
  refine xr_iadd C dL_law_799 ?_
  refine xl_sld (k := 1) C hXs hbl rfl rfl (by omega) hL dL_law_800 ?_
  refine xr_callVi C lm_86 [.int (xs (6 * j + 1))] [.int r] (mX10_now l G 290 (xs (6 * j + 1)) (by decide +kernel) h1 h2 r e2) (by decide +kernel) (by decide) vc10 rfl ⟨rfl, rfl, Nat.le_of_ble_eq_true rfl, Nat.le_of_ble_eq_true rfl⟩ rfl (Nat.le_of_ble_eq_true rfl) dL_law_801 ?_
  refine xr_icmp_eq C 1932 dL_law_804 (by decide) (fun _ => ?_) (fun c => absurd rfl c)
  exact hk kc ks h2 (Nat.le_succ _) (by omega) hI
set_option maxRecDepth 100000 in
set_option maxHeartbeats 4000000 in
theorem lc_14 {p : Program} {e : Env} {s : State} {m : MethodId} {below : List Frame} {meth : Method} {c : Code} {l : Launch} {G : xr_G} {b L j : Nat} {xs : Nat → Int32} {Inv : hp_T → Prop} (hC : ∀ kc ks : Nat, kc ≤ 601024 → ks ≤ 7293034 → xr_C G (xl_K p e s m below meth c b kc ks) cL_law RL 7 room_1 (some .boolean) none) (hXs : va_X b L xs s s.heap) (hbl : b < s.heap.size ∧ ¬ G.2.2.2.1 b) (hL : L ≤ 3072) (hj : 6 * j + 6 ≤ L) {kc ks : Nat} (hkc : kc ≤ 306 + j) (hks : ks ≤ 106459 + 6 * j) (op : lw_o0 Inv (fun h => fX9_chance 0 h) (fun h => fX10_chance 290 h)) (h : hp_T) (hI : Inv h) (hk : ∀ (kc2 ks2 : Nat) (h2 : hp_T), kc2 ≤ kc + 1 → ks2 ≤ ks + 6 → Inv h2 → xr_j l G (xl_K p e s m below meth c b kc2 ks2) 7 h2 (xl_V G b j) 1932 []) : xr_j l G (xl_K p e s m below meth c b kc ks) 7 h (xl_V G b j) 809 [] := by
  have C := hC kc ks (by omega) (by omega)
  obtain ⟨r, h1, h2, e1, e2, hI⟩ := op h hI 
  dsimp only at e1 e2
  refine xr_aload_n C 1 dL_law_809 rfl rfl ?_
  refine xr_callVi C lm_87 [] [] (mX9_chance l G 0  (by decide +kernel) h h1 r e1) (by decide +kernel) (by decide) vc9 rfl ⟨rfl, rfl, Nat.le_of_ble_eq_true rfl, Nat.le_of_ble_eq_true rfl⟩ rfl (Nat.le_of_ble_eq_true rfl) dL_law_810 ?_
  refine xr_aload_n C 2 dL_law_813 rfl rfl ?_
  refine xr_callVi C lm_90 [] [.int r] (mX10_chance l G 290  (by decide +kernel) h1 h2 r e2) (by decide +kernel) (by decide) vc10 rfl ⟨rfl, rfl, Nat.le_of_ble_eq_true rfl, Nat.le_of_ble_eq_true rfl⟩ rfl (Nat.le_of_ble_eq_true rfl) dL_law_814 ?_
  refine xr_icmp_eq C 1932 dL_law_817 (by decide) (fun _ => ?_) (fun c => absurd rfl c)
  exact hk kc ks h2 (Nat.le_succ _) (by omega) hI
set_option maxRecDepth 100000 in
set_option maxHeartbeats 4000000 in
theorem lc_15 {p : Program} {e : Env} {s : State} {m : MethodId} {below : List Frame} {meth : Method} {c : Code} {l : Launch} {G : xr_G} {b L j : Nat} {xs : Nat → Int32} {Inv : hp_T → Prop} (hC : ∀ kc ks : Nat, kc ≤ 601024 → ks ≤ 7293034 → xr_C G (xl_K p e s m below meth c b kc ks) cL_law RL 7 room_1 (some .boolean) none) (hXs : va_X b L xs s s.heap) (hbl : b < s.heap.size ∧ ¬ G.2.2.2.1 b) (hL : L ≤ 3072) (hj : 6 * j + 6 ≤ L) {kc ks : Nat} (hkc : kc ≤ 306 + j) (hks : ks ≤ 106459 + 6 * j) (op : lw_o3 Inv (fun a1 a2 a3 h => fX9_chanceAt 0 a1 a2 a3 h) (fun a1 a2 a3 h => fX10_chanceAt 290 a1 a2 a3 h)) (h : hp_T) (hI : Inv h) (hk : ∀ (kc2 ks2 : Nat) (h2 : hp_T), kc2 ≤ kc + 1 → ks2 ≤ ks + 6 → Inv h2 → xr_j l G (xl_K p e s m below meth c b kc2 ks2) 7 h2 (xl_V G b j) 1932 []) : xr_j l G (xl_K p e s m below meth c b kc ks) 7 h (xl_V G b j) 822 [] := by
  have C := hC kc ks (by omega) (by omega)
  obtain ⟨r, h1, h2, e1, e2, hI⟩ := op h hI (xs (6 * j + 1)) (xs (6 * j + 2)) (xs (6 * j + 3))
  dsimp only at e1 e2
  refine xr_aload_n C 1 dL_law_822 rfl rfl ?_
  refine xr_aload_n C 0 dL_law_823 rfl rfl ?_
  refine xr_iload C 4 dL_law_824 rfl ?_
  refine xr_iconst (v := 1) C dL_law_826 (by decide) ?_
  refine xr_iadd C dL_law_827 ?_
  refine xl_sld (k := 1) C hXs hbl rfl rfl (by omega) hL dL_law_828 ?_
  refine xr_aload_n C 0 dL_law_829 rfl rfl ?_
  refine xr_iload C 4 dL_law_830 rfl ?_
  refine xr_iconst (v := 2) C dL_law_832 (by decide) ?_
  refine xr_iadd C dL_law_833 ?_
  refine xl_sld (k := 2) C hXs hbl rfl rfl (by omega) hL dL_law_834 ?_
  refine xr_aload_n C 0 dL_law_835 rfl rfl ?_
  refine xr_iload C 4 dL_law_836 rfl ?_
  refine xr_iconst (v := 3) C dL_law_838 (by decide) ?_
  refine xr_iadd C dL_law_839 ?_
  refine xl_sld (k := 3) C hXs hbl rfl rfl (by omega) hL dL_law_840 ?_
  refine xr_callVi C lm_91 [.int (xs (6 * j + 1)), .int (xs (6 * j + 2)), .int (xs (6 * j + 3))] [] (mX9_chanceAt l G 0 (xs (6 * j + 1)) (xs (6 * j + 2)) (xs (6 * j + 3)) (by decide +kernel) h h1 r e1) (by decide +kernel) (by decide) vc9 rfl ⟨rfl, rfl, Nat.le_of_ble_eq_true rfl, Nat.le_of_ble_eq_true rfl⟩ rfl (Nat.le_of_ble_eq_true rfl) dL_law_841 ?_
  refine xr_aload_n C 2 dL_law_844 rfl rfl ?_
  refine xr_aload_n C 0 dL_law_845 rfl rfl ?_
  refine xr_iload C 4 dL_law_846 rfl ?_
  refine xr_iconst (v := 1) C dL_law_848 (by decide) ?_
  refine xr_iadd C dL_law_849 ?_
  refine xl_sld (k := 1) C hXs hbl rfl rfl (by omega) hL dL_law_850 ?_
  refine xr_aload_n C 0 dL_law_851 rfl rfl ?_
  refine xr_iload C 4 dL_law_852 rfl ?_
  refine xr_iconst (v := 2) C dL_law_854 (by decide) ?_
  refine xr_iadd C dL_law_855 ?_
  refine xl_sld (k := 2) C hXs hbl rfl rfl (by omega) hL dL_law_856 ?_
  refine xr_aload_n C 0 dL_law_857 rfl rfl ?_
  refine xr_iload C 4 dL_law_858 rfl ?_
  refine xr_iconst (v := 3) C dL_law_860 (by decide) ?_
  refine xr_iadd C dL_law_861 ?_
  refine xl_sld (k := 3) C hXs hbl rfl rfl (by omega) hL dL_law_862 ?_
  refine xr_callVi C lm_94 [.int (xs (6 * j + 1)), .int (xs (6 * j + 2)), .int (xs (6 * j + 3))] [.int r] (mX10_chanceAt l G 290 (xs (6 * j + 1)) (xs (6 * j + 2)) (xs (6 * j + 3)) (by decide +kernel) h1 h2 r e2) (by decide +kernel) (by decide) vc10 rfl ⟨rfl, rfl, Nat.le_of_ble_eq_true rfl, Nat.le_of_ble_eq_true rfl⟩ rfl (Nat.le_of_ble_eq_true rfl) dL_law_863 ?_
  refine xr_icmp_eq C 1932 dL_law_866 (by decide) (fun _ => ?_) (fun c => absurd rfl c)
  exact hk kc ks h2 (Nat.le_succ _) (by omega) hI
set_option maxRecDepth 100000 in
set_option maxHeartbeats 4000000 in
theorem lc_16 {p : Program} {e : Env} {s : State} {m : MethodId} {below : List Frame} {meth : Method} {c : Code} {l : Launch} {G : xr_G} {b L j : Nat} {xs : Nat → Int32} {Inv : hp_T → Prop} (hC : ∀ kc ks : Nat, kc ≤ 601024 → ks ≤ 7293034 → xr_C G (xl_K p e s m below meth c b kc ks) cL_law RL 7 room_1 (some .boolean) none) (hXs : va_X b L xs s s.heap) (hbl : b < s.heap.size ∧ ¬ G.2.2.2.1 b) (hL : L ≤ 3072) (hj : 6 * j + 6 ≤ L) {kc ks : Nat} (hkc : kc ≤ 306 + j) (hks : ks ≤ 106459 + 6 * j) (op : lw_o0 Inv (fun h => fX9_value 0 h) (fun h => fX10_value 290 h)) (h : hp_T) (hI : Inv h) (hk : ∀ (kc2 ks2 : Nat) (h2 : hp_T), kc2 ≤ kc + 1 → ks2 ≤ ks + 6 → Inv h2 → xr_j l G (xl_K p e s m below meth c b kc2 ks2) 7 h2 (xl_V G b j) 1932 []) : xr_j l G (xl_K p e s m below meth c b kc ks) 7 h (xl_V G b j) 871 [] := by
  have C := hC kc ks (by omega) (by omega)
  obtain ⟨r, h1, h2, e1, e2, hI⟩ := op h hI 
  dsimp only at e1 e2
  refine xr_aload_n C 1 dL_law_871 rfl rfl ?_
  refine xr_callVi C lm_95 [] [] (mX9_value l G 0  (by decide +kernel) h h1 r e1) (by decide +kernel) (by decide) vc9 rfl ⟨rfl, rfl, Nat.le_of_ble_eq_true rfl, Nat.le_of_ble_eq_true rfl⟩ rfl (Nat.le_of_ble_eq_true rfl) dL_law_872 ?_
  refine xr_aload_n C 2 dL_law_875 rfl rfl ?_
  refine xr_callVi C lm_98 [] [.int r] (mX10_value l G 290  (by decide +kernel) h1 h2 r e2) (by decide +kernel) (by decide) vc10 rfl ⟨rfl, rfl, Nat.le_of_ble_eq_true rfl, Nat.le_of_ble_eq_true rfl⟩ rfl (Nat.le_of_ble_eq_true rfl) dL_law_876 ?_
  refine xr_icmp_eq C 1932 dL_law_879 (by decide) (fun _ => ?_) (fun c => absurd rfl c)
  exact hk kc ks h2 (Nat.le_succ _) (by omega) hI
set_option maxRecDepth 100000 in
set_option maxHeartbeats 4000000 in
theorem lc_17 {p : Program} {e : Env} {s : State} {m : MethodId} {below : List Frame} {meth : Method} {c : Code} {l : Launch} {G : xr_G} {b L j : Nat} {xs : Nat → Int32} {Inv : hp_T → Prop} (hC : ∀ kc ks : Nat, kc ≤ 601024 → ks ≤ 7293034 → xr_C G (xl_K p e s m below meth c b kc ks) cL_law RL 7 room_1 (some .boolean) none) (hXs : va_X b L xs s s.heap) (hbl : b < s.heap.size ∧ ¬ G.2.2.2.1 b) (hL : L ≤ 3072) (hj : 6 * j + 6 ≤ L) {kc ks : Nat} (hkc : kc ≤ 306 + j) (hks : ks ≤ 106459 + 6 * j) (op : lw_o5 Inv (fun a1 a2 a3 a4 a5 h => fX9_valueAt 0 a1 a2 a3 a4 a5 h) (fun a1 a2 a3 a4 a5 h => fX10_valueAt 290 a1 a2 a3 a4 a5 h)) (h : hp_T) (hI : Inv h) (hk : ∀ (kc2 ks2 : Nat) (h2 : hp_T), kc2 ≤ kc + 1 → ks2 ≤ ks + 6 → Inv h2 → xr_j l G (xl_K p e s m below meth c b kc2 ks2) 7 h2 (xl_V G b j) 1932 []) : xr_j l G (xl_K p e s m below meth c b kc ks) 7 h (xl_V G b j) 884 [] := by
  have C := hC kc ks (by omega) (by omega)
  obtain ⟨r, h1, h2, e1, e2, hI⟩ := op h hI (xs (6 * j + 1)) (xs (6 * j + 2)) (xs (6 * j + 3)) (xs (6 * j + 4)) (xs (6 * j + 5))
  dsimp only at e1 e2
  refine xr_aload_n C 1 dL_law_884 rfl rfl ?_
  refine xr_aload_n C 0 dL_law_885 rfl rfl ?_
  refine xr_iload C 4 dL_law_886 rfl ?_
  refine xr_iconst (v := 1) C dL_law_888 (by decide) ?_
  refine xr_iadd C dL_law_889 ?_
  refine xl_sld (k := 1) C hXs hbl rfl rfl (by omega) hL dL_law_890 ?_
  refine xr_aload_n C 0 dL_law_891 rfl rfl ?_
  refine xr_iload C 4 dL_law_892 rfl ?_
  refine xr_iconst (v := 2) C dL_law_894 (by decide) ?_
  refine xr_iadd C dL_law_895 ?_
  refine xl_sld (k := 2) C hXs hbl rfl rfl (by omega) hL dL_law_896 ?_
  refine xr_aload_n C 0 dL_law_897 rfl rfl ?_
  refine xr_iload C 4 dL_law_898 rfl ?_
  refine xr_iconst (v := 3) C dL_law_900 (by decide) ?_
  refine xr_iadd C dL_law_901 ?_
  refine xl_sld (k := 3) C hXs hbl rfl rfl (by omega) hL dL_law_902 ?_
  refine xr_aload_n C 0 dL_law_903 rfl rfl ?_
  refine xr_iload C 4 dL_law_904 rfl ?_
  refine xr_iconst (v := 4) C dL_law_906 (by decide) ?_
  refine xr_iadd C dL_law_907 ?_
  refine xl_sld (k := 4) C hXs hbl rfl rfl (by omega) hL dL_law_908 ?_
  refine xr_aload_n C 0 dL_law_909 rfl rfl ?_
  refine xr_iload C 4 dL_law_910 rfl ?_
  refine xr_iconst (v := 5) C dL_law_912 (by decide) ?_
  refine xr_iadd C dL_law_913 ?_
  refine xl_sld (k := 5) C hXs hbl rfl rfl (by omega) hL dL_law_914 ?_
  refine xr_callVi C lm_99 [.int (xs (6 * j + 1)), .int (xs (6 * j + 2)), .int (xs (6 * j + 3)), .int (xs (6 * j + 4)), .int (xs (6 * j + 5))] [] (mX9_valueAt l G 0 (xs (6 * j + 1)) (xs (6 * j + 2)) (xs (6 * j + 3)) (xs (6 * j + 4)) (xs (6 * j + 5)) (by decide +kernel) h h1 r e1) (by decide +kernel) (by decide) vc9 rfl ⟨rfl, rfl, Nat.le_of_ble_eq_true rfl, Nat.le_of_ble_eq_true rfl⟩ rfl (Nat.le_of_ble_eq_true rfl) dL_law_915 ?_
  refine xr_aload_n C 2 dL_law_918 rfl rfl ?_
  refine xr_aload_n C 0 dL_law_919 rfl rfl ?_
  refine xr_iload C 4 dL_law_920 rfl ?_
  refine xr_iconst (v := 1) C dL_law_922 (by decide) ?_
  refine xr_iadd C dL_law_923 ?_
  refine xl_sld (k := 1) C hXs hbl rfl rfl (by omega) hL dL_law_924 ?_
  refine xr_aload_n C 0 dL_law_925 rfl rfl ?_
  refine xr_iload C 4 dL_law_926 rfl ?_
  refine xr_iconst (v := 2) C dL_law_928 (by decide) ?_
  refine xr_iadd C dL_law_929 ?_
  refine xl_sld (k := 2) C hXs hbl rfl rfl (by omega) hL dL_law_930 ?_
  refine xr_aload_n C 0 dL_law_931 rfl rfl ?_
  refine xr_iload C 4 dL_law_932 rfl ?_
  refine xr_iconst (v := 3) C dL_law_934 (by decide) ?_
  refine xr_iadd C dL_law_935 ?_
  refine xl_sld (k := 3) C hXs hbl rfl rfl (by omega) hL dL_law_936 ?_
  refine xr_aload_n C 0 dL_law_937 rfl rfl ?_
  refine xr_iload C 4 dL_law_938 rfl ?_
  refine xr_iconst (v := 4) C dL_law_940 (by decide) ?_
  refine xr_iadd C dL_law_941 ?_
  refine xl_sld (k := 4) C hXs hbl rfl rfl (by omega) hL dL_law_942 ?_
  refine xr_aload_n C 0 dL_law_943 rfl rfl ?_
  refine xr_iload C 4 dL_law_944 rfl ?_
  refine xr_iconst (v := 5) C dL_law_946 (by decide) ?_
  refine xr_iadd C dL_law_947 ?_
  refine xl_sld (k := 5) C hXs hbl rfl rfl (by omega) hL dL_law_948 ?_
  refine xr_callVi C lm_102 [.int (xs (6 * j + 1)), .int (xs (6 * j + 2)), .int (xs (6 * j + 3)), .int (xs (6 * j + 4)), .int (xs (6 * j + 5))] [.int r] (mX10_valueAt l G 290 (xs (6 * j + 1)) (xs (6 * j + 2)) (xs (6 * j + 3)) (xs (6 * j + 4)) (xs (6 * j + 5)) (by decide +kernel) h1 h2 r e2) (by decide +kernel) (by decide) vc10 rfl ⟨rfl, rfl, Nat.le_of_ble_eq_true rfl, Nat.le_of_ble_eq_true rfl⟩ rfl (Nat.le_of_ble_eq_true rfl) dL_law_949 ?_
  refine xr_icmp_eq C 1932 dL_law_952 (by decide) (fun _ => ?_) (fun c => absurd rfl c)
  exact hk kc ks h2 (Nat.le_succ _) (by omega) hI
set_option maxRecDepth 100000 in
set_option maxHeartbeats 4000000 in
theorem lc_18 {p : Program} {e : Env} {s : State} {m : MethodId} {below : List Frame} {meth : Method} {c : Code} {l : Launch} {G : xr_G} {b L j : Nat} {xs : Nat → Int32} {Inv : hp_T → Prop} (hC : ∀ kc ks : Nat, kc ≤ 601024 → ks ≤ 7293034 → xr_C G (xl_K p e s m below meth c b kc ks) cL_law RL 7 room_1 (some .boolean) none) (hXs : va_X b L xs s s.heap) (hbl : b < s.heap.size ∧ ¬ G.2.2.2.1 b) (hL : L ≤ 3072) (hj : 6 * j + 6 ≤ L) {kc ks : Nat} (hkc : kc ≤ 306 + j) (hks : ks ≤ 106459 + 6 * j) (op : lw_o2 Inv (fun a1 a2 h => fX9_table 0 a1 a2 h) (fun a1 a2 h => fX10_table 290 a1 a2 h)) (h : hp_T) (hI : Inv h) (hk : ∀ (kc2 ks2 : Nat) (h2 : hp_T), kc2 ≤ kc + 1 → ks2 ≤ ks + 6 → Inv h2 → xr_j l G (xl_K p e s m below meth c b kc2 ks2) 7 h2 (xl_V G b j) 1932 []) : xr_j l G (xl_K p e s m below meth c b kc ks) 7 h (xl_V G b j) 957 [] := by
  have C := hC kc ks (by omega) (by omega)
  obtain ⟨r, h1, h2, e1, e2, hI⟩ := op h hI (xs (6 * j + 1)) (xs (6 * j + 2))
  dsimp only at e1 e2
  refine xr_aload_n C 1 dL_law_957 rfl rfl ?_
  refine xr_aload_n C 0 dL_law_958 rfl rfl ?_
  refine xr_iload C 4 dL_law_959 rfl ?_
  refine xr_iconst (v := 1) C dL_law_961 (by decide) ?_
  refine xr_iadd C dL_law_962 ?_
  refine xl_sld (k := 1) C hXs hbl rfl rfl (by omega) hL dL_law_963 ?_
  refine xr_aload_n C 0 dL_law_964 rfl rfl ?_
  refine xr_iload C 4 dL_law_965 rfl ?_
  refine xr_iconst (v := 2) C dL_law_967 (by decide) ?_
  refine xr_iadd C dL_law_968 ?_
  refine xl_sld (k := 2) C hXs hbl rfl rfl (by omega) hL dL_law_969 ?_
  refine xr_callVi C lm_103 [.int (xs (6 * j + 1)), .int (xs (6 * j + 2))] [] (mX9_table l G 0 (xs (6 * j + 1)) (xs (6 * j + 2)) (by decide +kernel) h h1 r e1) (by decide +kernel) (by decide) vc9 rfl ⟨rfl, rfl, Nat.le_of_ble_eq_true rfl, Nat.le_of_ble_eq_true rfl⟩ rfl (Nat.le_of_ble_eq_true rfl) dL_law_970 ?_
  refine xr_aload_n C 2 dL_law_973 rfl rfl ?_
  refine xr_aload_n C 0 dL_law_974 rfl rfl ?_
  refine xr_iload C 4 dL_law_975 rfl ?_
  refine xr_iconst (v := 1) C dL_law_977 (by decide) ?_
  refine xr_iadd C dL_law_978 ?_
  refine xl_sld (k := 1) C hXs hbl rfl rfl (by omega) hL dL_law_979 ?_
  refine xr_aload_n C 0 dL_law_980 rfl rfl ?_
  refine xr_iload C 4 dL_law_981 rfl ?_
  refine xr_iconst (v := 2) C dL_law_983 (by decide) ?_
  refine xr_iadd C dL_law_984 ?_
  refine xl_sld (k := 2) C hXs hbl rfl rfl (by omega) hL dL_law_985 ?_
  refine xr_callVi C lm_106 [.int (xs (6 * j + 1)), .int (xs (6 * j + 2))] [.int r] (mX10_table l G 290 (xs (6 * j + 1)) (xs (6 * j + 2)) (by decide +kernel) h1 h2 r e2) (by decide +kernel) (by decide) vc10 rfl ⟨rfl, rfl, Nat.le_of_ble_eq_true rfl, Nat.le_of_ble_eq_true rfl⟩ rfl (Nat.le_of_ble_eq_true rfl) dL_law_986 ?_
  refine xr_icmp_eq C 1932 dL_law_989 (by decide) (fun _ => ?_) (fun c => absurd rfl c)
  exact hk kc ks h2 (Nat.le_succ _) (by omega) hI
set_option maxRecDepth 100000 in
set_option maxHeartbeats 4000000 in
theorem lc_19 {p : Program} {e : Env} {s : State} {m : MethodId} {below : List Frame} {meth : Method} {c : Code} {l : Launch} {G : xr_G} {b L j : Nat} {xs : Nat → Int32} {Inv : hp_T → Prop} (hC : ∀ kc ks : Nat, kc ≤ 601024 → ks ≤ 7293034 → xr_C G (xl_K p e s m below meth c b kc ks) cL_law RL 7 room_1 (some .boolean) none) (hXs : va_X b L xs s s.heap) (hbl : b < s.heap.size ∧ ¬ G.2.2.2.1 b) (hL : L ≤ 3072) (hj : 6 * j + 6 ≤ L) {kc ks : Nat} (hkc : kc ≤ 306 + j) (hks : ks ≤ 106459 + 6 * j) (op : lw_o2 Inv (fun a1 a2 h => fX9_safe 0 a1 a2 h) (fun a1 a2 h => fX10_safe 290 a1 a2 h)) (h : hp_T) (hI : Inv h) (hk : ∀ (kc2 ks2 : Nat) (h2 : hp_T), kc2 ≤ kc + 1 → ks2 ≤ ks + 6 → Inv h2 → xr_j l G (xl_K p e s m below meth c b kc2 ks2) 7 h2 (xl_V G b j) 1932 []) : xr_j l G (xl_K p e s m below meth c b kc ks) 7 h (xl_V G b j) 994 [] := by
  have C := hC kc ks (by omega) (by omega)
  obtain ⟨r, h1, h2, e1, e2, hI⟩ := op h hI (xs (6 * j + 1)) (xs (6 * j + 2))
  dsimp only at e1 e2
  refine xr_aload_n C 1 dL_law_994 rfl rfl ?_
  refine xr_aload_n C 0 dL_law_995 rfl rfl ?_
  refine xr_iload C 4 dL_law_996 rfl ?_
  refine xr_iconst (v := 1) C dL_law_998 (by decide) ?_
  refine xr_iadd C dL_law_999 ?_
  refine xl_sld (k := 1) C hXs hbl rfl rfl (by omega) hL dL_law_1000 ?_
  refine xr_aload_n C 0 dL_law_1001 rfl rfl ?_
  refine xr_iload C 4 dL_law_1002 rfl ?_
  refine xr_iconst (v := 2) C dL_law_1004 (by decide) ?_
  refine xr_iadd C dL_law_1005 ?_
  refine xl_sld (k := 2) C hXs hbl rfl rfl (by omega) hL dL_law_1006 ?_
  refine xr_callVi C lm_107 [.int (xs (6 * j + 1)), .int (xs (6 * j + 2))] [] (mX9_safe l G 0 (xs (6 * j + 1)) (xs (6 * j + 2)) (by decide +kernel) h h1 r e1) (by decide +kernel) (by decide) vc9 rfl ⟨rfl, rfl, Nat.le_of_ble_eq_true rfl, Nat.le_of_ble_eq_true rfl⟩ rfl (Nat.le_of_ble_eq_true rfl) dL_law_1007 ?_
  refine xr_aload_n C 2 dL_law_1010 rfl rfl ?_
  refine xr_aload_n C 0 dL_law_1011 rfl rfl ?_
  refine xr_iload C 4 dL_law_1012 rfl ?_
  refine xr_iconst (v := 1) C dL_law_1014 (by decide) ?_
  refine xr_iadd C dL_law_1015 ?_
  refine xl_sld (k := 1) C hXs hbl rfl rfl (by omega) hL dL_law_1016 ?_
  refine xr_aload_n C 0 dL_law_1017 rfl rfl ?_
  refine xr_iload C 4 dL_law_1018 rfl ?_
  refine xr_iconst (v := 2) C dL_law_1020 (by decide) ?_
  refine xr_iadd C dL_law_1021 ?_
  refine xl_sld (k := 2) C hXs hbl rfl rfl (by omega) hL dL_law_1022 ?_
  refine xr_callVi C lm_110 [.int (xs (6 * j + 1)), .int (xs (6 * j + 2))] [.int r] (mX10_safe l G 290 (xs (6 * j + 1)) (xs (6 * j + 2)) (by decide +kernel) h1 h2 r e2) (by decide +kernel) (by decide) vc10 rfl ⟨rfl, rfl, Nat.le_of_ble_eq_true rfl, Nat.le_of_ble_eq_true rfl⟩ rfl (Nat.le_of_ble_eq_true rfl) dL_law_1023 ?_
  refine xr_icmp_eq C 1932 dL_law_1026 (by decide) (fun _ => ?_) (fun c => absurd rfl c)
  exact hk kc ks h2 (Nat.le_succ _) (by omega) hI
set_option maxRecDepth 100000 in
set_option maxHeartbeats 4000000 in
theorem lc_20 {p : Program} {e : Env} {s : State} {m : MethodId} {below : List Frame} {meth : Method} {c : Code} {l : Launch} {G : xr_G} {b L j : Nat} {xs : Nat → Int32} {Inv : hp_T → Prop} (hC : ∀ kc ks : Nat, kc ≤ 601024 → ks ≤ 7293034 → xr_C G (xl_K p e s m below meth c b kc ks) cL_law RL 7 room_1 (some .boolean) none) (hXs : va_X b L xs s s.heap) (hbl : b < s.heap.size ∧ ¬ G.2.2.2.1 b) (hL : L ≤ 3072) (hj : 6 * j + 6 ≤ L) {kc ks : Nat} (hkc : kc ≤ 306 + j) (hks : ks ≤ 106459 + 6 * j) (op : lw_o0 Inv (fun h => fX9_saddle 0 h) (fun h => fX10_saddle 290 h)) (h : hp_T) (hI : Inv h) (hk : ∀ (kc2 ks2 : Nat) (h2 : hp_T), kc2 ≤ kc + 1 → ks2 ≤ ks + 6 → Inv h2 → xr_j l G (xl_K p e s m below meth c b kc2 ks2) 7 h2 (xl_V G b j) 1932 []) : xr_j l G (xl_K p e s m below meth c b kc ks) 7 h (xl_V G b j) 1031 [] := by
  have C := hC kc ks (by omega) (by omega)
  obtain ⟨r, h1, h2, e1, e2, hI⟩ := op h hI 
  dsimp only at e1 e2
  refine xr_aload_n C 1 dL_law_1031 rfl rfl ?_
  refine xr_callVi C lm_111 [] [] (mX9_saddle l G 0  (by decide +kernel) h h1 r e1) (by decide +kernel) (by decide) vc9 rfl ⟨rfl, rfl, Nat.le_of_ble_eq_true rfl, Nat.le_of_ble_eq_true rfl⟩ rfl (Nat.le_of_ble_eq_true rfl) dL_law_1032 ?_
  refine xr_aload_n C 2 dL_law_1035 rfl rfl ?_
  refine xr_callVi C lm_114 [] [.int r] (mX10_saddle l G 290  (by decide +kernel) h1 h2 r e2) (by decide +kernel) (by decide) vc10 rfl ⟨rfl, rfl, Nat.le_of_ble_eq_true rfl, Nat.le_of_ble_eq_true rfl⟩ rfl (Nat.le_of_ble_eq_true rfl) dL_law_1036 ?_
  refine xr_icmp_eq C 1932 dL_law_1039 (by decide) (fun _ => ?_) (fun c => absurd rfl c)
  exact hk kc ks h2 (Nat.le_succ _) (by omega) hI
set_option maxRecDepth 100000 in
set_option maxHeartbeats 4000000 in
theorem lc_21 {p : Program} {e : Env} {s : State} {m : MethodId} {below : List Frame} {meth : Method} {c : Code} {l : Launch} {G : xr_G} {b L j : Nat} {xs : Nat → Int32} {Inv : hp_T → Prop} (hC : ∀ kc ks : Nat, kc ≤ 601024 → ks ≤ 7293034 → xr_C G (xl_K p e s m below meth c b kc ks) cL_law RL 7 room_1 (some .boolean) none) (hXs : va_X b L xs s s.heap) (hbl : b < s.heap.size ∧ ¬ G.2.2.2.1 b) (hL : L ≤ 3072) (hj : 6 * j + 6 ≤ L) {kc ks : Nat} (hkc : kc ≤ 306 + j) (hks : ks ≤ 106459 + 6 * j) (op : lw_o2 Inv (fun a1 a2 h => fX9_reply 0 a1 a2 h) (fun a1 a2 h => fX10_reply 290 a1 a2 h)) (h : hp_T) (hI : Inv h) (hk : ∀ (kc2 ks2 : Nat) (h2 : hp_T), kc2 ≤ kc + 1 → ks2 ≤ ks + 6 → Inv h2 → xr_j l G (xl_K p e s m below meth c b kc2 ks2) 7 h2 (xl_V G b j) 1932 []) : xr_j l G (xl_K p e s m below meth c b kc ks) 7 h (xl_V G b j) 1044 [] := by
  have C := hC kc ks (by omega) (by omega)
  obtain ⟨r, h1, h2, e1, e2, hI⟩ := op h hI (xs (6 * j + 1)) (xs (6 * j + 2))
  dsimp only at e1 e2
  refine xr_aload_n C 1 dL_law_1044 rfl rfl ?_
  refine xr_aload_n C 0 dL_law_1045 rfl rfl ?_
  refine xr_iload C 4 dL_law_1046 rfl ?_
  refine xr_iconst (v := 1) C dL_law_1048 (by decide) ?_
  refine xr_iadd C dL_law_1049 ?_
  refine xl_sld (k := 1) C hXs hbl rfl rfl (by omega) hL dL_law_1050 ?_
  refine xr_aload_n C 0 dL_law_1051 rfl rfl ?_
  refine xr_iload C 4 dL_law_1052 rfl ?_
  refine xr_iconst (v := 2) C dL_law_1054 (by decide) ?_
  refine xr_iadd C dL_law_1055 ?_
  refine xl_sld (k := 2) C hXs hbl rfl rfl (by omega) hL dL_law_1056 ?_
  refine xr_callVi C lm_115 [.int (xs (6 * j + 1)), .int (xs (6 * j + 2))] [] (mX9_reply l G 0 (xs (6 * j + 1)) (xs (6 * j + 2)) (by decide +kernel) h h1 r e1) (by decide +kernel) (by decide) vc9 rfl ⟨rfl, rfl, Nat.le_of_ble_eq_true rfl, Nat.le_of_ble_eq_true rfl⟩ rfl (Nat.le_of_ble_eq_true rfl) dL_law_1057 ?_
  refine xr_aload_n C 2 dL_law_1060 rfl rfl ?_
  refine xr_aload_n C 0 dL_law_1061 rfl rfl ?_
  refine xr_iload C 4 dL_law_1062 rfl ?_
  refine xr_iconst (v := 1) C dL_law_1064 (by decide) ?_
  refine xr_iadd C dL_law_1065 ?_
  refine xl_sld (k := 1) C hXs hbl rfl rfl (by omega) hL dL_law_1066 ?_
  refine xr_aload_n C 0 dL_law_1067 rfl rfl ?_
  refine xr_iload C 4 dL_law_1068 rfl ?_
  refine xr_iconst (v := 2) C dL_law_1070 (by decide) ?_
  refine xr_iadd C dL_law_1071 ?_
  refine xl_sld (k := 2) C hXs hbl rfl rfl (by omega) hL dL_law_1072 ?_
  refine xr_callVi C lm_118 [.int (xs (6 * j + 1)), .int (xs (6 * j + 2))] [.int r] (mX10_reply l G 290 (xs (6 * j + 1)) (xs (6 * j + 2)) (by decide +kernel) h1 h2 r e2) (by decide +kernel) (by decide) vc10 rfl ⟨rfl, rfl, Nat.le_of_ble_eq_true rfl, Nat.le_of_ble_eq_true rfl⟩ rfl (Nat.le_of_ble_eq_true rfl) dL_law_1073 ?_
  refine xr_icmp_eq C 1932 dL_law_1076 (by decide) (fun _ => ?_) (fun c => absurd rfl c)
  exact hk kc ks h2 (Nat.le_succ _) (by omega) hI
set_option maxRecDepth 100000 in
set_option maxHeartbeats 4000000 in
theorem lc_22 {p : Program} {e : Env} {s : State} {m : MethodId} {below : List Frame} {meth : Method} {c : Code} {l : Launch} {G : xr_G} {b L j : Nat} {xs : Nat → Int32} {Inv : hp_T → Prop} (hC : ∀ kc ks : Nat, kc ≤ 601024 → ks ≤ 7293034 → xr_C G (xl_K p e s m below meth c b kc ks) cL_law RL 7 room_1 (some .boolean) none) (hXs : va_X b L xs s s.heap) (hbl : b < s.heap.size ∧ ¬ G.2.2.2.1 b) (hL : L ≤ 3072) (hj : 6 * j + 6 ≤ L) {kc ks : Nat} (hkc : kc ≤ 306 + j) (hks : ks ≤ 106459 + 6 * j) (op : lw_o1 Inv (fun a1 h => fX9_worth 0 a1 h) (fun a1 h => fX10_worth 290 a1 h)) (h : hp_T) (hI : Inv h) (hk : ∀ (kc2 ks2 : Nat) (h2 : hp_T), kc2 ≤ kc + 1 → ks2 ≤ ks + 6 → Inv h2 → xr_j l G (xl_K p e s m below meth c b kc2 ks2) 7 h2 (xl_V G b j) 1932 []) : xr_j l G (xl_K p e s m below meth c b kc ks) 7 h (xl_V G b j) 1081 [] := by
  have C := hC kc ks (by omega) (by omega)
  obtain ⟨r, h1, h2, e1, e2, hI⟩ := op h hI (xs (6 * j + 1))
  dsimp only at e1 e2
  refine xr_aload_n C 1 dL_law_1081 rfl rfl ?_
  refine xr_aload_n C 0 dL_law_1082 rfl rfl ?_
  refine xr_iload C 4 dL_law_1083 rfl ?_
  refine xr_iconst (v := 1) C dL_law_1085 (by decide) ?_
  refine xr_iadd C dL_law_1086 ?_
  refine xl_sld (k := 1) C hXs hbl rfl rfl (by omega) hL dL_law_1087 ?_
  refine xr_callVi C lm_119 [.int (xs (6 * j + 1))] [] (mX9_worth l G 0 (xs (6 * j + 1)) (by decide +kernel) h h1 r e1) (by decide +kernel) (by decide) vc9 rfl ⟨rfl, rfl, Nat.le_of_ble_eq_true rfl, Nat.le_of_ble_eq_true rfl⟩ rfl (Nat.le_of_ble_eq_true rfl) dL_law_1088 ?_
  refine xr_aload_n C 2 dL_law_1091 rfl rfl ?_
  refine xr_aload_n C 0 dL_law_1092 rfl rfl ?_
  refine xr_iload C 4 dL_law_1093 rfl ?_
  refine xr_iconst (v := 1) C dL_law_1095 (by decide) ?_
  refine xr_iadd C dL_law_1096 ?_
  refine xl_sld (k := 1) C hXs hbl rfl rfl (by omega) hL dL_law_1097 ?_
  refine xr_callVi C lm_122 [.int (xs (6 * j + 1))] [.int r] (mX10_worth l G 290 (xs (6 * j + 1)) (by decide +kernel) h1 h2 r e2) (by decide +kernel) (by decide) vc10 rfl ⟨rfl, rfl, Nat.le_of_ble_eq_true rfl, Nat.le_of_ble_eq_true rfl⟩ rfl (Nat.le_of_ble_eq_true rfl) dL_law_1098 ?_
  refine xr_icmp_eq C 1932 dL_law_1101 (by decide) (fun _ => ?_) (fun c => absurd rfl c)
  exact hk kc ks h2 (Nat.le_succ _) (by omega) hI
set_option maxRecDepth 100000 in
set_option maxHeartbeats 4000000 in
theorem lc_23 {p : Program} {e : Env} {s : State} {m : MethodId} {below : List Frame} {meth : Method} {c : Code} {l : Launch} {G : xr_G} {b L j : Nat} {xs : Nat → Int32} {Inv : hp_T → Prop} (hC : ∀ kc ks : Nat, kc ≤ 601024 → ks ≤ 7293034 → xr_C G (xl_K p e s m below meth c b kc ks) cL_law RL 7 room_1 (some .boolean) none) (hXs : va_X b L xs s s.heap) (hbl : b < s.heap.size ∧ ¬ G.2.2.2.1 b) (hL : L ≤ 3072) (hj : 6 * j + 6 ≤ L) {kc ks : Nat} (hkc : kc ≤ 306 + j) (hks : ks ≤ 106459 + 6 * j) (op : lw_o3 Inv (fun a1 a2 a3 h => fX9_ifSub 0 a1 a2 a3 h) (fun a1 a2 a3 h => fX10_ifSub 290 a1 a2 a3 h)) (h : hp_T) (hI : Inv h) (hk : ∀ (kc2 ks2 : Nat) (h2 : hp_T), kc2 ≤ kc + 1 → ks2 ≤ ks + 6 → Inv h2 → xr_j l G (xl_K p e s m below meth c b kc2 ks2) 7 h2 (xl_V G b j) 1932 []) : xr_j l G (xl_K p e s m below meth c b kc ks) 7 h (xl_V G b j) 1106 [] := by
  have C := hC kc ks (by omega) (by omega)
  obtain ⟨r, h1, h2, e1, e2, hI⟩ := op h hI (xs (6 * j + 1)) (xs (6 * j + 2)) (xs (6 * j + 3))
  dsimp only at e1 e2
  refine xr_aload_n C 1 dL_law_1106 rfl rfl ?_
  refine xr_aload_n C 0 dL_law_1107 rfl rfl ?_
  refine xr_iload C 4 dL_law_1108 rfl ?_
  refine xr_iconst (v := 1) C dL_law_1110 (by decide) ?_
  refine xr_iadd C dL_law_1111 ?_
  refine xl_sld (k := 1) C hXs hbl rfl rfl (by omega) hL dL_law_1112 ?_
  refine xr_aload_n C 0 dL_law_1113 rfl rfl ?_
  refine xr_iload C 4 dL_law_1114 rfl ?_
  refine xr_iconst (v := 2) C dL_law_1116 (by decide) ?_
  refine xr_iadd C dL_law_1117 ?_
  refine xl_sld (k := 2) C hXs hbl rfl rfl (by omega) hL dL_law_1118 ?_
  refine xr_aload_n C 0 dL_law_1119 rfl rfl ?_
  refine xr_iload C 4 dL_law_1120 rfl ?_
  refine xr_iconst (v := 3) C dL_law_1122 (by decide) ?_
  refine xr_iadd C dL_law_1123 ?_
  refine xl_sld (k := 3) C hXs hbl rfl rfl (by omega) hL dL_law_1124 ?_
  refine xr_callVi C lm_123 [.int (xs (6 * j + 1)), .int (xs (6 * j + 2)), .int (xs (6 * j + 3))] [] (mX9_ifSub l G 0 (xs (6 * j + 1)) (xs (6 * j + 2)) (xs (6 * j + 3)) (by decide +kernel) h h1 r e1) (by decide +kernel) (by decide) vc9 rfl ⟨rfl, rfl, Nat.le_of_ble_eq_true rfl, Nat.le_of_ble_eq_true rfl⟩ rfl (Nat.le_of_ble_eq_true rfl) dL_law_1125 ?_
  refine xr_aload_n C 2 dL_law_1128 rfl rfl ?_
  refine xr_aload_n C 0 dL_law_1129 rfl rfl ?_
  refine xr_iload C 4 dL_law_1130 rfl ?_
  refine xr_iconst (v := 1) C dL_law_1132 (by decide) ?_
  refine xr_iadd C dL_law_1133 ?_
  refine xl_sld (k := 1) C hXs hbl rfl rfl (by omega) hL dL_law_1134 ?_
  refine xr_aload_n C 0 dL_law_1135 rfl rfl ?_
  refine xr_iload C 4 dL_law_1136 rfl ?_
  refine xr_iconst (v := 2) C dL_law_1138 (by decide) ?_
  refine xr_iadd C dL_law_1139 ?_
  refine xl_sld (k := 2) C hXs hbl rfl rfl (by omega) hL dL_law_1140 ?_
  refine xr_aload_n C 0 dL_law_1141 rfl rfl ?_
  refine xr_iload C 4 dL_law_1142 rfl ?_
  refine xr_iconst (v := 3) C dL_law_1144 (by decide) ?_
  refine xr_iadd C dL_law_1145 ?_
  refine xl_sld (k := 3) C hXs hbl rfl rfl (by omega) hL dL_law_1146 ?_
  refine xr_callVi C lm_126 [.int (xs (6 * j + 1)), .int (xs (6 * j + 2)), .int (xs (6 * j + 3))] [.int r] (mX10_ifSub l G 290 (xs (6 * j + 1)) (xs (6 * j + 2)) (xs (6 * j + 3)) (by decide +kernel) h1 h2 r e2) (by decide +kernel) (by decide) vc10 rfl ⟨rfl, rfl, Nat.le_of_ble_eq_true rfl, Nat.le_of_ble_eq_true rfl⟩ rfl (Nat.le_of_ble_eq_true rfl) dL_law_1147 ?_
  refine xr_icmp_eq C 1932 dL_law_1150 (by decide) (fun _ => ?_) (fun c => absurd rfl c)
  exact hk kc ks h2 (Nat.le_succ _) (by omega) hI
set_option maxRecDepth 100000 in
set_option maxHeartbeats 4000000 in
theorem lc_24 {p : Program} {e : Env} {s : State} {m : MethodId} {below : List Frame} {meth : Method} {c : Code} {l : Launch} {G : xr_G} {b L j : Nat} {xs : Nat → Int32} {Inv : hp_T → Prop} (hC : ∀ kc ks : Nat, kc ≤ 601024 → ks ≤ 7293034 → xr_C G (xl_K p e s m below meth c b kc ks) cL_law RL 7 room_1 (some .boolean) none) (hXs : va_X b L xs s s.heap) (hbl : b < s.heap.size ∧ ¬ G.2.2.2.1 b) (hL : L ≤ 3072) (hj : 6 * j + 6 ≤ L) {kc ks : Nat} (hkc : kc ≤ 306 + j) (hks : ks ≤ 106459 + 6 * j) (op : lw_o2 Inv (fun a1 a2 h => fX9_bestSub 0 a1 a2 h) (fun a1 a2 h => fX10_bestSub 290 a1 a2 h)) (h : hp_T) (hI : Inv h) (hk : ∀ (kc2 ks2 : Nat) (h2 : hp_T), kc2 ≤ kc + 1 → ks2 ≤ ks + 6 → Inv h2 → xr_j l G (xl_K p e s m below meth c b kc2 ks2) 7 h2 (xl_V G b j) 1932 []) : xr_j l G (xl_K p e s m below meth c b kc ks) 7 h (xl_V G b j) 1155 [] := by
  have C := hC kc ks (by omega) (by omega)
  obtain ⟨r, h1, h2, e1, e2, hI⟩ := op h hI (xs (6 * j + 1)) (xs (6 * j + 2))
  dsimp only at e1 e2
  refine xr_aload_n C 1 dL_law_1155 rfl rfl ?_
  refine xr_aload_n C 0 dL_law_1156 rfl rfl ?_
  refine xr_iload C 4 dL_law_1157 rfl ?_
  refine xr_iconst (v := 1) C dL_law_1159 (by decide) ?_
  refine xr_iadd C dL_law_1160 ?_
  refine xl_sld (k := 1) C hXs hbl rfl rfl (by omega) hL dL_law_1161 ?_
  refine xr_aload_n C 0 dL_law_1162 rfl rfl ?_
  refine xr_iload C 4 dL_law_1163 rfl ?_
  refine xr_iconst (v := 2) C dL_law_1165 (by decide) ?_
  refine xr_iadd C dL_law_1166 ?_
  refine xl_sld (k := 2) C hXs hbl rfl rfl (by omega) hL dL_law_1167 ?_
  refine xr_callVi C lm_127 [.int (xs (6 * j + 1)), .int (xs (6 * j + 2))] [] (mX9_bestSub l G 0 (xs (6 * j + 1)) (xs (6 * j + 2)) (by decide +kernel) h h1 r e1) (by decide +kernel) (by decide) vc9 rfl ⟨rfl, rfl, Nat.le_of_ble_eq_true rfl, Nat.le_of_ble_eq_true rfl⟩ rfl (Nat.le_of_ble_eq_true rfl) dL_law_1168 ?_
  refine xr_aload_n C 2 dL_law_1171 rfl rfl ?_
  refine xr_aload_n C 0 dL_law_1172 rfl rfl ?_
  refine xr_iload C 4 dL_law_1173 rfl ?_
  refine xr_iconst (v := 1) C dL_law_1175 (by decide) ?_
  refine xr_iadd C dL_law_1176 ?_
  refine xl_sld (k := 1) C hXs hbl rfl rfl (by omega) hL dL_law_1177 ?_
  refine xr_aload_n C 0 dL_law_1178 rfl rfl ?_
  refine xr_iload C 4 dL_law_1179 rfl ?_
  refine xr_iconst (v := 2) C dL_law_1181 (by decide) ?_
  refine xr_iadd C dL_law_1182 ?_
  refine xl_sld (k := 2) C hXs hbl rfl rfl (by omega) hL dL_law_1183 ?_
  refine xr_callVi C lm_130 [.int (xs (6 * j + 1)), .int (xs (6 * j + 2))] [.int r] (mX10_bestSub l G 290 (xs (6 * j + 1)) (xs (6 * j + 2)) (by decide +kernel) h1 h2 r e2) (by decide +kernel) (by decide) vc10 rfl ⟨rfl, rfl, Nat.le_of_ble_eq_true rfl, Nat.le_of_ble_eq_true rfl⟩ rfl (Nat.le_of_ble_eq_true rfl) dL_law_1184 ?_
  refine xr_icmp_eq C 1932 dL_law_1187 (by decide) (fun _ => ?_) (fun c => absurd rfl c)
  exact hk kc ks h2 (Nat.le_succ _) (by omega) hI
set_option maxRecDepth 100000 in
set_option maxHeartbeats 4000000 in
theorem lc_25 {p : Program} {e : Env} {s : State} {m : MethodId} {below : List Frame} {meth : Method} {c : Code} {l : Launch} {G : xr_G} {b L j : Nat} {xs : Nat → Int32} {Inv : hp_T → Prop} (hC : ∀ kc ks : Nat, kc ≤ 601024 → ks ≤ 7293034 → xr_C G (xl_K p e s m below meth c b kc ks) cL_law RL 7 room_1 (some .boolean) none) (hXs : va_X b L xs s s.heap) (hbl : b < s.heap.size ∧ ¬ G.2.2.2.1 b) (hL : L ≤ 3072) (hj : 6 * j + 6 ≤ L) {kc ks : Nat} (hkc : kc ≤ 306 + j) (hks : ks ≤ 106459 + 6 * j) (op : lw_o2 Inv (fun a1 a2 h => fX9_bestMove 0 a1 a2 h) (fun a1 a2 h => fX10_bestMove 290 a1 a2 h)) (h : hp_T) (hI : Inv h) (hk : ∀ (kc2 ks2 : Nat) (h2 : hp_T), kc2 ≤ kc + 1 → ks2 ≤ ks + 6 → Inv h2 → xr_j l G (xl_K p e s m below meth c b kc2 ks2) 7 h2 (xl_V G b j) 1932 []) : xr_j l G (xl_K p e s m below meth c b kc ks) 7 h (xl_V G b j) 1192 [] := by
  have C := hC kc ks (by omega) (by omega)
  obtain ⟨r, h1, h2, e1, e2, hI⟩ := op h hI (xs (6 * j + 1)) (xs (6 * j + 2))
  dsimp only at e1 e2
  refine xr_aload_n C 1 dL_law_1192 rfl rfl ?_
  refine xr_aload_n C 0 dL_law_1193 rfl rfl ?_
  refine xr_iload C 4 dL_law_1194 rfl ?_
  refine xr_iconst (v := 1) C dL_law_1196 (by decide) ?_
  refine xr_iadd C dL_law_1197 ?_
  refine xl_sld (k := 1) C hXs hbl rfl rfl (by omega) hL dL_law_1198 ?_
  refine xr_aload_n C 0 dL_law_1199 rfl rfl ?_
  refine xr_iload C 4 dL_law_1200 rfl ?_
  refine xr_iconst (v := 2) C dL_law_1202 (by decide) ?_
  refine xr_iadd C dL_law_1203 ?_
  refine xl_sld (k := 2) C hXs hbl rfl rfl (by omega) hL dL_law_1204 ?_
  refine xr_callVi C lm_131 [.int (xs (6 * j + 1)), .int (xs (6 * j + 2))] [] (mX9_bestMove l G 0 (xs (6 * j + 1)) (xs (6 * j + 2)) (by decide +kernel) h h1 r e1) (by decide +kernel) (by decide) vc9 rfl ⟨rfl, rfl, Nat.le_of_ble_eq_true rfl, Nat.le_of_ble_eq_true rfl⟩ rfl (Nat.le_of_ble_eq_true rfl) dL_law_1205 ?_
  refine xr_aload_n C 2 dL_law_1208 rfl rfl ?_
  refine xr_aload_n C 0 dL_law_1209 rfl rfl ?_
  refine xr_iload C 4 dL_law_1210 rfl ?_
  refine xr_iconst (v := 1) C dL_law_1212 (by decide) ?_
  refine xr_iadd C dL_law_1213 ?_
  refine xl_sld (k := 1) C hXs hbl rfl rfl (by omega) hL dL_law_1214 ?_
  refine xr_aload_n C 0 dL_law_1215 rfl rfl ?_
  refine xr_iload C 4 dL_law_1216 rfl ?_
  refine xr_iconst (v := 2) C dL_law_1218 (by decide) ?_
  refine xr_iadd C dL_law_1219 ?_
  refine xl_sld (k := 2) C hXs hbl rfl rfl (by omega) hL dL_law_1220 ?_
  refine xr_callVi C lm_134 [.int (xs (6 * j + 1)), .int (xs (6 * j + 2))] [.int r] (mX10_bestMove l G 290 (xs (6 * j + 1)) (xs (6 * j + 2)) (by decide +kernel) h1 h2 r e2) (by decide +kernel) (by decide) vc10 rfl ⟨rfl, rfl, Nat.le_of_ble_eq_true rfl, Nat.le_of_ble_eq_true rfl⟩ rfl (Nat.le_of_ble_eq_true rfl) dL_law_1221 ?_
  refine xr_icmp_eq C 1932 dL_law_1224 (by decide) (fun _ => ?_) (fun c => absurd rfl c)
  exact hk kc ks h2 (Nat.le_succ _) (by omega) hI
set_option maxRecDepth 100000 in
set_option maxHeartbeats 4000000 in
theorem lc_26 {p : Program} {e : Env} {s : State} {m : MethodId} {below : List Frame} {meth : Method} {c : Code} {l : Launch} {G : xr_G} {b L j : Nat} {xs : Nat → Int32} {Inv : hp_T → Prop} (hC : ∀ kc ks : Nat, kc ≤ 601024 → ks ≤ 7293034 → xr_C G (xl_K p e s m below meth c b kc ks) cL_law RL 7 room_1 (some .boolean) none) (hXs : va_X b L xs s s.heap) (hbl : b < s.heap.size ∧ ¬ G.2.2.2.1 b) (hL : L ≤ 3072) (hj : 6 * j + 6 ≤ L) {kc ks : Nat} (hkc : kc ≤ 306 + j) (hks : ks ≤ 106459 + 6 * j) (op : lw_o2 Inv (fun a1 a2 h => fX9_likely 0 a1 a2 h) (fun a1 a2 h => fX10_likely 290 a1 a2 h)) (h : hp_T) (hI : Inv h) (hk : ∀ (kc2 ks2 : Nat) (h2 : hp_T), kc2 ≤ kc + 1 → ks2 ≤ ks + 6 → Inv h2 → xr_j l G (xl_K p e s m below meth c b kc2 ks2) 7 h2 (xl_V G b j) 1932 []) : xr_j l G (xl_K p e s m below meth c b kc ks) 7 h (xl_V G b j) 1229 [] := by
  have C := hC kc ks (by omega) (by omega)
  obtain ⟨r, h1, h2, e1, e2, hI⟩ := op h hI (xs (6 * j + 1)) (xs (6 * j + 2))
  dsimp only at e1 e2
  refine xr_aload_n C 1 dL_law_1229 rfl rfl ?_
  refine xr_aload_n C 0 dL_law_1230 rfl rfl ?_
  refine xr_iload C 4 dL_law_1231 rfl ?_
  refine xr_iconst (v := 1) C dL_law_1233 (by decide) ?_
  refine xr_iadd C dL_law_1234 ?_
  refine xl_sld (k := 1) C hXs hbl rfl rfl (by omega) hL dL_law_1235 ?_
  refine xr_aload_n C 0 dL_law_1236 rfl rfl ?_
  refine xr_iload C 4 dL_law_1237 rfl ?_
  refine xr_iconst (v := 2) C dL_law_1239 (by decide) ?_
  refine xr_iadd C dL_law_1240 ?_
  refine xl_sld (k := 2) C hXs hbl rfl rfl (by omega) hL dL_law_1241 ?_
  refine xr_callVi C lm_135 [.int (xs (6 * j + 1)), .int (xs (6 * j + 2))] [] (mX9_likely l G 0 (xs (6 * j + 1)) (xs (6 * j + 2)) (by decide +kernel) h h1 r e1) (by decide +kernel) (by decide) vc9 rfl ⟨rfl, rfl, Nat.le_of_ble_eq_true rfl, Nat.le_of_ble_eq_true rfl⟩ rfl (Nat.le_of_ble_eq_true rfl) dL_law_1242 ?_
  refine xr_aload_n C 2 dL_law_1245 rfl rfl ?_
  refine xr_aload_n C 0 dL_law_1246 rfl rfl ?_
  refine xr_iload C 4 dL_law_1247 rfl ?_
  refine xr_iconst (v := 1) C dL_law_1249 (by decide) ?_
  refine xr_iadd C dL_law_1250 ?_
  refine xl_sld (k := 1) C hXs hbl rfl rfl (by omega) hL dL_law_1251 ?_
  refine xr_aload_n C 0 dL_law_1252 rfl rfl ?_
  refine xr_iload C 4 dL_law_1253 rfl ?_
  refine xr_iconst (v := 2) C dL_law_1255 (by decide) ?_
  refine xr_iadd C dL_law_1256 ?_
  refine xl_sld (k := 2) C hXs hbl rfl rfl (by omega) hL dL_law_1257 ?_
  refine xr_callVi C lm_138 [.int (xs (6 * j + 1)), .int (xs (6 * j + 2))] [.int r] (mX10_likely l G 290 (xs (6 * j + 1)) (xs (6 * j + 2)) (by decide +kernel) h1 h2 r e2) (by decide +kernel) (by decide) vc10 rfl ⟨rfl, rfl, Nat.le_of_ble_eq_true rfl, Nat.le_of_ble_eq_true rfl⟩ rfl (Nat.le_of_ble_eq_true rfl) dL_law_1258 ?_
  refine xr_icmp_eq C 1932 dL_law_1261 (by decide) (fun _ => ?_) (fun c => absurd rfl c)
  exact hk kc ks h2 (Nat.le_succ _) (by omega) hI
set_option maxRecDepth 100000 in
set_option maxHeartbeats 4000000 in
theorem lc_27 {p : Program} {e : Env} {s : State} {m : MethodId} {below : List Frame} {meth : Method} {c : Code} {l : Launch} {G : xr_G} {b L j : Nat} {xs : Nat → Int32} {Inv : hp_T → Prop} (hC : ∀ kc ks : Nat, kc ≤ 601024 → ks ≤ 7293034 → xr_C G (xl_K p e s m below meth c b kc ks) cL_law RL 7 room_1 (some .boolean) none) (hXs : va_X b L xs s s.heap) (hbl : b < s.heap.size ∧ ¬ G.2.2.2.1 b) (hL : L ≤ 3072) (hj : 6 * j + 6 ≤ L) {kc ks : Nat} (hkc : kc ≤ 306 + j) (hks : ks ≤ 106459 + 6 * j) (op : lw_o2 Inv (fun a1 a2 h => fX9_ends 0 a1 a2 h) (fun a1 a2 h => fX10_ends 290 a1 a2 h)) (h : hp_T) (hI : Inv h) (hk : ∀ (kc2 ks2 : Nat) (h2 : hp_T), kc2 ≤ kc + 1 → ks2 ≤ ks + 6 → Inv h2 → xr_j l G (xl_K p e s m below meth c b kc2 ks2) 7 h2 (xl_V G b j) 1932 []) : xr_j l G (xl_K p e s m below meth c b kc ks) 7 h (xl_V G b j) 1266 [] := by
  have C := hC kc ks (by omega) (by omega)
  obtain ⟨r, h1, h2, e1, e2, hI⟩ := op h hI (xs (6 * j + 1)) (xs (6 * j + 2))
  dsimp only at e1 e2
  refine xr_aload_n C 1 dL_law_1266 rfl rfl ?_
  refine xr_aload_n C 0 dL_law_1267 rfl rfl ?_
  refine xr_iload C 4 dL_law_1268 rfl ?_
  refine xr_iconst (v := 1) C dL_law_1270 (by decide) ?_
  refine xr_iadd C dL_law_1271 ?_
  refine xl_sld (k := 1) C hXs hbl rfl rfl (by omega) hL dL_law_1272 ?_
  refine xr_aload_n C 0 dL_law_1273 rfl rfl ?_
  refine xr_iload C 4 dL_law_1274 rfl ?_
  refine xr_iconst (v := 2) C dL_law_1276 (by decide) ?_
  refine xr_iadd C dL_law_1277 ?_
  refine xl_sld (k := 2) C hXs hbl rfl rfl (by omega) hL dL_law_1278 ?_
  refine xr_callVi C lm_139 [.int (xs (6 * j + 1)), .int (xs (6 * j + 2))] [] (mX9_ends l G 0 (xs (6 * j + 1)) (xs (6 * j + 2)) (by decide +kernel) h h1 r e1) (by decide +kernel) (by decide) vc9 rfl ⟨rfl, rfl, Nat.le_of_ble_eq_true rfl, Nat.le_of_ble_eq_true rfl⟩ rfl (Nat.le_of_ble_eq_true rfl) dL_law_1279 ?_
  refine xr_aload_n C 2 dL_law_1282 rfl rfl ?_
  refine xr_aload_n C 0 dL_law_1283 rfl rfl ?_
  refine xr_iload C 4 dL_law_1284 rfl ?_
  refine xr_iconst (v := 1) C dL_law_1286 (by decide) ?_
  refine xr_iadd C dL_law_1287 ?_
  refine xl_sld (k := 1) C hXs hbl rfl rfl (by omega) hL dL_law_1288 ?_
  refine xr_aload_n C 0 dL_law_1289 rfl rfl ?_
  refine xr_iload C 4 dL_law_1290 rfl ?_
  refine xr_iconst (v := 2) C dL_law_1292 (by decide) ?_
  refine xr_iadd C dL_law_1293 ?_
  refine xl_sld (k := 2) C hXs hbl rfl rfl (by omega) hL dL_law_1294 ?_
  refine xr_callVi C lm_142 [.int (xs (6 * j + 1)), .int (xs (6 * j + 2))] [.int r] (mX10_ends l G 290 (xs (6 * j + 1)) (xs (6 * j + 2)) (by decide +kernel) h1 h2 r e2) (by decide +kernel) (by decide) vc10 rfl ⟨rfl, rfl, Nat.le_of_ble_eq_true rfl, Nat.le_of_ble_eq_true rfl⟩ rfl (Nat.le_of_ble_eq_true rfl) dL_law_1295 ?_
  refine xr_icmp_eq C 1932 dL_law_1298 (by decide) (fun _ => ?_) (fun c => absurd rfl c)
  exact hk kc ks h2 (Nat.le_succ _) (by omega) hI
set_option maxRecDepth 100000 in
set_option maxHeartbeats 4000000 in
theorem lc_28 {p : Program} {e : Env} {s : State} {m : MethodId} {below : List Frame} {meth : Method} {c : Code} {l : Launch} {G : xr_G} {b L j : Nat} {xs : Nat → Int32} {Inv : hp_T → Prop} (hC : ∀ kc ks : Nat, kc ≤ 601024 → ks ≤ 7293034 → xr_C G (xl_K p e s m below meth c b kc ks) cL_law RL 7 room_1 (some .boolean) none) (hXs : va_X b L xs s s.heap) (hbl : b < s.heap.size ∧ ¬ G.2.2.2.1 b) (hL : L ≤ 3072) (hj : 6 * j + 6 ≤ L) {kc ks : Nat} (hkc : kc ≤ 306 + j) (hks : ks ≤ 106459 + 6 * j) (op : lw_o0 Inv (fun h => fX9_length 0 h) (fun h => fX10_length 290 h)) (h : hp_T) (hI : Inv h) (hk : ∀ (kc2 ks2 : Nat) (h2 : hp_T), kc2 ≤ kc + 1 → ks2 ≤ ks + 6 → Inv h2 → xr_j l G (xl_K p e s m below meth c b kc2 ks2) 7 h2 (xl_V G b j) 1932 []) : xr_j l G (xl_K p e s m below meth c b kc ks) 7 h (xl_V G b j) 1303 [] := by
  have C := hC kc ks (by omega) (by omega)
  obtain ⟨r, h1, h2, e1, e2, hI⟩ := op h hI 
  dsimp only at e1 e2
  refine xr_aload_n C 1 dL_law_1303 rfl rfl ?_
  refine xr_callVi C lm_143 [] [] (mX9_length l G 0  (by decide +kernel) h h1 r e1) (by decide +kernel) (by decide) vc9 rfl ⟨rfl, rfl, Nat.le_of_ble_eq_true rfl, Nat.le_of_ble_eq_true rfl⟩ rfl (Nat.le_of_ble_eq_true rfl) dL_law_1304 ?_
  refine xr_aload_n C 2 dL_law_1307 rfl rfl ?_
  refine xr_callVi C lm_146 [] [.int r] (mX10_length l G 290  (by decide +kernel) h1 h2 r e2) (by decide +kernel) (by decide) vc10 rfl ⟨rfl, rfl, Nat.le_of_ble_eq_true rfl, Nat.le_of_ble_eq_true rfl⟩ rfl (Nat.le_of_ble_eq_true rfl) dL_law_1308 ?_
  refine xr_icmp_eq C 1932 dL_law_1311 (by decide) (fun _ => ?_) (fun c => absurd rfl c)
  exact hk kc ks h2 (Nat.le_succ _) (by omega) hI
set_option maxRecDepth 100000 in
set_option maxHeartbeats 4000000 in
theorem lc_29 {p : Program} {e : Env} {s : State} {m : MethodId} {below : List Frame} {meth : Method} {c : Code} {l : Launch} {G : xr_G} {b L j : Nat} {xs : Nat → Int32} {Inv : hp_T → Prop} (hC : ∀ kc ks : Nat, kc ≤ 601024 → ks ≤ 7293034 → xr_C G (xl_K p e s m below meth c b kc ks) cL_law RL 7 room_1 (some .boolean) none) (hXs : va_X b L xs s s.heap) (hbl : b < s.heap.size ∧ ¬ G.2.2.2.1 b) (hL : L ≤ 3072) (hj : 6 * j + 6 ≤ L) {kc ks : Nat} (hkc : kc ≤ 306 + j) (hks : ks ≤ 106459 + 6 * j) (op : lw_o2 Inv (fun a1 a2 h => fX9_streak 0 a1 a2 h) (fun a1 a2 h => fX10_streak 290 a1 a2 h)) (h : hp_T) (hI : Inv h) (hk : ∀ (kc2 ks2 : Nat) (h2 : hp_T), kc2 ≤ kc + 1 → ks2 ≤ ks + 6 → Inv h2 → xr_j l G (xl_K p e s m below meth c b kc2 ks2) 7 h2 (xl_V G b j) 1932 []) : xr_j l G (xl_K p e s m below meth c b kc ks) 7 h (xl_V G b j) 1316 [] := by
  have C := hC kc ks (by omega) (by omega)
  obtain ⟨r, h1, h2, e1, e2, hI⟩ := op h hI (xs (6 * j + 1)) (xs (6 * j + 2))
  dsimp only at e1 e2
  refine xr_aload_n C 1 dL_law_1316 rfl rfl ?_
  refine xr_aload_n C 0 dL_law_1317 rfl rfl ?_
  refine xr_iload C 4 dL_law_1318 rfl ?_
  refine xr_iconst (v := 1) C dL_law_1320 (by decide) ?_
  refine xr_iadd C dL_law_1321 ?_
  refine xl_sld (k := 1) C hXs hbl rfl rfl (by omega) hL dL_law_1322 ?_
  refine xr_aload_n C 0 dL_law_1323 rfl rfl ?_
  refine xr_iload C 4 dL_law_1324 rfl ?_
  refine xr_iconst (v := 2) C dL_law_1326 (by decide) ?_
  refine xr_iadd C dL_law_1327 ?_
  refine xl_sld (k := 2) C hXs hbl rfl rfl (by omega) hL dL_law_1328 ?_
  refine xr_callVi C lm_147 [.int (xs (6 * j + 1)), .int (xs (6 * j + 2))] [] (mX9_streak l G 0 (xs (6 * j + 1)) (xs (6 * j + 2)) (by decide +kernel) h h1 r e1) (by decide +kernel) (by decide) vc9 rfl ⟨rfl, rfl, Nat.le_of_ble_eq_true rfl, Nat.le_of_ble_eq_true rfl⟩ rfl (Nat.le_of_ble_eq_true rfl) dL_law_1329 ?_
  refine xr_aload_n C 2 dL_law_1332 rfl rfl ?_
  refine xr_aload_n C 0 dL_law_1333 rfl rfl ?_
  refine xr_iload C 4 dL_law_1334 rfl ?_
  refine xr_iconst (v := 1) C dL_law_1336 (by decide) ?_
  refine xr_iadd C dL_law_1337 ?_
  refine xl_sld (k := 1) C hXs hbl rfl rfl (by omega) hL dL_law_1338 ?_
  refine xr_aload_n C 0 dL_law_1339 rfl rfl ?_
  refine xr_iload C 4 dL_law_1340 rfl ?_
  refine xr_iconst (v := 2) C dL_law_1342 (by decide) ?_
  refine xr_iadd C dL_law_1343 ?_
  refine xl_sld (k := 2) C hXs hbl rfl rfl (by omega) hL dL_law_1344 ?_
  refine xr_callVi C lm_150 [.int (xs (6 * j + 1)), .int (xs (6 * j + 2))] [.int r] (mX10_streak l G 290 (xs (6 * j + 1)) (xs (6 * j + 2)) (by decide +kernel) h1 h2 r e2) (by decide +kernel) (by decide) vc10 rfl ⟨rfl, rfl, Nat.le_of_ble_eq_true rfl, Nat.le_of_ble_eq_true rfl⟩ rfl (Nat.le_of_ble_eq_true rfl) dL_law_1345 ?_
  refine xr_icmp_eq C 1932 dL_law_1348 (by decide) (fun _ => ?_) (fun c => absurd rfl c)
  exact hk kc ks h2 (Nat.le_succ _) (by omega) hI
set_option maxRecDepth 100000 in
set_option maxHeartbeats 4000000 in
theorem lc_30 {p : Program} {e : Env} {s : State} {m : MethodId} {below : List Frame} {meth : Method} {c : Code} {l : Launch} {G : xr_G} {b L j : Nat} {xs : Nat → Int32} {Inv : hp_T → Prop} (hC : ∀ kc ks : Nat, kc ≤ 601024 → ks ≤ 7293034 → xr_C G (xl_K p e s m below meth c b kc ks) cL_law RL 7 room_1 (some .boolean) none) (hXs : va_X b L xs s s.heap) (hbl : b < s.heap.size ∧ ¬ G.2.2.2.1 b) (hL : L ≤ 3072) (hj : 6 * j + 6 ≤ L) {kc ks : Nat} (hkc : kc ≤ 306 + j) (hks : ks ≤ 106459 + 6 * j) (op : lw_o2 Inv (fun a1 a2 h => fX9_weak 0 a1 a2 h) (fun a1 a2 h => fX10_weak 290 a1 a2 h)) (h : hp_T) (hI : Inv h) (hk : ∀ (kc2 ks2 : Nat) (h2 : hp_T), kc2 ≤ kc + 1 → ks2 ≤ ks + 6 → Inv h2 → xr_j l G (xl_K p e s m below meth c b kc2 ks2) 7 h2 (xl_V G b j) 1932 []) : xr_j l G (xl_K p e s m below meth c b kc ks) 7 h (xl_V G b j) 1353 [] := by
  have C := hC kc ks (by omega) (by omega)
  obtain ⟨r, h1, h2, e1, e2, hI⟩ := op h hI (xs (6 * j + 1)) (xs (6 * j + 2))
  dsimp only at e1 e2
  refine xr_aload_n C 1 dL_law_1353 rfl rfl ?_
  refine xr_aload_n C 0 dL_law_1354 rfl rfl ?_
  refine xr_iload C 4 dL_law_1355 rfl ?_
  refine xr_iconst (v := 1) C dL_law_1357 (by decide) ?_
  refine xr_iadd C dL_law_1358 ?_
  refine xl_sld (k := 1) C hXs hbl rfl rfl (by omega) hL dL_law_1359 ?_
  refine xr_aload_n C 0 dL_law_1360 rfl rfl ?_
  refine xr_iload C 4 dL_law_1361 rfl ?_
  refine xr_iconst (v := 2) C dL_law_1363 (by decide) ?_
  refine xr_iadd C dL_law_1364 ?_
  refine xl_sld (k := 2) C hXs hbl rfl rfl (by omega) hL dL_law_1365 ?_
  refine xr_callVi C lm_151 [.int (xs (6 * j + 1)), .int (xs (6 * j + 2))] [] (mX9_weak l G 0 (xs (6 * j + 1)) (xs (6 * j + 2)) (by decide +kernel) h h1 r e1) (by decide +kernel) (by decide) vc9 rfl ⟨rfl, rfl, Nat.le_of_ble_eq_true rfl, Nat.le_of_ble_eq_true rfl⟩ rfl (Nat.le_of_ble_eq_true rfl) dL_law_1366 ?_
  refine xr_aload_n C 2 dL_law_1369 rfl rfl ?_
  refine xr_aload_n C 0 dL_law_1370 rfl rfl ?_
  refine xr_iload C 4 dL_law_1371 rfl ?_
  refine xr_iconst (v := 1) C dL_law_1373 (by decide) ?_
  refine xr_iadd C dL_law_1374 ?_
  refine xl_sld (k := 1) C hXs hbl rfl rfl (by omega) hL dL_law_1375 ?_
  refine xr_aload_n C 0 dL_law_1376 rfl rfl ?_
  refine xr_iload C 4 dL_law_1377 rfl ?_
  refine xr_iconst (v := 2) C dL_law_1379 (by decide) ?_
  refine xr_iadd C dL_law_1380 ?_
  refine xl_sld (k := 2) C hXs hbl rfl rfl (by omega) hL dL_law_1381 ?_
  refine xr_callVi C lm_154 [.int (xs (6 * j + 1)), .int (xs (6 * j + 2))] [.int r] (mX10_weak l G 290 (xs (6 * j + 1)) (xs (6 * j + 2)) (by decide +kernel) h1 h2 r e2) (by decide +kernel) (by decide) vc10 rfl ⟨rfl, rfl, Nat.le_of_ble_eq_true rfl, Nat.le_of_ble_eq_true rfl⟩ rfl (Nat.le_of_ble_eq_true rfl) dL_law_1382 ?_
  refine xr_icmp_eq C 1932 dL_law_1385 (by decide) (fun _ => ?_) (fun c => absurd rfl c)
  exact hk kc ks h2 (Nat.le_succ _) (by omega) hI
set_option maxRecDepth 100000 in
set_option maxHeartbeats 4000000 in
theorem lc_31 {p : Program} {e : Env} {s : State} {m : MethodId} {below : List Frame} {meth : Method} {c : Code} {l : Launch} {G : xr_G} {b L j : Nat} {xs : Nat → Int32} {Inv : hp_T → Prop} (hC : ∀ kc ks : Nat, kc ≤ 601024 → ks ≤ 7293034 → xr_C G (xl_K p e s m below meth c b kc ks) cL_law RL 7 room_1 (some .boolean) none) (hXs : va_X b L xs s s.heap) (hbl : b < s.heap.size ∧ ¬ G.2.2.2.1 b) (hL : L ≤ 3072) (hj : 6 * j + 6 ≤ L) {kc ks : Nat} (hkc : kc ≤ 306 + j) (hks : ks ≤ 106459 + 6 * j) (op : lw_o3 Inv (fun a1 a2 a3 h => fX9_ifSwapped 0 a1 a2 a3 h) (fun a1 a2 a3 h => fX10_ifSwapped 290 a1 a2 a3 h)) (h : hp_T) (hI : Inv h) (hk : ∀ (kc2 ks2 : Nat) (h2 : hp_T), kc2 ≤ kc + 1 → ks2 ≤ ks + 6 → Inv h2 → xr_j l G (xl_K p e s m below meth c b kc2 ks2) 7 h2 (xl_V G b j) 1932 []) : xr_j l G (xl_K p e s m below meth c b kc ks) 7 h (xl_V G b j) 1390 [] := by
  have C := hC kc ks (by omega) (by omega)
  obtain ⟨r, h1, h2, e1, e2, hI⟩ := op h hI (xs (6 * j + 1)) (xs (6 * j + 2)) (xs (6 * j + 3))
  dsimp only at e1 e2
  refine xr_aload_n C 1 dL_law_1390 rfl rfl ?_
  refine xr_aload_n C 0 dL_law_1391 rfl rfl ?_
  refine xr_iload C 4 dL_law_1392 rfl ?_
  refine xr_iconst (v := 1) C dL_law_1394 (by decide) ?_
  refine xr_iadd C dL_law_1395 ?_
  refine xl_sld (k := 1) C hXs hbl rfl rfl (by omega) hL dL_law_1396 ?_
  refine xr_aload_n C 0 dL_law_1397 rfl rfl ?_
  refine xr_iload C 4 dL_law_1398 rfl ?_
  refine xr_iconst (v := 2) C dL_law_1400 (by decide) ?_
  refine xr_iadd C dL_law_1401 ?_
  refine xl_sld (k := 2) C hXs hbl rfl rfl (by omega) hL dL_law_1402 ?_
  refine xr_aload_n C 0 dL_law_1403 rfl rfl ?_
  refine xr_iload C 4 dL_law_1404 rfl ?_
  refine xr_iconst (v := 3) C dL_law_1406 (by decide) ?_
  refine xr_iadd C dL_law_1407 ?_
  refine xl_sld (k := 3) C hXs hbl rfl rfl (by omega) hL dL_law_1408 ?_
  refine xr_callVi C lm_155 [.int (xs (6 * j + 1)), .int (xs (6 * j + 2)), .int (xs (6 * j + 3))] [] (mX9_ifSwapped l G 0 (xs (6 * j + 1)) (xs (6 * j + 2)) (xs (6 * j + 3)) (by decide +kernel) h h1 r e1) (by decide +kernel) (by decide) vc9 rfl ⟨rfl, rfl, Nat.le_of_ble_eq_true rfl, Nat.le_of_ble_eq_true rfl⟩ rfl (Nat.le_of_ble_eq_true rfl) dL_law_1409 ?_
  refine xr_aload_n C 2 dL_law_1412 rfl rfl ?_
  refine xr_aload_n C 0 dL_law_1413 rfl rfl ?_
  refine xr_iload C 4 dL_law_1414 rfl ?_
  refine xr_iconst (v := 1) C dL_law_1416 (by decide) ?_
  refine xr_iadd C dL_law_1417 ?_
  refine xl_sld (k := 1) C hXs hbl rfl rfl (by omega) hL dL_law_1418 ?_
  refine xr_aload_n C 0 dL_law_1419 rfl rfl ?_
  refine xr_iload C 4 dL_law_1420 rfl ?_
  refine xr_iconst (v := 2) C dL_law_1422 (by decide) ?_
  refine xr_iadd C dL_law_1423 ?_
  refine xl_sld (k := 2) C hXs hbl rfl rfl (by omega) hL dL_law_1424 ?_
  refine xr_aload_n C 0 dL_law_1425 rfl rfl ?_
  refine xr_iload C 4 dL_law_1426 rfl ?_
  refine xr_iconst (v := 3) C dL_law_1428 (by decide) ?_
  refine xr_iadd C dL_law_1429 ?_
  refine xl_sld (k := 3) C hXs hbl rfl rfl (by omega) hL dL_law_1430 ?_
  refine xr_callVi C lm_158 [.int (xs (6 * j + 1)), .int (xs (6 * j + 2)), .int (xs (6 * j + 3))] [.int r] (mX10_ifSwapped l G 290 (xs (6 * j + 1)) (xs (6 * j + 2)) (xs (6 * j + 3)) (by decide +kernel) h1 h2 r e2) (by decide +kernel) (by decide) vc10 rfl ⟨rfl, rfl, Nat.le_of_ble_eq_true rfl, Nat.le_of_ble_eq_true rfl⟩ rfl (Nat.le_of_ble_eq_true rfl) dL_law_1431 ?_
  refine xr_icmp_eq C 1932 dL_law_1434 (by decide) (fun _ => ?_) (fun c => absurd rfl c)
  exact hk kc ks h2 (Nat.le_succ _) (by omega) hI
set_option maxRecDepth 100000 in
set_option maxHeartbeats 4000000 in
theorem lc_32 {p : Program} {e : Env} {s : State} {m : MethodId} {below : List Frame} {meth : Method} {c : Code} {l : Launch} {G : xr_G} {b L j : Nat} {xs : Nat → Int32} {Inv : hp_T → Prop} (hC : ∀ kc ks : Nat, kc ≤ 601024 → ks ≤ 7293034 → xr_C G (xl_K p e s m below meth c b kc ks) cL_law RL 7 room_1 (some .boolean) none) (hXs : va_X b L xs s s.heap) (hbl : b < s.heap.size ∧ ¬ G.2.2.2.1 b) (hL : L ≤ 3072) (hj : 6 * j + 6 ≤ L) {kc ks : Nat} (hkc : kc ≤ 306 + j) (hks : ks ≤ 106459 + 6 * j) (op : lw_o2 Inv (fun a1 a2 h => fX9_strength 0 a1 a2 h) (fun a1 a2 h => fX10_strength 290 a1 a2 h)) (h : hp_T) (hI : Inv h) (hk : ∀ (kc2 ks2 : Nat) (h2 : hp_T), kc2 ≤ kc + 1 → ks2 ≤ ks + 6 → Inv h2 → xr_j l G (xl_K p e s m below meth c b kc2 ks2) 7 h2 (xl_V G b j) 1932 []) : xr_j l G (xl_K p e s m below meth c b kc ks) 7 h (xl_V G b j) 1439 [] := by
  have C := hC kc ks (by omega) (by omega)
  obtain ⟨r, h1, h2, e1, e2, hI⟩ := op h hI (xs (6 * j + 1)) (xs (6 * j + 2))
  dsimp only at e1 e2
  refine xr_aload_n C 1 dL_law_1439 rfl rfl ?_
  refine xr_aload_n C 0 dL_law_1440 rfl rfl ?_
  refine xr_iload C 4 dL_law_1441 rfl ?_
  refine xr_iconst (v := 1) C dL_law_1443 (by decide) ?_
  refine xr_iadd C dL_law_1444 ?_
  refine xl_sld (k := 1) C hXs hbl rfl rfl (by omega) hL dL_law_1445 ?_
  refine xr_aload_n C 0 dL_law_1446 rfl rfl ?_
  refine xr_iload C 4 dL_law_1447 rfl ?_
  refine xr_iconst (v := 2) C dL_law_1449 (by decide) ?_
  refine xr_iadd C dL_law_1450 ?_
  refine xl_sld (k := 2) C hXs hbl rfl rfl (by omega) hL dL_law_1451 ?_
  refine xr_callVi C lm_159 [.int (xs (6 * j + 1)), .int (xs (6 * j + 2))] [] (mX9_strength l G 0 (xs (6 * j + 1)) (xs (6 * j + 2)) (by decide +kernel) h h1 r e1) (by decide +kernel) (by decide) vc9 rfl ⟨rfl, rfl, Nat.le_of_ble_eq_true rfl, Nat.le_of_ble_eq_true rfl⟩ rfl (Nat.le_of_ble_eq_true rfl) dL_law_1452 ?_
  refine xr_aload_n C 2 dL_law_1455 rfl rfl ?_
  refine xr_aload_n C 0 dL_law_1456 rfl rfl ?_
  refine xr_iload C 4 dL_law_1457 rfl ?_
  refine xr_iconst (v := 1) C dL_law_1459 (by decide) ?_
  refine xr_iadd C dL_law_1460 ?_
  refine xl_sld (k := 1) C hXs hbl rfl rfl (by omega) hL dL_law_1461 ?_
  refine xr_aload_n C 0 dL_law_1462 rfl rfl ?_
  refine xr_iload C 4 dL_law_1463 rfl ?_
  refine xr_iconst (v := 2) C dL_law_1465 (by decide) ?_
  refine xr_iadd C dL_law_1466 ?_
  refine xl_sld (k := 2) C hXs hbl rfl rfl (by omega) hL dL_law_1467 ?_
  refine xr_callVi C lm_162 [.int (xs (6 * j + 1)), .int (xs (6 * j + 2))] [.int r] (mX10_strength l G 290 (xs (6 * j + 1)) (xs (6 * j + 2)) (by decide +kernel) h1 h2 r e2) (by decide +kernel) (by decide) vc10 rfl ⟨rfl, rfl, Nat.le_of_ble_eq_true rfl, Nat.le_of_ble_eq_true rfl⟩ rfl (Nat.le_of_ble_eq_true rfl) dL_law_1468 ?_
  refine xr_icmp_eq C 1932 dL_law_1471 (by decide) (fun _ => ?_) (fun c => absurd rfl c)
  exact hk kc ks h2 (Nat.le_succ _) (by omega) hI
set_option maxRecDepth 100000 in
set_option maxHeartbeats 4000000 in
theorem lc_33 {p : Program} {e : Env} {s : State} {m : MethodId} {below : List Frame} {meth : Method} {c : Code} {l : Launch} {G : xr_G} {b L j : Nat} {xs : Nat → Int32} {Inv : hp_T → Prop} (hC : ∀ kc ks : Nat, kc ≤ 601024 → ks ≤ 7293034 → xr_C G (xl_K p e s m below meth c b kc ks) cL_law RL 7 room_1 (some .boolean) none) (hXs : va_X b L xs s s.heap) (hbl : b < s.heap.size ∧ ¬ G.2.2.2.1 b) (hL : L ≤ 3072) (hj : 6 * j + 6 ≤ L) {kc ks : Nat} (hkc : kc ≤ 306 + j) (hks : ks ≤ 106459 + 6 * j) (op : lw_o4 Inv (fun a1 a2 a3 a4 h => fX9_together 0 a1 a2 a3 a4 h) (fun a1 a2 a3 a4 h => fX10_together 290 a1 a2 a3 a4 h)) (h : hp_T) (hI : Inv h) (hk : ∀ (kc2 ks2 : Nat) (h2 : hp_T), kc2 ≤ kc + 1 → ks2 ≤ ks + 6 → Inv h2 → xr_j l G (xl_K p e s m below meth c b kc2 ks2) 7 h2 (xl_V G b j) 1932 []) : xr_j l G (xl_K p e s m below meth c b kc ks) 7 h (xl_V G b j) 1476 [] := by
  have C := hC kc ks (by omega) (by omega)
  obtain ⟨r, h1, h2, e1, e2, hI⟩ := op h hI (xs (6 * j + 1)) (xs (6 * j + 2)) (xs (6 * j + 3)) (xs (6 * j + 4))
  dsimp only at e1 e2
  refine xr_aload_n C 1 dL_law_1476 rfl rfl ?_
  refine xr_aload_n C 0 dL_law_1477 rfl rfl ?_
  refine xr_iload C 4 dL_law_1478 rfl ?_
  refine xr_iconst (v := 1) C dL_law_1480 (by decide) ?_
  refine xr_iadd C dL_law_1481 ?_
  refine xl_sld (k := 1) C hXs hbl rfl rfl (by omega) hL dL_law_1482 ?_
  refine xr_aload_n C 0 dL_law_1483 rfl rfl ?_
  refine xr_iload C 4 dL_law_1484 rfl ?_
  refine xr_iconst (v := 2) C dL_law_1486 (by decide) ?_
  refine xr_iadd C dL_law_1487 ?_
  refine xl_sld (k := 2) C hXs hbl rfl rfl (by omega) hL dL_law_1488 ?_
  refine xr_aload_n C 0 dL_law_1489 rfl rfl ?_
  refine xr_iload C 4 dL_law_1490 rfl ?_
  refine xr_iconst (v := 3) C dL_law_1492 (by decide) ?_
  refine xr_iadd C dL_law_1493 ?_
  refine xl_sld (k := 3) C hXs hbl rfl rfl (by omega) hL dL_law_1494 ?_
  refine xr_aload_n C 0 dL_law_1495 rfl rfl ?_
  refine xr_iload C 4 dL_law_1496 rfl ?_
  refine xr_iconst (v := 4) C dL_law_1498 (by decide) ?_
  refine xr_iadd C dL_law_1499 ?_
  refine xl_sld (k := 4) C hXs hbl rfl rfl (by omega) hL dL_law_1500 ?_
  refine xr_callVi C lm_163 [.int (xs (6 * j + 1)), .int (xs (6 * j + 2)), .int (xs (6 * j + 3)), .int (xs (6 * j + 4))] [] (mX9_together l G 0 (xs (6 * j + 1)) (xs (6 * j + 2)) (xs (6 * j + 3)) (xs (6 * j + 4)) (by decide +kernel) h h1 r e1) (by decide +kernel) (by decide) vc9 rfl ⟨rfl, rfl, Nat.le_of_ble_eq_true rfl, Nat.le_of_ble_eq_true rfl⟩ rfl (Nat.le_of_ble_eq_true rfl) dL_law_1501 ?_
  refine xr_aload_n C 2 dL_law_1504 rfl rfl ?_
  refine xr_aload_n C 0 dL_law_1505 rfl rfl ?_
  refine xr_iload C 4 dL_law_1506 rfl ?_
  refine xr_iconst (v := 1) C dL_law_1508 (by decide) ?_
  refine xr_iadd C dL_law_1509 ?_
  refine xl_sld (k := 1) C hXs hbl rfl rfl (by omega) hL dL_law_1510 ?_
  refine xr_aload_n C 0 dL_law_1511 rfl rfl ?_
  refine xr_iload C 4 dL_law_1512 rfl ?_
  refine xr_iconst (v := 2) C dL_law_1514 (by decide) ?_
  refine xr_iadd C dL_law_1515 ?_
  refine xl_sld (k := 2) C hXs hbl rfl rfl (by omega) hL dL_law_1516 ?_
  refine xr_aload_n C 0 dL_law_1517 rfl rfl ?_
  refine xr_iload C 4 dL_law_1518 rfl ?_
  refine xr_iconst (v := 3) C dL_law_1520 (by decide) ?_
  refine xr_iadd C dL_law_1521 ?_
  refine xl_sld (k := 3) C hXs hbl rfl rfl (by omega) hL dL_law_1522 ?_
  refine xr_aload_n C 0 dL_law_1523 rfl rfl ?_
  refine xr_iload C 4 dL_law_1524 rfl ?_
  refine xr_iconst (v := 4) C dL_law_1526 (by decide) ?_
  refine xr_iadd C dL_law_1527 ?_
  refine xl_sld (k := 4) C hXs hbl rfl rfl (by omega) hL dL_law_1528 ?_
  refine xr_callVi C lm_167 [.int (xs (6 * j + 1)), .int (xs (6 * j + 2)), .int (xs (6 * j + 3)), .int (xs (6 * j + 4))] [.int r] (mX10_together l G 290 (xs (6 * j + 1)) (xs (6 * j + 2)) (xs (6 * j + 3)) (xs (6 * j + 4)) (by decide +kernel) h1 h2 r e2) (by decide +kernel) (by decide) vc10 rfl ⟨rfl, rfl, Nat.le_of_ble_eq_true rfl, Nat.le_of_ble_eq_true rfl⟩ rfl (Nat.le_of_ble_eq_true rfl) dL_law_1529 ?_
  refine xr_icmp_eq C 1932 dL_law_1532 (by decide) (fun _ => ?_) (fun c => absurd rfl c)
  exact hk kc ks h2 (Nat.le_succ _) (by omega) hI
set_option maxRecDepth 100000 in
set_option maxHeartbeats 4000000 in
theorem lc_34 {p : Program} {e : Env} {s : State} {m : MethodId} {below : List Frame} {meth : Method} {c : Code} {l : Launch} {G : xr_G} {b L j : Nat} {xs : Nat → Int32} {Inv : hp_T → Prop} (hC : ∀ kc ks : Nat, kc ≤ 601024 → ks ≤ 7293034 → xr_C G (xl_K p e s m below meth c b kc ks) cL_law RL 7 room_1 (some .boolean) none) (hXs : va_X b L xs s s.heap) (hbl : b < s.heap.size ∧ ¬ G.2.2.2.1 b) (hL : L ≤ 3072) (hj : 6 * j + 6 ≤ L) {kc ks : Nat} (hkc : kc ≤ 306 + j) (hks : ks ≤ 106459 + 6 * j) (op : lw_o2 Inv (fun a1 a2 h => fX9_strong 0 a1 a2 h) (fun a1 a2 h => fX10_strong 290 a1 a2 h)) (h : hp_T) (hI : Inv h) (hk : ∀ (kc2 ks2 : Nat) (h2 : hp_T), kc2 ≤ kc + 1 → ks2 ≤ ks + 6 → Inv h2 → xr_j l G (xl_K p e s m below meth c b kc2 ks2) 7 h2 (xl_V G b j) 1932 []) : xr_j l G (xl_K p e s m below meth c b kc ks) 7 h (xl_V G b j) 1537 [] := by
  have C := hC kc ks (by omega) (by omega)
  obtain ⟨r, h1, h2, e1, e2, hI⟩ := op h hI (xs (6 * j + 1)) (xs (6 * j + 2))
  dsimp only at e1 e2
  refine xr_aload_n C 1 dL_law_1537 rfl rfl ?_
  refine xr_aload_n C 0 dL_law_1538 rfl rfl ?_
  refine xr_iload C 4 dL_law_1539 rfl ?_
  refine xr_iconst (v := 1) C dL_law_1541 (by decide) ?_
  refine xr_iadd C dL_law_1542 ?_
  refine xl_sld (k := 1) C hXs hbl rfl rfl (by omega) hL dL_law_1543 ?_
  refine xr_aload_n C 0 dL_law_1544 rfl rfl ?_
  refine xr_iload C 4 dL_law_1545 rfl ?_
  refine xr_iconst (v := 2) C dL_law_1547 (by decide) ?_
  refine xr_iadd C dL_law_1548 ?_
  refine xl_sld (k := 2) C hXs hbl rfl rfl (by omega) hL dL_law_1549 ?_
  refine xr_callVi C lm_168 [.int (xs (6 * j + 1)), .int (xs (6 * j + 2))] [] (mX9_strong l G 0 (xs (6 * j + 1)) (xs (6 * j + 2)) (by decide +kernel) h h1 r e1) (by decide +kernel) (by decide) vc9 rfl ⟨rfl, rfl, Nat.le_of_ble_eq_true rfl, Nat.le_of_ble_eq_true rfl⟩ rfl (Nat.le_of_ble_eq_true rfl) dL_law_1550 ?_
  refine xr_aload_n C 2 dL_law_1553 rfl rfl ?_
  refine xr_aload_n C 0 dL_law_1554 rfl rfl ?_
  refine xr_iload C 4 dL_law_1555 rfl ?_
  refine xr_iconst (v := 1) C dL_law_1557 (by decide) ?_
  refine xr_iadd C dL_law_1558 ?_
  refine xl_sld (k := 1) C hXs hbl rfl rfl (by omega) hL dL_law_1559 ?_
  refine xr_aload_n C 0 dL_law_1560 rfl rfl ?_
  refine xr_iload C 4 dL_law_1561 rfl ?_
  refine xr_iconst (v := 2) C dL_law_1563 (by decide) ?_
  refine xr_iadd C dL_law_1564 ?_
  refine xl_sld (k := 2) C hXs hbl rfl rfl (by omega) hL dL_law_1565 ?_
  refine xr_callVi C lm_171 [.int (xs (6 * j + 1)), .int (xs (6 * j + 2))] [.int r] (mX10_strong l G 290 (xs (6 * j + 1)) (xs (6 * j + 2)) (by decide +kernel) h1 h2 r e2) (by decide +kernel) (by decide) vc10 rfl ⟨rfl, rfl, Nat.le_of_ble_eq_true rfl, Nat.le_of_ble_eq_true rfl⟩ rfl (Nat.le_of_ble_eq_true rfl) dL_law_1566 ?_
  refine xr_icmp_eq C 1932 dL_law_1569 (by decide) (fun _ => ?_) (fun c => absurd rfl c)
  exact hk kc ks h2 (Nat.le_succ _) (by omega) hI
set_option maxRecDepth 100000 in
set_option maxHeartbeats 4000000 in
theorem lc_35 {p : Program} {e : Env} {s : State} {m : MethodId} {below : List Frame} {meth : Method} {c : Code} {l : Launch} {G : xr_G} {b L j : Nat} {xs : Nat → Int32} {Inv : hp_T → Prop} (hC : ∀ kc ks : Nat, kc ≤ 601024 → ks ≤ 7293034 → xr_C G (xl_K p e s m below meth c b kc ks) cL_law RL 7 room_1 (some .boolean) none) (hXs : va_X b L xs s s.heap) (hbl : b < s.heap.size ∧ ¬ G.2.2.2.1 b) (hL : L ≤ 3072) (hj : 6 * j + 6 ≤ L) {kc ks : Nat} (hkc : kc ≤ 306 + j) (hks : ks ≤ 106459 + 6 * j) (op : lw_o3 Inv (fun a1 a2 a3 h => fX9_maySub 0 a1 a2 a3 h) (fun a1 a2 a3 h => fX10_maySub 290 a1 a2 a3 h)) (h : hp_T) (hI : Inv h) (hk : ∀ (kc2 ks2 : Nat) (h2 : hp_T), kc2 ≤ kc + 1 → ks2 ≤ ks + 6 → Inv h2 → xr_j l G (xl_K p e s m below meth c b kc2 ks2) 7 h2 (xl_V G b j) 1932 []) : xr_j l G (xl_K p e s m below meth c b kc ks) 7 h (xl_V G b j) 1574 [] := by
  have C := hC kc ks (by omega) (by omega)
  obtain ⟨r, h1, h2, e1, e2, hI⟩ := op h hI (xs (6 * j + 1)) (xs (6 * j + 2)) (xs (6 * j + 3))
  dsimp only at e1 e2
  refine xr_aload_n C 1 dL_law_1574 rfl rfl ?_
  refine xr_aload_n C 0 dL_law_1575 rfl rfl ?_
  refine xr_iload C 4 dL_law_1576 rfl ?_
  refine xr_iconst (v := 1) C dL_law_1578 (by decide) ?_
  refine xr_iadd C dL_law_1579 ?_
  refine xl_sld (k := 1) C hXs hbl rfl rfl (by omega) hL dL_law_1580 ?_
  refine xr_aload_n C 0 dL_law_1581 rfl rfl ?_
  refine xr_iload C 4 dL_law_1582 rfl ?_
  refine xr_iconst (v := 2) C dL_law_1584 (by decide) ?_
  refine xr_iadd C dL_law_1585 ?_
  refine xl_sld (k := 2) C hXs hbl rfl rfl (by omega) hL dL_law_1586 ?_
  refine xr_aload_n C 0 dL_law_1587 rfl rfl ?_
  refine xr_iload C 4 dL_law_1588 rfl ?_
  refine xr_iconst (v := 3) C dL_law_1590 (by decide) ?_
  refine xr_iadd C dL_law_1591 ?_
  refine xl_sld (k := 3) C hXs hbl rfl rfl (by omega) hL dL_law_1592 ?_
  refine xr_callVi C lm_172 [.int (xs (6 * j + 1)), .int (xs (6 * j + 2)), .int (xs (6 * j + 3))] [] (mX9_maySub l G 0 (xs (6 * j + 1)) (xs (6 * j + 2)) (xs (6 * j + 3)) (by decide +kernel) h h1 r e1) (by decide +kernel) (by decide) vc9 rfl ⟨rfl, rfl, Nat.le_of_ble_eq_true rfl, Nat.le_of_ble_eq_true rfl⟩ rfl (Nat.le_of_ble_eq_true rfl) dL_law_1593 ?_
  refine xr_aload_n C 2 dL_law_1596 rfl rfl ?_
  refine xr_aload_n C 0 dL_law_1597 rfl rfl ?_
  refine xr_iload C 4 dL_law_1598 rfl ?_
  refine xr_iconst (v := 1) C dL_law_1600 (by decide) ?_
  refine xr_iadd C dL_law_1601 ?_
  refine xl_sld (k := 1) C hXs hbl rfl rfl (by omega) hL dL_law_1602 ?_
  refine xr_aload_n C 0 dL_law_1603 rfl rfl ?_
  refine xr_iload C 4 dL_law_1604 rfl ?_
  refine xr_iconst (v := 2) C dL_law_1606 (by decide) ?_
  refine xr_iadd C dL_law_1607 ?_
  refine xl_sld (k := 2) C hXs hbl rfl rfl (by omega) hL dL_law_1608 ?_
  refine xr_aload_n C 0 dL_law_1609 rfl rfl ?_
  refine xr_iload C 4 dL_law_1610 rfl ?_
  refine xr_iconst (v := 3) C dL_law_1612 (by decide) ?_
  refine xr_iadd C dL_law_1613 ?_
  refine xl_sld (k := 3) C hXs hbl rfl rfl (by omega) hL dL_law_1614 ?_
  refine xr_callVi C lm_175 [.int (xs (6 * j + 1)), .int (xs (6 * j + 2)), .int (xs (6 * j + 3))] [.int r] (mX10_maySub l G 290 (xs (6 * j + 1)) (xs (6 * j + 2)) (xs (6 * j + 3)) (by decide +kernel) h1 h2 r e2) (by decide +kernel) (by decide) vc10 rfl ⟨rfl, rfl, Nat.le_of_ble_eq_true rfl, Nat.le_of_ble_eq_true rfl⟩ rfl (Nat.le_of_ble_eq_true rfl) dL_law_1615 ?_
  refine xr_icmp_eq C 1932 dL_law_1618 (by decide) (fun _ => ?_) (fun c => absurd rfl c)
  exact hk kc ks h2 (Nat.le_succ _) (by omega) hI
set_option maxRecDepth 100000 in
set_option maxHeartbeats 4000000 in
theorem lc_36 {p : Program} {e : Env} {s : State} {m : MethodId} {below : List Frame} {meth : Method} {c : Code} {l : Launch} {G : xr_G} {b L j : Nat} {xs : Nat → Int32} {Inv : hp_T → Prop} (hC : ∀ kc ks : Nat, kc ≤ 601024 → ks ≤ 7293034 → xr_C G (xl_K p e s m below meth c b kc ks) cL_law RL 7 room_1 (some .boolean) none) (hXs : va_X b L xs s s.heap) (hbl : b < s.heap.size ∧ ¬ G.2.2.2.1 b) (hL : L ≤ 3072) (hj : 6 * j + 6 ≤ L) {kc ks : Nat} (hkc : kc ≤ 306 + j) (hks : ks ≤ 106459 + 6 * j) (op : lw_o2 Inv (fun a1 a2 h => fX9_mayMove 0 a1 a2 h) (fun a1 a2 h => fX10_mayMove 290 a1 a2 h)) (h : hp_T) (hI : Inv h) (hk : ∀ (kc2 ks2 : Nat) (h2 : hp_T), kc2 ≤ kc + 1 → ks2 ≤ ks + 6 → Inv h2 → xr_j l G (xl_K p e s m below meth c b kc2 ks2) 7 h2 (xl_V G b j) 1932 []) : xr_j l G (xl_K p e s m below meth c b kc ks) 7 h (xl_V G b j) 1623 [] := by
  have C := hC kc ks (by omega) (by omega)
  obtain ⟨r, h1, h2, e1, e2, hI⟩ := op h hI (xs (6 * j + 1)) (xs (6 * j + 2))
  dsimp only at e1 e2
  refine xr_aload_n C 1 dL_law_1623 rfl rfl ?_
  refine xr_aload_n C 0 dL_law_1624 rfl rfl ?_
  refine xr_iload C 4 dL_law_1625 rfl ?_
  refine xr_iconst (v := 1) C dL_law_1627 (by decide) ?_
  refine xr_iadd C dL_law_1628 ?_
  refine xl_sld (k := 1) C hXs hbl rfl rfl (by omega) hL dL_law_1629 ?_
  refine xr_aload_n C 0 dL_law_1630 rfl rfl ?_
  refine xr_iload C 4 dL_law_1631 rfl ?_
  refine xr_iconst (v := 2) C dL_law_1633 (by decide) ?_
  refine xr_iadd C dL_law_1634 ?_
  refine xl_sld (k := 2) C hXs hbl rfl rfl (by omega) hL dL_law_1635 ?_
  refine xr_callVi C lm_176 [.int (xs (6 * j + 1)), .int (xs (6 * j + 2))] [] (mX9_mayMove l G 0 (xs (6 * j + 1)) (xs (6 * j + 2)) (by decide +kernel) h h1 r e1) (by decide +kernel) (by decide) vc9 rfl ⟨rfl, rfl, Nat.le_of_ble_eq_true rfl, Nat.le_of_ble_eq_true rfl⟩ rfl (Nat.le_of_ble_eq_true rfl) dL_law_1636 ?_
  refine xr_aload_n C 2 dL_law_1639 rfl rfl ?_
  refine xr_aload_n C 0 dL_law_1640 rfl rfl ?_
  refine xr_iload C 4 dL_law_1641 rfl ?_
  refine xr_iconst (v := 1) C dL_law_1643 (by decide) ?_
  refine xr_iadd C dL_law_1644 ?_
  refine xl_sld (k := 1) C hXs hbl rfl rfl (by omega) hL dL_law_1645 ?_
  refine xr_aload_n C 0 dL_law_1646 rfl rfl ?_
  refine xr_iload C 4 dL_law_1647 rfl ?_
  refine xr_iconst (v := 2) C dL_law_1649 (by decide) ?_
  refine xr_iadd C dL_law_1650 ?_
  refine xl_sld (k := 2) C hXs hbl rfl rfl (by omega) hL dL_law_1651 ?_
  refine xr_callVi C lm_179 [.int (xs (6 * j + 1)), .int (xs (6 * j + 2))] [.int r] (mX10_mayMove l G 290 (xs (6 * j + 1)) (xs (6 * j + 2)) (by decide +kernel) h1 h2 r e2) (by decide +kernel) (by decide) vc10 rfl ⟨rfl, rfl, Nat.le_of_ble_eq_true rfl, Nat.le_of_ble_eq_true rfl⟩ rfl (Nat.le_of_ble_eq_true rfl) dL_law_1652 ?_
  refine xr_icmp_eq C 1932 dL_law_1655 (by decide) (fun _ => ?_) (fun c => absurd rfl c)
  exact hk kc ks h2 (Nat.le_succ _) (by omega) hI
set_option maxRecDepth 100000 in
set_option maxHeartbeats 4000000 in
theorem lc_37 {p : Program} {e : Env} {s : State} {m : MethodId} {below : List Frame} {meth : Method} {c : Code} {l : Launch} {G : xr_G} {b L j : Nat} {xs : Nat → Int32} {Inv : hp_T → Prop} (hC : ∀ kc ks : Nat, kc ≤ 601024 → ks ≤ 7293034 → xr_C G (xl_K p e s m below meth c b kc ks) cL_law RL 7 room_1 (some .boolean) none) (hXs : va_X b L xs s s.heap) (hbl : b < s.heap.size ∧ ¬ G.2.2.2.1 b) (hL : L ≤ 3072) (hj : 6 * j + 6 ≤ L) {kc ks : Nat} (hkc : kc ≤ 306 + j) (hks : ks ≤ 106459 + 6 * j) (op : lw_o1 Inv (fun a1 h => fX9_subsNow 0 a1 h) (fun a1 h => fX10_subsNow 290 a1 h)) (h : hp_T) (hI : Inv h) (hk : ∀ (kc2 ks2 : Nat) (h2 : hp_T), kc2 ≤ kc + 1 → ks2 ≤ ks + 6 → Inv h2 → xr_j l G (xl_K p e s m below meth c b kc2 ks2) 7 h2 (xl_V G b j) 1932 []) : xr_j l G (xl_K p e s m below meth c b kc ks) 7 h (xl_V G b j) 1660 [] := by
  have C := hC kc ks (by omega) (by omega)
  obtain ⟨r, h1, h2, e1, e2, hI⟩ := op h hI (xs (6 * j + 1))
  dsimp only at e1 e2
  refine xr_aload_n C 1 dL_law_1660 rfl rfl ?_
  refine xr_aload_n C 0 dL_law_1661 rfl rfl ?_
  refine xr_iload C 4 dL_law_1662 rfl ?_
  refine xr_iconst (v := 1) C dL_law_1664 (by decide) ?_
  refine xr_iadd C dL_law_1665 ?_
  refine xl_sld (k := 1) C hXs hbl rfl rfl (by omega) hL dL_law_1666 ?_
  refine xr_callVi C lm_180 [.int (xs (6 * j + 1))] [] (mX9_subsNow l G 0 (xs (6 * j + 1)) (by decide +kernel) h h1 r e1) (by decide +kernel) (by decide) vc9 rfl ⟨rfl, rfl, Nat.le_of_ble_eq_true rfl, Nat.le_of_ble_eq_true rfl⟩ rfl (Nat.le_of_ble_eq_true rfl) dL_law_1667 ?_
  refine xr_aload_n C 2 dL_law_1670 rfl rfl ?_
  refine xr_aload_n C 0 dL_law_1671 rfl rfl ?_
  refine xr_iload C 4 dL_law_1672 rfl ?_
  refine xr_iconst (v := 1) C dL_law_1674 (by decide) ?_
  refine xr_iadd C dL_law_1675 ?_
  refine xl_sld (k := 1) C hXs hbl rfl rfl (by omega) hL dL_law_1676 ?_
  refine xr_callVi C lm_183 [.int (xs (6 * j + 1))] [.int r] (mX10_subsNow l G 290 (xs (6 * j + 1)) (by decide +kernel) h1 h2 r e2) (by decide +kernel) (by decide) vc10 rfl ⟨rfl, rfl, Nat.le_of_ble_eq_true rfl, Nat.le_of_ble_eq_true rfl⟩ rfl (Nat.le_of_ble_eq_true rfl) dL_law_1677 ?_
  refine xr_icmp_eq C 1932 dL_law_1680 (by decide) (fun _ => ?_) (fun c => absurd rfl c)
  exact hk kc ks h2 (Nat.le_succ _) (by omega) hI
set_option maxRecDepth 100000 in
set_option maxHeartbeats 4000000 in
theorem lc_38 {p : Program} {e : Env} {s : State} {m : MethodId} {below : List Frame} {meth : Method} {c : Code} {l : Launch} {G : xr_G} {b L j : Nat} {xs : Nat → Int32} {Inv : hp_T → Prop} (hC : ∀ kc ks : Nat, kc ≤ 601024 → ks ≤ 7293034 → xr_C G (xl_K p e s m below meth c b kc ks) cL_law RL 7 room_1 (some .boolean) none) (hXs : va_X b L xs s s.heap) (hbl : b < s.heap.size ∧ ¬ G.2.2.2.1 b) (hL : L ≤ 3072) (hj : 6 * j + 6 ≤ L) {kc ks : Nat} (hkc : kc ≤ 306 + j) (hks : ks ≤ 106459 + 6 * j) (op : lw_o2 Inv (fun a1 a2 h => fX9_bestSwap 0 a1 a2 h) (fun a1 a2 h => fX10_bestSwap 290 a1 a2 h)) (h : hp_T) (hI : Inv h) (hk : ∀ (kc2 ks2 : Nat) (h2 : hp_T), kc2 ≤ kc + 1 → ks2 ≤ ks + 6 → Inv h2 → xr_j l G (xl_K p e s m below meth c b kc2 ks2) 7 h2 (xl_V G b j) 1932 []) : xr_j l G (xl_K p e s m below meth c b kc ks) 7 h (xl_V G b j) 1685 [] := by
  have C := hC kc ks (by omega) (by omega)
  obtain ⟨r, h1, h2, e1, e2, hI⟩ := op h hI (xs (6 * j + 1)) (xs (6 * j + 2))
  dsimp only at e1 e2
  refine xr_aload_n C 1 dL_law_1685 rfl rfl ?_
  refine xr_aload_n C 0 dL_law_1686 rfl rfl ?_
  refine xr_iload C 4 dL_law_1687 rfl ?_
  refine xr_iconst (v := 1) C dL_law_1689 (by decide) ?_
  refine xr_iadd C dL_law_1690 ?_
  refine xl_sld (k := 1) C hXs hbl rfl rfl (by omega) hL dL_law_1691 ?_
  refine xr_aload_n C 0 dL_law_1692 rfl rfl ?_
  refine xr_iload C 4 dL_law_1693 rfl ?_
  refine xr_iconst (v := 2) C dL_law_1695 (by decide) ?_
  refine xr_iadd C dL_law_1696 ?_
  refine xl_sld (k := 2) C hXs hbl rfl rfl (by omega) hL dL_law_1697 ?_
  refine xr_callVi C lm_184 [.int (xs (6 * j + 1)), .int (xs (6 * j + 2))] [] (mX9_bestSwap l G 0 (xs (6 * j + 1)) (xs (6 * j + 2)) (by decide +kernel) h h1 r e1) (by decide +kernel) (by decide) vc9 rfl ⟨rfl, rfl, Nat.le_of_ble_eq_true rfl, Nat.le_of_ble_eq_true rfl⟩ rfl (Nat.le_of_ble_eq_true rfl) dL_law_1698 ?_
  refine xr_aload_n C 2 dL_law_1701 rfl rfl ?_
  refine xr_aload_n C 0 dL_law_1702 rfl rfl ?_
  refine xr_iload C 4 dL_law_1703 rfl ?_
  refine xr_iconst (v := 1) C dL_law_1705 (by decide) ?_
  refine xr_iadd C dL_law_1706 ?_
  refine xl_sld (k := 1) C hXs hbl rfl rfl (by omega) hL dL_law_1707 ?_
  refine xr_aload_n C 0 dL_law_1708 rfl rfl ?_
  refine xr_iload C 4 dL_law_1709 rfl ?_
  refine xr_iconst (v := 2) C dL_law_1711 (by decide) ?_
  refine xr_iadd C dL_law_1712 ?_
  refine xl_sld (k := 2) C hXs hbl rfl rfl (by omega) hL dL_law_1713 ?_
  refine xr_callVi C lm_187 [.int (xs (6 * j + 1)), .int (xs (6 * j + 2))] [.int r] (mX10_bestSwap l G 290 (xs (6 * j + 1)) (xs (6 * j + 2)) (by decide +kernel) h1 h2 r e2) (by decide +kernel) (by decide) vc10 rfl ⟨rfl, rfl, Nat.le_of_ble_eq_true rfl, Nat.le_of_ble_eq_true rfl⟩ rfl (Nat.le_of_ble_eq_true rfl) dL_law_1714 ?_
  refine xr_icmp_eq C 1932 dL_law_1717 (by decide) (fun _ => ?_) (fun c => absurd rfl c)
  exact hk kc ks h2 (Nat.le_succ _) (by omega) hI
set_option maxRecDepth 100000 in
set_option maxHeartbeats 4000000 in
theorem lc_39 {p : Program} {e : Env} {s : State} {m : MethodId} {below : List Frame} {meth : Method} {c : Code} {l : Launch} {G : xr_G} {b L j : Nat} {xs : Nat → Int32} {Inv : hp_T → Prop} (hC : ∀ kc ks : Nat, kc ≤ 601024 → ks ≤ 7293034 → xr_C G (xl_K p e s m below meth c b kc ks) cL_law RL 7 room_1 (some .boolean) none) (hXs : va_X b L xs s s.heap) (hbl : b < s.heap.size ∧ ¬ G.2.2.2.1 b) (hL : L ≤ 3072) (hj : 6 * j + 6 ≤ L) {kc ks : Nat} (hkc : kc ≤ 306 + j) (hks : ks ≤ 106459 + 6 * j) (op : lw_o2 Inv (fun a1 a2 h => fX9_ranked 0 a1 a2 h) (fun a1 a2 h => fX10_ranked 290 a1 a2 h)) (h : hp_T) (hI : Inv h) (hk : ∀ (kc2 ks2 : Nat) (h2 : hp_T), kc2 ≤ kc + 1 → ks2 ≤ ks + 6 → Inv h2 → xr_j l G (xl_K p e s m below meth c b kc2 ks2) 7 h2 (xl_V G b j) 1932 []) : xr_j l G (xl_K p e s m below meth c b kc ks) 7 h (xl_V G b j) 1722 [] := by
  have C := hC kc ks (by omega) (by omega)
  obtain ⟨r, h1, h2, e1, e2, hI⟩ := op h hI (xs (6 * j + 1)) (xs (6 * j + 2))
  dsimp only at e1 e2
  refine xr_aload_n C 1 dL_law_1722 rfl rfl ?_
  refine xr_aload_n C 0 dL_law_1723 rfl rfl ?_
  refine xr_iload C 4 dL_law_1724 rfl ?_
  refine xr_iconst (v := 1) C dL_law_1726 (by decide) ?_
  refine xr_iadd C dL_law_1727 ?_
  refine xl_sld (k := 1) C hXs hbl rfl rfl (by omega) hL dL_law_1728 ?_
  refine xr_aload_n C 0 dL_law_1729 rfl rfl ?_
  refine xr_iload C 4 dL_law_1730 rfl ?_
  refine xr_iconst (v := 2) C dL_law_1732 (by decide) ?_
  refine xr_iadd C dL_law_1733 ?_
  refine xl_sld (k := 2) C hXs hbl rfl rfl (by omega) hL dL_law_1734 ?_
  refine xr_callVi C lm_188 [.int (xs (6 * j + 1)), .int (xs (6 * j + 2))] [] (mX9_ranked l G 0 (xs (6 * j + 1)) (xs (6 * j + 2)) (by decide +kernel) h h1 r e1) (by decide +kernel) (by decide) vc9 rfl ⟨rfl, rfl, Nat.le_of_ble_eq_true rfl, Nat.le_of_ble_eq_true rfl⟩ rfl (Nat.le_of_ble_eq_true rfl) dL_law_1735 ?_
  refine xr_aload_n C 2 dL_law_1738 rfl rfl ?_
  refine xr_aload_n C 0 dL_law_1739 rfl rfl ?_
  refine xr_iload C 4 dL_law_1740 rfl ?_
  refine xr_iconst (v := 1) C dL_law_1742 (by decide) ?_
  refine xr_iadd C dL_law_1743 ?_
  refine xl_sld (k := 1) C hXs hbl rfl rfl (by omega) hL dL_law_1744 ?_
  refine xr_aload_n C 0 dL_law_1745 rfl rfl ?_
  refine xr_iload C 4 dL_law_1746 rfl ?_
  refine xr_iconst (v := 2) C dL_law_1748 (by decide) ?_
  refine xr_iadd C dL_law_1749 ?_
  refine xl_sld (k := 2) C hXs hbl rfl rfl (by omega) hL dL_law_1750 ?_
  refine xr_callVi C lm_191 [.int (xs (6 * j + 1)), .int (xs (6 * j + 2))] [.int r] (mX10_ranked l G 290 (xs (6 * j + 1)) (xs (6 * j + 2)) (by decide +kernel) h1 h2 r e2) (by decide +kernel) (by decide) vc10 rfl ⟨rfl, rfl, Nat.le_of_ble_eq_true rfl, Nat.le_of_ble_eq_true rfl⟩ rfl (Nat.le_of_ble_eq_true rfl) dL_law_1751 ?_
  refine xr_icmp_eq C 1932 dL_law_1754 (by decide) (fun _ => ?_) (fun c => absurd rfl c)
  exact hk kc ks h2 (Nat.le_succ _) (by omega) hI
set_option maxRecDepth 100000 in
set_option maxHeartbeats 4000000 in
theorem lc_40 {p : Program} {e : Env} {s : State} {m : MethodId} {below : List Frame} {meth : Method} {c : Code} {l : Launch} {G : xr_G} {b L j : Nat} {xs : Nat → Int32} {Inv : hp_T → Prop} (hC : ∀ kc ks : Nat, kc ≤ 601024 → ks ≤ 7293034 → xr_C G (xl_K p e s m below meth c b kc ks) cL_law RL 7 room_1 (some .boolean) none) (hXs : va_X b L xs s s.heap) (hbl : b < s.heap.size ∧ ¬ G.2.2.2.1 b) (hL : L ≤ 3072) (hj : 6 * j + 6 ≤ L) {kc ks : Nat} (hkc : kc ≤ 306 + j) (hks : ks ≤ 106459 + 6 * j) (op : lw_o2 Inv (fun a1 a2 h => fX9_named 0 a1 a2 h) (fun a1 a2 h => fX10_named 290 a1 a2 h)) (h : hp_T) (hI : Inv h) (hk : ∀ (kc2 ks2 : Nat) (h2 : hp_T), kc2 ≤ kc + 1 → ks2 ≤ ks + 6 → Inv h2 → xr_j l G (xl_K p e s m below meth c b kc2 ks2) 7 h2 (xl_V G b j) 1932 []) : xr_j l G (xl_K p e s m below meth c b kc ks) 7 h (xl_V G b j) 1759 [] := by
  have C := hC kc ks (by omega) (by omega)
  obtain ⟨r, h1, h2, e1, e2, hI⟩ := op h hI (xs (6 * j + 1)) (xs (6 * j + 2))
  dsimp only at e1 e2
  refine xr_aload_n C 1 dL_law_1759 rfl rfl ?_
  refine xr_aload_n C 0 dL_law_1760 rfl rfl ?_
  refine xr_iload C 4 dL_law_1761 rfl ?_
  refine xr_iconst (v := 1) C dL_law_1763 (by decide) ?_
  refine xr_iadd C dL_law_1764 ?_
  refine xl_sld (k := 1) C hXs hbl rfl rfl (by omega) hL dL_law_1765 ?_
  refine xr_aload_n C 0 dL_law_1766 rfl rfl ?_
  refine xr_iload C 4 dL_law_1767 rfl ?_
  refine xr_iconst (v := 2) C dL_law_1769 (by decide) ?_
  refine xr_iadd C dL_law_1770 ?_
  refine xl_sld (k := 2) C hXs hbl rfl rfl (by omega) hL dL_law_1771 ?_
  refine xr_callVi C lm_192 [.int (xs (6 * j + 1)), .int (xs (6 * j + 2))] [] (mX9_named l G 0 (xs (6 * j + 1)) (xs (6 * j + 2)) (by decide +kernel) h h1 r e1) (by decide +kernel) (by decide) vc9 rfl ⟨rfl, rfl, Nat.le_of_ble_eq_true rfl, Nat.le_of_ble_eq_true rfl⟩ rfl (Nat.le_of_ble_eq_true rfl) dL_law_1772 ?_
  refine xr_aload_n C 2 dL_law_1775 rfl rfl ?_
  refine xr_aload_n C 0 dL_law_1776 rfl rfl ?_
  refine xr_iload C 4 dL_law_1777 rfl ?_
  refine xr_iconst (v := 1) C dL_law_1779 (by decide) ?_
  refine xr_iadd C dL_law_1780 ?_
  refine xl_sld (k := 1) C hXs hbl rfl rfl (by omega) hL dL_law_1781 ?_
  refine xr_aload_n C 0 dL_law_1782 rfl rfl ?_
  refine xr_iload C 4 dL_law_1783 rfl ?_
  refine xr_iconst (v := 2) C dL_law_1785 (by decide) ?_
  refine xr_iadd C dL_law_1786 ?_
  refine xl_sld (k := 2) C hXs hbl rfl rfl (by omega) hL dL_law_1787 ?_
  refine xr_callVi C lm_195 [.int (xs (6 * j + 1)), .int (xs (6 * j + 2))] [.int r] (mX10_named l G 290 (xs (6 * j + 1)) (xs (6 * j + 2)) (by decide +kernel) h1 h2 r e2) (by decide +kernel) (by decide) vc10 rfl ⟨rfl, rfl, Nat.le_of_ble_eq_true rfl, Nat.le_of_ble_eq_true rfl⟩ rfl (Nat.le_of_ble_eq_true rfl) dL_law_1788 ?_
  refine xr_icmp_eq C 1932 dL_law_1791 (by decide) (fun _ => ?_) (fun c => absurd rfl c)
  exact hk kc ks h2 (Nat.le_succ _) (by omega) hI
set_option maxRecDepth 100000 in
set_option maxHeartbeats 4000000 in
theorem lc_41 {p : Program} {e : Env} {s : State} {m : MethodId} {below : List Frame} {meth : Method} {c : Code} {l : Launch} {G : xr_G} {b L j : Nat} {xs : Nat → Int32} {Inv : hp_T → Prop} (hC : ∀ kc ks : Nat, kc ≤ 601024 → ks ≤ 7293034 → xr_C G (xl_K p e s m below meth c b kc ks) cL_law RL 7 room_1 (some .boolean) none) (hXs : va_X b L xs s s.heap) (hbl : b < s.heap.size ∧ ¬ G.2.2.2.1 b) (hL : L ≤ 3072) (hj : 6 * j + 6 ≤ L) {kc ks : Nat} (hkc : kc ≤ 306 + j) (hks : ks ≤ 106459 + 6 * j) (op : lw_o1 Inv (fun a1 h => fX9_run 0 a1 h) (fun a1 h => fX10_run 290 a1 h)) (h : hp_T) (hI : Inv h) (hk : ∀ (kc2 ks2 : Nat) (h2 : hp_T), kc2 ≤ kc + 1 → ks2 ≤ ks + 6 → Inv h2 → xr_j l G (xl_K p e s m below meth c b kc2 ks2) 7 h2 (xl_V G b j) 1932 []) : xr_j l G (xl_K p e s m below meth c b kc ks) 7 h (xl_V G b j) 1796 [] := by
  have C := hC kc ks (by omega) (by omega)
  obtain ⟨r, h1, h2, e1, e2, hI⟩ := op h hI (xs (6 * j + 1))
  dsimp only at e1 e2
  refine xr_aload_n C 1 dL_law_1796 rfl rfl ?_
  refine xr_aload_n C 0 dL_law_1797 rfl rfl ?_
  refine xr_iload C 4 dL_law_1798 rfl ?_
  refine xr_iconst (v := 1) C dL_law_1800 (by decide) ?_
  refine xr_iadd C dL_law_1801 ?_
  refine xl_sld (k := 1) C hXs hbl rfl rfl (by omega) hL dL_law_1802 ?_
  refine xr_callVi C lm_196 [.int (xs (6 * j + 1))] [] (mX9_run l G 0 (xs (6 * j + 1)) (by decide +kernel) h h1 r e1) (by decide +kernel) (by decide) vc9 rfl ⟨rfl, rfl, Nat.le_of_ble_eq_true rfl, Nat.le_of_ble_eq_true rfl⟩ rfl (Nat.le_of_ble_eq_true rfl) dL_law_1803 ?_
  refine xr_aload_n C 2 dL_law_1806 rfl rfl ?_
  refine xr_aload_n C 0 dL_law_1807 rfl rfl ?_
  refine xr_iload C 4 dL_law_1808 rfl ?_
  refine xr_iconst (v := 1) C dL_law_1810 (by decide) ?_
  refine xr_iadd C dL_law_1811 ?_
  refine xl_sld (k := 1) C hXs hbl rfl rfl (by omega) hL dL_law_1812 ?_
  refine xr_callVi C lm_199 [.int (xs (6 * j + 1))] [.int r] (mX10_run l G 290 (xs (6 * j + 1)) (by decide +kernel) h1 h2 r e2) (by decide +kernel) (by decide) vc10 rfl ⟨rfl, rfl, Nat.le_of_ble_eq_true rfl, Nat.le_of_ble_eq_true rfl⟩ rfl (Nat.le_of_ble_eq_true rfl) dL_law_1813 ?_
  refine xr_icmp_eq C 1932 dL_law_1816 (by decide) (fun _ => ?_) (fun c => absurd rfl c)
  exact hk kc ks h2 (Nat.le_succ _) (by omega) hI
set_option maxRecDepth 100000 in
set_option maxHeartbeats 4000000 in
theorem lc_42 {p : Program} {e : Env} {s : State} {m : MethodId} {below : List Frame} {meth : Method} {c : Code} {l : Launch} {G : xr_G} {b L j : Nat} {xs : Nat → Int32} {Inv : hp_T → Prop} (hC : ∀ kc ks : Nat, kc ≤ 601024 → ks ≤ 7293034 → xr_C G (xl_K p e s m below meth c b kc ks) cL_law RL 7 room_1 (some .boolean) none) (hXs : va_X b L xs s s.heap) (hbl : b < s.heap.size ∧ ¬ G.2.2.2.1 b) (hL : L ≤ 3072) (hj : 6 * j + 6 ≤ L) {kc ks : Nat} (hkc : kc ≤ 306 + j) (hks : ks ≤ 106459 + 6 * j) (op : lw_o2 Inv (fun a1 a2 h => fX9_was 0 a1 a2 h) (fun a1 a2 h => fX10_was 290 a1 a2 h)) (h : hp_T) (hI : Inv h) (hk : ∀ (kc2 ks2 : Nat) (h2 : hp_T), kc2 ≤ kc + 1 → ks2 ≤ ks + 6 → Inv h2 → xr_j l G (xl_K p e s m below meth c b kc2 ks2) 7 h2 (xl_V G b j) 1932 []) : xr_j l G (xl_K p e s m below meth c b kc ks) 7 h (xl_V G b j) 1821 [] := by
  have C := hC kc ks (by omega) (by omega)
  obtain ⟨r, h1, h2, e1, e2, hI⟩ := op h hI (xs (6 * j + 1)) (xs (6 * j + 2))
  dsimp only at e1 e2
  refine xr_aload_n C 1 dL_law_1821 rfl rfl ?_
  refine xr_aload_n C 0 dL_law_1822 rfl rfl ?_
  refine xr_iload C 4 dL_law_1823 rfl ?_
  refine xr_iconst (v := 1) C dL_law_1825 (by decide) ?_
  refine xr_iadd C dL_law_1826 ?_
  refine xl_sld (k := 1) C hXs hbl rfl rfl (by omega) hL dL_law_1827 ?_
  refine xr_aload_n C 0 dL_law_1828 rfl rfl ?_
  refine xr_iload C 4 dL_law_1829 rfl ?_
  refine xr_iconst (v := 2) C dL_law_1831 (by decide) ?_
  refine xr_iadd C dL_law_1832 ?_
  refine xl_sld (k := 2) C hXs hbl rfl rfl (by omega) hL dL_law_1833 ?_
  refine xr_callVi C lm_200 [.int (xs (6 * j + 1)), .int (xs (6 * j + 2))] [] (mX9_was l G 0 (xs (6 * j + 1)) (xs (6 * j + 2)) (by decide +kernel) h h1 r e1) (by decide +kernel) (by decide) vc9 rfl ⟨rfl, rfl, Nat.le_of_ble_eq_true rfl, Nat.le_of_ble_eq_true rfl⟩ rfl (Nat.le_of_ble_eq_true rfl) dL_law_1834 ?_
  refine xr_aload_n C 2 dL_law_1837 rfl rfl ?_
  refine xr_aload_n C 0 dL_law_1838 rfl rfl ?_
  refine xr_iload C 4 dL_law_1839 rfl ?_
  refine xr_iconst (v := 1) C dL_law_1841 (by decide) ?_
  refine xr_iadd C dL_law_1842 ?_
  refine xl_sld (k := 1) C hXs hbl rfl rfl (by omega) hL dL_law_1843 ?_
  refine xr_aload_n C 0 dL_law_1844 rfl rfl ?_
  refine xr_iload C 4 dL_law_1845 rfl ?_
  refine xr_iconst (v := 2) C dL_law_1847 (by decide) ?_
  refine xr_iadd C dL_law_1848 ?_
  refine xl_sld (k := 2) C hXs hbl rfl rfl (by omega) hL dL_law_1849 ?_
  refine xr_callVi C lm_203 [.int (xs (6 * j + 1)), .int (xs (6 * j + 2))] [.int r] (mX10_was l G 290 (xs (6 * j + 1)) (xs (6 * j + 2)) (by decide +kernel) h1 h2 r e2) (by decide +kernel) (by decide) vc10 rfl ⟨rfl, rfl, Nat.le_of_ble_eq_true rfl, Nat.le_of_ble_eq_true rfl⟩ rfl (Nat.le_of_ble_eq_true rfl) dL_law_1850 ?_
  refine xr_icmp_eq C 1932 dL_law_1853 (by decide) (fun _ => ?_) (fun c => absurd rfl c)
  exact hk kc ks h2 (Nat.le_succ _) (by omega) hI
set_option maxRecDepth 100000 in
set_option maxHeartbeats 4000000 in
theorem lc_43 {p : Program} {e : Env} {s : State} {m : MethodId} {below : List Frame} {meth : Method} {c : Code} {l : Launch} {G : xr_G} {b L j : Nat} {xs : Nat → Int32} {Inv : hp_T → Prop} (hC : ∀ kc ks : Nat, kc ≤ 601024 → ks ≤ 7293034 → xr_C G (xl_K p e s m below meth c b kc ks) cL_law RL 7 room_1 (some .boolean) none) (hXs : va_X b L xs s s.heap) (hbl : b < s.heap.size ∧ ¬ G.2.2.2.1 b) (hL : L ≤ 3072) (hj : 6 * j + 6 ≤ L) {kc ks : Nat} (hkc : kc ≤ 306 + j) (hks : ks ≤ 106459 + 6 * j) (op : lw_o3 Inv (fun a1 a2 a3 h => fX9_till 0 a1 a2 a3 h) (fun a1 a2 a3 h => fX10_till 290 a1 a2 a3 h)) (h : hp_T) (hI : Inv h) (hk : ∀ (kc2 ks2 : Nat) (h2 : hp_T), kc2 ≤ kc + 1 → ks2 ≤ ks + 6 → Inv h2 → xr_j l G (xl_K p e s m below meth c b kc2 ks2) 7 h2 (xl_V G b j) 1932 []) : xr_j l G (xl_K p e s m below meth c b kc ks) 7 h (xl_V G b j) 1858 [] := by
  have C := hC kc ks (by omega) (by omega)
  obtain ⟨r, h1, h2, e1, e2, hI⟩ := op h hI (xs (6 * j + 1)) (xs (6 * j + 2)) (xs (6 * j + 3))
  dsimp only at e1 e2
  refine xr_aload_n C 1 dL_law_1858 rfl rfl ?_
  refine xr_aload_n C 0 dL_law_1859 rfl rfl ?_
  refine xr_iload C 4 dL_law_1860 rfl ?_
  refine xr_iconst (v := 1) C dL_law_1862 (by decide) ?_
  refine xr_iadd C dL_law_1863 ?_
  refine xl_sld (k := 1) C hXs hbl rfl rfl (by omega) hL dL_law_1864 ?_
  refine xr_aload_n C 0 dL_law_1865 rfl rfl ?_
  refine xr_iload C 4 dL_law_1866 rfl ?_
  refine xr_iconst (v := 2) C dL_law_1868 (by decide) ?_
  refine xr_iadd C dL_law_1869 ?_
  refine xl_sld (k := 2) C hXs hbl rfl rfl (by omega) hL dL_law_1870 ?_
  refine xr_aload_n C 0 dL_law_1871 rfl rfl ?_
  refine xr_iload C 4 dL_law_1872 rfl ?_
  refine xr_iconst (v := 3) C dL_law_1874 (by decide) ?_
  refine xr_iadd C dL_law_1875 ?_
  refine xl_sld (k := 3) C hXs hbl rfl rfl (by omega) hL dL_law_1876 ?_
  refine xr_callVi C lm_204 [.int (xs (6 * j + 1)), .int (xs (6 * j + 2)), .int (xs (6 * j + 3))] [] (mX9_till l G 0 (xs (6 * j + 1)) (xs (6 * j + 2)) (xs (6 * j + 3)) (by decide +kernel) h h1 r e1) (by decide +kernel) (by decide) vc9 rfl ⟨rfl, rfl, Nat.le_of_ble_eq_true rfl, Nat.le_of_ble_eq_true rfl⟩ rfl (Nat.le_of_ble_eq_true rfl) dL_law_1877 ?_
  refine xr_aload_n C 2 dL_law_1880 rfl rfl ?_
  refine xr_aload_n C 0 dL_law_1881 rfl rfl ?_
  refine xr_iload C 4 dL_law_1882 rfl ?_
  refine xr_iconst (v := 1) C dL_law_1884 (by decide) ?_
  refine xr_iadd C dL_law_1885 ?_
  refine xl_sld (k := 1) C hXs hbl rfl rfl (by omega) hL dL_law_1886 ?_
  refine xr_aload_n C 0 dL_law_1887 rfl rfl ?_
  refine xr_iload C 4 dL_law_1888 rfl ?_
  refine xr_iconst (v := 2) C dL_law_1890 (by decide) ?_
  refine xr_iadd C dL_law_1891 ?_
  refine xl_sld (k := 2) C hXs hbl rfl rfl (by omega) hL dL_law_1892 ?_
  refine xr_aload_n C 0 dL_law_1893 rfl rfl ?_
  refine xr_iload C 4 dL_law_1894 rfl ?_
  refine xr_iconst (v := 3) C dL_law_1896 (by decide) ?_
  refine xr_iadd C dL_law_1897 ?_
  refine xl_sld (k := 3) C hXs hbl rfl rfl (by omega) hL dL_law_1898 ?_
  refine xr_callVi C lm_207 [.int (xs (6 * j + 1)), .int (xs (6 * j + 2)), .int (xs (6 * j + 3))] [.int r] (mX10_till l G 290 (xs (6 * j + 1)) (xs (6 * j + 2)) (xs (6 * j + 3)) (by decide +kernel) h1 h2 r e2) (by decide +kernel) (by decide) vc10 rfl ⟨rfl, rfl, Nat.le_of_ble_eq_true rfl, Nat.le_of_ble_eq_true rfl⟩ rfl (Nat.le_of_ble_eq_true rfl) dL_law_1899 ?_
  refine xr_icmp_eq C 1932 dL_law_1902 (by decide) (fun _ => ?_) (fun c => absurd rfl c)
  exact hk kc ks h2 (Nat.le_succ _) (by omega) hI
set_option maxRecDepth 100000 in
set_option maxHeartbeats 4000000 in
theorem lc_44 {p : Program} {e : Env} {s : State} {m : MethodId} {below : List Frame} {meth : Method} {c : Code} {l : Launch} {G : xr_G} {b L j : Nat} {xs : Nat → Int32} {Inv : hp_T → Prop} (hC : ∀ kc ks : Nat, kc ≤ 601024 → ks ≤ 7293034 → xr_C G (xl_K p e s m below meth c b kc ks) cL_law RL 7 room_1 (some .boolean) none) (hXs : va_X b L xs s s.heap) (hbl : b < s.heap.size ∧ ¬ G.2.2.2.1 b) (hL : L ≤ 3072) (hj : 6 * j + 6 ≤ L) {kc ks : Nat} (hkc : kc ≤ 306 + j) (hks : ks ≤ 106459 + 6 * j) (op : lw_o1 Inv (fun a1 h => fX9_count 0 a1 h) (fun a1 h => fX10_count 290 a1 h)) (h : hp_T) (hI : Inv h) (hk : ∀ (kc2 ks2 : Nat) (h2 : hp_T), kc2 ≤ kc + 1 → ks2 ≤ ks + 6 → Inv h2 → xr_j l G (xl_K p e s m below meth c b kc2 ks2) 7 h2 (xl_V G b j) 1932 []) : xr_j l G (xl_K p e s m below meth c b kc ks) 7 h (xl_V G b j) 1907 [] := by
  have C := hC kc ks (by omega) (by omega)
  obtain ⟨r, h1, h2, e1, e2, hI⟩ := op h hI (xs (6 * j + 1))
  dsimp only at e1 e2
  refine xr_aload_n C 1 dL_law_1907 rfl rfl ?_
  refine xr_aload_n C 0 dL_law_1908 rfl rfl ?_
  refine xr_iload C 4 dL_law_1909 rfl ?_
  refine xr_iconst (v := 1) C dL_law_1911 (by decide) ?_
  refine xr_iadd C dL_law_1912 ?_
  refine xl_sld (k := 1) C hXs hbl rfl rfl (by omega) hL dL_law_1913 ?_
  refine xr_callVi C lm_208 [.int (xs (6 * j + 1))] [] (mX9_count l G 0 (xs (6 * j + 1)) (by decide +kernel) h h1 r e1) (by decide +kernel) (by decide) vc9 rfl ⟨rfl, rfl, Nat.le_of_ble_eq_true rfl, Nat.le_of_ble_eq_true rfl⟩ rfl (Nat.le_of_ble_eq_true rfl) dL_law_1914 ?_
  refine xr_aload_n C 2 dL_law_1917 rfl rfl ?_
  refine xr_aload_n C 0 dL_law_1918 rfl rfl ?_
  refine xr_iload C 4 dL_law_1919 rfl ?_
  refine xr_iconst (v := 1) C dL_law_1921 (by decide) ?_
  refine xr_iadd C dL_law_1922 ?_
  refine xl_sld (k := 1) C hXs hbl rfl rfl (by omega) hL dL_law_1923 ?_
  refine xr_callVi C lm_211 [.int (xs (6 * j + 1))] [.int r] (mX10_count l G 290 (xs (6 * j + 1)) (by decide +kernel) h1 h2 r e2) (by decide +kernel) (by decide) vc10 rfl ⟨rfl, rfl, Nat.le_of_ble_eq_true rfl, Nat.le_of_ble_eq_true rfl⟩ rfl (Nat.le_of_ble_eq_true rfl) dL_law_1924 ?_
  refine xr_icmp_eq C 1932 dL_law_1927 (by decide) (fun _ => ?_) (fun c => absurd rfl c)
  exact hk kc ks h2 (Nat.le_succ _) (by omega) hI
set_option maxRecDepth 100000 in
set_option maxHeartbeats 4000000 in
theorem lc_3 {p : Program} {e : Env} {s : State} {m : MethodId} {below : List Frame} {meth : Method} {c : Code} {l : Launch} {G : xr_G} {b L j : Nat} {xs : Nat → Int32} {Inv : hp_T → Prop} (hC : ∀ kc ks : Nat, kc ≤ 601024 → ks ≤ 7293034 → xr_C G (xl_K p e s m below meth c b kc ks) cL_law RL 7 room_1 (some .boolean) none) (hXs : va_X b L xs s s.heap) (hbl : b < s.heap.size ∧ ¬ G.2.2.2.1 b) (hL : L ≤ 3072) (hj : 6 * j + 6 ≤ L) {kc ks : Nat} (hkc : kc ≤ 306 + j) (hks : ks ≤ 106459 + 6 * j) (hX : hp_X G.2.2.2.2 G.2.2.2.1 s s.heap) (hl0 : l.stackTraces = false) (op : lw_op Inv) (h : hp_T) (hTy : hp_Ty h.2.2) (hI : Inv h) (hk : ∀ (kc2 ks2 : Nat) (h2 : hp_T), kc2 ≤ kc + 1 → ks2 ≤ ks + 6 → Inv h2 → xr_j l G (xl_K p e s m below meth c b kc2 ks2) 7 h2 (xl_V G b j) 1932 []) : xr_j l G (xl_K p e s m below meth c b kc ks) 7 h (xl_V G b j) 359 [] := by
  have C := hC kc ks (by omega) (by omega)
  refine xr_aload_n C 1 dL_law_359 rfl rfl ?_
  refine xr_aload_n C 0 dL_law_360 rfl rfl ?_
  refine xr_iload C 4 dL_law_361 rfl ?_
  refine xr_iconst (v := 1) C dL_law_363 (by decide) ?_
  refine xr_iadd C dL_law_364 ?_
  refine xl_sld (k := 1) C hXs hbl rfl rfl (by omega) hL dL_law_365 ?_
  refine xr_aload_n C 0 dL_law_366 rfl rfl ?_
  refine xr_iload C 4 dL_law_367 rfl ?_
  refine xr_iconst (v := 2) C dL_law_369 (by decide) ?_
  refine xr_iadd C dL_law_370 ?_
  refine xl_sld (k := 2) C hXs hbl rfl rfl (by omega) hL dL_law_371 ?_
  refine xr_aload_n C 0 dL_law_372 rfl rfl ?_
  refine xr_iload C 4 dL_law_373 rfl ?_
  refine xr_iconst (v := 3) C dL_law_375 (by decide) ?_
  refine xr_iadd C dL_law_376 ?_
  refine xl_sld (k := 3) C hXs hbl rfl rfl (by omega) hL dL_law_377 ?_
  refine xr_aload_n C 3 dL_law_378 rfl rfl ?_
  rcases op h hI (xs (6 * j + 1)) (xs (6 * j + 2)) (xs (6 * j + 3)) with ⟨r, h1, h2, h3, e1, e2, e3, e4, hI⟩ | ⟨r, h2, h3, e1, e2, e3, hI⟩ | ⟨q0, r, q, h2, h3, e1, e0, eq, e9, e2, e3, hI⟩
  · refine xl_callP C hX (lp_0 l G 0 (xs (6 * j + 1)) (xs (6 * j + 2)) (xs (6 * j + 3)) 305 (by decide +kernel) (by decide +kernel) h h1 r e1) rfl rfl (Nat.le_of_ble_eq_true rfl) (Nat.le_of_ble_eq_true rfl) (by omega) (Nat.le_of_ble_eq_true rfl) dL_law_379 ?_
    have C2 := hC (kc + 0) (ks + 0) (by omega) (by omega)
    refine xr_istore C2 [(5, .int 0), (0, .ref b), (1, .ref (G.2.2.1 0)), (2, .ref (G.2.2.1 290)), (3, .ref (G.2.2.1 305)), (4, .int (nI (6 * j)))] dL_law_382 (Nat.le_of_ble_eq_true rfl) rfl ?_
    refine xr_aload_n C2 3 dL_law_384 rfl rfl ?_
    refine xr_aload_n C2 1 dL_law_385 rfl rfl ?_
    refine xr_iload C2 5 dL_law_386 rfl ?_
    refine xr_iconst (v := 1) C2 dL_law_388 (by decide) ?_
    refine xr_iadd C2 dL_law_389 ?_
    refine xl_sld (k := 1) C2 hXs hbl rfl rfl (by omega) hL dL_law_390 ?_
    refine xr_aload_n C2 1 dL_law_391 rfl rfl ?_
    refine xr_iload C2 5 dL_law_392 rfl ?_
    refine xr_iconst (v := 2) C2 dL_law_394 (by decide) ?_
    refine xr_iadd C2 dL_law_395 ?_
    refine xl_sld (k := 2) C2 hXs hbl rfl rfl (by omega) hL dL_law_396 ?_
    refine xr_aload_n C2 1 dL_law_397 rfl rfl ?_
    refine xr_iload C2 5 dL_law_398 rfl ?_
    refine xr_iconst (v := 3) C2 dL_law_400 (by decide) ?_
    refine xr_iadd C2 dL_law_401 ?_
    refine xl_sld (k := 3) C2 hXs hbl rfl rfl (by omega) hL dL_law_402 ?_
    refine xr_callVi C2 lm_40 [.int (xs (6 * j + 1)), .int (xs (6 * j + 2)), .int (xs (6 * j + 3))] [] (mX10_player l G 290 (xs (6 * j + 1)) (xs (6 * j + 2)) (xs (6 * j + 3)) (by decide +kernel) (hp_sL h1 305 0 (Int32.toInt64 r)) h2 r e2) (by decide +kernel) (by decide) vc10 rfl ⟨rfl, rfl, Nat.le_of_ble_eq_true rfl, Nat.le_of_ble_eq_true rfl⟩ rfl (Nat.le_of_ble_eq_true rfl) dL_law_403 ?_
    refine xr_istore C2 [(6, .int r), (5, .int 0), (0, .ref b), (1, .ref (G.2.2.1 0)), (2, .ref (G.2.2.1 290)), (3, .ref (G.2.2.1 305)), (4, .int (nI (6 * j)))] dL_law_406 (Nat.le_of_ble_eq_true rfl) rfl ?_
    refine xr_aload_n C2 4 dL_law_408 rfl rfl ?_
    refine xr_callVi C2 lm_41 [] [] (mX10_thrown l G 290 (by decide +kernel) h2 h3 0 e3) (by decide +kernel) (by decide) vc10 rfl ⟨rfl, rfl, Nat.le_of_ble_eq_true rfl, Nat.le_of_ble_eq_true rfl⟩ rfl (Nat.le_of_ble_eq_true rfl) dL_law_409 ?_
    refine xr_iload C2 1 dL_law_412 rfl ?_
    refine xr_icmp_eq C2 419 dL_law_414 (by decide) (fun _ => ?_) (fun c => absurd rfl c)
    refine xr_iload C2 1 dL_law_419 rfl ?_
    refine xr_if_ne C2 436 dL_law_421 (by decide) (fun c => absurd rfl c) (fun _ => ?_)
    refine xr_aload_n C2 5 dL_law_424 rfl rfl ?_
    refine xr_iconst (v := 0) C2 dL_law_425 (by decide) ?_
    refine xr_lald (n := 1) C2 dL_law_426 (by decide +kernel) (by decide) ?_
    refine xr_iload C2 0 dL_law_427 rfl ?_
    refine xr_i2l C2 dL_law_429 ?_
    refine xr_lcmp C2 dL_law_430 ?_
    rw [show h3.2.1 305 (fx_ix 0) = Int32.toInt64 r from e4, show lg_cmp (Int32.toInt64 r) (Int32.toInt64 r) = 0 by simp [lg_cmp]]
    refine xr_if_eq C2 436 dL_law_431 (by decide) (fun _ => ?_) (fun c => absurd rfl c)
    refine xr_goto C2 1932 dL_law_436 (by decide) ?_
    refine xr_sub [2, 3, 4, 5, 6] (xl_V G b j) rfl ?_
    exact hk (kc + 0) (ks + 0) h3 (by omega) (by omega) hI
  · refine xl_callP C hX (lp_1 l hl0 G 0 (xs (6 * j + 1)) (xs (6 * j + 2)) (xs (6 * j + 3)) 305 (by decide +kernel) h h hTy e1) rfl rfl (Nat.le_of_ble_eq_true rfl) (Nat.le_of_ble_eq_true rfl) (by omega) (Nat.le_of_ble_eq_true rfl) dL_law_379 ?_
    have C2 := hC (kc + 1) (ks + 6) (by omega) (by omega)
    refine xr_istore C2 [(5, .int 1), (0, .ref b), (1, .ref (G.2.2.1 0)), (2, .ref (G.2.2.1 290)), (3, .ref (G.2.2.1 305)), (4, .int (nI (6 * j)))] dL_law_382 (Nat.le_of_ble_eq_true rfl) rfl ?_
    refine xr_aload_n C2 3 dL_law_384 rfl rfl ?_
    refine xr_aload_n C2 1 dL_law_385 rfl rfl ?_
    refine xr_iload C2 5 dL_law_386 rfl ?_
    refine xr_iconst (v := 1) C2 dL_law_388 (by decide) ?_
    refine xr_iadd C2 dL_law_389 ?_
    refine xl_sld (k := 1) C2 hXs hbl rfl rfl (by omega) hL dL_law_390 ?_
    refine xr_aload_n C2 1 dL_law_391 rfl rfl ?_
    refine xr_iload C2 5 dL_law_392 rfl ?_
    refine xr_iconst (v := 2) C2 dL_law_394 (by decide) ?_
    refine xr_iadd C2 dL_law_395 ?_
    refine xl_sld (k := 2) C2 hXs hbl rfl rfl (by omega) hL dL_law_396 ?_
    refine xr_aload_n C2 1 dL_law_397 rfl rfl ?_
    refine xr_iload C2 5 dL_law_398 rfl ?_
    refine xr_iconst (v := 3) C2 dL_law_400 (by decide) ?_
    refine xr_iadd C2 dL_law_401 ?_
    refine xl_sld (k := 3) C2 hXs hbl rfl rfl (by omega) hL dL_law_402 ?_
    refine xr_callVi C2 lm_40 [.int (xs (6 * j + 1)), .int (xs (6 * j + 2)), .int (xs (6 * j + 3))] [] (mX10_player l G 290 (xs (6 * j + 1)) (xs (6 * j + 2)) (xs (6 * j + 3)) (by decide +kernel) h h2 r e2) (by decide +kernel) (by decide) vc10 rfl ⟨rfl, rfl, Nat.le_of_ble_eq_true rfl, Nat.le_of_ble_eq_true rfl⟩ rfl (Nat.le_of_ble_eq_true rfl) dL_law_403 ?_
    refine xr_istore C2 [(6, .int r), (5, .int 1), (0, .ref b), (1, .ref (G.2.2.1 0)), (2, .ref (G.2.2.1 290)), (3, .ref (G.2.2.1 305)), (4, .int (nI (6 * j)))] dL_law_406 (Nat.le_of_ble_eq_true rfl) rfl ?_
    refine xr_aload_n C2 4 dL_law_408 rfl rfl ?_
    refine xr_callVi C2 lm_41 [] [] (mX10_thrown l G 290 (by decide +kernel) h2 h3 1 e3) (by decide +kernel) (by decide) vc10 rfl ⟨rfl, rfl, Nat.le_of_ble_eq_true rfl, Nat.le_of_ble_eq_true rfl⟩ rfl (Nat.le_of_ble_eq_true rfl) dL_law_409 ?_
    refine xr_iload C2 1 dL_law_412 rfl ?_
    refine xr_icmp_eq C2 419 dL_law_414 (by decide) (fun _ => ?_) (fun c => absurd rfl c)
    refine xr_iload C2 1 dL_law_419 rfl ?_
    refine xr_if_ne C2 436 dL_law_421 (by decide) (fun _ => ?_) (fun c => absurd c (by decide))
    refine xr_goto C2 1932 dL_law_436 (by decide) ?_
    refine xr_sub [2, 3, 4, 5, 6] (xl_V G b j) rfl ?_
    exact hk (kc + 1) (ks + 6) h3 (by omega) (by omega) hI
  · refine xl_callP C hX (lp_2 l hl0 G 0 (xs (6 * j + 1)) (xs (6 * j + 2)) (xs (6 * j + 3)) 305 (by decide +kernel) h h hTy h q0 q e1 e0 eq e9) rfl rfl (Nat.le_of_ble_eq_true rfl) (Nat.le_of_ble_eq_true rfl) (by omega) (Nat.le_of_ble_eq_true rfl) dL_law_379 ?_
    have C2 := hC (kc + 1) (ks + 6) (by omega) (by omega)
    refine xr_istore C2 [(5, .int 2), (0, .ref b), (1, .ref (G.2.2.1 0)), (2, .ref (G.2.2.1 290)), (3, .ref (G.2.2.1 305)), (4, .int (nI (6 * j)))] dL_law_382 (Nat.le_of_ble_eq_true rfl) rfl ?_
    refine xr_aload_n C2 3 dL_law_384 rfl rfl ?_
    refine xr_aload_n C2 1 dL_law_385 rfl rfl ?_
    refine xr_iload C2 5 dL_law_386 rfl ?_
    refine xr_iconst (v := 1) C2 dL_law_388 (by decide) ?_
    refine xr_iadd C2 dL_law_389 ?_
    refine xl_sld (k := 1) C2 hXs hbl rfl rfl (by omega) hL dL_law_390 ?_
    refine xr_aload_n C2 1 dL_law_391 rfl rfl ?_
    refine xr_iload C2 5 dL_law_392 rfl ?_
    refine xr_iconst (v := 2) C2 dL_law_394 (by decide) ?_
    refine xr_iadd C2 dL_law_395 ?_
    refine xl_sld (k := 2) C2 hXs hbl rfl rfl (by omega) hL dL_law_396 ?_
    refine xr_aload_n C2 1 dL_law_397 rfl rfl ?_
    refine xr_iload C2 5 dL_law_398 rfl ?_
    refine xr_iconst (v := 3) C2 dL_law_400 (by decide) ?_
    refine xr_iadd C2 dL_law_401 ?_
    refine xl_sld (k := 3) C2 hXs hbl rfl rfl (by omega) hL dL_law_402 ?_
    refine xr_callVi C2 lm_40 [.int (xs (6 * j + 1)), .int (xs (6 * j + 2)), .int (xs (6 * j + 3))] [] (mX10_player l G 290 (xs (6 * j + 1)) (xs (6 * j + 2)) (xs (6 * j + 3)) (by decide +kernel) h h2 r e2) (by decide +kernel) (by decide) vc10 rfl ⟨rfl, rfl, Nat.le_of_ble_eq_true rfl, Nat.le_of_ble_eq_true rfl⟩ rfl (Nat.le_of_ble_eq_true rfl) dL_law_403 ?_
    refine xr_istore C2 [(6, .int r), (5, .int 2), (0, .ref b), (1, .ref (G.2.2.1 0)), (2, .ref (G.2.2.1 290)), (3, .ref (G.2.2.1 305)), (4, .int (nI (6 * j)))] dL_law_406 (Nat.le_of_ble_eq_true rfl) rfl ?_
    refine xr_aload_n C2 4 dL_law_408 rfl rfl ?_
    refine xr_callVi C2 lm_41 [] [] (mX10_thrown l G 290 (by decide +kernel) h2 h3 2 e3) (by decide +kernel) (by decide) vc10 rfl ⟨rfl, rfl, Nat.le_of_ble_eq_true rfl, Nat.le_of_ble_eq_true rfl⟩ rfl (Nat.le_of_ble_eq_true rfl) dL_law_409 ?_
    refine xr_iload C2 1 dL_law_412 rfl ?_
    refine xr_icmp_eq C2 419 dL_law_414 (by decide) (fun _ => ?_) (fun c => absurd rfl c)
    refine xr_iload C2 1 dL_law_419 rfl ?_
    refine xr_if_ne C2 436 dL_law_421 (by decide) (fun _ => ?_) (fun c => absurd c (by decide))
    refine xr_goto C2 1932 dL_law_436 (by decide) ?_
    refine xr_sub [2, 3, 4, 5, 6] (xl_V G b j) rfl ?_
    exact hk (kc + 1) (ks + 6) h3 (by omega) (by omega) hI

set_option maxRecDepth 100000 in
set_option maxHeartbeats 4000000 in
theorem law_loop {p : Program} {e : Env} {s : State} {m : MethodId} {below : List Frame} {meth : Method} {c : Code} {l : Launch} {G : xr_G} {b L : Nat} {xs : Nat → Int32} {Inv : hp_T → Prop} (hflags : l.stackTraces = false) (hC : ∀ kc ks : Nat, kc ≤ 601024 → ks ≤ 7293034 → xr_C G (xl_K p e s m below meth c b kc ks) cL_law RL 7 room_1 (some .boolean) none) (hA : G.2.2.2.1 = xi_A s.heap.size) (hret : meth.sig.returnType = ret) (hXs : va_X b L xs s s.heap) (hbl : b < s.heap.size ∧ ¬ G.2.2.2.1 b) (hL : L ≤ 3072) (hX : hp_X G.2.2.2.2 G.2.2.2.1 s s.heap) (ops : lw_OPS Inv) : ∀ (n j kc ks : Nat) (h : hp_T), L ≤ 6 * j + 6 * n → 6 * j ≤ L → kc ≤ 306 + j → ks ≤ 106459 + 6 * j → Inv h → xr_j l G (xl_K p e s m below meth c b kc ks) 7 h (xl_V G b j) 23 [] := by
  obtain ⟨o0, o1, o2, o3, o4, o5, o6, o7, o8, o9, o10, o11, o12, o13, o14, o15, o16, o17, o18, o19, o20, o21, o22, o23, o24, o25, o26, o27, o28, o29, o30, o31, o32, o33, o34, o35, o36, o37, o38, o39, o40, o41, o42, o43, o44⟩ := ops
  intro n
  induction n with
  | zero =>
    intro j kc ks h h1 h0 hkc hks hI
    have C := hC kc ks (by omega) (by omega)
    refine xr_iload C 4 dL_law_23 rfl ?_
    refine xr_aload_n C 0 dL_law_25 rfl rfl ?_
    refine xl_slen C hXs hbl dL_law_26 ?_
    refine xr_bipush (v := 6) C dL_law_27 (by decide) ?_
    refine xr_isub C dL_law_29 ?_
    refine xr_icmp_gt C 1938 dL_law_30 (by decide) (fun _ => ?_) (fun q => absurd (xl_lt hL (by omega) (by omega)) q)
    exact law_end (hC kc ks (by omega) (by omega)) hA hret (by omega) (by omega)
  | succ n ih =>
    intro j kc ks h h1 h0 hkc hks hI
    have C := hC kc ks (by omega) (by omega)
    refine xr_iload C 4 dL_law_23 rfl ?_
    refine xr_aload_n C 0 dL_law_25 rfl rfl ?_
    refine xl_slen C hXs hbl dL_law_26 ?_
    refine xr_bipush (v := 6) C dL_law_27 (by decide) ?_
    refine xr_isub C dL_law_29 ?_
    refine xr_icmp_gt C 1938 dL_law_30 (by decide) (fun _ => ?_) (fun q9 => ?_)
    · exact law_end (hC kc ks (by omega) (by omega)) hA hret (by omega) (by omega)
    have hj : 6 * j + 6 ≤ L := by
      rcases Nat.lt_or_ge L (6 * j + 6) with q | q
      · exact absurd (xl_lt hL q (by omega)) q9
      · exact q
    have hk : ∀ (kc2 ks2 : Nat) (h2 : hp_T), kc2 ≤ kc + 1 → ks2 ≤ ks + 6 → Inv h2 → xr_j l G (xl_K p e s m below meth c b kc2 ks2) 7 h2 (xl_V G b j) 1932 [] := by
      intro kc2 ks2 h2 q1 q2 hI2
      have C := hC kc2 ks2 (by omega) (by omega)
      refine xr_iinc C (nI (6 * (j + 1))) 4 [(4, .int (nI (6 * (j + 1)))), (0, .ref b), (1, .ref (G.2.2.1 0)), (2, .ref (G.2.2.1 290)), (3, .ref (G.2.2.1 305))] dL_law_1932 rfl (by rw [show Int32.ofInt 6 = nI 6 by decide, nI_add, Nat.mul_add]) (Nat.le_of_ble_eq_true rfl) rfl ?_
      refine xr_goto C 23 dL_law_1935 (by decide) ?_
      refine xr_sub [1, 2, 3, 4, 0] (xl_V G b (j + 1)) rfl ?_
      exact ih (j + 1) kc2 ks2 h2 (by omega) (by omega) (by omega) (by omega) hI2
    refine xr_aload_n C 0 dL_law_33 rfl rfl ?_
    refine xr_iload C 4 dL_law_34 rfl ?_
    refine xl_sld0 C hXs hbl rfl (by omega) hL dL_law_36 ?_
    refine xr_bipush (v := 63) C dL_law_37 (by decide) ?_
    refine xr_iand C dL_law_39 ?_
    refine xr_topi (fun v ev => ?_)
    by_cases c0 : v = 0
    · subst c0
      refine xr_tableIn C 236 dL_law_40 (by decide) (by decide) rfl (by decide) ?_
      exact lc_0 hC hXs hbl hL hj hkc hks o0 h hI hk
    by_cases c1 : v = 1
    · subst c1
      refine xr_tableIn C 309 dL_law_40 (by decide) (by decide) rfl (by decide) ?_
      exact lc_1 hC hXs hbl hL hj hkc hks o1 h hI hk
    by_cases c2 : v = 2
    · subst c2
      refine xr_tableIn C 334 dL_law_40 (by decide) (by decide) rfl (by decide) ?_
      exact lc_2 hC hXs hbl hL hj hkc hks o2 h hI hk
    by_cases c3 : v = 3
    · subst c3
      refine xr_tableIn C 359 dL_law_40 (by decide) (by decide) rfl (by decide) ?_
      intro hTy
      exact lc_3 hC hXs hbl hL hj hkc hks hX hflags o3 h hTy hI hk hTy
    by_cases c4 : v = 4
    · subst c4
      refine xr_tableIn C 439 dL_law_40 (by decide) (by decide) rfl (by decide) ?_
      exact lc_4 hC hXs hbl hL hj hkc hks o4 h hI hk
    by_cases c5 : v = 5
    · subst c5
      refine xr_tableIn C 476 dL_law_40 (by decide) (by decide) rfl (by decide) ?_
      exact lc_5 hC hXs hbl hL hj hkc hks o5 h hI hk
    by_cases c6 : v = 6
    · subst c6
      refine xr_tableIn C 513 dL_law_40 (by decide) (by decide) rfl (by decide) ?_
      exact lc_6 hC hXs hbl hL hj hkc hks o6 h hI hk
    by_cases c7 : v = 7
    · subst c7
      refine xr_tableIn C 538 dL_law_40 (by decide) (by decide) rfl (by decide) ?_
      exact lc_7 hC hXs hbl hL hj hkc hks o7 h hI hk
    by_cases c8 : v = 8
    · subst c8
      refine xr_tableIn C 587 dL_law_40 (by decide) (by decide) rfl (by decide) ?_
      exact lc_8 hC hXs hbl hL hj hkc hks o8 h hI hk
    by_cases c9 : v = 9
    · subst c9
      refine xr_tableIn C 624 dL_law_40 (by decide) (by decide) rfl (by decide) ?_
      exact lc_9 hC hXs hbl hL hj hkc hks o9 h hI hk
    by_cases c10 : v = 10
    · subst c10
      refine xr_tableIn C 685 dL_law_40 (by decide) (by decide) rfl (by decide) ?_
      exact lc_10 hC hXs hbl hL hj hkc hks o10 h hI hk
    by_cases c11 : v = 11
    · subst c11
      refine xr_tableIn C 734 dL_law_40 (by decide) (by decide) rfl (by decide) ?_
      exact lc_11 hC hXs hbl hL hj hkc hks o11 h hI hk
    by_cases c12 : v = 12
    · subst c12
      refine xr_tableIn C 771 dL_law_40 (by decide) (by decide) rfl (by decide) ?_
      exact lc_12 hC hXs hbl hL hj hkc hks o12 h hI hk
    by_cases c13 : v = 13
    · subst c13
      refine xr_tableIn C 784 dL_law_40 (by decide) (by decide) rfl (by decide) ?_
      exact lc_13 hC hXs hbl hL hj hkc hks o13 h hI hk
    by_cases c14 : v = 14
    · subst c14
      refine xr_tableIn C 809 dL_law_40 (by decide) (by decide) rfl (by decide) ?_
      exact lc_14 hC hXs hbl hL hj hkc hks o14 h hI hk
    by_cases c15 : v = 15
    · subst c15
      refine xr_tableIn C 822 dL_law_40 (by decide) (by decide) rfl (by decide) ?_
      exact lc_15 hC hXs hbl hL hj hkc hks o15 h hI hk
    by_cases c16 : v = 16
    · subst c16
      refine xr_tableIn C 871 dL_law_40 (by decide) (by decide) rfl (by decide) ?_
      exact lc_16 hC hXs hbl hL hj hkc hks o16 h hI hk
    by_cases c17 : v = 17
    · subst c17
      refine xr_tableIn C 884 dL_law_40 (by decide) (by decide) rfl (by decide) ?_
      exact lc_17 hC hXs hbl hL hj hkc hks o17 h hI hk
    by_cases c18 : v = 18
    · subst c18
      refine xr_tableIn C 957 dL_law_40 (by decide) (by decide) rfl (by decide) ?_
      exact lc_18 hC hXs hbl hL hj hkc hks o18 h hI hk
    by_cases c19 : v = 19
    · subst c19
      refine xr_tableIn C 994 dL_law_40 (by decide) (by decide) rfl (by decide) ?_
      exact lc_19 hC hXs hbl hL hj hkc hks o19 h hI hk
    by_cases c20 : v = 20
    · subst c20
      refine xr_tableIn C 1031 dL_law_40 (by decide) (by decide) rfl (by decide) ?_
      exact lc_20 hC hXs hbl hL hj hkc hks o20 h hI hk
    by_cases c21 : v = 21
    · subst c21
      refine xr_tableIn C 1044 dL_law_40 (by decide) (by decide) rfl (by decide) ?_
      exact lc_21 hC hXs hbl hL hj hkc hks o21 h hI hk
    by_cases c22 : v = 22
    · subst c22
      refine xr_tableIn C 1081 dL_law_40 (by decide) (by decide) rfl (by decide) ?_
      exact lc_22 hC hXs hbl hL hj hkc hks o22 h hI hk
    by_cases c23 : v = 23
    · subst c23
      refine xr_tableIn C 1106 dL_law_40 (by decide) (by decide) rfl (by decide) ?_
      exact lc_23 hC hXs hbl hL hj hkc hks o23 h hI hk
    by_cases c24 : v = 24
    · subst c24
      refine xr_tableIn C 1155 dL_law_40 (by decide) (by decide) rfl (by decide) ?_
      exact lc_24 hC hXs hbl hL hj hkc hks o24 h hI hk
    by_cases c25 : v = 25
    · subst c25
      refine xr_tableIn C 1192 dL_law_40 (by decide) (by decide) rfl (by decide) ?_
      exact lc_25 hC hXs hbl hL hj hkc hks o25 h hI hk
    by_cases c26 : v = 26
    · subst c26
      refine xr_tableIn C 1229 dL_law_40 (by decide) (by decide) rfl (by decide) ?_
      exact lc_26 hC hXs hbl hL hj hkc hks o26 h hI hk
    by_cases c27 : v = 27
    · subst c27
      refine xr_tableIn C 1266 dL_law_40 (by decide) (by decide) rfl (by decide) ?_
      exact lc_27 hC hXs hbl hL hj hkc hks o27 h hI hk
    by_cases c28 : v = 28
    · subst c28
      refine xr_tableIn C 1303 dL_law_40 (by decide) (by decide) rfl (by decide) ?_
      exact lc_28 hC hXs hbl hL hj hkc hks o28 h hI hk
    by_cases c29 : v = 29
    · subst c29
      refine xr_tableIn C 1316 dL_law_40 (by decide) (by decide) rfl (by decide) ?_
      exact lc_29 hC hXs hbl hL hj hkc hks o29 h hI hk
    by_cases c30 : v = 30
    · subst c30
      refine xr_tableIn C 1353 dL_law_40 (by decide) (by decide) rfl (by decide) ?_
      exact lc_30 hC hXs hbl hL hj hkc hks o30 h hI hk
    by_cases c31 : v = 31
    · subst c31
      refine xr_tableIn C 1390 dL_law_40 (by decide) (by decide) rfl (by decide) ?_
      exact lc_31 hC hXs hbl hL hj hkc hks o31 h hI hk
    by_cases c32 : v = 32
    · subst c32
      refine xr_tableIn C 1439 dL_law_40 (by decide) (by decide) rfl (by decide) ?_
      exact lc_32 hC hXs hbl hL hj hkc hks o32 h hI hk
    by_cases c33 : v = 33
    · subst c33
      refine xr_tableIn C 1476 dL_law_40 (by decide) (by decide) rfl (by decide) ?_
      exact lc_33 hC hXs hbl hL hj hkc hks o33 h hI hk
    by_cases c34 : v = 34
    · subst c34
      refine xr_tableIn C 1537 dL_law_40 (by decide) (by decide) rfl (by decide) ?_
      exact lc_34 hC hXs hbl hL hj hkc hks o34 h hI hk
    by_cases c35 : v = 35
    · subst c35
      refine xr_tableIn C 1574 dL_law_40 (by decide) (by decide) rfl (by decide) ?_
      exact lc_35 hC hXs hbl hL hj hkc hks o35 h hI hk
    by_cases c36 : v = 36
    · subst c36
      refine xr_tableIn C 1623 dL_law_40 (by decide) (by decide) rfl (by decide) ?_
      exact lc_36 hC hXs hbl hL hj hkc hks o36 h hI hk
    by_cases c37 : v = 37
    · subst c37
      refine xr_tableIn C 1660 dL_law_40 (by decide) (by decide) rfl (by decide) ?_
      exact lc_37 hC hXs hbl hL hj hkc hks o37 h hI hk
    by_cases c38 : v = 38
    · subst c38
      refine xr_tableIn C 1685 dL_law_40 (by decide) (by decide) rfl (by decide) ?_
      exact lc_38 hC hXs hbl hL hj hkc hks o38 h hI hk
    by_cases c39 : v = 39
    · subst c39
      refine xr_tableIn C 1722 dL_law_40 (by decide) (by decide) rfl (by decide) ?_
      exact lc_39 hC hXs hbl hL hj hkc hks o39 h hI hk
    by_cases c40 : v = 40
    · subst c40
      refine xr_tableIn C 1759 dL_law_40 (by decide) (by decide) rfl (by decide) ?_
      exact lc_40 hC hXs hbl hL hj hkc hks o40 h hI hk
    by_cases c41 : v = 41
    · subst c41
      refine xr_tableIn C 1796 dL_law_40 (by decide) (by decide) rfl (by decide) ?_
      exact lc_41 hC hXs hbl hL hj hkc hks o41 h hI hk
    by_cases c42 : v = 42
    · subst c42
      refine xr_tableIn C 1821 dL_law_40 (by decide) (by decide) rfl (by decide) ?_
      exact lc_42 hC hXs hbl hL hj hkc hks o42 h hI hk
    by_cases c43 : v = 43
    · subst c43
      refine xr_tableIn C 1858 dL_law_40 (by decide) (by decide) rfl (by decide) ?_
      exact lc_43 hC hXs hbl hL hj hkc hks o43 h hI hk
    by_cases c44 : v = 44
    · subst c44
      refine xr_tableIn C 1907 dL_law_40 (by decide) (by decide) rfl (by decide) ?_
      exact lc_44 hC hXs hbl hL hj hkc hks o44 h hI hk
    refine xr_tableOut C 1932 dL_law_40 (fx_out45 c0 c1 c2 c3 c4 c5 c6 c7 c8 c9 c10 c11 c12 c13 c14 c15 c16 c17 c18 c19 c20 c21 c22 c23 c24 c25 c26 c27 c28 c29 c30 c31 c32 c33 c34 c35 c36 c37 c38 c39 c40 c41 c42 c43 c44) (by decide) ?_
    exact hk kc ks h (by omega) (by omega) hI
