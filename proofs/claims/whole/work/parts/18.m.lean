theorem dX10_bestMove_0 : decode cX10_bestMove 0 = .ok (.aload_n 0, 1) := by decide +kernel
theorem dX10_bestMove_1 : decode cX10_bestMove 1 = .ok (.iconst 0, 1) := by decide +kernel
theorem dX10_bestMove_2 : decode cX10_bestMove 2 = .ok (.putfield 63, 3) := by decide +kernel
theorem dX10_bestMove_5 : decode cX10_bestMove 5 = .ok (.aload_n 0, 1) := by decide +kernel
theorem dX10_bestMove_6 : decode cX10_bestMove 6 = .ok (.iload_n 1, 1) := by decide +kernel
theorem dX10_bestMove_7 : decode cX10_bestMove 7 = .ok (.invokevirtual 180, 3) := by decide +kernel
theorem dX10_bestMove_10 : decode cX10_bestMove 10 = .ok (.ifCond .eq 12, 3) := by decide +kernel
theorem dX10_bestMove_13 : decode cX10_bestMove 13 = .ok (.iload_n 2, 1) := by decide +kernel
theorem dX10_bestMove_14 : decode cX10_bestMove 14 = .ok (.ifCond .lt 8, 3) := by decide +kernel
theorem dX10_bestMove_17 : decode cX10_bestMove 17 = .ok (.iload_n 2, 1) := by decide +kernel
theorem dX10_bestMove_18 : decode cX10_bestMove 18 = .ok (.iconst 1, 1) := by decide +kernel
theorem dX10_bestMove_19 : decode cX10_bestMove 19 = .ok (.if_icmp .le 5, 3) := by decide +kernel
theorem dX10_bestMove_22 : decode cX10_bestMove 22 = .ok (.iconst (-1), 1) := by decide +kernel
theorem dX10_bestMove_23 : decode cX10_bestMove 23 = .ok (.ireturn, 1) := by decide +kernel
theorem dX10_bestMove_24 : decode cX10_bestMove 24 = .ok (.bipush (-2), 2) := by decide +kernel
theorem dX10_bestMove_26 : decode cX10_bestMove 26 = .ok (.istore_n 3, 1) := by decide +kernel
theorem dX10_bestMove_27 : decode cX10_bestMove 27 = .ok (.bipush (-2), 2) := by decide +kernel
theorem dX10_bestMove_29 : decode cX10_bestMove 29 = .ok (.istore 4, 2) := by decide +kernel
theorem dX10_bestMove_31 : decode cX10_bestMove 31 = .ok (.iconst 0, 1) := by decide +kernel
theorem dX10_bestMove_32 : decode cX10_bestMove 32 = .ok (.istore 5, 2) := by decide +kernel
theorem dX10_bestMove_34 : decode cX10_bestMove 34 = .ok (.iload 5, 2) := by decide +kernel
theorem dX10_bestMove_36 : decode cX10_bestMove 36 = .ok (.iconst 3, 1) := by decide +kernel
theorem dX10_bestMove_37 : decode cX10_bestMove 37 = .ok (.if_icmp .ge 145, 3) := by decide +kernel
theorem dX10_bestMove_40 : decode cX10_bestMove 40 = .ok (.iload 5, 2) := by decide +kernel
theorem dX10_bestMove_42 : decode cX10_bestMove 42 = .ok (.ifCond .ne 7, 3) := by decide +kernel
theorem dX10_bestMove_45 : decode cX10_bestMove 45 = .ok (.iconst 1, 1) := by decide +kernel
theorem dX10_bestMove_46 : decode cX10_bestMove 46 = .ok (.goto 8, 3) := by decide +kernel
theorem dX10_bestMove_49 : decode cX10_bestMove 49 = .ok (.bipush 7, 2) := by decide +kernel
theorem dX10_bestMove_51 : decode cX10_bestMove 51 = .ok (.iload 5, 2) := by decide +kernel
theorem dX10_bestMove_53 : decode cX10_bestMove 53 = .ok (.isub, 1) := by decide +kernel
theorem dX10_bestMove_54 : decode cX10_bestMove 54 = .ok (.istore 6, 2) := by decide +kernel
theorem dX10_bestMove_56 : decode cX10_bestMove 56 = .ok (.aload_n 0, 1) := by decide +kernel
theorem dX10_bestMove_57 : decode cX10_bestMove 57 = .ok (.iload_n 1, 1) := by decide +kernel
theorem dX10_bestMove_58 : decode cX10_bestMove 58 = .ok (.iload 6, 2) := by decide +kernel
theorem dX10_bestMove_60 : decode cX10_bestMove 60 = .ok (.invokevirtual 236, 3) := by decide +kernel
theorem dX10_bestMove_63 : decode cX10_bestMove 63 = .ok (.ifCond .eq 6, 3) := by decide +kernel
theorem dX10_bestMove_66 : decode cX10_bestMove 66 = .ok (.goto 110, 3) := by decide +kernel
theorem dX10_bestMove_69 : decode cX10_bestMove 69 = .ok (.aload_n 0, 1) := by decide +kernel
theorem dX10_bestMove_70 : decode cX10_bestMove 70 = .ok (.iload_n 1, 1) := by decide +kernel
theorem dX10_bestMove_71 : decode cX10_bestMove 71 = .ok (.iload 6, 2) := by decide +kernel
theorem dX10_bestMove_73 : decode cX10_bestMove 73 = .ok (.invokevirtual 183, 3) := by decide +kernel
theorem dX10_bestMove_76 : decode cX10_bestMove 76 = .ok (.istore 7, 2) := by decide +kernel
theorem dX10_bestMove_78 : decode cX10_bestMove 78 = .ok (.aload_n 0, 1) := by decide +kernel
theorem dX10_bestMove_79 : decode cX10_bestMove 79 = .ok (.iload_n 1, 1) := by decide +kernel
theorem dX10_bestMove_80 : decode cX10_bestMove 80 = .ok (.iload 6, 2) := by decide +kernel
theorem dX10_bestMove_82 : decode cX10_bestMove 82 = .ok (.aload_n 0, 1) := by decide +kernel
theorem dX10_bestMove_83 : decode cX10_bestMove 83 = .ok (.getfield 13, 3) := by decide +kernel
theorem dX10_bestMove_86 : decode cX10_bestMove 86 = .ok (.bipush 7, 2) := by decide +kernel
theorem dX10_bestMove_88 : decode cX10_bestMove 88 = .ok (.iload_n 1, 1) := by decide +kernel
theorem dX10_bestMove_89 : decode cX10_bestMove 89 = .ok (.iadd, 1) := by decide +kernel
theorem dX10_bestMove_90 : decode cX10_bestMove 90 = .ok (.iaload, 1) := by decide +kernel
theorem dX10_bestMove_91 : decode cX10_bestMove 91 = .ok (.invokevirtual 211, 3) := by decide +kernel
theorem dX10_bestMove_94 : decode cX10_bestMove 94 = .ok (.aload_n 0, 1) := by decide +kernel
theorem dX10_bestMove_95 : decode cX10_bestMove 95 = .ok (.invokevirtual 253, 3) := by decide +kernel
theorem dX10_bestMove_98 : decode cX10_bestMove 98 = .ok (.aload_n 0, 1) := by decide +kernel
theorem dX10_bestMove_99 : decode cX10_bestMove 99 = .ok (.iconst 0, 1) := by decide +kernel
theorem dX10_bestMove_100 : decode cX10_bestMove 100 = .ok (.iconst 0, 1) := by decide +kernel
theorem dX10_bestMove_101 : decode cX10_bestMove 101 = .ok (.aload_n 0, 1) := by decide +kernel
theorem dX10_bestMove_102 : decode cX10_bestMove 102 = .ok (.getfield 36, 3) := by decide +kernel
theorem dX10_bestMove_105 : decode cX10_bestMove 105 = .ok (.iconst 2, 1) := by decide +kernel
theorem dX10_bestMove_106 : decode cX10_bestMove 106 = .ok (.iaload, 1) := by decide +kernel
theorem dX10_bestMove_107 : decode cX10_bestMove 107 = .ok (.invokevirtual 256, 3) := by decide +kernel
theorem dX10_bestMove_110 : decode cX10_bestMove 110 = .ok (.istore 8, 2) := by decide +kernel
theorem dX10_bestMove_112 : decode cX10_bestMove 112 = .ok (.aload_n 0, 1) := by decide +kernel
theorem dX10_bestMove_113 : decode cX10_bestMove 113 = .ok (.iload_n 1, 1) := by decide +kernel
theorem dX10_bestMove_114 : decode cX10_bestMove 114 = .ok (.iload 6, 2) := by decide +kernel
theorem dX10_bestMove_116 : decode cX10_bestMove 116 = .ok (.iload 7, 2) := by decide +kernel
theorem dX10_bestMove_118 : decode cX10_bestMove 118 = .ok (.invokevirtual 211, 3) := by decide +kernel
theorem dX10_bestMove_121 : decode cX10_bestMove 121 = .ok (.iload_n 3, 1) := by decide +kernel
theorem dX10_bestMove_122 : decode cX10_bestMove 122 = .ok (.bipush (-2), 2) := by decide +kernel
theorem dX10_bestMove_124 : decode cX10_bestMove 124 = .ok (.if_icmp .eq 30, 3) := by decide +kernel
theorem dX10_bestMove_127 : decode cX10_bestMove 127 = .ok (.aload_n 0, 1) := by decide +kernel
theorem dX10_bestMove_128 : decode cX10_bestMove 128 = .ok (.getfield 36, 3) := by decide +kernel
theorem dX10_bestMove_131 : decode cX10_bestMove 131 = .ok (.iconst 2, 1) := by decide +kernel
theorem dX10_bestMove_132 : decode cX10_bestMove 132 = .ok (.iaload, 1) := by decide +kernel
theorem dX10_bestMove_133 : decode cX10_bestMove 133 = .ok (.iload_n 1, 1) := by decide +kernel
theorem dX10_bestMove_134 : decode cX10_bestMove 134 = .ok (.if_icmp .ne 13, 3) := by decide +kernel
theorem dX10_bestMove_137 : decode cX10_bestMove 137 = .ok (.iload 8, 2) := by decide +kernel
theorem dX10_bestMove_139 : decode cX10_bestMove 139 = .ok (.iload 4, 2) := by decide +kernel
theorem dX10_bestMove_141 : decode cX10_bestMove 141 = .ok (.if_icmp .le 17, 3) := by decide +kernel
theorem dX10_bestMove_144 : decode cX10_bestMove 144 = .ok (.goto 10, 3) := by decide +kernel
theorem dX10_bestMove_147 : decode cX10_bestMove 147 = .ok (.iload 8, 2) := by decide +kernel
theorem dX10_bestMove_149 : decode cX10_bestMove 149 = .ok (.iload 4, 2) := by decide +kernel
theorem dX10_bestMove_151 : decode cX10_bestMove 151 = .ok (.if_icmp .ge 7, 3) := by decide +kernel
theorem dX10_bestMove_154 : decode cX10_bestMove 154 = .ok (.iconst 1, 1) := by decide +kernel
theorem dX10_bestMove_155 : decode cX10_bestMove 155 = .ok (.goto 4, 3) := by decide +kernel
theorem dX10_bestMove_158 : decode cX10_bestMove 158 = .ok (.iconst 0, 1) := by decide +kernel
theorem dX10_bestMove_159 : decode cX10_bestMove 159 = .ok (.istore 9, 2) := by decide +kernel
theorem dX10_bestMove_161 : decode cX10_bestMove 161 = .ok (.iload 9, 2) := by decide +kernel
theorem dX10_bestMove_163 : decode cX10_bestMove 163 = .ok (.ifCond .ne 6, 3) := by decide +kernel
theorem dX10_bestMove_166 : decode cX10_bestMove 166 = .ok (.goto 10, 3) := by decide +kernel
theorem dX10_bestMove_169 : decode cX10_bestMove 169 = .ok (.iload 6, 2) := by decide +kernel
theorem dX10_bestMove_171 : decode cX10_bestMove 171 = .ok (.istore_n 3, 1) := by decide +kernel
theorem dX10_bestMove_172 : decode cX10_bestMove 172 = .ok (.iload 8, 2) := by decide +kernel
theorem dX10_bestMove_174 : decode cX10_bestMove 174 = .ok (.istore 4, 2) := by decide +kernel
theorem dX10_bestMove_176 : decode cX10_bestMove 176 = .ok (.iinc 5 1, 3) := by decide +kernel
theorem dX10_bestMove_179 : decode cX10_bestMove 179 = .ok (.goto (-145), 3) := by decide +kernel
theorem dX10_bestMove_182 : decode cX10_bestMove 182 = .ok (.iload_n 2, 1) := by decide +kernel
theorem dX10_bestMove_183 : decode cX10_bestMove 183 = .ok (.ifCond .ne 7, 3) := by decide +kernel
theorem dX10_bestMove_186 : decode cX10_bestMove 186 = .ok (.iload_n 3, 1) := by decide +kernel
theorem dX10_bestMove_187 : decode cX10_bestMove 187 = .ok (.goto 5, 3) := by decide +kernel
theorem dX10_bestMove_190 : decode cX10_bestMove 190 = .ok (.iload 4, 2) := by decide +kernel
theorem dX10_bestMove_192 : decode cX10_bestMove 192 = .ok (.ireturn, 1) := by decide +kernel
def fX10_bestMove_176 (k34 : Nat → Int32 → Int32 → Int32 → Int32 → Int32 → hp_T → Option (Int32 × hp_T)) (a0 : Nat) (a1 : Int32) (a2 : Int32) (a3 : Int32) (a4 : Int32) (a5 : Int32) (h : hp_T) : Option (Int32 × hp_T) := fx_let (a5 + (1 : Int32)) fun (x176 : Int32) => k34 a0 a1 a2 a3 a4 x176 h
set_option maxRecDepth 100000 in
set_option maxHeartbeats 4000000 in
theorem bX10_bestMove_176 {l : Launch} {G : xr_G} {K : xr_K} {r : Int32} {h1 : hp_T} (C : xr_C G K cX10_bestMove RX10 10 (xr_R 4 97) (some .int) (some (xr_Qi G r h1))) (k34 : Nat → Int32 → Int32 → Int32 → Int32 → Int32 → hp_T → Option (Int32 × hp_T)) (j34 : ∀ (a0 : Nat) (a1 : Int32) (a2 : Int32) (a3 : Int32) (a4 : Int32) (a5 : Int32) (ta0 : hp_sh a0 = (10, 0)) (h : hp_T), k34 a0 a1 a2 a3 a4 a5 h = some (r, h1) → xr_j l G K 10 h [(0, .ref (G.2.2.1 a0)), (1, .int a1), (2, .int a2), (3, .int a3), (4, .int a4), (5, .int a5)] 34 []) (a0 : Nat) (a1 : Int32) (a2 : Int32) (a3 : Int32) (a4 : Int32) (a5 : Int32) (ta0 : hp_sh a0 = (10, 0)) (h : hp_T) (hF : fX10_bestMove_176 k34 a0 a1 a2 a3 a4 a5 h = some (r, h1)) : xr_j l G K 10 h [(0, .ref (G.2.2.1 a0)), (1, .int a1), (2, .int a2), (3, .int a3), (4, .int a4), (5, .int a5)] 176 [] := by
  unfold fX10_bestMove_176 at hF
  obtain ⟨x176, e176⟩ : ∃ y : Int32, y = (a5 + (1 : Int32)) := ⟨_, rfl⟩
  have hF := fx_letE hF x176 e176
  refine xr_iinc C x176 5 [(5, .int x176), (0, .ref (G.2.2.1 a0)), (1, .int a1), (2, .int a2), (3, .int a3), (4, .int a4)] dX10_bestMove_176 rfl (by rw [e176]; rfl) (Nat.le_of_ble_eq_true rfl) rfl ?_
  refine xr_goto C 34 dX10_bestMove_179 (by decide) ?_
  refine xr_sub [1, 2, 3, 4, 5, 0] [(0, .ref (G.2.2.1 a0)), (1, .int a1), (2, .int a2), (3, .int a3), (4, .int a4), (5, .int x176)] rfl ?_
  exact j34 a0 a1 a2 a3 a4 x176 ta0 h hF
def fX10_bestMove_159 (k34 : Nat → Int32 → Int32 → Int32 → Int32 → Int32 → hp_T → Option (Int32 × hp_T)) (a0 : Nat) (a1 : Int32) (a2 : Int32) (a3 : Int32) (a4 : Int32) (a5 : Int32) (a6 : Int32) (a8 : Int32) (s0 : Int32) (h : hp_T) : Option (Int32 × hp_T) := if s0 = 0 then (fX10_bestMove_176 k34 a0 a1 a2 a3 a4 a5 h) else (fX10_bestMove_176 k34 a0 a1 a2 a6 a8 a5 h)
set_option maxRecDepth 100000 in
set_option maxHeartbeats 4000000 in
theorem bX10_bestMove_159 {l : Launch} {G : xr_G} {K : xr_K} {r : Int32} {h1 : hp_T} (C : xr_C G K cX10_bestMove RX10 10 (xr_R 4 97) (some .int) (some (xr_Qi G r h1))) (k34 : Nat → Int32 → Int32 → Int32 → Int32 → Int32 → hp_T → Option (Int32 × hp_T)) (j34 : ∀ (a0 : Nat) (a1 : Int32) (a2 : Int32) (a3 : Int32) (a4 : Int32) (a5 : Int32) (ta0 : hp_sh a0 = (10, 0)) (h : hp_T), k34 a0 a1 a2 a3 a4 a5 h = some (r, h1) → xr_j l G K 10 h [(0, .ref (G.2.2.1 a0)), (1, .int a1), (2, .int a2), (3, .int a3), (4, .int a4), (5, .int a5)] 34 []) (a0 : Nat) (a1 : Int32) (a2 : Int32) (a3 : Int32) (a4 : Int32) (a5 : Int32) (a6 : Int32) (a8 : Int32) (s0 : Int32) (ta0 : hp_sh a0 = (10, 0)) (h : hp_T) (hF : fX10_bestMove_159 k34 a0 a1 a2 a3 a4 a5 a6 a8 s0 h = some (r, h1)) : xr_j l G K 10 h [(0, .ref (G.2.2.1 a0)), (1, .int a1), (2, .int a2), (3, .int a3), (4, .int a4), (5, .int a5), (6, .int a6), (8, .int a8)] 159 [.int s0] := by
  unfold fX10_bestMove_159 at hF
  refine xr_istore C [(9, .int s0), (0, .ref (G.2.2.1 a0)), (1, .int a1), (2, .int a2), (3, .int a3), (4, .int a4), (5, .int a5), (6, .int a6), (8, .int a8)] dX10_bestMove_159 (Nat.le_of_ble_eq_true rfl) rfl ?_
  refine xr_iload C 0 dX10_bestMove_161 rfl ?_
  refine xr_if_ne C 169 dX10_bestMove_163 (by decide) (fun c163 => ?_) (fun c163 => ?_)
  · have hF := fx_neg hF c163
    refine xr_iload C 7 dX10_bestMove_169 rfl ?_
    refine xr_istore_n C [(3, .int a6), (9, .int s0), (0, .ref (G.2.2.1 a0)), (1, .int a1), (2, .int a2), (4, .int a4), (5, .int a5), (6, .int a6), (8, .int a8)] dX10_bestMove_171 rfl (Nat.le_of_ble_eq_true rfl) rfl ?_
    refine xr_iload C 8 dX10_bestMove_172 rfl ?_
    refine xr_istore C [(4, .int a8), (3, .int a6), (9, .int s0), (0, .ref (G.2.2.1 a0)), (1, .int a1), (2, .int a2), (5, .int a5), (6, .int a6), (8, .int a8)] dX10_bestMove_174 (Nat.le_of_ble_eq_true rfl) rfl ?_
    refine xr_sub [3, 4, 5, 1, 0, 6] [(0, .ref (G.2.2.1 a0)), (1, .int a1), (2, .int a2), (3, .int a6), (4, .int a8), (5, .int a5)] rfl ?_
    exact bX10_bestMove_176 C k34 j34  a0 a1 a2 a6 a8 a5 ta0 h hF
  · have hF := fx_pos hF c163
    refine xr_goto C 176 dX10_bestMove_166 (by decide) ?_
    refine xr_sub [1, 2, 3, 4, 5, 6] [(0, .ref (G.2.2.1 a0)), (1, .int a1), (2, .int a2), (3, .int a3), (4, .int a4), (5, .int a5)] rfl ?_
    exact bX10_bestMove_176 C k34 j34  a0 a1 a2 a3 a4 a5 ta0 h hF
def fX10_bestMove_158 (k34 : Nat → Int32 → Int32 → Int32 → Int32 → Int32 → hp_T → Option (Int32 × hp_T)) (a0 : Nat) (a1 : Int32) (a2 : Int32) (a3 : Int32) (a4 : Int32) (a5 : Int32) (a6 : Int32) (a8 : Int32) (h : hp_T) : Option (Int32 × hp_T) := fX10_bestMove_159 k34 a0 a1 a2 a3 a4 a5 a6 a8 (0 : Int32) h
set_option maxRecDepth 100000 in
set_option maxHeartbeats 4000000 in
theorem bX10_bestMove_158 {l : Launch} {G : xr_G} {K : xr_K} {r : Int32} {h1 : hp_T} (C : xr_C G K cX10_bestMove RX10 10 (xr_R 4 97) (some .int) (some (xr_Qi G r h1))) (k34 : Nat → Int32 → Int32 → Int32 → Int32 → Int32 → hp_T → Option (Int32 × hp_T)) (j34 : ∀ (a0 : Nat) (a1 : Int32) (a2 : Int32) (a3 : Int32) (a4 : Int32) (a5 : Int32) (ta0 : hp_sh a0 = (10, 0)) (h : hp_T), k34 a0 a1 a2 a3 a4 a5 h = some (r, h1) → xr_j l G K 10 h [(0, .ref (G.2.2.1 a0)), (1, .int a1), (2, .int a2), (3, .int a3), (4, .int a4), (5, .int a5)] 34 []) (a0 : Nat) (a1 : Int32) (a2 : Int32) (a3 : Int32) (a4 : Int32) (a5 : Int32) (a6 : Int32) (a8 : Int32) (ta0 : hp_sh a0 = (10, 0)) (h : hp_T) (hF : fX10_bestMove_158 k34 a0 a1 a2 a3 a4 a5 a6 a8 h = some (r, h1)) : xr_j l G K 10 h [(0, .ref (G.2.2.1 a0)), (1, .int a1), (2, .int a2), (3, .int a3), (4, .int a4), (5, .int a5), (6, .int a6), (8, .int a8)] 158 [] := by
  unfold fX10_bestMove_158 at hF
  refine xr_iconst (v := 0) C dX10_bestMove_158 (by decide) ?_
  exact bX10_bestMove_159 C k34 j34  a0 a1 a2 a3 a4 a5 a6 a8 (0 : Int32) ta0 h hF
def fX10_bestMove_154 (k34 : Nat → Int32 → Int32 → Int32 → Int32 → Int32 → hp_T → Option (Int32 × hp_T)) (a0 : Nat) (a1 : Int32) (a2 : Int32) (a3 : Int32) (a4 : Int32) (a5 : Int32) (a6 : Int32) (a8 : Int32) (h : hp_T) : Option (Int32 × hp_T) := fX10_bestMove_159 k34 a0 a1 a2 a3 a4 a5 a6 a8 (1 : Int32) h
set_option maxRecDepth 100000 in
set_option maxHeartbeats 4000000 in
theorem bX10_bestMove_154 {l : Launch} {G : xr_G} {K : xr_K} {r : Int32} {h1 : hp_T} (C : xr_C G K cX10_bestMove RX10 10 (xr_R 4 97) (some .int) (some (xr_Qi G r h1))) (k34 : Nat → Int32 → Int32 → Int32 → Int32 → Int32 → hp_T → Option (Int32 × hp_T)) (j34 : ∀ (a0 : Nat) (a1 : Int32) (a2 : Int32) (a3 : Int32) (a4 : Int32) (a5 : Int32) (ta0 : hp_sh a0 = (10, 0)) (h : hp_T), k34 a0 a1 a2 a3 a4 a5 h = some (r, h1) → xr_j l G K 10 h [(0, .ref (G.2.2.1 a0)), (1, .int a1), (2, .int a2), (3, .int a3), (4, .int a4), (5, .int a5)] 34 []) (a0 : Nat) (a1 : Int32) (a2 : Int32) (a3 : Int32) (a4 : Int32) (a5 : Int32) (a6 : Int32) (a8 : Int32) (ta0 : hp_sh a0 = (10, 0)) (h : hp_T) (hF : fX10_bestMove_154 k34 a0 a1 a2 a3 a4 a5 a6 a8 h = some (r, h1)) : xr_j l G K 10 h [(0, .ref (G.2.2.1 a0)), (1, .int a1), (2, .int a2), (3, .int a3), (4, .int a4), (5, .int a5), (6, .int a6), (8, .int a8)] 154 [] := by
  unfold fX10_bestMove_154 at hF
  refine xr_iconst (v := 1) C dX10_bestMove_154 (by decide) ?_
  refine xr_goto C 159 dX10_bestMove_155 (by decide) ?_
  exact bX10_bestMove_159 C k34 j34  a0 a1 a2 a3 a4 a5 a6 a8 (1 : Int32) ta0 h hF
def fX10_bestMove_54 (k34 : Nat → Int32 → Int32 → Int32 → Int32 → Int32 → hp_T → Option (Int32 × hp_T)) (a0 : Nat) (a1 : Int32) (a2 : Int32) (a3 : Int32) (a4 : Int32) (a5 : Int32) (s0 : Int32) (h : hp_T) : Option (Int32 × hp_T) := fx_b2 (fX10_wrongMove a0 a1 s0 h) fun (r60 : Int32) (h60 : hp_T) => if r60 = 0 then (fx_b2 (fX10_court a0 a1 s0 h60) fun (r73 : Int32) (h73 : hp_T) => fx_g (fx_in ((7 : Int32) + a1) 117) (fx_b1 (fX10_puts a0 a1 s0 (h73.1 (h73.2.2 a0 3) (fx_ix ((7 : Int32) + a1))) h73) fun (h91 : hp_T) => fx_b1 (fX10_takesCourt a0 h91) fun (h95 : hp_T) => fx_b2 (fX10_chanceOf a0 (0 : Int32) (0 : Int32) (h95.1 (h95.2.2 a0 20) (fx_ix (2 : Int32))) h95) fun (r107 : Int32) (h107 : hp_T) => fx_b1 (fX10_puts a0 a1 s0 r73 h107) fun (h118 : hp_T) => if a3 = (-2 : Int32) then (fX10_bestMove_154 k34 a0 a1 a2 a3 a4 a5 s0 r107 h118) else (if (h118.1 (h118.2.2 a0 20) (fx_ix (2 : Int32))) = a1 then (if r107 ≤ a4 then (fX10_bestMove_158 k34 a0 a1 a2 a3 a4 a5 s0 r107 h118) else (fX10_bestMove_154 k34 a0 a1 a2 a3 a4 a5 s0 r107 h118)) else (if a4 ≤ r107 then (fX10_bestMove_158 k34 a0 a1 a2 a3 a4 a5 s0 r107 h118) else (fX10_bestMove_154 k34 a0 a1 a2 a3 a4 a5 s0 r107 h118))))) else (fX10_bestMove_176 k34 a0 a1 a2 a3 a4 a5 h60)
set_option maxRecDepth 100000 in
set_option maxHeartbeats 4000000 in
theorem bX10_bestMove_54 {l : Launch} {G : xr_G} {K : xr_K} {r : Int32} {h1 : hp_T} (C : xr_C G K cX10_bestMove RX10 10 (xr_R 4 97) (some .int) (some (xr_Qi G r h1))) (k34 : Nat → Int32 → Int32 → Int32 → Int32 → Int32 → hp_T → Option (Int32 × hp_T)) (j34 : ∀ (a0 : Nat) (a1 : Int32) (a2 : Int32) (a3 : Int32) (a4 : Int32) (a5 : Int32) (ta0 : hp_sh a0 = (10, 0)) (h : hp_T), k34 a0 a1 a2 a3 a4 a5 h = some (r, h1) → xr_j l G K 10 h [(0, .ref (G.2.2.1 a0)), (1, .int a1), (2, .int a2), (3, .int a3), (4, .int a4), (5, .int a5)] 34 []) (a0 : Nat) (a1 : Int32) (a2 : Int32) (a3 : Int32) (a4 : Int32) (a5 : Int32) (s0 : Int32) (ta0 : hp_sh a0 = (10, 0)) (h : hp_T) (hF : fX10_bestMove_54 k34 a0 a1 a2 a3 a4 a5 s0 h = some (r, h1)) : xr_j l G K 10 h [(0, .ref (G.2.2.1 a0)), (1, .int a1), (2, .int a2), (3, .int a3), (4, .int a4), (5, .int a5)] 54 [.int s0] := by
  unfold fX10_bestMove_54 at hF
  refine xr_istore C [(6, .int s0), (0, .ref (G.2.2.1 a0)), (1, .int a1), (2, .int a2), (3, .int a3), (4, .int a4), (5, .int a5)] dX10_bestMove_54 (Nat.le_of_ble_eq_true rfl) rfl ?_
  refine xr_aload_n C 1 dX10_bestMove_56 rfl rfl ?_
  refine xr_iload_n C 2 dX10_bestMove_57 rfl rfl ?_
  refine xr_iload C 0 dX10_bestMove_58 rfl ?_
  obtain ⟨r60, h60, e60, hF⟩ := fx_b2E hF
  refine xr_callVi C mvX10_236 [.int a1, .int s0] [] (mX10_wrongMove l G a0 a1 s0 ta0 h h60 r60 e60) ta0 (by decide) vc10 rfl ⟨rfl, rfl, (Nat.le_of_ble_eq_true rfl), (Nat.le_of_ble_eq_true rfl)⟩ rfl (Nat.le_of_ble_eq_true rfl) dX10_bestMove_60 ?_
  refine xr_if_eq C 69 dX10_bestMove_63 (by decide) (fun c63 => ?_) (fun c63 => ?_)
  · have hF := fx_pos hF c63
    refine xr_aload_n C 1 dX10_bestMove_69 rfl rfl ?_
    refine xr_iload_n C 2 dX10_bestMove_70 rfl rfl ?_
    refine xr_iload C 0 dX10_bestMove_71 rfl ?_
    obtain ⟨r73, h73, e73, hF⟩ := fx_b2E hF
    refine xr_callVi C mvX10_183 [.int a1, .int s0] [] (mX10_court l G a0 a1 s0 ta0 h60 h73 r73 e73) ta0 (by decide) vc10 rfl ⟨rfl, rfl, (Nat.le_of_ble_eq_true rfl), (Nat.le_of_ble_eq_true rfl)⟩ rfl (Nat.le_of_ble_eq_true rfl) dX10_bestMove_73 ?_
    refine xr_istore C [(7, .int r73), (6, .int s0), (0, .ref (G.2.2.1 a0)), (1, .int a1), (2, .int a2), (3, .int a3), (4, .int a4), (5, .int a5)] dX10_bestMove_76 (Nat.le_of_ble_eq_true rfl) rfl ?_
    refine xr_aload_n C 2 dX10_bestMove_78 rfl rfl ?_
    refine xr_iload_n C 3 dX10_bestMove_79 rfl rfl ?_
    refine xr_iload C 1 dX10_bestMove_80 rfl ?_
    refine xr_aload_n C 2 dX10_bestMove_82 rfl rfl ?_
    refine xr_getr C flX10_13 rfl (by decide) dX10_bestMove_83 ta0 (fun t83 => ?_)
    refine xr_bipush (v := 7) C dX10_bestMove_86 (by decide) ?_
    refine xr_iload_n C 3 dX10_bestMove_88 rfl rfl ?_
    refine xr_iadd C dX10_bestMove_89 ?_
    obtain ⟨g90, hF⟩ := fx_gE hF
    refine xr_iald C dX10_bestMove_90 t83 g90 ?_
    obtain ⟨h91, e91, hF⟩ := fx_b1E hF
    refine xr_callVv C mvX10_211 [.int a1, .int s0, .int (h73.1 (h73.2.2 a0 3) (fx_ix ((7 : Int32) + a1)))] [] (mX10_puts l G a0 a1 s0 (h73.1 (h73.2.2 a0 3) (fx_ix ((7 : Int32) + a1))) ta0 h73 h91 e91) ta0 (by decide) vc10 rfl ⟨rfl, rfl, (Nat.le_of_ble_eq_true rfl), (Nat.le_of_ble_eq_true rfl)⟩ rfl (Nat.le_of_ble_eq_true rfl) dX10_bestMove_91 ?_
    refine xr_aload_n C 2 dX10_bestMove_94 rfl rfl ?_
    obtain ⟨h95, e95, hF⟩ := fx_b1E hF
    refine xr_callVv C mvX10_253 [] [] (mX10_takesCourt l G a0 ta0 h91 h95 e95) ta0 (by decide) vc10 rfl ⟨rfl, rfl, (Nat.le_of_ble_eq_true rfl), (Nat.le_of_ble_eq_true rfl)⟩ rfl (Nat.le_of_ble_eq_true rfl) dX10_bestMove_95 ?_
    refine xr_aload_n C 2 dX10_bestMove_98 rfl rfl ?_
    refine xr_iconst (v := 0) C dX10_bestMove_99 (by decide) ?_
    refine xr_iconst (v := 0) C dX10_bestMove_100 (by decide) ?_
    refine xr_aload_n C 2 dX10_bestMove_101 rfl rfl ?_
    refine xr_getr C flX10_36 rfl (by decide) dX10_bestMove_102 ta0 (fun t102 => ?_)
    refine xr_iconst (v := 2) C dX10_bestMove_105 (by decide) ?_
    refine xr_iald C dX10_bestMove_106 t102 (by decide) ?_
    obtain ⟨r107, h107, e107, hF⟩ := fx_b2E hF
    refine xr_callVi C mvX10_256 [.int (0 : Int32), .int (0 : Int32), .int (h95.1 (h95.2.2 a0 20) (fx_ix (2 : Int32)))] [] (mX10_chanceOf l G a0 (0 : Int32) (0 : Int32) (h95.1 (h95.2.2 a0 20) (fx_ix (2 : Int32))) ta0 h95 h107 r107 e107) ta0 (by decide) vc10 rfl ⟨rfl, rfl, (Nat.le_of_ble_eq_true rfl), (Nat.le_of_ble_eq_true rfl)⟩ rfl (Nat.le_of_ble_eq_true rfl) dX10_bestMove_107 ?_
    refine xr_istore C [(8, .int r107), (7, .int r73), (6, .int s0), (0, .ref (G.2.2.1 a0)), (1, .int a1), (2, .int a2), (3, .int a3), (4, .int a4), (5, .int a5)] dX10_bestMove_110 (Nat.le_of_ble_eq_true rfl) rfl ?_
    refine xr_aload_n C 3 dX10_bestMove_112 rfl rfl ?_
    refine xr_iload_n C 4 dX10_bestMove_113 rfl rfl ?_
    refine xr_iload C 2 dX10_bestMove_114 rfl ?_
    refine xr_iload C 1 dX10_bestMove_116 rfl ?_
    obtain ⟨h118, e118, hF⟩ := fx_b1E hF
    refine xr_callVv C mvX10_211 [.int a1, .int s0, .int r73] [] (mX10_puts l G a0 a1 s0 r73 ta0 h107 h118 e118) ta0 (by decide) vc10 rfl ⟨rfl, rfl, (Nat.le_of_ble_eq_true rfl), (Nat.le_of_ble_eq_true rfl)⟩ rfl (Nat.le_of_ble_eq_true rfl) dX10_bestMove_118 ?_
    refine xr_iload_n C 6 dX10_bestMove_121 rfl rfl ?_
    refine xr_bipush (v := -2) C dX10_bestMove_122 (by decide) ?_
    refine xr_icmp_eq C 154 dX10_bestMove_124 (by decide) (fun c124 => ?_) (fun c124 => ?_)
    · have hF := fx_pos hF c124
      refine xr_sub [3, 4, 5, 6, 7, 8, 2, 0] [(0, .ref (G.2.2.1 a0)), (1, .int a1), (2, .int a2), (3, .int a3), (4, .int a4), (5, .int a5), (6, .int s0), (8, .int r107)] rfl ?_
      exact bX10_bestMove_154 C k34 j34  a0 a1 a2 a3 a4 a5 s0 r107 ta0 h118 hF
    · have hF := fx_neg hF c124
      refine xr_aload_n C 3 dX10_bestMove_127 rfl rfl ?_
      refine xr_getr C flX10_36 rfl (by decide) dX10_bestMove_128 ta0 (fun t128 => ?_)
      refine xr_iconst (v := 2) C dX10_bestMove_131 (by decide) ?_
      refine xr_iald C dX10_bestMove_132 t128 (by decide) ?_
      refine xr_iload_n C 4 dX10_bestMove_133 rfl rfl ?_
      refine xr_icmp_ne C 147 dX10_bestMove_134 (by decide) (fun c134 => ?_) (fun c134 => ?_)
      · have hF := fx_neg hF c134
        refine xr_iload C 0 dX10_bestMove_147 rfl ?_
        refine xr_iload C 7 dX10_bestMove_149 rfl ?_
        refine xr_icmp_ge C 158 dX10_bestMove_151 (by decide) (fun c151 => ?_) (fun c151 => ?_)
        · have hF := fx_pos hF c151
          refine xr_sub [3, 4, 5, 6, 7, 8, 2, 0] [(0, .ref (G.2.2.1 a0)), (1, .int a1), (2, .int a2), (3, .int a3), (4, .int a4), (5, .int a5), (6, .int s0), (8, .int r107)] rfl ?_
          exact bX10_bestMove_158 C k34 j34  a0 a1 a2 a3 a4 a5 s0 r107 ta0 h118 hF
        · have hF := fx_neg hF c151
          refine xr_sub [3, 4, 5, 6, 7, 8, 2, 0] [(0, .ref (G.2.2.1 a0)), (1, .int a1), (2, .int a2), (3, .int a3), (4, .int a4), (5, .int a5), (6, .int s0), (8, .int r107)] rfl ?_
          exact bX10_bestMove_154 C k34 j34  a0 a1 a2 a3 a4 a5 s0 r107 ta0 h118 hF
      · have hF := fx_pos hF c134
        refine xr_iload C 0 dX10_bestMove_137 rfl ?_
        refine xr_iload C 7 dX10_bestMove_139 rfl ?_
        refine xr_icmp_le C 158 dX10_bestMove_141 (by decide) (fun c141 => ?_) (fun c141 => ?_)
        · have hF := fx_pos hF c141
          refine xr_sub [3, 4, 5, 6, 7, 8, 2, 0] [(0, .ref (G.2.2.1 a0)), (1, .int a1), (2, .int a2), (3, .int a3), (4, .int a4), (5, .int a5), (6, .int s0), (8, .int r107)] rfl ?_
          exact bX10_bestMove_158 C k34 j34  a0 a1 a2 a3 a4 a5 s0 r107 ta0 h118 hF
        · have hF := fx_neg hF c141
          refine xr_goto C 154 dX10_bestMove_144 (by decide) ?_
          refine xr_sub [3, 4, 5, 6, 7, 8, 2, 0] [(0, .ref (G.2.2.1 a0)), (1, .int a1), (2, .int a2), (3, .int a3), (4, .int a4), (5, .int a5), (6, .int s0), (8, .int r107)] rfl ?_
          exact bX10_bestMove_154 C k34 j34  a0 a1 a2 a3 a4 a5 s0 r107 ta0 h118 hF
  · have hF := fx_neg hF c63
    refine xr_goto C 176 dX10_bestMove_66 (by decide) ?_
    refine xr_sub [1, 2, 3, 4, 5, 6] [(0, .ref (G.2.2.1 a0)), (1, .int a1), (2, .int a2), (3, .int a3), (4, .int a4), (5, .int a5)] rfl ?_
    exact bX10_bestMove_176 C k34 j34  a0 a1 a2 a3 a4 a5 ta0 h60 hF
def fX10_bestMove_34  : Nat → Nat → Int32 → Int32 → Int32 → Int32 → Int32 → hp_T → Option (Int32 × hp_T)
  | 0, _, _, _, _, _, _, _ => none
  | n + 1, a0, a1, a2, a3, a4, a5, h => if (3 : Int32) ≤ a5 then (if a2 = 0 then (some (a3, h)) else (some (a4, h))) else (if a5 = 0 then (fX10_bestMove_54 (fX10_bestMove_34 n) a0 a1 a2 a3 a4 a5 (1 : Int32) h) else (fX10_bestMove_54 (fX10_bestMove_34 n) a0 a1 a2 a3 a4 a5 ((7 : Int32) - a5) h))
set_option maxRecDepth 100000 in
set_option maxHeartbeats 4000000 in
theorem bX10_bestMove_34 {l : Launch} {G : xr_G} {K : xr_K} {r : Int32} {h1 : hp_T} (C : xr_C G K cX10_bestMove RX10 10 (xr_R 4 97) (some .int) (some (xr_Qi G r h1)))  : ∀ (n : Nat) (a0 : Nat) (a1 : Int32) (a2 : Int32) (a3 : Int32) (a4 : Int32) (a5 : Int32) (ta0 : hp_sh a0 = (10, 0)) (h : hp_T), fX10_bestMove_34 n a0 a1 a2 a3 a4 a5 h = some (r, h1) → xr_j l G K 10 h [(0, .ref (G.2.2.1 a0)), (1, .int a1), (2, .int a2), (3, .int a3), (4, .int a4), (5, .int a5)] 34 [] := by
  intro n
  induction n with
  | zero =>
    intro a0 a1 a2 a3 a4 a5 ta0 h hF
    cases hF
  | succ n ih =>
    intro a0 a1 a2 a3 a4 a5 ta0 h hF
    rw [fX10_bestMove_34] at hF
    refine xr_iload C 5 dX10_bestMove_34 rfl ?_
    refine xr_iconst (v := 3) C dX10_bestMove_36 (by decide) ?_
    refine xr_icmp_ge C 182 dX10_bestMove_37 (by decide) (fun c37 => ?_) (fun c37 => ?_)
    · have hF := fx_pos hF c37
      refine xr_iload_n C 2 dX10_bestMove_182 rfl rfl ?_
      refine xr_if_ne C 190 dX10_bestMove_183 (by decide) (fun c183 => ?_) (fun c183 => ?_)
      · have hF := fx_neg hF c183
        refine xr_iload C 4 dX10_bestMove_190 rfl ?_
        cases hF
        exact xr_iret C dX10_bestMove_192
      · have hF := fx_pos hF c183
        refine xr_iload_n C 3 dX10_bestMove_186 rfl rfl ?_
        refine xr_goto C 192 dX10_bestMove_187 (by decide) ?_
        cases hF
        exact xr_iret C dX10_bestMove_192
    · have hF := fx_neg hF c37
      refine xr_iload C 5 dX10_bestMove_40 rfl ?_
      refine xr_if_ne C 49 dX10_bestMove_42 (by decide) (fun c42 => ?_) (fun c42 => ?_)
      · have hF := fx_neg hF c42
        refine xr_bipush (v := 7) C dX10_bestMove_49 (by decide) ?_
        refine xr_iload C 5 dX10_bestMove_51 rfl ?_
        refine xr_isub C dX10_bestMove_53 ?_
        exact bX10_bestMove_54 C (fX10_bestMove_34 n) (fun a0 a1 a2 a3 a4 a5 ta0 h hF => ih a0 a1 a2 a3 a4 a5 ta0 h hF)  a0 a1 a2 a3 a4 a5 ((7 : Int32) - a5) ta0 h hF
      · have hF := fx_pos hF c42
        refine xr_iconst (v := 1) C dX10_bestMove_45 (by decide) ?_
        refine xr_goto C 54 dX10_bestMove_46 (by decide) ?_
        exact bX10_bestMove_54 C (fX10_bestMove_34 n) (fun a0 a1 a2 a3 a4 a5 ta0 h hF => ih a0 a1 a2 a3 a4 a5 ta0 h hF)  a0 a1 a2 a3 a4 a5 (1 : Int32) ta0 h hF
def fX10_bestMove (a0 : Nat) (a1 : Int32) (a2 : Int32) (h : hp_T) : Option (Int32 × hp_T) := fx_let (hp_sI h a0 0 (0 : Int32)) fun (h2 : hp_T) => fx_b2 (fX10_isSide a0 a1 h2) fun (r7 : Int32) (h7 : hp_T) => if r7 = 0 then (some ((-1 : Int32), h7)) else (if a2 < 0 then (some ((-1 : Int32), h7)) else (if a2 ≤ (1 : Int32) then (fX10_bestMove_34 fx_N a0 a1 a2 (-2 : Int32) (-2 : Int32) (0 : Int32) h7) else (some ((-1 : Int32), h7))))
set_option maxRecDepth 100000 in
set_option maxHeartbeats 4000000 in
theorem mX10_bestMove (l : Launch) (G : xr_G) (a0 : Nat) (a1 : Int32) (a2 : Int32) (ta0 : hp_sh a0 = (10, 0)) (h h1 : hp_T) (r : Int32) (hF : fX10_bestMove a0 a1 a2 h = some (r, h1)) : xr_M l G yX10_bestMove cX10_bestMove 10 (xr_R 4 97) (some .int) [.ref (G.2.2.1 a0), .int a1, .int a2] h (xr_Qi G r h1) := by
  refine xr_start rfl (Nat.le_of_ble_eq_true rfl) (fun K C => ?_)
  show xr_j l G K 10 h [(0, .ref (G.2.2.1 a0)), (1, .int a1), (2, .int a2)] 0 []
  unfold fX10_bestMove at hF
  refine xr_aload_n C 0 dX10_bestMove_0 rfl rfl ?_
  refine xr_iconst (v := 0) C dX10_bestMove_1 (by decide) ?_
  refine xr_puti C fpX10_63 rfl rfl rfl dX10_bestMove_2 ta0 (fun h2 e2 => ?_)
  have hF := fx_letE hF h2 e2
  refine xr_aload_n C 0 dX10_bestMove_5 rfl rfl ?_
  refine xr_iload_n C 1 dX10_bestMove_6 rfl rfl ?_
  obtain ⟨r7, h7, e7, hF⟩ := fx_b2E hF
  refine xr_callVi C mvX10_180 [.int a1] [] (mX10_isSide l G a0 a1 ta0 h2 h7 r7 e7) ta0 (by decide) vc10 rfl ⟨rfl, rfl, (Nat.le_of_ble_eq_true rfl), (Nat.le_of_ble_eq_true rfl)⟩ rfl (Nat.le_of_ble_eq_true rfl) dX10_bestMove_7 ?_
  refine xr_if_eq C 22 dX10_bestMove_10 (by decide) (fun c10 => ?_) (fun c10 => ?_)
  · have hF := fx_pos hF c10
    refine xr_iconst (v := -1) C dX10_bestMove_22 (by decide) ?_
    cases hF
    exact xr_iret C dX10_bestMove_23
  · have hF := fx_neg hF c10
    refine xr_iload_n C 2 dX10_bestMove_13 rfl rfl ?_
    refine xr_if_lt C 22 dX10_bestMove_14 (by decide) (fun c14 => ?_) (fun c14 => ?_)
    · have hF := fx_pos hF c14
      refine xr_iconst (v := -1) C dX10_bestMove_22 (by decide) ?_
      cases hF
      exact xr_iret C dX10_bestMove_23
    · have hF := fx_neg hF c14
      refine xr_iload_n C 2 dX10_bestMove_17 rfl rfl ?_
      refine xr_iconst (v := 1) C dX10_bestMove_18 (by decide) ?_
      refine xr_icmp_le C 24 dX10_bestMove_19 (by decide) (fun c19 => ?_) (fun c19 => ?_)
      · have hF := fx_pos hF c19
        refine xr_bipush (v := -2) C dX10_bestMove_24 (by decide) ?_
        refine xr_istore_n C [(3, .int (-2 : Int32)), (0, .ref (G.2.2.1 a0)), (1, .int a1), (2, .int a2)] dX10_bestMove_26 rfl (Nat.le_of_ble_eq_true rfl) rfl ?_
        refine xr_bipush (v := -2) C dX10_bestMove_27 (by decide) ?_
        refine xr_istore C [(4, .int (-2 : Int32)), (3, .int (-2 : Int32)), (0, .ref (G.2.2.1 a0)), (1, .int a1), (2, .int a2)] dX10_bestMove_29 (Nat.le_of_ble_eq_true rfl) rfl ?_
        refine xr_iconst (v := 0) C dX10_bestMove_31 (by decide) ?_
        refine xr_istore C [(5, .int (0 : Int32)), (4, .int (-2 : Int32)), (3, .int (-2 : Int32)), (0, .ref (G.2.2.1 a0)), (1, .int a1), (2, .int a2)] dX10_bestMove_32 (Nat.le_of_ble_eq_true rfl) rfl ?_
        refine xr_sub [3, 4, 5, 2, 1, 0] [(0, .ref (G.2.2.1 a0)), (1, .int a1), (2, .int a2), (3, .int (-2 : Int32)), (4, .int (-2 : Int32)), (5, .int (0 : Int32))] rfl ?_
        exact bX10_bestMove_34 C  fx_N a0 a1 a2 (-2 : Int32) (-2 : Int32) (0 : Int32) ta0 h7 hF
      · have hF := fx_neg hF c19
        refine xr_iconst (v := -1) C dX10_bestMove_22 (by decide) ?_
        cases hF
        exact xr_iret C dX10_bestMove_23
theorem dX10_strength_0 : decode cX10_strength 0 = .ok (.aload_n 0, 1) := by decide +kernel
theorem dX10_strength_1 : decode cX10_strength 1 = .ok (.iconst 0, 1) := by decide +kernel
theorem dX10_strength_2 : decode cX10_strength 2 = .ok (.putfield 63, 3) := by decide +kernel
theorem dX10_strength_5 : decode cX10_strength 5 = .ok (.aload_n 0, 1) := by decide +kernel
theorem dX10_strength_6 : decode cX10_strength 6 = .ok (.iload_n 1, 1) := by decide +kernel
theorem dX10_strength_7 : decode cX10_strength 7 = .ok (.invokevirtual 180, 3) := by decide +kernel
theorem dX10_strength_10 : decode cX10_strength 10 = .ok (.ifCond .eq 12, 3) := by decide +kernel
theorem dX10_strength_13 : decode cX10_strength 13 = .ok (.iload_n 2, 1) := by decide +kernel
theorem dX10_strength_14 : decode cX10_strength 14 = .ok (.ifCond .lt 8, 3) := by decide +kernel
theorem dX10_strength_17 : decode cX10_strength 17 = .ok (.iload_n 2, 1) := by decide +kernel
theorem dX10_strength_18 : decode cX10_strength 18 = .ok (.iconst 2, 1) := by decide +kernel
theorem dX10_strength_19 : decode cX10_strength 19 = .ok (.if_icmp .le 5, 3) := by decide +kernel
theorem dX10_strength_22 : decode cX10_strength 22 = .ok (.iconst (-1), 1) := by decide +kernel
theorem dX10_strength_23 : decode cX10_strength 23 = .ok (.ireturn, 1) := by decide +kernel
theorem dX10_strength_24 : decode cX10_strength 24 = .ok (.iload_n 2, 1) := by decide +kernel
theorem dX10_strength_25 : decode cX10_strength 25 = .ok (.iconst 2, 1) := by decide +kernel
theorem dX10_strength_26 : decode cX10_strength 26 = .ok (.if_icmp .ne 16, 3) := by decide +kernel
theorem dX10_strength_29 : decode cX10_strength 29 = .ok (.aload_n 0, 1) := by decide +kernel
theorem dX10_strength_30 : decode cX10_strength 30 = .ok (.iload_n 1, 1) := by decide +kernel
theorem dX10_strength_31 : decode cX10_strength 31 = .ok (.aload_n 0, 1) := by decide +kernel
theorem dX10_strength_32 : decode cX10_strength 32 = .ok (.iload_n 1, 1) := by decide +kernel
theorem dX10_strength_33 : decode cX10_strength 33 = .ok (.iconst 1, 1) := by decide +kernel
theorem dX10_strength_34 : decode cX10_strength 34 = .ok (.invokevirtual 183, 3) := by decide +kernel
theorem dX10_strength_37 : decode cX10_strength 37 = .ok (.iconst 0, 1) := by decide +kernel
theorem dX10_strength_38 : decode cX10_strength 38 = .ok (.invokevirtual 196, 3) := by decide +kernel
theorem dX10_strength_41 : decode cX10_strength 41 = .ok (.ireturn, 1) := by decide +kernel
theorem dX10_strength_42 : decode cX10_strength 42 = .ok (.iconst 0, 1) := by decide +kernel
theorem dX10_strength_43 : decode cX10_strength 43 = .ok (.istore_n 3, 1) := by decide +kernel
theorem dX10_strength_44 : decode cX10_strength 44 = .ok (.iconst 1, 1) := by decide +kernel
theorem dX10_strength_45 : decode cX10_strength 45 = .ok (.istore 4, 2) := by decide +kernel
theorem dX10_strength_47 : decode cX10_strength 47 = .ok (.iload 4, 2) := by decide +kernel
theorem dX10_strength_49 : decode cX10_strength 49 = .ok (.bipush 6, 2) := by decide +kernel
theorem dX10_strength_51 : decode cX10_strength 51 = .ok (.if_icmp .gt 60, 3) := by decide +kernel
theorem dX10_strength_54 : decode cX10_strength 54 = .ok (.iload 4, 2) := by decide +kernel
theorem dX10_strength_56 : decode cX10_strength 56 = .ok (.invokestatic 177, 3) := by decide +kernel
theorem dX10_strength_59 : decode cX10_strength 59 = .ok (.iload_n 2, 1) := by decide +kernel
theorem dX10_strength_60 : decode cX10_strength 60 = .ok (.ifCond .ne 7, 3) := by decide +kernel
theorem dX10_strength_63 : decode cX10_strength 63 = .ok (.iconst 1, 1) := by decide +kernel
theorem dX10_strength_64 : decode cX10_strength 64 = .ok (.goto 4, 3) := by decide +kernel
theorem dX10_strength_67 : decode cX10_strength 67 = .ok (.iconst 0, 1) := by decide +kernel
theorem dX10_strength_68 : decode cX10_strength 68 = .ok (.if_icmp .ne 7, 3) := by decide +kernel
theorem dX10_strength_71 : decode cX10_strength 71 = .ok (.iconst 1, 1) := by decide +kernel
theorem dX10_strength_72 : decode cX10_strength 72 = .ok (.goto 4, 3) := by decide +kernel
theorem dX10_strength_75 : decode cX10_strength 75 = .ok (.iconst 0, 1) := by decide +kernel
theorem dX10_strength_76 : decode cX10_strength 76 = .ok (.istore 5, 2) := by decide +kernel
theorem dX10_strength_78 : decode cX10_strength 78 = .ok (.iload_n 3, 1) := by decide +kernel
theorem dX10_strength_79 : decode cX10_strength 79 = .ok (.iload 5, 2) := by decide +kernel
theorem dX10_strength_81 : decode cX10_strength 81 = .ok (.ifCond .eq 21, 3) := by decide +kernel
theorem dX10_strength_84 : decode cX10_strength 84 = .ok (.aload_n 0, 1) := by decide +kernel
theorem dX10_strength_85 : decode cX10_strength 85 = .ok (.iload_n 1, 1) := by decide +kernel
theorem dX10_strength_86 : decode cX10_strength 86 = .ok (.aload_n 0, 1) := by decide +kernel
theorem dX10_strength_87 : decode cX10_strength 87 = .ok (.iload_n 1, 1) := by decide +kernel
theorem dX10_strength_88 : decode cX10_strength 88 = .ok (.iload 4, 2) := by decide +kernel
theorem dX10_strength_90 : decode cX10_strength 90 = .ok (.invokevirtual 183, 3) := by decide +kernel
theorem dX10_strength_93 : decode cX10_strength 93 = .ok (.iload_n 2, 1) := by decide +kernel
theorem dX10_strength_94 : decode cX10_strength 94 = .ok (.iconst 1, 1) := by decide +kernel
theorem dX10_strength_95 : decode cX10_strength 95 = .ok (.iadd, 1) := by decide +kernel
theorem dX10_strength_96 : decode cX10_strength 96 = .ok (.invokevirtual 196, 3) := by decide +kernel
theorem dX10_strength_99 : decode cX10_strength 99 = .ok (.goto 4, 3) := by decide +kernel
theorem dX10_strength_102 : decode cX10_strength 102 = .ok (.iconst 0, 1) := by decide +kernel
theorem dX10_strength_103 : decode cX10_strength 103 = .ok (.iadd, 1) := by decide +kernel
theorem dX10_strength_104 : decode cX10_strength 104 = .ok (.istore_n 3, 1) := by decide +kernel
theorem dX10_strength_105 : decode cX10_strength 105 = .ok (.iinc 4 1, 3) := by decide +kernel
theorem dX10_strength_108 : decode cX10_strength 108 = .ok (.goto (-61), 3) := by decide +kernel
theorem dX10_strength_111 : decode cX10_strength 111 = .ok (.iload_n 3, 1) := by decide +kernel
theorem dX10_strength_112 : decode cX10_strength 112 = .ok (.ireturn, 1) := by decide +kernel
def fX10_strength_103 (k47 : Nat → Int32 → Int32 → Int32 → Int32 → hp_T → Option (Int32 × hp_T)) (a0 : Nat) (a1 : Int32) (a2 : Int32) (a4 : Int32) (s0 : Int32) (s1 : Int32) (h : hp_T) : Option (Int32 × hp_T) := fx_let (s0 + s1) fun (x104 : Int32) => fx_let (a4 + (1 : Int32)) fun (x105 : Int32) => k47 a0 a1 a2 x104 x105 h
set_option maxRecDepth 100000 in
set_option maxHeartbeats 4000000 in
theorem bX10_strength_103 {l : Launch} {G : xr_G} {K : xr_K} {r : Int32} {h1 : hp_T} (C : xr_C G K cX10_strength RX10 6 (xr_R 2 45) (some .int) (some (xr_Qi G r h1))) (k47 : Nat → Int32 → Int32 → Int32 → Int32 → hp_T → Option (Int32 × hp_T)) (j47 : ∀ (a0 : Nat) (a1 : Int32) (a2 : Int32) (a3 : Int32) (a4 : Int32) (ta0 : hp_sh a0 = (10, 0)) (h : hp_T), k47 a0 a1 a2 a3 a4 h = some (r, h1) → xr_j l G K 6 h [(0, .ref (G.2.2.1 a0)), (1, .int a1), (2, .int a2), (3, .int a3), (4, .int a4)] 47 []) (a0 : Nat) (a1 : Int32) (a2 : Int32) (a4 : Int32) (s0 : Int32) (s1 : Int32) (ta0 : hp_sh a0 = (10, 0)) (h : hp_T) (hF : fX10_strength_103 k47 a0 a1 a2 a4 s0 s1 h = some (r, h1)) : xr_j l G K 6 h [(0, .ref (G.2.2.1 a0)), (1, .int a1), (2, .int a2), (4, .int a4)] 103 [.int s1, .int s0] := by
  unfold fX10_strength_103 at hF
  refine xr_iadd C dX10_strength_103 ?_
  refine xr_topi (fun x104 e104 => ?_)
  have hF := fx_letE hF x104 e104
  refine xr_istore_n C [(3, .int x104), (0, .ref (G.2.2.1 a0)), (1, .int a1), (2, .int a2), (4, .int a4)] dX10_strength_104 rfl (Nat.le_of_ble_eq_true rfl) rfl ?_
  obtain ⟨x105, e105⟩ : ∃ y : Int32, y = (a4 + (1 : Int32)) := ⟨_, rfl⟩
  have hF := fx_letE hF x105 e105
  refine xr_iinc C x105 4 [(4, .int x105), (3, .int x104), (0, .ref (G.2.2.1 a0)), (1, .int a1), (2, .int a2)] dX10_strength_105 rfl (by rw [e105]; rfl) (Nat.le_of_ble_eq_true rfl) rfl ?_
  refine xr_goto C 47 dX10_strength_108 (by decide) ?_
  refine xr_sub [2, 3, 4, 1, 0] [(0, .ref (G.2.2.1 a0)), (1, .int a1), (2, .int a2), (3, .int x104), (4, .int x105)] rfl ?_
  exact j47 a0 a1 a2 x104 x105 ta0 h hF
def fX10_strength_76 (k47 : Nat → Int32 → Int32 → Int32 → Int32 → hp_T → Option (Int32 × hp_T)) (a0 : Nat) (a1 : Int32) (a2 : Int32) (a3 : Int32) (a4 : Int32) (s0 : Int32) (h : hp_T) : Option (Int32 × hp_T) := if s0 = 0 then (fX10_strength_103 k47 a0 a1 a2 a4 a3 (0 : Int32) h) else (fx_b2 (fX10_court a0 a1 a4 h) fun (r90 : Int32) (h90 : hp_T) => fx_b2 (fX10_skill a0 a1 r90 (a2 + (1 : Int32)) h90) fun (r96 : Int32) (h96 : hp_T) => fX10_strength_103 k47 a0 a1 a2 a4 a3 r96 h96)
set_option maxRecDepth 100000 in
set_option maxHeartbeats 4000000 in
theorem bX10_strength_76 {l : Launch} {G : xr_G} {K : xr_K} {r : Int32} {h1 : hp_T} (C : xr_C G K cX10_strength RX10 6 (xr_R 2 45) (some .int) (some (xr_Qi G r h1))) (k47 : Nat → Int32 → Int32 → Int32 → Int32 → hp_T → Option (Int32 × hp_T)) (j47 : ∀ (a0 : Nat) (a1 : Int32) (a2 : Int32) (a3 : Int32) (a4 : Int32) (ta0 : hp_sh a0 = (10, 0)) (h : hp_T), k47 a0 a1 a2 a3 a4 h = some (r, h1) → xr_j l G K 6 h [(0, .ref (G.2.2.1 a0)), (1, .int a1), (2, .int a2), (3, .int a3), (4, .int a4)] 47 []) (a0 : Nat) (a1 : Int32) (a2 : Int32) (a3 : Int32) (a4 : Int32) (s0 : Int32) (ta0 : hp_sh a0 = (10, 0)) (h : hp_T) (hF : fX10_strength_76 k47 a0 a1 a2 a3 a4 s0 h = some (r, h1)) : xr_j l G K 6 h [(0, .ref (G.2.2.1 a0)), (1, .int a1), (2, .int a2), (3, .int a3), (4, .int a4)] 76 [.int s0] := by
  unfold fX10_strength_76 at hF
  refine xr_istore C [(5, .int s0), (0, .ref (G.2.2.1 a0)), (1, .int a1), (2, .int a2), (3, .int a3), (4, .int a4)] dX10_strength_76 (Nat.le_of_ble_eq_true rfl) rfl ?_
  refine xr_iload_n C 4 dX10_strength_78 rfl rfl ?_
  refine xr_iload C 0 dX10_strength_79 rfl ?_
  refine xr_if_eq C 102 dX10_strength_81 (by decide) (fun c81 => ?_) (fun c81 => ?_)
  · have hF := fx_pos hF c81
    refine xr_iconst (v := 0) C dX10_strength_102 (by decide) ?_
    refine xr_sub [1, 2, 3, 5] [(0, .ref (G.2.2.1 a0)), (1, .int a1), (2, .int a2), (4, .int a4)] rfl ?_
    exact bX10_strength_103 C k47 j47  a0 a1 a2 a4 a3 (0 : Int32) ta0 h hF
  · have hF := fx_neg hF c81
    refine xr_aload_n C 1 dX10_strength_84 rfl rfl ?_
    refine xr_iload_n C 2 dX10_strength_85 rfl rfl ?_
    refine xr_aload_n C 1 dX10_strength_86 rfl rfl ?_
    refine xr_iload_n C 2 dX10_strength_87 rfl rfl ?_
    refine xr_iload C 5 dX10_strength_88 rfl ?_
    obtain ⟨r90, h90, e90, hF⟩ := fx_b2E hF
    refine xr_callVi C mvX10_183 [.int a1, .int a4] [.int a1, .ref (G.2.2.1 a0), .int a3] (mX10_court l G a0 a1 a4 ta0 h h90 r90 e90) ta0 (by decide) vc10 rfl ⟨rfl, rfl, (Nat.le_of_ble_eq_true rfl), (Nat.le_of_ble_eq_true rfl)⟩ rfl (Nat.le_of_ble_eq_true rfl) dX10_strength_90 ?_
    refine xr_iload_n C 3 dX10_strength_93 rfl rfl ?_
    refine xr_iconst (v := 1) C dX10_strength_94 (by decide) ?_
    refine xr_iadd C dX10_strength_95 ?_
    obtain ⟨r96, h96, e96, hF⟩ := fx_b2E hF
    refine xr_callVi C mvX10_196 [.int a1, .int r90, .int (a2 + (1 : Int32))] [.int a3] (mX10_skill l G a0 a1 r90 (a2 + (1 : Int32)) ta0 h90 h96 r96 e96) ta0 (by decide) vc10 rfl ⟨rfl, rfl, (Nat.le_of_ble_eq_true rfl), (Nat.le_of_ble_eq_true rfl)⟩ rfl (Nat.le_of_ble_eq_true rfl) dX10_strength_96 ?_
    refine xr_goto C 103 dX10_strength_99 (by decide) ?_
    refine xr_sub [1, 2, 3, 5] [(0, .ref (G.2.2.1 a0)), (1, .int a1), (2, .int a2), (4, .int a4)] rfl ?_
    exact bX10_strength_103 C k47 j47  a0 a1 a2 a4 a3 r96 ta0 h96 hF
def fX10_strength_68 (k47 : Nat → Int32 → Int32 → Int32 → Int32 → hp_T → Option (Int32 × hp_T)) (a0 : Nat) (a1 : Int32) (a2 : Int32) (a3 : Int32) (a4 : Int32) (s0 : Int32) (s1 : Int32) (h : hp_T) : Option (Int32 × hp_T) := if s0 = s1 then (fX10_strength_76 k47 a0 a1 a2 a3 a4 (1 : Int32) h) else (fX10_strength_76 k47 a0 a1 a2 a3 a4 (0 : Int32) h)
set_option maxRecDepth 100000 in
set_option maxHeartbeats 4000000 in
theorem bX10_strength_68 {l : Launch} {G : xr_G} {K : xr_K} {r : Int32} {h1 : hp_T} (C : xr_C G K cX10_strength RX10 6 (xr_R 2 45) (some .int) (some (xr_Qi G r h1))) (k47 : Nat → Int32 → Int32 → Int32 → Int32 → hp_T → Option (Int32 × hp_T)) (j47 : ∀ (a0 : Nat) (a1 : Int32) (a2 : Int32) (a3 : Int32) (a4 : Int32) (ta0 : hp_sh a0 = (10, 0)) (h : hp_T), k47 a0 a1 a2 a3 a4 h = some (r, h1) → xr_j l G K 6 h [(0, .ref (G.2.2.1 a0)), (1, .int a1), (2, .int a2), (3, .int a3), (4, .int a4)] 47 []) (a0 : Nat) (a1 : Int32) (a2 : Int32) (a3 : Int32) (a4 : Int32) (s0 : Int32) (s1 : Int32) (ta0 : hp_sh a0 = (10, 0)) (h : hp_T) (hF : fX10_strength_68 k47 a0 a1 a2 a3 a4 s0 s1 h = some (r, h1)) : xr_j l G K 6 h [(0, .ref (G.2.2.1 a0)), (1, .int a1), (2, .int a2), (3, .int a3), (4, .int a4)] 68 [.int s1, .int s0] := by
  unfold fX10_strength_68 at hF
  refine xr_icmp_ne C 75 dX10_strength_68 (by decide) (fun c68 => ?_) (fun c68 => ?_)
  · have hF := fx_neg hF c68
    refine xr_iconst (v := 0) C dX10_strength_75 (by decide) ?_
    exact bX10_strength_76 C k47 j47  a0 a1 a2 a3 a4 (0 : Int32) ta0 h hF
  · have hF := fx_pos hF c68
    refine xr_iconst (v := 1) C dX10_strength_71 (by decide) ?_
    refine xr_goto C 76 dX10_strength_72 (by decide) ?_
    exact bX10_strength_76 C k47 j47  a0 a1 a2 a3 a4 (1 : Int32) ta0 h hF
def fX10_strength_47  : Nat → Nat → Int32 → Int32 → Int32 → Int32 → hp_T → Option (Int32 × hp_T)
  | 0, _, _, _, _, _, _ => none
  | n + 1, a0, a1, a2, a3, a4, h => if (6 : Int32) < a4 then (some (a3, h)) else (fx_b2 (fX10_isFront a4 h) fun (r56 : Int32) (h56 : hp_T) => if a2 = 0 then (fX10_strength_68 (fX10_strength_47 n) a0 a1 a2 a3 a4 r56 (1 : Int32) h56) else (fX10_strength_68 (fX10_strength_47 n) a0 a1 a2 a3 a4 r56 (0 : Int32) h56))
set_option maxRecDepth 100000 in
set_option maxHeartbeats 4000000 in
theorem bX10_strength_47 {l : Launch} {G : xr_G} {K : xr_K} {r : Int32} {h1 : hp_T} (C : xr_C G K cX10_strength RX10 6 (xr_R 2 45) (some .int) (some (xr_Qi G r h1)))  : ∀ (n : Nat) (a0 : Nat) (a1 : Int32) (a2 : Int32) (a3 : Int32) (a4 : Int32) (ta0 : hp_sh a0 = (10, 0)) (h : hp_T), fX10_strength_47 n a0 a1 a2 a3 a4 h = some (r, h1) → xr_j l G K 6 h [(0, .ref (G.2.2.1 a0)), (1, .int a1), (2, .int a2), (3, .int a3), (4, .int a4)] 47 [] := by
  intro n
  induction n with
  | zero =>
    intro a0 a1 a2 a3 a4 ta0 h hF
    cases hF
  | succ n ih =>
    intro a0 a1 a2 a3 a4 ta0 h hF
    rw [fX10_strength_47] at hF
    refine xr_iload C 4 dX10_strength_47 rfl ?_
    refine xr_bipush (v := 6) C dX10_strength_49 (by decide) ?_
    refine xr_icmp_gt C 111 dX10_strength_51 (by decide) (fun c51 => ?_) (fun c51 => ?_)
    · have hF := fx_pos hF c51
      refine xr_iload_n C 3 dX10_strength_111 rfl rfl ?_
      cases hF
      exact xr_iret C dX10_strength_112
    · have hF := fx_neg hF c51
      refine xr_iload C 4 dX10_strength_54 rfl ?_
      obtain ⟨r56, h56, e56, hF⟩ := fx_b2E hF
      refine xr_callSi C mvX10_177 [.int a4] [] (mX10_isFront l G a4  h h56 r56 e56) rfl ⟨rfl, rfl, (Nat.le_of_ble_eq_true rfl), (Nat.le_of_ble_eq_true rfl)⟩ rfl (Nat.le_of_ble_eq_true rfl) dX10_strength_56 ?_
      refine xr_iload_n C 2 dX10_strength_59 rfl rfl ?_
      refine xr_if_ne C 67 dX10_strength_60 (by decide) (fun c60 => ?_) (fun c60 => ?_)
      · have hF := fx_neg hF c60
        refine xr_iconst (v := 0) C dX10_strength_67 (by decide) ?_
        exact bX10_strength_68 C (fX10_strength_47 n) (fun a0 a1 a2 a3 a4 ta0 h hF => ih a0 a1 a2 a3 a4 ta0 h hF)  a0 a1 a2 a3 a4 r56 (0 : Int32) ta0 h56 hF
      · have hF := fx_pos hF c60
        refine xr_iconst (v := 1) C dX10_strength_63 (by decide) ?_
        refine xr_goto C 68 dX10_strength_64 (by decide) ?_
        exact bX10_strength_68 C (fX10_strength_47 n) (fun a0 a1 a2 a3 a4 ta0 h hF => ih a0 a1 a2 a3 a4 ta0 h hF)  a0 a1 a2 a3 a4 r56 (1 : Int32) ta0 h56 hF
def fX10_strength (a0 : Nat) (a1 : Int32) (a2 : Int32) (h : hp_T) : Option (Int32 × hp_T) := fx_let (hp_sI h a0 0 (0 : Int32)) fun (h2 : hp_T) => fx_b2 (fX10_isSide a0 a1 h2) fun (r7 : Int32) (h7 : hp_T) => if r7 = 0 then (some ((-1 : Int32), h7)) else (if a2 < 0 then (some ((-1 : Int32), h7)) else (if a2 ≤ (2 : Int32) then (if a2 = (2 : Int32) then (fx_b2 (fX10_court a0 a1 (1 : Int32) h7) fun (r34 : Int32) (h34 : hp_T) => fx_b2 (fX10_skill a0 a1 r34 (0 : Int32) h34) fun (r38 : Int32) (h38 : hp_T) => some (r38, h38)) else (fX10_strength_47 fx_N a0 a1 a2 (0 : Int32) (1 : Int32) h7)) else (some ((-1 : Int32), h7))))
set_option maxRecDepth 100000 in
set_option maxHeartbeats 4000000 in
theorem mX10_strength (l : Launch) (G : xr_G) (a0 : Nat) (a1 : Int32) (a2 : Int32) (ta0 : hp_sh a0 = (10, 0)) (h h1 : hp_T) (r : Int32) (hF : fX10_strength a0 a1 a2 h = some (r, h1)) : xr_M l G yX10_strength cX10_strength 6 (xr_R 2 45) (some .int) [.ref (G.2.2.1 a0), .int a1, .int a2] h (xr_Qi G r h1) := by
  refine xr_start rfl (Nat.le_of_ble_eq_true rfl) (fun K C => ?_)
  show xr_j l G K 6 h [(0, .ref (G.2.2.1 a0)), (1, .int a1), (2, .int a2)] 0 []
  unfold fX10_strength at hF
  refine xr_aload_n C 0 dX10_strength_0 rfl rfl ?_
  refine xr_iconst (v := 0) C dX10_strength_1 (by decide) ?_
  refine xr_puti C fpX10_63 rfl rfl rfl dX10_strength_2 ta0 (fun h2 e2 => ?_)
  have hF := fx_letE hF h2 e2
  refine xr_aload_n C 0 dX10_strength_5 rfl rfl ?_
  refine xr_iload_n C 1 dX10_strength_6 rfl rfl ?_
  obtain ⟨r7, h7, e7, hF⟩ := fx_b2E hF
  refine xr_callVi C mvX10_180 [.int a1] [] (mX10_isSide l G a0 a1 ta0 h2 h7 r7 e7) ta0 (by decide) vc10 rfl ⟨rfl, rfl, (Nat.le_of_ble_eq_true rfl), (Nat.le_of_ble_eq_true rfl)⟩ rfl (Nat.le_of_ble_eq_true rfl) dX10_strength_7 ?_
  refine xr_if_eq C 22 dX10_strength_10 (by decide) (fun c10 => ?_) (fun c10 => ?_)
  · have hF := fx_pos hF c10
    refine xr_iconst (v := -1) C dX10_strength_22 (by decide) ?_
    cases hF
    exact xr_iret C dX10_strength_23
  · have hF := fx_neg hF c10
    refine xr_iload_n C 2 dX10_strength_13 rfl rfl ?_
    refine xr_if_lt C 22 dX10_strength_14 (by decide) (fun c14 => ?_) (fun c14 => ?_)
    · have hF := fx_pos hF c14
      refine xr_iconst (v := -1) C dX10_strength_22 (by decide) ?_
      cases hF
      exact xr_iret C dX10_strength_23
    · have hF := fx_neg hF c14
      refine xr_iload_n C 2 dX10_strength_17 rfl rfl ?_
      refine xr_iconst (v := 2) C dX10_strength_18 (by decide) ?_
      refine xr_icmp_le C 24 dX10_strength_19 (by decide) (fun c19 => ?_) (fun c19 => ?_)
      · have hF := fx_pos hF c19
        refine xr_iload_n C 2 dX10_strength_24 rfl rfl ?_
        refine xr_iconst (v := 2) C dX10_strength_25 (by decide) ?_
        refine xr_icmp_ne C 42 dX10_strength_26 (by decide) (fun c26 => ?_) (fun c26 => ?_)
        · have hF := fx_neg hF c26
          refine xr_iconst (v := 0) C dX10_strength_42 (by decide) ?_
          refine xr_istore_n C [(3, .int (0 : Int32)), (0, .ref (G.2.2.1 a0)), (1, .int a1), (2, .int a2)] dX10_strength_43 rfl (Nat.le_of_ble_eq_true rfl) rfl ?_
          refine xr_iconst (v := 1) C dX10_strength_44 (by decide) ?_
          refine xr_istore C [(4, .int (1 : Int32)), (3, .int (0 : Int32)), (0, .ref (G.2.2.1 a0)), (1, .int a1), (2, .int a2)] dX10_strength_45 (Nat.le_of_ble_eq_true rfl) rfl ?_
          refine xr_sub [2, 3, 4, 1, 0] [(0, .ref (G.2.2.1 a0)), (1, .int a1), (2, .int a2), (3, .int (0 : Int32)), (4, .int (1 : Int32))] rfl ?_
          exact bX10_strength_47 C  fx_N a0 a1 a2 (0 : Int32) (1 : Int32) ta0 h7 hF
        · have hF := fx_pos hF c26
          refine xr_aload_n C 0 dX10_strength_29 rfl rfl ?_
          refine xr_iload_n C 1 dX10_strength_30 rfl rfl ?_
          refine xr_aload_n C 0 dX10_strength_31 rfl rfl ?_
          refine xr_iload_n C 1 dX10_strength_32 rfl rfl ?_
          refine xr_iconst (v := 1) C dX10_strength_33 (by decide) ?_
          obtain ⟨r34, h34, e34, hF⟩ := fx_b2E hF
          refine xr_callVi C mvX10_183 [.int a1, .int (1 : Int32)] [.int a1, .ref (G.2.2.1 a0)] (mX10_court l G a0 a1 (1 : Int32) ta0 h7 h34 r34 e34) ta0 (by decide) vc10 rfl ⟨rfl, rfl, (Nat.le_of_ble_eq_true rfl), (Nat.le_of_ble_eq_true rfl)⟩ rfl (Nat.le_of_ble_eq_true rfl) dX10_strength_34 ?_
          refine xr_iconst (v := 0) C dX10_strength_37 (by decide) ?_
          obtain ⟨r38, h38, e38, hF⟩ := fx_b2E hF
          refine xr_callVi C mvX10_196 [.int a1, .int r34, .int (0 : Int32)] [] (mX10_skill l G a0 a1 r34 (0 : Int32) ta0 h34 h38 r38 e38) ta0 (by decide) vc10 rfl ⟨rfl, rfl, (Nat.le_of_ble_eq_true rfl), (Nat.le_of_ble_eq_true rfl)⟩ rfl (Nat.le_of_ble_eq_true rfl) dX10_strength_38 ?_
          cases hF
          exact xr_iret C dX10_strength_41
      · have hF := fx_neg hF c19
        refine xr_iconst (v := -1) C dX10_strength_22 (by decide) ?_
        cases hF
        exact xr_iret C dX10_strength_23
theorem dX10_linedAt_0 : decode cX10_linedAt 0 = .ok (.iconst 1, 1) := by decide +kernel
theorem dX10_linedAt_1 : decode cX10_linedAt 1 = .ok (.istore_n 3, 1) := by decide +kernel
theorem dX10_linedAt_2 : decode cX10_linedAt 2 = .ok (.iload_n 3, 1) := by decide +kernel
theorem dX10_linedAt_3 : decode cX10_linedAt 3 = .ok (.bipush 6, 2) := by decide +kernel
theorem dX10_linedAt_5 : decode cX10_linedAt 5 = .ok (.if_icmp .gt 21, 3) := by decide +kernel
theorem dX10_linedAt_8 : decode cX10_linedAt 8 = .ok (.aload_n 0, 1) := by decide +kernel
theorem dX10_linedAt_9 : decode cX10_linedAt 9 = .ok (.iload_n 1, 1) := by decide +kernel
theorem dX10_linedAt_10 : decode cX10_linedAt 10 = .ok (.iload_n 3, 1) := by decide +kernel
theorem dX10_linedAt_11 : decode cX10_linedAt 11 = .ok (.invokevirtual 208, 3) := by decide +kernel
theorem dX10_linedAt_14 : decode cX10_linedAt 14 = .ok (.iload_n 2, 1) := by decide +kernel
theorem dX10_linedAt_15 : decode cX10_linedAt 15 = .ok (.if_icmp .ne 5, 3) := by decide +kernel
theorem dX10_linedAt_18 : decode cX10_linedAt 18 = .ok (.iload_n 3, 1) := by decide +kernel
theorem dX10_linedAt_19 : decode cX10_linedAt 19 = .ok (.ireturn, 1) := by decide +kernel
theorem dX10_linedAt_20 : decode cX10_linedAt 20 = .ok (.iinc 3 1, 3) := by decide +kernel
theorem dX10_linedAt_23 : decode cX10_linedAt 23 = .ok (.goto (-21), 3) := by decide +kernel
theorem dX10_linedAt_26 : decode cX10_linedAt 26 = .ok (.iconst 0, 1) := by decide +kernel
theorem dX10_linedAt_27 : decode cX10_linedAt 27 = .ok (.ireturn, 1) := by decide +kernel
def fX10_linedAt_2  : Nat → Nat → Int32 → Int32 → Int32 → hp_T → Option (Int32 × hp_T)
  | 0, _, _, _, _, _ => none
  | n + 1, a0, a1, a2, a3, h => if (6 : Int32) < a3 then (some ((0 : Int32), h)) else (fx_b2 (fX10_lined a0 a1 a3 h) fun (r11 : Int32) (h11 : hp_T) => if r11 = a2 then (some (a3, h11)) else (fx_let (a3 + (1 : Int32)) fun (x20 : Int32) => fX10_linedAt_2 n a0 a1 a2 x20 h11))
set_option maxRecDepth 100000 in
set_option maxHeartbeats 4000000 in
theorem bX10_linedAt_2 {l : Launch} {G : xr_G} {K : xr_K} {r : Int32} {h1 : hp_T} (C : xr_C G K cX10_linedAt RX10 4 (xr_R 3 67) (some .int) (some (xr_Qi G r h1)))  : ∀ (n : Nat) (a0 : Nat) (a1 : Int32) (a2 : Int32) (a3 : Int32) (ta0 : hp_sh a0 = (10, 0)) (h : hp_T), fX10_linedAt_2 n a0 a1 a2 a3 h = some (r, h1) → xr_j l G K 4 h [(0, .ref (G.2.2.1 a0)), (1, .int a1), (2, .int a2), (3, .int a3)] 2 [] := by
  intro n
  induction n with
  | zero =>
    intro a0 a1 a2 a3 ta0 h hF
    cases hF
  | succ n ih =>
    intro a0 a1 a2 a3 ta0 h hF
    rw [fX10_linedAt_2] at hF
    refine xr_iload_n C 3 dX10_linedAt_2 rfl rfl ?_
    refine xr_bipush (v := 6) C dX10_linedAt_3 (by decide) ?_
    refine xr_icmp_gt C 26 dX10_linedAt_5 (by decide) (fun c5 => ?_) (fun c5 => ?_)
    · have hF := fx_pos hF c5
      refine xr_iconst (v := 0) C dX10_linedAt_26 (by decide) ?_
      cases hF
      exact xr_iret C dX10_linedAt_27
    · have hF := fx_neg hF c5
      refine xr_aload_n C 0 dX10_linedAt_8 rfl rfl ?_
      refine xr_iload_n C 1 dX10_linedAt_9 rfl rfl ?_
      refine xr_iload_n C 3 dX10_linedAt_10 rfl rfl ?_
      obtain ⟨r11, h11, e11, hF⟩ := fx_b2E hF
      refine xr_callVi C mvX10_208 [.int a1, .int a3] [] (mX10_lined l G a0 a1 a3 ta0 h h11 r11 e11) ta0 (by decide) vc10 rfl ⟨rfl, rfl, (Nat.le_of_ble_eq_true rfl), (Nat.le_of_ble_eq_true rfl)⟩ rfl (Nat.le_of_ble_eq_true rfl) dX10_linedAt_11 ?_
      refine xr_iload_n C 2 dX10_linedAt_14 rfl rfl ?_
      refine xr_icmp_ne C 20 dX10_linedAt_15 (by decide) (fun c15 => ?_) (fun c15 => ?_)
      · have hF := fx_neg hF c15
        obtain ⟨x20, e20⟩ : ∃ y : Int32, y = (a3 + (1 : Int32)) := ⟨_, rfl⟩
        have hF := fx_letE hF x20 e20
        refine xr_iinc C x20 3 [(3, .int x20), (0, .ref (G.2.2.1 a0)), (1, .int a1), (2, .int a2)] dX10_linedAt_20 rfl (by rw [e20]; rfl) (Nat.le_of_ble_eq_true rfl) rfl ?_
        refine xr_goto C 2 dX10_linedAt_23 (by decide) ?_
        refine xr_sub [1, 2, 3, 0] [(0, .ref (G.2.2.1 a0)), (1, .int a1), (2, .int a2), (3, .int x20)] rfl ?_
        exact ih a0 a1 a2 x20 ta0 h11 hF
      · have hF := fx_pos hF c15
        refine xr_iload_n C 3 dX10_linedAt_18 rfl rfl ?_
        cases hF
        exact xr_iret C dX10_linedAt_19
def fX10_linedAt (a0 : Nat) (a1 : Int32) (a2 : Int32) (h : hp_T) : Option (Int32 × hp_T) := fX10_linedAt_2 fx_N a0 a1 a2 (1 : Int32) h
set_option maxRecDepth 100000 in
set_option maxHeartbeats 4000000 in
theorem mX10_linedAt (l : Launch) (G : xr_G) (a0 : Nat) (a1 : Int32) (a2 : Int32) (ta0 : hp_sh a0 = (10, 0)) (h h1 : hp_T) (r : Int32) (hF : fX10_linedAt a0 a1 a2 h = some (r, h1)) : xr_M l G yX10_linedAt cX10_linedAt 4 (xr_R 3 67) (some .int) [.ref (G.2.2.1 a0), .int a1, .int a2] h (xr_Qi G r h1) := by
  refine xr_start rfl (Nat.le_of_ble_eq_true rfl) (fun K C => ?_)
  show xr_j l G K 4 h [(0, .ref (G.2.2.1 a0)), (1, .int a1), (2, .int a2)] 0 []
  unfold fX10_linedAt at hF
  refine xr_iconst (v := 1) C dX10_linedAt_0 (by decide) ?_
  refine xr_istore_n C [(3, .int (1 : Int32)), (0, .ref (G.2.2.1 a0)), (1, .int a1), (2, .int a2)] dX10_linedAt_1 rfl (Nat.le_of_ble_eq_true rfl) rfl ?_
  refine xr_sub [1, 2, 3, 0] [(0, .ref (G.2.2.1 a0)), (1, .int a1), (2, .int a2), (3, .int (1 : Int32))] rfl ?_
  exact bX10_linedAt_2 C  fx_N a0 a1 a2 (1 : Int32) ta0 h hF
theorem dX10_together_0 : decode cX10_together 0 = .ok (.aload_n 0, 1) := by decide +kernel
theorem dX10_together_1 : decode cX10_together 1 = .ok (.iconst 0, 1) := by decide +kernel
theorem dX10_together_2 : decode cX10_together 2 = .ok (.putfield 63, 3) := by decide +kernel
theorem dX10_together_5 : decode cX10_together 5 = .ok (.aload_n 0, 1) := by decide +kernel
theorem dX10_together_6 : decode cX10_together 6 = .ok (.iload_n 1, 1) := by decide +kernel
theorem dX10_together_7 : decode cX10_together 7 = .ok (.iload_n 2, 1) := by decide +kernel
theorem dX10_together_8 : decode cX10_together 8 = .ok (.invokevirtual 193, 3) := by decide +kernel
theorem dX10_together_11 : decode cX10_together 11 = .ok (.ifCond .eq 28, 3) := by decide +kernel
theorem dX10_together_14 : decode cX10_together 14 = .ok (.aload_n 0, 1) := by decide +kernel
theorem dX10_together_15 : decode cX10_together 15 = .ok (.iload_n 1, 1) := by decide +kernel
theorem dX10_together_16 : decode cX10_together 16 = .ok (.iload_n 3, 1) := by decide +kernel
theorem dX10_together_17 : decode cX10_together 17 = .ok (.invokevirtual 193, 3) := by decide +kernel
theorem dX10_together_20 : decode cX10_together 20 = .ok (.ifCond .eq 19, 3) := by decide +kernel
theorem dX10_together_23 : decode cX10_together 23 = .ok (.iload_n 2, 1) := by decide +kernel
theorem dX10_together_24 : decode cX10_together 24 = .ok (.iload_n 3, 1) := by decide +kernel
theorem dX10_together_25 : decode cX10_together 25 = .ok (.if_icmp .eq 14, 3) := by decide +kernel
theorem dX10_together_28 : decode cX10_together 28 = .ok (.iload 4, 2) := by decide +kernel
theorem dX10_together_30 : decode cX10_together 30 = .ok (.ifCond .lt 9, 3) := by decide +kernel
theorem dX10_together_33 : decode cX10_together 33 = .ok (.iload 4, 2) := by decide +kernel
theorem dX10_together_35 : decode cX10_together 35 = .ok (.iconst 1, 1) := by decide +kernel
theorem dX10_together_36 : decode cX10_together 36 = .ok (.if_icmp .le 5, 3) := by decide +kernel
theorem dX10_together_39 : decode cX10_together 39 = .ok (.iconst (-1), 1) := by decide +kernel
theorem dX10_together_40 : decode cX10_together 40 = .ok (.ireturn, 1) := by decide +kernel
theorem dX10_together_41 : decode cX10_together 41 = .ok (.aload_n 0, 1) := by decide +kernel
theorem dX10_together_42 : decode cX10_together 42 = .ok (.iload_n 1, 1) := by decide +kernel
theorem dX10_together_43 : decode cX10_together 43 = .ok (.iload_n 2, 1) := by decide +kernel
theorem dX10_together_44 : decode cX10_together 44 = .ok (.invokevirtual 310, 3) := by decide +kernel
theorem dX10_together_47 : decode cX10_together 47 = .ok (.istore 5, 2) := by decide +kernel
theorem dX10_together_49 : decode cX10_together 49 = .ok (.aload_n 0, 1) := by decide +kernel
theorem dX10_together_50 : decode cX10_together 50 = .ok (.iload_n 1, 1) := by decide +kernel
theorem dX10_together_51 : decode cX10_together 51 = .ok (.iload_n 3, 1) := by decide +kernel
theorem dX10_together_52 : decode cX10_together 52 = .ok (.invokevirtual 310, 3) := by decide +kernel
theorem dX10_together_55 : decode cX10_together 55 = .ok (.istore 6, 2) := by decide +kernel
theorem dX10_together_57 : decode cX10_together 57 = .ok (.iload 5, 2) := by decide +kernel
theorem dX10_together_59 : decode cX10_together 59 = .ok (.ifCond .eq 8, 3) := by decide +kernel
theorem dX10_together_62 : decode cX10_together 62 = .ok (.iload 6, 2) := by decide +kernel
theorem dX10_together_64 : decode cX10_together 64 = .ok (.ifCond .ne 6, 3) := by decide +kernel
theorem dX10_together_67 : decode cX10_together 67 = .ok (.bipush (-2), 2) := by decide +kernel
theorem dX10_together_69 : decode cX10_together 69 = .ok (.ireturn, 1) := by decide +kernel
theorem dX10_together_70 : decode cX10_together 70 = .ok (.iconst 0, 1) := by decide +kernel
theorem dX10_together_71 : decode cX10_together 71 = .ok (.istore 7, 2) := by decide +kernel
theorem dX10_together_73 : decode cX10_together 73 = .ok (.iconst 0, 1) := by decide +kernel
theorem dX10_together_74 : decode cX10_together 74 = .ok (.istore 8, 2) := by decide +kernel
theorem dX10_together_76 : decode cX10_together 76 = .ok (.iload 8, 2) := by decide +kernel
theorem dX10_together_78 : decode cX10_together 78 = .ok (.bipush 6, 2) := by decide +kernel
theorem dX10_together_80 : decode cX10_together 80 = .ok (.if_icmp .ge 75, 3) := by decide +kernel
theorem dX10_together_83 : decode cX10_together 83 = .ok (.iload 5, 2) := by decide +kernel
theorem dX10_together_85 : decode cX10_together 85 = .ok (.iconst 1, 1) := by decide +kernel
theorem dX10_together_86 : decode cX10_together 86 = .ok (.isub, 1) := by decide +kernel
theorem dX10_together_87 : decode cX10_together 87 = .ok (.iload 8, 2) := by decide +kernel
theorem dX10_together_89 : decode cX10_together 89 = .ok (.iadd, 1) := by decide +kernel
theorem dX10_together_90 : decode cX10_together 90 = .ok (.bipush 6, 2) := by decide +kernel
theorem dX10_together_92 : decode cX10_together 92 = .ok (.irem, 1) := by decide +kernel
theorem dX10_together_93 : decode cX10_together 93 = .ok (.iconst 1, 1) := by decide +kernel
theorem dX10_together_94 : decode cX10_together 94 = .ok (.iadd, 1) := by decide +kernel
theorem dX10_together_95 : decode cX10_together 95 = .ok (.invokestatic 177, 3) := by decide +kernel
theorem dX10_together_98 : decode cX10_together 98 = .ok (.istore 9, 2) := by decide +kernel
theorem dX10_together_100 : decode cX10_together 100 = .ok (.iload 6, 2) := by decide +kernel
theorem dX10_together_102 : decode cX10_together 102 = .ok (.iconst 1, 1) := by decide +kernel
theorem dX10_together_103 : decode cX10_together 103 = .ok (.isub, 1) := by decide +kernel
theorem dX10_together_104 : decode cX10_together 104 = .ok (.iload 8, 2) := by decide +kernel
theorem dX10_together_106 : decode cX10_together 106 = .ok (.iadd, 1) := by decide +kernel
theorem dX10_together_107 : decode cX10_together 107 = .ok (.bipush 6, 2) := by decide +kernel
theorem dX10_together_109 : decode cX10_together 109 = .ok (.irem, 1) := by decide +kernel
theorem dX10_together_110 : decode cX10_together 110 = .ok (.iconst 1, 1) := by decide +kernel
theorem dX10_together_111 : decode cX10_together 111 = .ok (.iadd, 1) := by decide +kernel
theorem dX10_together_112 : decode cX10_together 112 = .ok (.invokestatic 177, 3) := by decide +kernel
theorem dX10_together_115 : decode cX10_together 115 = .ok (.istore 10, 2) := by decide +kernel
theorem dX10_together_117 : decode cX10_together 117 = .ok (.iload 7, 2) := by decide +kernel
theorem dX10_together_119 : decode cX10_together 119 = .ok (.iload 9, 2) := by decide +kernel
theorem dX10_together_121 : decode cX10_together 121 = .ok (.iload 10, 2) := by decide +kernel
theorem dX10_together_123 : decode cX10_together 123 = .ok (.if_icmp .ne 22, 3) := by decide +kernel
theorem dX10_together_126 : decode cX10_together 126 = .ok (.iload 9, 2) := by decide +kernel
theorem dX10_together_128 : decode cX10_together 128 = .ok (.iload 4, 2) := by decide +kernel
theorem dX10_together_130 : decode cX10_together 130 = .ok (.ifCond .ne 7, 3) := by decide +kernel
theorem dX10_together_133 : decode cX10_together 133 = .ok (.iconst 1, 1) := by decide +kernel
theorem dX10_together_134 : decode cX10_together 134 = .ok (.goto 4, 3) := by decide +kernel
theorem dX10_together_137 : decode cX10_together 137 = .ok (.iconst 0, 1) := by decide +kernel
theorem dX10_together_138 : decode cX10_together 138 = .ok (.if_icmp .ne 7, 3) := by decide +kernel
theorem dX10_together_141 : decode cX10_together 141 = .ok (.iconst 1, 1) := by decide +kernel
theorem dX10_together_142 : decode cX10_together 142 = .ok (.goto 4, 3) := by decide +kernel
theorem dX10_together_145 : decode cX10_together 145 = .ok (.iconst 0, 1) := by decide +kernel
theorem dX10_together_146 : decode cX10_together 146 = .ok (.iadd, 1) := by decide +kernel
theorem dX10_together_147 : decode cX10_together 147 = .ok (.istore 7, 2) := by decide +kernel
theorem dX10_together_149 : decode cX10_together 149 = .ok (.iinc 8 1, 3) := by decide +kernel
theorem dX10_together_152 : decode cX10_together 152 = .ok (.goto (-76), 3) := by decide +kernel
theorem dX10_together_155 : decode cX10_together 155 = .ok (.iload 7, 2) := by decide +kernel
theorem dX10_together_157 : decode cX10_together 157 = .ok (.ireturn, 1) := by decide +kernel
def fX10_together_146 (k76 : Int32 → Int32 → Int32 → Int32 → Int32 → hp_T → Option (Int32 × hp_T)) (a4 : Int32) (a5 : Int32) (a6 : Int32) (a8 : Int32) (s0 : Int32) (s1 : Int32) (h : hp_T) : Option (Int32 × hp_T) := fx_let (s0 + s1) fun (x147 : Int32) => fx_let (a8 + (1 : Int32)) fun (x149 : Int32) => k76 a4 a5 a6 x147 x149 h
set_option maxRecDepth 100000 in
set_option maxHeartbeats 4000000 in
theorem bX10_together_146 {l : Launch} {G : xr_G} {K : xr_K} {r : Int32} {h1 : hp_T} (C : xr_C G K cX10_together RX10 11 (xr_R 4 90) (some .int) (some (xr_Qi G r h1))) (k76 : Int32 → Int32 → Int32 → Int32 → Int32 → hp_T → Option (Int32 × hp_T)) (j76 : ∀ (a4 : Int32) (a5 : Int32) (a6 : Int32) (a7 : Int32) (a8 : Int32) (h : hp_T), k76 a4 a5 a6 a7 a8 h = some (r, h1) → xr_j l G K 11 h [(4, .int a4), (5, .int a5), (6, .int a6), (7, .int a7), (8, .int a8)] 76 []) (a4 : Int32) (a5 : Int32) (a6 : Int32) (a8 : Int32) (s0 : Int32) (s1 : Int32) (h : hp_T) (hF : fX10_together_146 k76 a4 a5 a6 a8 s0 s1 h = some (r, h1)) : xr_j l G K 11 h [(4, .int a4), (5, .int a5), (6, .int a6), (8, .int a8)] 146 [.int s1, .int s0] := by
  unfold fX10_together_146 at hF
  refine xr_iadd C dX10_together_146 ?_
  refine xr_topi (fun x147 e147 => ?_)
  have hF := fx_letE hF x147 e147
  refine xr_istore C [(7, .int x147), (4, .int a4), (5, .int a5), (6, .int a6), (8, .int a8)] dX10_together_147 (Nat.le_of_ble_eq_true rfl) rfl ?_
  obtain ⟨x149, e149⟩ : ∃ y : Int32, y = (a8 + (1 : Int32)) := ⟨_, rfl⟩
  have hF := fx_letE hF x149 e149
  refine xr_iinc C x149 4 [(8, .int x149), (7, .int x147), (4, .int a4), (5, .int a5), (6, .int a6)] dX10_together_149 rfl (by rw [e149]; rfl) (Nat.le_of_ble_eq_true rfl) rfl ?_
  refine xr_goto C 76 dX10_together_152 (by decide) ?_
  refine xr_sub [2, 3, 4, 1, 0] [(4, .int a4), (5, .int a5), (6, .int a6), (7, .int x147), (8, .int x149)] rfl ?_
  exact j76 a4 a5 a6 x147 x149 h hF
def fX10_together_145 (k76 : Int32 → Int32 → Int32 → Int32 → Int32 → hp_T → Option (Int32 × hp_T)) (a4 : Int32) (a5 : Int32) (a6 : Int32) (a8 : Int32) (s0 : Int32) (h : hp_T) : Option (Int32 × hp_T) := fX10_together_146 k76 a4 a5 a6 a8 s0 (0 : Int32) h
set_option maxRecDepth 100000 in
set_option maxHeartbeats 4000000 in
theorem bX10_together_145 {l : Launch} {G : xr_G} {K : xr_K} {r : Int32} {h1 : hp_T} (C : xr_C G K cX10_together RX10 11 (xr_R 4 90) (some .int) (some (xr_Qi G r h1))) (k76 : Int32 → Int32 → Int32 → Int32 → Int32 → hp_T → Option (Int32 × hp_T)) (j76 : ∀ (a4 : Int32) (a5 : Int32) (a6 : Int32) (a7 : Int32) (a8 : Int32) (h : hp_T), k76 a4 a5 a6 a7 a8 h = some (r, h1) → xr_j l G K 11 h [(4, .int a4), (5, .int a5), (6, .int a6), (7, .int a7), (8, .int a8)] 76 []) (a4 : Int32) (a5 : Int32) (a6 : Int32) (a8 : Int32) (s0 : Int32) (h : hp_T) (hF : fX10_together_145 k76 a4 a5 a6 a8 s0 h = some (r, h1)) : xr_j l G K 11 h [(4, .int a4), (5, .int a5), (6, .int a6), (8, .int a8)] 145 [.int s0] := by
  unfold fX10_together_145 at hF
  refine xr_iconst (v := 0) C dX10_together_145 (by decide) ?_
  exact bX10_together_146 C k76 j76  a4 a5 a6 a8 s0 (0 : Int32) h hF
def fX10_together_138 (k76 : Int32 → Int32 → Int32 → Int32 → Int32 → hp_T → Option (Int32 × hp_T)) (a4 : Int32) (a5 : Int32) (a6 : Int32) (a8 : Int32) (s0 : Int32) (s1 : Int32) (s2 : Int32) (h : hp_T) : Option (Int32 × hp_T) := if s1 = s2 then (fX10_together_146 k76 a4 a5 a6 a8 s0 (1 : Int32) h) else (fX10_together_145 k76 a4 a5 a6 a8 s0 h)
set_option maxRecDepth 100000 in
set_option maxHeartbeats 4000000 in
theorem bX10_together_138 {l : Launch} {G : xr_G} {K : xr_K} {r : Int32} {h1 : hp_T} (C : xr_C G K cX10_together RX10 11 (xr_R 4 90) (some .int) (some (xr_Qi G r h1))) (k76 : Int32 → Int32 → Int32 → Int32 → Int32 → hp_T → Option (Int32 × hp_T)) (j76 : ∀ (a4 : Int32) (a5 : Int32) (a6 : Int32) (a7 : Int32) (a8 : Int32) (h : hp_T), k76 a4 a5 a6 a7 a8 h = some (r, h1) → xr_j l G K 11 h [(4, .int a4), (5, .int a5), (6, .int a6), (7, .int a7), (8, .int a8)] 76 []) (a4 : Int32) (a5 : Int32) (a6 : Int32) (a8 : Int32) (s0 : Int32) (s1 : Int32) (s2 : Int32) (h : hp_T) (hF : fX10_together_138 k76 a4 a5 a6 a8 s0 s1 s2 h = some (r, h1)) : xr_j l G K 11 h [(4, .int a4), (5, .int a5), (6, .int a6), (8, .int a8)] 138 [.int s2, .int s1, .int s0] := by
  unfold fX10_together_138 at hF
  refine xr_icmp_ne C 145 dX10_together_138 (by decide) (fun c138 => ?_) (fun c138 => ?_)
  · have hF := fx_neg hF c138
    exact bX10_together_145 C k76 j76  a4 a5 a6 a8 s0 h hF
  · have hF := fx_pos hF c138
    refine xr_iconst (v := 1) C dX10_together_141 (by decide) ?_
    refine xr_goto C 146 dX10_together_142 (by decide) ?_
    exact bX10_together_146 C k76 j76  a4 a5 a6 a8 s0 (1 : Int32) h hF
def fX10_together_76  : Nat → Int32 → Int32 → Int32 → Int32 → Int32 → hp_T → Option (Int32 × hp_T)
  | 0, _, _, _, _, _, _ => none
  | n + 1, a4, a5, a6, a7, a8, h => if (6 : Int32) ≤ a8 then (some (a7, h)) else (fx_b2 (fX10_isFront ((fx_rem ((a5 - (1 : Int32)) + a8) (6 : Int32)) + (1 : Int32)) h) fun (r95 : Int32) (h95 : hp_T) => fx_b2 (fX10_isFront ((fx_rem ((a6 - (1 : Int32)) + a8) (6 : Int32)) + (1 : Int32)) h95) fun (r112 : Int32) (h112 : hp_T) => if r95 = r112 then (if a4 = 0 then (fX10_together_138 (fX10_together_76 n) a4 a5 a6 a8 a7 r95 (1 : Int32) h112) else (fX10_together_138 (fX10_together_76 n) a4 a5 a6 a8 a7 r95 (0 : Int32) h112)) else (fX10_together_145 (fX10_together_76 n) a4 a5 a6 a8 a7 h112))
set_option maxRecDepth 100000 in
set_option maxHeartbeats 4000000 in
theorem bX10_together_76 {l : Launch} {G : xr_G} {K : xr_K} {r : Int32} {h1 : hp_T} (C : xr_C G K cX10_together RX10 11 (xr_R 4 90) (some .int) (some (xr_Qi G r h1)))  : ∀ (n : Nat) (a4 : Int32) (a5 : Int32) (a6 : Int32) (a7 : Int32) (a8 : Int32) (h : hp_T), fX10_together_76 n a4 a5 a6 a7 a8 h = some (r, h1) → xr_j l G K 11 h [(4, .int a4), (5, .int a5), (6, .int a6), (7, .int a7), (8, .int a8)] 76 [] := by
  intro n
  induction n with
  | zero =>
    intro a4 a5 a6 a7 a8 h hF
    cases hF
  | succ n ih =>
    intro a4 a5 a6 a7 a8 h hF
    rw [fX10_together_76] at hF
    refine xr_iload C 4 dX10_together_76 rfl ?_
    refine xr_bipush (v := 6) C dX10_together_78 (by decide) ?_
    refine xr_icmp_ge C 155 dX10_together_80 (by decide) (fun c80 => ?_) (fun c80 => ?_)
    · have hF := fx_pos hF c80
      refine xr_iload C 3 dX10_together_155 rfl ?_
      cases hF
      exact xr_iret C dX10_together_157
    · have hF := fx_neg hF c80
      refine xr_iload C 1 dX10_together_83 rfl ?_
      refine xr_iconst (v := 1) C dX10_together_85 (by decide) ?_
      refine xr_isub C dX10_together_86 ?_
      refine xr_iload C 4 dX10_together_87 rfl ?_
      refine xr_iadd C dX10_together_89 ?_
      refine xr_bipush (v := 6) C dX10_together_90 (by decide) ?_
      refine xr_irem C dX10_together_92 (by decide) ?_
      refine xr_iconst (v := 1) C dX10_together_93 (by decide) ?_
      refine xr_iadd C dX10_together_94 ?_
      obtain ⟨r95, h95, e95, hF⟩ := fx_b2E hF
      refine xr_callSi C mvX10_177 [.int ((fx_rem ((a5 - (1 : Int32)) + a8) (6 : Int32)) + (1 : Int32))] [] (mX10_isFront l G ((fx_rem ((a5 - (1 : Int32)) + a8) (6 : Int32)) + (1 : Int32))  h h95 r95 e95) rfl ⟨rfl, rfl, (Nat.le_of_ble_eq_true rfl), (Nat.le_of_ble_eq_true rfl)⟩ rfl (Nat.le_of_ble_eq_true rfl) dX10_together_95 ?_
      refine xr_istore C [(9, .int r95), (4, .int a4), (5, .int a5), (6, .int a6), (7, .int a7), (8, .int a8)] dX10_together_98 (Nat.le_of_ble_eq_true rfl) rfl ?_
      refine xr_iload C 3 dX10_together_100 rfl ?_
      refine xr_iconst (v := 1) C dX10_together_102 (by decide) ?_
      refine xr_isub C dX10_together_103 ?_
      refine xr_iload C 5 dX10_together_104 rfl ?_
      refine xr_iadd C dX10_together_106 ?_
      refine xr_bipush (v := 6) C dX10_together_107 (by decide) ?_
      refine xr_irem C dX10_together_109 (by decide) ?_
      refine xr_iconst (v := 1) C dX10_together_110 (by decide) ?_
      refine xr_iadd C dX10_together_111 ?_
      obtain ⟨r112, h112, e112, hF⟩ := fx_b2E hF
      refine xr_callSi C mvX10_177 [.int ((fx_rem ((a6 - (1 : Int32)) + a8) (6 : Int32)) + (1 : Int32))] [] (mX10_isFront l G ((fx_rem ((a6 - (1 : Int32)) + a8) (6 : Int32)) + (1 : Int32))  h95 h112 r112 e112) rfl ⟨rfl, rfl, (Nat.le_of_ble_eq_true rfl), (Nat.le_of_ble_eq_true rfl)⟩ rfl (Nat.le_of_ble_eq_true rfl) dX10_together_112 ?_
      refine xr_istore C [(10, .int r112), (9, .int r95), (4, .int a4), (5, .int a5), (6, .int a6), (7, .int a7), (8, .int a8)] dX10_together_115 (Nat.le_of_ble_eq_true rfl) rfl ?_
      refine xr_iload C 5 dX10_together_117 rfl ?_
      refine xr_iload C 1 dX10_together_119 rfl ?_
      refine xr_iload C 0 dX10_together_121 rfl ?_
      refine xr_icmp_ne C 145 dX10_together_123 (by decide) (fun c123 => ?_) (fun c123 => ?_)
      · have hF := fx_neg hF c123
        refine xr_sub [2, 3, 4, 6] [(4, .int a4), (5, .int a5), (6, .int a6), (8, .int a8)] rfl ?_
        exact bX10_together_145 C (fX10_together_76 n) (fun a4 a5 a6 a7 a8 h hF => ih a4 a5 a6 a7 a8 h hF)  a4 a5 a6 a8 a7 h112 hF
      · have hF := fx_pos hF c123
        refine xr_iload C 1 dX10_together_126 rfl ?_
        refine xr_iload C 2 dX10_together_128 rfl ?_
        refine xr_if_ne C 137 dX10_together_130 (by decide) (fun c130 => ?_) (fun c130 => ?_)
        · have hF := fx_neg hF c130
          refine xr_iconst (v := 0) C dX10_together_137 (by decide) ?_
          refine xr_sub [2, 3, 4, 6] [(4, .int a4), (5, .int a5), (6, .int a6), (8, .int a8)] rfl ?_
          exact bX10_together_138 C (fX10_together_76 n) (fun a4 a5 a6 a7 a8 h hF => ih a4 a5 a6 a7 a8 h hF)  a4 a5 a6 a8 a7 r95 (0 : Int32) h112 hF
        · have hF := fx_pos hF c130
          refine xr_iconst (v := 1) C dX10_together_133 (by decide) ?_
          refine xr_goto C 138 dX10_together_134 (by decide) ?_
          refine xr_sub [2, 3, 4, 6] [(4, .int a4), (5, .int a5), (6, .int a6), (8, .int a8)] rfl ?_
          exact bX10_together_138 C (fX10_together_76 n) (fun a4 a5 a6 a7 a8 h hF => ih a4 a5 a6 a7 a8 h hF)  a4 a5 a6 a8 a7 r95 (1 : Int32) h112 hF
def fX10_together (a0 : Nat) (a1 : Int32) (a2 : Int32) (a3 : Int32) (a4 : Int32) (h : hp_T) : Option (Int32 × hp_T) := fx_let (hp_sI h a0 0 (0 : Int32)) fun (h2 : hp_T) => fx_b2 (fX10_isPlayer a0 a1 a2 h2) fun (r8 : Int32) (h8 : hp_T) => if r8 = 0 then (some ((-1 : Int32), h8)) else (fx_b2 (fX10_isPlayer a0 a1 a3 h8) fun (r17 : Int32) (h17 : hp_T) => if r17 = 0 then (some ((-1 : Int32), h17)) else (if a2 = a3 then (some ((-1 : Int32), h17)) else (if a4 < 0 then (some ((-1 : Int32), h17)) else (if a4 ≤ (1 : Int32) then (fx_b2 (fX10_linedAt a0 a1 a2 h17) fun (r44 : Int32) (h44 : hp_T) => fx_b2 (fX10_linedAt a0 a1 a3 h44) fun (r52 : Int32) (h52 : hp_T) => if r44 = 0 then (some ((-2 : Int32), h52)) else (if r52 = 0 then (some ((-2 : Int32), h52)) else (fX10_together_76 fx_N a4 r44 r52 (0 : Int32) (0 : Int32) h52))) else (some ((-1 : Int32), h17))))))
set_option maxRecDepth 100000 in
set_option maxHeartbeats 4000000 in
theorem mX10_together (l : Launch) (G : xr_G) (a0 : Nat) (a1 : Int32) (a2 : Int32) (a3 : Int32) (a4 : Int32) (ta0 : hp_sh a0 = (10, 0)) (h h1 : hp_T) (r : Int32) (hF : fX10_together a0 a1 a2 a3 a4 h = some (r, h1)) : xr_M l G yX10_together cX10_together 11 (xr_R 4 90) (some .int) [.ref (G.2.2.1 a0), .int a1, .int a2, .int a3, .int a4] h (xr_Qi G r h1) := by
  refine xr_start rfl (Nat.le_of_ble_eq_true rfl) (fun K C => ?_)
  show xr_j l G K 11 h [(0, .ref (G.2.2.1 a0)), (1, .int a1), (2, .int a2), (3, .int a3), (4, .int a4)] 0 []
  unfold fX10_together at hF
  refine xr_aload_n C 0 dX10_together_0 rfl rfl ?_
  refine xr_iconst (v := 0) C dX10_together_1 (by decide) ?_
  refine xr_puti C fpX10_63 rfl rfl rfl dX10_together_2 ta0 (fun h2 e2 => ?_)
  have hF := fx_letE hF h2 e2
  refine xr_aload_n C 0 dX10_together_5 rfl rfl ?_
  refine xr_iload_n C 1 dX10_together_6 rfl rfl ?_
  refine xr_iload_n C 2 dX10_together_7 rfl rfl ?_
  obtain ⟨r8, h8, e8, hF⟩ := fx_b2E hF
  refine xr_callVi C mvX10_193 [.int a1, .int a2] [] (mX10_isPlayer l G a0 a1 a2 ta0 h2 h8 r8 e8) ta0 (by decide) vc10 rfl ⟨rfl, rfl, (Nat.le_of_ble_eq_true rfl), (Nat.le_of_ble_eq_true rfl)⟩ rfl (Nat.le_of_ble_eq_true rfl) dX10_together_8 ?_
  refine xr_if_eq C 39 dX10_together_11 (by decide) (fun c11 => ?_) (fun c11 => ?_)
  · have hF := fx_pos hF c11
    refine xr_iconst (v := -1) C dX10_together_39 (by decide) ?_
    cases hF
    exact xr_iret C dX10_together_40
  · have hF := fx_neg hF c11
    refine xr_aload_n C 0 dX10_together_14 rfl rfl ?_
    refine xr_iload_n C 1 dX10_together_15 rfl rfl ?_
    refine xr_iload_n C 3 dX10_together_16 rfl rfl ?_
    obtain ⟨r17, h17, e17, hF⟩ := fx_b2E hF
    refine xr_callVi C mvX10_193 [.int a1, .int a3] [] (mX10_isPlayer l G a0 a1 a3 ta0 h8 h17 r17 e17) ta0 (by decide) vc10 rfl ⟨rfl, rfl, (Nat.le_of_ble_eq_true rfl), (Nat.le_of_ble_eq_true rfl)⟩ rfl (Nat.le_of_ble_eq_true rfl) dX10_together_17 ?_
    refine xr_if_eq C 39 dX10_together_20 (by decide) (fun c20 => ?_) (fun c20 => ?_)
    · have hF := fx_pos hF c20
      refine xr_iconst (v := -1) C dX10_together_39 (by decide) ?_
      cases hF
      exact xr_iret C dX10_together_40
    · have hF := fx_neg hF c20
      refine xr_iload_n C 2 dX10_together_23 rfl rfl ?_
      refine xr_iload_n C 3 dX10_together_24 rfl rfl ?_
      refine xr_icmp_eq C 39 dX10_together_25 (by decide) (fun c25 => ?_) (fun c25 => ?_)
      · have hF := fx_pos hF c25
        refine xr_iconst (v := -1) C dX10_together_39 (by decide) ?_
        cases hF
        exact xr_iret C dX10_together_40
      · have hF := fx_neg hF c25
        refine xr_iload C 4 dX10_together_28 rfl ?_
        refine xr_if_lt C 39 dX10_together_30 (by decide) (fun c30 => ?_) (fun c30 => ?_)
        · have hF := fx_pos hF c30
          refine xr_iconst (v := -1) C dX10_together_39 (by decide) ?_
          cases hF
          exact xr_iret C dX10_together_40
        · have hF := fx_neg hF c30
          refine xr_iload C 4 dX10_together_33 rfl ?_
          refine xr_iconst (v := 1) C dX10_together_35 (by decide) ?_
          refine xr_icmp_le C 41 dX10_together_36 (by decide) (fun c36 => ?_) (fun c36 => ?_)
          · have hF := fx_pos hF c36
            refine xr_aload_n C 0 dX10_together_41 rfl rfl ?_
            refine xr_iload_n C 1 dX10_together_42 rfl rfl ?_
            refine xr_iload_n C 2 dX10_together_43 rfl rfl ?_
            obtain ⟨r44, h44, e44, hF⟩ := fx_b2E hF
            refine xr_callVi C mvX10_310 [.int a1, .int a2] [] (mX10_linedAt l G a0 a1 a2 ta0 h17 h44 r44 e44) ta0 (by decide) vc10 rfl ⟨rfl, rfl, (Nat.le_of_ble_eq_true rfl), (Nat.le_of_ble_eq_true rfl)⟩ rfl (Nat.le_of_ble_eq_true rfl) dX10_together_44 ?_
            refine xr_istore C [(5, .int r44), (0, .ref (G.2.2.1 a0)), (1, .int a1), (2, .int a2), (3, .int a3), (4, .int a4)] dX10_together_47 (Nat.le_of_ble_eq_true rfl) rfl ?_
            refine xr_aload_n C 1 dX10_together_49 rfl rfl ?_
            refine xr_iload_n C 2 dX10_together_50 rfl rfl ?_
            refine xr_iload_n C 4 dX10_together_51 rfl rfl ?_
            obtain ⟨r52, h52, e52, hF⟩ := fx_b2E hF
            refine xr_callVi C mvX10_310 [.int a1, .int a3] [] (mX10_linedAt l G a0 a1 a3 ta0 h44 h52 r52 e52) ta0 (by decide) vc10 rfl ⟨rfl, rfl, (Nat.le_of_ble_eq_true rfl), (Nat.le_of_ble_eq_true rfl)⟩ rfl (Nat.le_of_ble_eq_true rfl) dX10_together_52 ?_
            refine xr_istore C [(6, .int r52), (5, .int r44), (0, .ref (G.2.2.1 a0)), (1, .int a1), (2, .int a2), (3, .int a3), (4, .int a4)] dX10_together_55 (Nat.le_of_ble_eq_true rfl) rfl ?_
            refine xr_iload C 1 dX10_together_57 rfl ?_
            refine xr_if_eq C 67 dX10_together_59 (by decide) (fun c59 => ?_) (fun c59 => ?_)
            · have hF := fx_pos hF c59
              refine xr_bipush (v := -2) C dX10_together_67 (by decide) ?_
              cases hF
              exact xr_iret C dX10_together_69
            · have hF := fx_neg hF c59
              refine xr_iload C 0 dX10_together_62 rfl ?_
              refine xr_if_ne C 70 dX10_together_64 (by decide) (fun c64 => ?_) (fun c64 => ?_)
              · have hF := fx_neg hF c64
                refine xr_iconst (v := 0) C dX10_together_70 (by decide) ?_
                refine xr_istore C [(7, .int (0 : Int32)), (6, .int r52), (5, .int r44), (0, .ref (G.2.2.1 a0)), (1, .int a1), (2, .int a2), (3, .int a3), (4, .int a4)] dX10_together_71 (Nat.le_of_ble_eq_true rfl) rfl ?_
                refine xr_iconst (v := 0) C dX10_together_73 (by decide) ?_
                refine xr_istore C [(8, .int (0 : Int32)), (7, .int (0 : Int32)), (6, .int r52), (5, .int r44), (0, .ref (G.2.2.1 a0)), (1, .int a1), (2, .int a2), (3, .int a3), (4, .int a4)] dX10_together_74 (Nat.le_of_ble_eq_true rfl) rfl ?_
                refine xr_sub [8, 3, 2, 1, 0] [(4, .int a4), (5, .int r44), (6, .int r52), (7, .int (0 : Int32)), (8, .int (0 : Int32))] rfl ?_
                exact bX10_together_76 C  fx_N a4 r44 r52 (0 : Int32) (0 : Int32) h52 hF
              · have hF := fx_pos hF c64
                refine xr_bipush (v := -2) C dX10_together_67 (by decide) ?_
                cases hF
                exact xr_iret C dX10_together_69
          · have hF := fx_neg hF c36
            refine xr_iconst (v := -1) C dX10_together_39 (by decide) ?_
            cases hF
            exact xr_iret C dX10_together_40
theorem dX10_strong_0 : decode cX10_strong 0 = .ok (.aload_n 0, 1) := by decide +kernel
theorem dX10_strong_1 : decode cX10_strong 1 = .ok (.iconst 0, 1) := by decide +kernel
theorem dX10_strong_2 : decode cX10_strong 2 = .ok (.putfield 63, 3) := by decide +kernel
theorem dX10_strong_5 : decode cX10_strong 5 = .ok (.aload_n 0, 1) := by decide +kernel
theorem dX10_strong_6 : decode cX10_strong 6 = .ok (.iload_n 1, 1) := by decide +kernel
theorem dX10_strong_7 : decode cX10_strong 7 = .ok (.invokevirtual 180, 3) := by decide +kernel
theorem dX10_strong_10 : decode cX10_strong 10 = .ok (.ifCond .eq 12, 3) := by decide +kernel
theorem dX10_strong_13 : decode cX10_strong 13 = .ok (.iload_n 2, 1) := by decide +kernel
theorem dX10_strong_14 : decode cX10_strong 14 = .ok (.ifCond .lt 8, 3) := by decide +kernel
theorem dX10_strong_17 : decode cX10_strong 17 = .ok (.iload_n 2, 1) := by decide +kernel
theorem dX10_strong_18 : decode cX10_strong 18 = .ok (.iconst 1, 1) := by decide +kernel
theorem dX10_strong_19 : decode cX10_strong 19 = .ok (.if_icmp .le 5, 3) := by decide +kernel
theorem dX10_strong_22 : decode cX10_strong 22 = .ok (.iconst (-1), 1) := by decide +kernel
theorem dX10_strong_23 : decode cX10_strong 23 = .ok (.ireturn, 1) := by decide +kernel
theorem dX10_strong_24 : decode cX10_strong 24 = .ok (.aload_n 0, 1) := by decide +kernel
theorem dX10_strong_25 : decode cX10_strong 25 = .ok (.invokevirtual 262, 3) := by decide +kernel
theorem dX10_strong_28 : decode cX10_strong 28 = .ok (.iconst 0, 1) := by decide +kernel
theorem dX10_strong_29 : decode cX10_strong 29 = .ok (.istore_n 3, 1) := by decide +kernel
theorem dX10_strong_30 : decode cX10_strong 30 = .ok (.iconst (-1), 1) := by decide +kernel
theorem dX10_strong_31 : decode cX10_strong 31 = .ok (.istore 4, 2) := by decide +kernel
theorem dX10_strong_33 : decode cX10_strong 33 = .ok (.iconst 0, 1) := by decide +kernel
theorem dX10_strong_34 : decode cX10_strong 34 = .ok (.istore 5, 2) := by decide +kernel
theorem dX10_strong_36 : decode cX10_strong 36 = .ok (.iload 5, 2) := by decide +kernel
theorem dX10_strong_38 : decode cX10_strong 38 = .ok (.bipush 6, 2) := by decide +kernel
theorem dX10_strong_40 : decode cX10_strong 40 = .ok (.if_icmp .ge 51, 3) := by decide +kernel
theorem dX10_strong_43 : decode cX10_strong 43 = .ok (.iload_n 1, 1) := by decide +kernel
theorem dX10_strong_44 : decode cX10_strong 44 = .ok (.ifCond .ne 14, 3) := by decide +kernel
theorem dX10_strong_47 : decode cX10_strong 47 = .ok (.aload_n 0, 1) := by decide +kernel
theorem dX10_strong_48 : decode cX10_strong 48 = .ok (.iload 5, 2) := by decide +kernel
theorem dX10_strong_50 : decode cX10_strong 50 = .ok (.iconst 0, 1) := by decide +kernel
theorem dX10_strong_51 : decode cX10_strong 51 = .ok (.iconst 0, 1) := by decide +kernel
theorem dX10_strong_52 : decode cX10_strong 52 = .ok (.invokevirtual 256, 3) := by decide +kernel
theorem dX10_strong_55 : decode cX10_strong 55 = .ok (.goto 11, 3) := by decide +kernel
theorem dX10_strong_58 : decode cX10_strong 58 = .ok (.aload_n 0, 1) := by decide +kernel
theorem dX10_strong_59 : decode cX10_strong 59 = .ok (.iconst 0, 1) := by decide +kernel
theorem dX10_strong_60 : decode cX10_strong 60 = .ok (.iload 5, 2) := by decide +kernel
theorem dX10_strong_62 : decode cX10_strong 62 = .ok (.iconst 1, 1) := by decide +kernel
theorem dX10_strong_63 : decode cX10_strong 63 = .ok (.invokevirtual 256, 3) := by decide +kernel
theorem dX10_strong_66 : decode cX10_strong 66 = .ok (.istore 6, 2) := by decide +kernel
theorem dX10_strong_68 : decode cX10_strong 68 = .ok (.iload 6, 2) := by decide +kernel
theorem dX10_strong_70 : decode cX10_strong 70 = .ok (.iload 4, 2) := by decide +kernel
theorem dX10_strong_72 : decode cX10_strong 72 = .ok (.if_icmp .gt 6, 3) := by decide +kernel
theorem dX10_strong_75 : decode cX10_strong 75 = .ok (.goto 10, 3) := by decide +kernel
theorem dX10_strong_78 : decode cX10_strong 78 = .ok (.iload 5, 2) := by decide +kernel
theorem dX10_strong_80 : decode cX10_strong 80 = .ok (.istore_n 3, 1) := by decide +kernel
theorem dX10_strong_81 : decode cX10_strong 81 = .ok (.iload 6, 2) := by decide +kernel
theorem dX10_strong_83 : decode cX10_strong 83 = .ok (.istore 4, 2) := by decide +kernel
theorem dX10_strong_85 : decode cX10_strong 85 = .ok (.iinc 5 1, 3) := by decide +kernel
theorem dX10_strong_88 : decode cX10_strong 88 = .ok (.goto (-52), 3) := by decide +kernel
theorem dX10_strong_91 : decode cX10_strong 91 = .ok (.iload_n 2, 1) := by decide +kernel
theorem dX10_strong_92 : decode cX10_strong 92 = .ok (.ifCond .ne 7, 3) := by decide +kernel
theorem dX10_strong_95 : decode cX10_strong 95 = .ok (.iload_n 3, 1) := by decide +kernel
theorem dX10_strong_96 : decode cX10_strong 96 = .ok (.goto 5, 3) := by decide +kernel
theorem dX10_strong_99 : decode cX10_strong 99 = .ok (.iload 4, 2) := by decide +kernel
theorem dX10_strong_101 : decode cX10_strong 101 = .ok (.ireturn, 1) := by decide +kernel
def fX10_strong_85 (k36 : Nat → Int32 → Int32 → Int32 → Int32 → Int32 → hp_T → Option (Int32 × hp_T)) (a0 : Nat) (a1 : Int32) (a2 : Int32) (a3 : Int32) (a4 : Int32) (a5 : Int32) (h : hp_T) : Option (Int32 × hp_T) := fx_let (a5 + (1 : Int32)) fun (x85 : Int32) => k36 a0 a1 a2 a3 a4 x85 h
set_option maxRecDepth 100000 in
set_option maxHeartbeats 4000000 in
theorem bX10_strong_85 {l : Launch} {G : xr_G} {K : xr_K} {r : Int32} {h1 : hp_T} (C : xr_C G K cX10_strong RX10 7 (xr_R 4 97) (some .int) (some (xr_Qi G r h1))) (k36 : Nat → Int32 → Int32 → Int32 → Int32 → Int32 → hp_T → Option (Int32 × hp_T)) (j36 : ∀ (a0 : Nat) (a1 : Int32) (a2 : Int32) (a3 : Int32) (a4 : Int32) (a5 : Int32) (ta0 : hp_sh a0 = (10, 0)) (h : hp_T), k36 a0 a1 a2 a3 a4 a5 h = some (r, h1) → xr_j l G K 7 h [(0, .ref (G.2.2.1 a0)), (1, .int a1), (2, .int a2), (3, .int a3), (4, .int a4), (5, .int a5)] 36 []) (a0 : Nat) (a1 : Int32) (a2 : Int32) (a3 : Int32) (a4 : Int32) (a5 : Int32) (ta0 : hp_sh a0 = (10, 0)) (h : hp_T) (hF : fX10_strong_85 k36 a0 a1 a2 a3 a4 a5 h = some (r, h1)) : xr_j l G K 7 h [(0, .ref (G.2.2.1 a0)), (1, .int a1), (2, .int a2), (3, .int a3), (4, .int a4), (5, .int a5)] 85 [] := by
  unfold fX10_strong_85 at hF
  obtain ⟨x85, e85⟩ : ∃ y : Int32, y = (a5 + (1 : Int32)) := ⟨_, rfl⟩
  have hF := fx_letE hF x85 e85
  refine xr_iinc C x85 5 [(5, .int x85), (0, .ref (G.2.2.1 a0)), (1, .int a1), (2, .int a2), (3, .int a3), (4, .int a4)] dX10_strong_85 rfl (by rw [e85]; rfl) (Nat.le_of_ble_eq_true rfl) rfl ?_
  refine xr_goto C 36 dX10_strong_88 (by decide) ?_
  refine xr_sub [1, 2, 3, 4, 5, 0] [(0, .ref (G.2.2.1 a0)), (1, .int a1), (2, .int a2), (3, .int a3), (4, .int a4), (5, .int x85)] rfl ?_
  exact j36 a0 a1 a2 a3 a4 x85 ta0 h hF
def fX10_strong_66 (k36 : Nat → Int32 → Int32 → Int32 → Int32 → Int32 → hp_T → Option (Int32 × hp_T)) (a0 : Nat) (a1 : Int32) (a2 : Int32) (a3 : Int32) (a4 : Int32) (a5 : Int32) (s0 : Int32) (h : hp_T) : Option (Int32 × hp_T) := if a4 < s0 then (fX10_strong_85 k36 a0 a1 a2 a5 s0 a5 h) else (fX10_strong_85 k36 a0 a1 a2 a3 a4 a5 h)
set_option maxRecDepth 100000 in
set_option maxHeartbeats 4000000 in
theorem bX10_strong_66 {l : Launch} {G : xr_G} {K : xr_K} {r : Int32} {h1 : hp_T} (C : xr_C G K cX10_strong RX10 7 (xr_R 4 97) (some .int) (some (xr_Qi G r h1))) (k36 : Nat → Int32 → Int32 → Int32 → Int32 → Int32 → hp_T → Option (Int32 × hp_T)) (j36 : ∀ (a0 : Nat) (a1 : Int32) (a2 : Int32) (a3 : Int32) (a4 : Int32) (a5 : Int32) (ta0 : hp_sh a0 = (10, 0)) (h : hp_T), k36 a0 a1 a2 a3 a4 a5 h = some (r, h1) → xr_j l G K 7 h [(0, .ref (G.2.2.1 a0)), (1, .int a1), (2, .int a2), (3, .int a3), (4, .int a4), (5, .int a5)] 36 []) (a0 : Nat) (a1 : Int32) (a2 : Int32) (a3 : Int32) (a4 : Int32) (a5 : Int32) (s0 : Int32) (ta0 : hp_sh a0 = (10, 0)) (h : hp_T) (hF : fX10_strong_66 k36 a0 a1 a2 a3 a4 a5 s0 h = some (r, h1)) : xr_j l G K 7 h [(0, .ref (G.2.2.1 a0)), (1, .int a1), (2, .int a2), (3, .int a3), (4, .int a4), (5, .int a5)] 66 [.int s0] := by
  unfold fX10_strong_66 at hF
  refine xr_istore C [(6, .int s0), (0, .ref (G.2.2.1 a0)), (1, .int a1), (2, .int a2), (3, .int a3), (4, .int a4), (5, .int a5)] dX10_strong_66 (Nat.le_of_ble_eq_true rfl) rfl ?_
  refine xr_iload C 0 dX10_strong_68 rfl ?_
  refine xr_iload C 5 dX10_strong_70 rfl ?_
  refine xr_icmp_gt C 78 dX10_strong_72 (by decide) (fun c72 => ?_) (fun c72 => ?_)
  · have hF := fx_pos hF c72
    refine xr_iload C 6 dX10_strong_78 rfl ?_
    refine xr_istore_n C [(3, .int a5), (6, .int s0), (0, .ref (G.2.2.1 a0)), (1, .int a1), (2, .int a2), (4, .int a4), (5, .int a5)] dX10_strong_80 rfl (Nat.le_of_ble_eq_true rfl) rfl ?_
    refine xr_iload C 1 dX10_strong_81 rfl ?_
    refine xr_istore C [(4, .int s0), (3, .int a5), (6, .int s0), (0, .ref (G.2.2.1 a0)), (1, .int a1), (2, .int a2), (5, .int a5)] dX10_strong_83 (Nat.le_of_ble_eq_true rfl) rfl ?_
    refine xr_sub [3, 4, 5, 1, 0, 6] [(0, .ref (G.2.2.1 a0)), (1, .int a1), (2, .int a2), (3, .int a5), (4, .int s0), (5, .int a5)] rfl ?_
    exact bX10_strong_85 C k36 j36  a0 a1 a2 a5 s0 a5 ta0 h hF
  · have hF := fx_neg hF c72
    refine xr_goto C 85 dX10_strong_75 (by decide) ?_
    refine xr_sub [1, 2, 3, 4, 5, 6] [(0, .ref (G.2.2.1 a0)), (1, .int a1), (2, .int a2), (3, .int a3), (4, .int a4), (5, .int a5)] rfl ?_
    exact bX10_strong_85 C k36 j36  a0 a1 a2 a3 a4 a5 ta0 h hF
def fX10_strong_36  : Nat → Nat → Int32 → Int32 → Int32 → Int32 → Int32 → hp_T → Option (Int32 × hp_T)
  | 0, _, _, _, _, _, _, _ => none
  | n + 1, a0, a1, a2, a3, a4, a5, h => if (6 : Int32) ≤ a5 then (if a2 = 0 then (some (a3, h)) else (some (a4, h))) else (if a1 = 0 then (fx_b2 (fX10_chanceOf a0 a5 (0 : Int32) (0 : Int32) h) fun (r52 : Int32) (h52 : hp_T) => fX10_strong_66 (fX10_strong_36 n) a0 a1 a2 a3 a4 a5 r52 h52) else (fx_b2 (fX10_chanceOf a0 (0 : Int32) a5 (1 : Int32) h) fun (r63 : Int32) (h63 : hp_T) => fX10_strong_66 (fX10_strong_36 n) a0 a1 a2 a3 a4 a5 r63 h63))
set_option maxRecDepth 100000 in
set_option maxHeartbeats 4000000 in
theorem bX10_strong_36 {l : Launch} {G : xr_G} {K : xr_K} {r : Int32} {h1 : hp_T} (C : xr_C G K cX10_strong RX10 7 (xr_R 4 97) (some .int) (some (xr_Qi G r h1)))  : ∀ (n : Nat) (a0 : Nat) (a1 : Int32) (a2 : Int32) (a3 : Int32) (a4 : Int32) (a5 : Int32) (ta0 : hp_sh a0 = (10, 0)) (h : hp_T), fX10_strong_36 n a0 a1 a2 a3 a4 a5 h = some (r, h1) → xr_j l G K 7 h [(0, .ref (G.2.2.1 a0)), (1, .int a1), (2, .int a2), (3, .int a3), (4, .int a4), (5, .int a5)] 36 [] := by
  intro n
  induction n with
  | zero =>
    intro a0 a1 a2 a3 a4 a5 ta0 h hF
    cases hF
  | succ n ih =>
    intro a0 a1 a2 a3 a4 a5 ta0 h hF
    rw [fX10_strong_36] at hF
    refine xr_iload C 5 dX10_strong_36 rfl ?_
    refine xr_bipush (v := 6) C dX10_strong_38 (by decide) ?_
    refine xr_icmp_ge C 91 dX10_strong_40 (by decide) (fun c40 => ?_) (fun c40 => ?_)
    · have hF := fx_pos hF c40
      refine xr_iload_n C 2 dX10_strong_91 rfl rfl ?_
      refine xr_if_ne C 99 dX10_strong_92 (by decide) (fun c92 => ?_) (fun c92 => ?_)
      · have hF := fx_neg hF c92
        refine xr_iload C 4 dX10_strong_99 rfl ?_
        cases hF
        exact xr_iret C dX10_strong_101
      · have hF := fx_pos hF c92
        refine xr_iload_n C 3 dX10_strong_95 rfl rfl ?_
        refine xr_goto C 101 dX10_strong_96 (by decide) ?_
        cases hF
        exact xr_iret C dX10_strong_101
    · have hF := fx_neg hF c40
      refine xr_iload_n C 1 dX10_strong_43 rfl rfl ?_
      refine xr_if_ne C 58 dX10_strong_44 (by decide) (fun c44 => ?_) (fun c44 => ?_)
      · have hF := fx_neg hF c44
        refine xr_aload_n C 0 dX10_strong_58 rfl rfl ?_
        refine xr_iconst (v := 0) C dX10_strong_59 (by decide) ?_
        refine xr_iload C 5 dX10_strong_60 rfl ?_
        refine xr_iconst (v := 1) C dX10_strong_62 (by decide) ?_
        obtain ⟨r63, h63, e63, hF⟩ := fx_b2E hF
        refine xr_callVi C mvX10_256 [.int (0 : Int32), .int a5, .int (1 : Int32)] [] (mX10_chanceOf l G a0 (0 : Int32) a5 (1 : Int32) ta0 h h63 r63 e63) ta0 (by decide) vc10 rfl ⟨rfl, rfl, (Nat.le_of_ble_eq_true rfl), (Nat.le_of_ble_eq_true rfl)⟩ rfl (Nat.le_of_ble_eq_true rfl) dX10_strong_63 ?_
        exact bX10_strong_66 C (fX10_strong_36 n) (fun a0 a1 a2 a3 a4 a5 ta0 h hF => ih a0 a1 a2 a3 a4 a5 ta0 h hF)  a0 a1 a2 a3 a4 a5 r63 ta0 h63 hF
      · have hF := fx_pos hF c44
        refine xr_aload_n C 0 dX10_strong_47 rfl rfl ?_
        refine xr_iload C 5 dX10_strong_48 rfl ?_
        refine xr_iconst (v := 0) C dX10_strong_50 (by decide) ?_
        refine xr_iconst (v := 0) C dX10_strong_51 (by decide) ?_
        obtain ⟨r52, h52, e52, hF⟩ := fx_b2E hF
        refine xr_callVi C mvX10_256 [.int a5, .int (0 : Int32), .int (0 : Int32)] [] (mX10_chanceOf l G a0 a5 (0 : Int32) (0 : Int32) ta0 h h52 r52 e52) ta0 (by decide) vc10 rfl ⟨rfl, rfl, (Nat.le_of_ble_eq_true rfl), (Nat.le_of_ble_eq_true rfl)⟩ rfl (Nat.le_of_ble_eq_true rfl) dX10_strong_52 ?_
        refine xr_goto C 66 dX10_strong_55 (by decide) ?_
        exact bX10_strong_66 C (fX10_strong_36 n) (fun a0 a1 a2 a3 a4 a5 ta0 h hF => ih a0 a1 a2 a3 a4 a5 ta0 h hF)  a0 a1 a2 a3 a4 a5 r52 ta0 h52 hF
def fX10_strong (a0 : Nat) (a1 : Int32) (a2 : Int32) (h : hp_T) : Option (Int32 × hp_T) := fx_let (hp_sI h a0 0 (0 : Int32)) fun (h2 : hp_T) => fx_b2 (fX10_isSide a0 a1 h2) fun (r7 : Int32) (h7 : hp_T) => if r7 = 0 then (some ((-1 : Int32), h7)) else (if a2 < 0 then (some ((-1 : Int32), h7)) else (if a2 ≤ (1 : Int32) then (fx_b1 (fX10_takesLines a0 h7) fun (h25 : hp_T) => fX10_strong_36 fx_N a0 a1 a2 (0 : Int32) (-1 : Int32) (0 : Int32) h25) else (some ((-1 : Int32), h7))))
set_option maxRecDepth 100000 in
set_option maxHeartbeats 4000000 in
theorem mX10_strong (l : Launch) (G : xr_G) (a0 : Nat) (a1 : Int32) (a2 : Int32) (ta0 : hp_sh a0 = (10, 0)) (h h1 : hp_T) (r : Int32) (hF : fX10_strong a0 a1 a2 h = some (r, h1)) : xr_M l G yX10_strong cX10_strong 7 (xr_R 4 97) (some .int) [.ref (G.2.2.1 a0), .int a1, .int a2] h (xr_Qi G r h1) := by
  refine xr_start rfl (Nat.le_of_ble_eq_true rfl) (fun K C => ?_)
  show xr_j l G K 7 h [(0, .ref (G.2.2.1 a0)), (1, .int a1), (2, .int a2)] 0 []
  unfold fX10_strong at hF
  refine xr_aload_n C 0 dX10_strong_0 rfl rfl ?_
  refine xr_iconst (v := 0) C dX10_strong_1 (by decide) ?_
  refine xr_puti C fpX10_63 rfl rfl rfl dX10_strong_2 ta0 (fun h2 e2 => ?_)
  have hF := fx_letE hF h2 e2
  refine xr_aload_n C 0 dX10_strong_5 rfl rfl ?_
  refine xr_iload_n C 1 dX10_strong_6 rfl rfl ?_
  obtain ⟨r7, h7, e7, hF⟩ := fx_b2E hF
  refine xr_callVi C mvX10_180 [.int a1] [] (mX10_isSide l G a0 a1 ta0 h2 h7 r7 e7) ta0 (by decide) vc10 rfl ⟨rfl, rfl, (Nat.le_of_ble_eq_true rfl), (Nat.le_of_ble_eq_true rfl)⟩ rfl (Nat.le_of_ble_eq_true rfl) dX10_strong_7 ?_
  refine xr_if_eq C 22 dX10_strong_10 (by decide) (fun c10 => ?_) (fun c10 => ?_)
  · have hF := fx_pos hF c10
    refine xr_iconst (v := -1) C dX10_strong_22 (by decide) ?_
    cases hF
    exact xr_iret C dX10_strong_23
  · have hF := fx_neg hF c10
    refine xr_iload_n C 2 dX10_strong_13 rfl rfl ?_
    refine xr_if_lt C 22 dX10_strong_14 (by decide) (fun c14 => ?_) (fun c14 => ?_)
    · have hF := fx_pos hF c14
      refine xr_iconst (v := -1) C dX10_strong_22 (by decide) ?_
      cases hF
      exact xr_iret C dX10_strong_23
    · have hF := fx_neg hF c14
      refine xr_iload_n C 2 dX10_strong_17 rfl rfl ?_
      refine xr_iconst (v := 1) C dX10_strong_18 (by decide) ?_
      refine xr_icmp_le C 24 dX10_strong_19 (by decide) (fun c19 => ?_) (fun c19 => ?_)
      · have hF := fx_pos hF c19
        refine xr_aload_n C 0 dX10_strong_24 rfl rfl ?_
        obtain ⟨h25, e25, hF⟩ := fx_b1E hF
        refine xr_callVv C mvX10_262 [] [] (mX10_takesLines l G a0 ta0 h7 h25 e25) ta0 (by decide) vc10 rfl ⟨rfl, rfl, (Nat.le_of_ble_eq_true rfl), (Nat.le_of_ble_eq_true rfl)⟩ rfl (Nat.le_of_ble_eq_true rfl) dX10_strong_25 ?_
        refine xr_iconst (v := 0) C dX10_strong_28 (by decide) ?_
        refine xr_istore_n C [(3, .int (0 : Int32)), (0, .ref (G.2.2.1 a0)), (1, .int a1), (2, .int a2)] dX10_strong_29 rfl (Nat.le_of_ble_eq_true rfl) rfl ?_
        refine xr_iconst (v := -1) C dX10_strong_30 (by decide) ?_
        refine xr_istore C [(4, .int (-1 : Int32)), (3, .int (0 : Int32)), (0, .ref (G.2.2.1 a0)), (1, .int a1), (2, .int a2)] dX10_strong_31 (Nat.le_of_ble_eq_true rfl) rfl ?_
        refine xr_iconst (v := 0) C dX10_strong_33 (by decide) ?_
        refine xr_istore C [(5, .int (0 : Int32)), (4, .int (-1 : Int32)), (3, .int (0 : Int32)), (0, .ref (G.2.2.1 a0)), (1, .int a1), (2, .int a2)] dX10_strong_34 (Nat.le_of_ble_eq_true rfl) rfl ?_
        refine xr_sub [3, 4, 5, 2, 1, 0] [(0, .ref (G.2.2.1 a0)), (1, .int a1), (2, .int a2), (3, .int (0 : Int32)), (4, .int (-1 : Int32)), (5, .int (0 : Int32))] rfl ?_
        exact bX10_strong_36 C  fx_N a0 a1 a2 (0 : Int32) (-1 : Int32) (0 : Int32) ta0 h25 hF
      · have hF := fx_neg hF c19
        refine xr_iconst (v := -1) C dX10_strong_22 (by decide) ?_
        cases hF
        exact xr_iret C dX10_strong_23
theorem dX10_maySub_0 : decode cX10_maySub 0 = .ok (.aload_n 0, 1) := by decide +kernel
theorem dX10_maySub_1 : decode cX10_maySub 1 = .ok (.iconst 0, 1) := by decide +kernel
theorem dX10_maySub_2 : decode cX10_maySub 2 = .ok (.putfield 63, 3) := by decide +kernel
theorem dX10_maySub_5 : decode cX10_maySub 5 = .ok (.aload_n 0, 1) := by decide +kernel
theorem dX10_maySub_6 : decode cX10_maySub 6 = .ok (.iload_n 1, 1) := by decide +kernel
theorem dX10_maySub_7 : decode cX10_maySub 7 = .ok (.iload_n 2, 1) := by decide +kernel
theorem dX10_maySub_8 : decode cX10_maySub 8 = .ok (.iload_n 3, 1) := by decide +kernel
theorem dX10_maySub_9 : decode cX10_maySub 9 = .ok (.invokevirtual 227, 3) := by decide +kernel
theorem dX10_maySub_12 : decode cX10_maySub 12 = .ok (.ireturn, 1) := by decide +kernel
def fX10_maySub (a0 : Nat) (a1 : Int32) (a2 : Int32) (a3 : Int32) (h : hp_T) : Option (Int32 × hp_T) := fx_let (hp_sI h a0 0 (0 : Int32)) fun (h2 : hp_T) => fx_b2 (fX10_wrongSub a0 a1 a2 a3 h2) fun (r9 : Int32) (h9 : hp_T) => some (r9, h9)
set_option maxRecDepth 100000 in
set_option maxHeartbeats 4000000 in
theorem mX10_maySub (l : Launch) (G : xr_G) (a0 : Nat) (a1 : Int32) (a2 : Int32) (a3 : Int32) (ta0 : hp_sh a0 = (10, 0)) (h h1 : hp_T) (r : Int32) (hF : fX10_maySub a0 a1 a2 a3 h = some (r, h1)) : xr_M l G yX10_maySub cX10_maySub 4 (xr_R 4 93) (some .int) [.ref (G.2.2.1 a0), .int a1, .int a2, .int a3] h (xr_Qi G r h1) := by
  refine xr_start rfl (Nat.le_of_ble_eq_true rfl) (fun K C => ?_)
  show xr_j l G K 4 h [(0, .ref (G.2.2.1 a0)), (1, .int a1), (2, .int a2), (3, .int a3)] 0 []
  unfold fX10_maySub at hF
  refine xr_aload_n C 0 dX10_maySub_0 rfl rfl ?_
  refine xr_iconst (v := 0) C dX10_maySub_1 (by decide) ?_
  refine xr_puti C fpX10_63 rfl rfl rfl dX10_maySub_2 ta0 (fun h2 e2 => ?_)
  have hF := fx_letE hF h2 e2
  refine xr_aload_n C 0 dX10_maySub_5 rfl rfl ?_
  refine xr_iload_n C 1 dX10_maySub_6 rfl rfl ?_
  refine xr_iload_n C 2 dX10_maySub_7 rfl rfl ?_
  refine xr_iload_n C 3 dX10_maySub_8 rfl rfl ?_
  obtain ⟨r9, h9, e9, hF⟩ := fx_b2E hF
  refine xr_callVi C mvX10_227 [.int a1, .int a2, .int a3] [] (mX10_wrongSub l G a0 a1 a2 a3 ta0 h2 h9 r9 e9) ta0 (by decide) vc10 rfl ⟨rfl, rfl, (Nat.le_of_ble_eq_true rfl), (Nat.le_of_ble_eq_true rfl)⟩ rfl (Nat.le_of_ble_eq_true rfl) dX10_maySub_9 ?_
  cases hF
  exact xr_iret C dX10_maySub_12
theorem dX10_mayMove_0 : decode cX10_mayMove 0 = .ok (.aload_n 0, 1) := by decide +kernel
theorem dX10_mayMove_1 : decode cX10_mayMove 1 = .ok (.iconst 0, 1) := by decide +kernel
theorem dX10_mayMove_2 : decode cX10_mayMove 2 = .ok (.putfield 63, 3) := by decide +kernel
theorem dX10_mayMove_5 : decode cX10_mayMove 5 = .ok (.aload_n 0, 1) := by decide +kernel
theorem dX10_mayMove_6 : decode cX10_mayMove 6 = .ok (.iload_n 1, 1) := by decide +kernel
theorem dX10_mayMove_7 : decode cX10_mayMove 7 = .ok (.iload_n 2, 1) := by decide +kernel
theorem dX10_mayMove_8 : decode cX10_mayMove 8 = .ok (.invokevirtual 236, 3) := by decide +kernel
theorem dX10_mayMove_11 : decode cX10_mayMove 11 = .ok (.ireturn, 1) := by decide +kernel
def fX10_mayMove (a0 : Nat) (a1 : Int32) (a2 : Int32) (h : hp_T) : Option (Int32 × hp_T) := fx_let (hp_sI h a0 0 (0 : Int32)) fun (h2 : hp_T) => fx_b2 (fX10_wrongMove a0 a1 a2 h2) fun (r8 : Int32) (h8 : hp_T) => some (r8, h8)
set_option maxRecDepth 100000 in
set_option maxHeartbeats 4000000 in
theorem mX10_mayMove (l : Launch) (G : xr_G) (a0 : Nat) (a1 : Int32) (a2 : Int32) (ta0 : hp_sh a0 = (10, 0)) (h h1 : hp_T) (r : Int32) (hF : fX10_mayMove a0 a1 a2 h = some (r, h1)) : xr_M l G yX10_mayMove cX10_mayMove 3 (xr_R 2 44) (some .int) [.ref (G.2.2.1 a0), .int a1, .int a2] h (xr_Qi G r h1) := by
  refine xr_start rfl (Nat.le_of_ble_eq_true rfl) (fun K C => ?_)
  show xr_j l G K 3 h [(0, .ref (G.2.2.1 a0)), (1, .int a1), (2, .int a2)] 0 []
  unfold fX10_mayMove at hF
  refine xr_aload_n C 0 dX10_mayMove_0 rfl rfl ?_
  refine xr_iconst (v := 0) C dX10_mayMove_1 (by decide) ?_
  refine xr_puti C fpX10_63 rfl rfl rfl dX10_mayMove_2 ta0 (fun h2 e2 => ?_)
  have hF := fx_letE hF h2 e2
  refine xr_aload_n C 0 dX10_mayMove_5 rfl rfl ?_
  refine xr_iload_n C 1 dX10_mayMove_6 rfl rfl ?_
  refine xr_iload_n C 2 dX10_mayMove_7 rfl rfl ?_
  obtain ⟨r8, h8, e8, hF⟩ := fx_b2E hF
  refine xr_callVi C mvX10_236 [.int a1, .int a2] [] (mX10_wrongMove l G a0 a1 a2 ta0 h2 h8 r8 e8) ta0 (by decide) vc10 rfl ⟨rfl, rfl, (Nat.le_of_ble_eq_true rfl), (Nat.le_of_ble_eq_true rfl)⟩ rfl (Nat.le_of_ble_eq_true rfl) dX10_mayMove_8 ?_
  cases hF
  exact xr_iret C dX10_mayMove_11
theorem dX10_subsNow_0 : decode cX10_subsNow 0 = .ok (.aload_n 0, 1) := by decide +kernel
theorem dX10_subsNow_1 : decode cX10_subsNow 1 = .ok (.iconst 0, 1) := by decide +kernel
theorem dX10_subsNow_2 : decode cX10_subsNow 2 = .ok (.putfield 63, 3) := by decide +kernel
theorem dX10_subsNow_5 : decode cX10_subsNow 5 = .ok (.aload_n 0, 1) := by decide +kernel
theorem dX10_subsNow_6 : decode cX10_subsNow 6 = .ok (.iload_n 1, 1) := by decide +kernel
theorem dX10_subsNow_7 : decode cX10_subsNow 7 = .ok (.invokevirtual 180, 3) := by decide +kernel
theorem dX10_subsNow_10 : decode cX10_subsNow 10 = .ok (.ifCond .ne 5, 3) := by decide +kernel
theorem dX10_subsNow_13 : decode cX10_subsNow 13 = .ok (.iconst (-1), 1) := by decide +kernel
theorem dX10_subsNow_14 : decode cX10_subsNow 14 = .ok (.ireturn, 1) := by decide +kernel
theorem dX10_subsNow_15 : decode cX10_subsNow 15 = .ok (.iconst 0, 1) := by decide +kernel
theorem dX10_subsNow_16 : decode cX10_subsNow 16 = .ok (.istore_n 2, 1) := by decide +kernel
theorem dX10_subsNow_17 : decode cX10_subsNow 17 = .ok (.iconst 0, 1) := by decide +kernel
theorem dX10_subsNow_18 : decode cX10_subsNow 18 = .ok (.istore_n 3, 1) := by decide +kernel
theorem dX10_subsNow_19 : decode cX10_subsNow 19 = .ok (.iload_n 3, 1) := by decide +kernel
theorem dX10_subsNow_20 : decode cX10_subsNow 20 = .ok (.aload_n 0, 1) := by decide +kernel
theorem dX10_subsNow_21 : decode cX10_subsNow 21 = .ok (.getfield 13, 3) := by decide +kernel
theorem dX10_subsNow_24 : decode cX10_subsNow 24 = .ok (.iconst 5, 1) := by decide +kernel
theorem dX10_subsNow_25 : decode cX10_subsNow 25 = .ok (.iload_n 1, 1) := by decide +kernel
theorem dX10_subsNow_26 : decode cX10_subsNow 26 = .ok (.iadd, 1) := by decide +kernel
theorem dX10_subsNow_27 : decode cX10_subsNow 27 = .ok (.iaload, 1) := by decide +kernel
theorem dX10_subsNow_28 : decode cX10_subsNow 28 = .ok (.if_icmp .ge 50, 3) := by decide +kernel
theorem dX10_subsNow_31 : decode cX10_subsNow 31 = .ok (.iconst 0, 1) := by decide +kernel
theorem dX10_subsNow_32 : decode cX10_subsNow 32 = .ok (.istore 4, 2) := by decide +kernel
theorem dX10_subsNow_34 : decode cX10_subsNow 34 = .ok (.iload 4, 2) := by decide +kernel
theorem dX10_subsNow_36 : decode cX10_subsNow 36 = .ok (.aload_n 0, 1) := by decide +kernel
theorem dX10_subsNow_37 : decode cX10_subsNow 37 = .ok (.getfield 13, 3) := by decide +kernel
theorem dX10_subsNow_40 : decode cX10_subsNow 40 = .ok (.iconst 5, 1) := by decide +kernel
theorem dX10_subsNow_41 : decode cX10_subsNow 41 = .ok (.iload_n 1, 1) := by decide +kernel
theorem dX10_subsNow_42 : decode cX10_subsNow 42 = .ok (.iadd, 1) := by decide +kernel
theorem dX10_subsNow_43 : decode cX10_subsNow 43 = .ok (.iaload, 1) := by decide +kernel
theorem dX10_subsNow_44 : decode cX10_subsNow 44 = .ok (.if_icmp .ge 28, 3) := by decide +kernel
theorem dX10_subsNow_47 : decode cX10_subsNow 47 = .ok (.iload_n 2, 1) := by decide +kernel
theorem dX10_subsNow_48 : decode cX10_subsNow 48 = .ok (.aload_n 0, 1) := by decide +kernel
theorem dX10_subsNow_49 : decode cX10_subsNow 49 = .ok (.iload_n 1, 1) := by decide +kernel
theorem dX10_subsNow_50 : decode cX10_subsNow 50 = .ok (.iload_n 3, 1) := by decide +kernel
theorem dX10_subsNow_51 : decode cX10_subsNow 51 = .ok (.iload 4, 2) := by decide +kernel
theorem dX10_subsNow_53 : decode cX10_subsNow 53 = .ok (.invokevirtual 227, 3) := by decide +kernel
theorem dX10_subsNow_56 : decode cX10_subsNow 56 = .ok (.ifCond .ne 7, 3) := by decide +kernel
theorem dX10_subsNow_59 : decode cX10_subsNow 59 = .ok (.iconst 1, 1) := by decide +kernel
theorem dX10_subsNow_60 : decode cX10_subsNow 60 = .ok (.goto 4, 3) := by decide +kernel
theorem dX10_subsNow_63 : decode cX10_subsNow 63 = .ok (.iconst 0, 1) := by decide +kernel
theorem dX10_subsNow_64 : decode cX10_subsNow 64 = .ok (.iadd, 1) := by decide +kernel
theorem dX10_subsNow_65 : decode cX10_subsNow 65 = .ok (.istore_n 2, 1) := by decide +kernel
theorem dX10_subsNow_66 : decode cX10_subsNow 66 = .ok (.iinc 4 1, 3) := by decide +kernel
theorem dX10_subsNow_69 : decode cX10_subsNow 69 = .ok (.goto (-35), 3) := by decide +kernel
theorem dX10_subsNow_72 : decode cX10_subsNow 72 = .ok (.iinc 3 1, 3) := by decide +kernel
theorem dX10_subsNow_75 : decode cX10_subsNow 75 = .ok (.goto (-56), 3) := by decide +kernel
theorem dX10_subsNow_78 : decode cX10_subsNow 78 = .ok (.iload_n 2, 1) := by decide +kernel
theorem dX10_subsNow_79 : decode cX10_subsNow 79 = .ok (.ireturn, 1) := by decide +kernel
def fX10_subsNow_64 (k19 : Nat → Int32 → Int32 → Int32 → hp_T → Option (Int32 × hp_T)) (k34 : Nat → Int32 → Int32 → Int32 → Int32 → hp_T → Option (Int32 × hp_T)) (a0 : Nat) (a1 : Int32) (a3 : Int32) (a4 : Int32) (s0 : Int32) (s1 : Int32) (h : hp_T) : Option (Int32 × hp_T) := fx_let (s0 + s1) fun (x65 : Int32) => fx_let (a4 + (1 : Int32)) fun (x66 : Int32) => k34 a0 a1 x65 a3 x66 h
set_option maxRecDepth 100000 in
set_option maxHeartbeats 4000000 in
theorem bX10_subsNow_64 {l : Launch} {G : xr_G} {K : xr_K} {r : Int32} {h1 : hp_T} (C : xr_C G K cX10_subsNow RX10 5 (xr_R 4 93) (some .int) (some (xr_Qi G r h1))) (k19 : Nat → Int32 → Int32 → Int32 → hp_T → Option (Int32 × hp_T)) (j19 : ∀ (a0 : Nat) (a1 : Int32) (a2 : Int32) (a3 : Int32) (ta0 : hp_sh a0 = (10, 0)) (h : hp_T), k19 a0 a1 a2 a3 h = some (r, h1) → xr_j l G K 5 h [(0, .ref (G.2.2.1 a0)), (1, .int a1), (2, .int a2), (3, .int a3)] 19 []) (k34 : Nat → Int32 → Int32 → Int32 → Int32 → hp_T → Option (Int32 × hp_T)) (j34 : ∀ (a0 : Nat) (a1 : Int32) (a2 : Int32) (a3 : Int32) (a4 : Int32) (ta0 : hp_sh a0 = (10, 0)) (h : hp_T), k34 a0 a1 a2 a3 a4 h = some (r, h1) → xr_j l G K 5 h [(0, .ref (G.2.2.1 a0)), (1, .int a1), (2, .int a2), (3, .int a3), (4, .int a4)] 34 []) (a0 : Nat) (a1 : Int32) (a3 : Int32) (a4 : Int32) (s0 : Int32) (s1 : Int32) (ta0 : hp_sh a0 = (10, 0)) (h : hp_T) (hF : fX10_subsNow_64 k19 k34 a0 a1 a3 a4 s0 s1 h = some (r, h1)) : xr_j l G K 5 h [(0, .ref (G.2.2.1 a0)), (1, .int a1), (3, .int a3), (4, .int a4)] 64 [.int s1, .int s0] := by
  unfold fX10_subsNow_64 at hF
  refine xr_iadd C dX10_subsNow_64 ?_
  refine xr_topi (fun x65 e65 => ?_)
  have hF := fx_letE hF x65 e65
  refine xr_istore_n C [(2, .int x65), (0, .ref (G.2.2.1 a0)), (1, .int a1), (3, .int a3), (4, .int a4)] dX10_subsNow_65 rfl (Nat.le_of_ble_eq_true rfl) rfl ?_
  obtain ⟨x66, e66⟩ : ∃ y : Int32, y = (a4 + (1 : Int32)) := ⟨_, rfl⟩
  have hF := fx_letE hF x66 e66
  refine xr_iinc C x66 4 [(4, .int x66), (2, .int x65), (0, .ref (G.2.2.1 a0)), (1, .int a1), (3, .int a3)] dX10_subsNow_66 rfl (by rw [e66]; rfl) (Nat.le_of_ble_eq_true rfl) rfl ?_
  refine xr_goto C 34 dX10_subsNow_69 (by decide) ?_
  refine xr_sub [2, 3, 1, 4, 0] [(0, .ref (G.2.2.1 a0)), (1, .int a1), (2, .int x65), (3, .int a3), (4, .int x66)] rfl ?_
  exact j34 a0 a1 x65 a3 x66 ta0 h hF
def fX10_subsNow_34 (k19 : Nat → Int32 → Int32 → Int32 → hp_T → Option (Int32 × hp_T)) : Nat → Nat → Int32 → Int32 → Int32 → Int32 → hp_T → Option (Int32 × hp_T)
  | 0, _, _, _, _, _, _ => none
  | n + 1, a0, a1, a2, a3, a4, h => fx_g (fx_in ((5 : Int32) + a1) 117) (if (h.1 (h.2.2 a0 3) (fx_ix ((5 : Int32) + a1))) ≤ a4 then (fx_let (a3 + (1 : Int32)) fun (x72 : Int32) => k19 a0 a1 a2 x72 h) else (fx_b2 (fX10_wrongSub a0 a1 a3 a4 h) fun (r53 : Int32) (h53 : hp_T) => if r53 = 0 then (fX10_subsNow_64 k19 (fX10_subsNow_34 k19 n) a0 a1 a3 a4 a2 (1 : Int32) h53) else (fX10_subsNow_64 k19 (fX10_subsNow_34 k19 n) a0 a1 a3 a4 a2 (0 : Int32) h53)))
set_option maxRecDepth 100000 in
set_option maxHeartbeats 4000000 in
theorem bX10_subsNow_34 {l : Launch} {G : xr_G} {K : xr_K} {r : Int32} {h1 : hp_T} (C : xr_C G K cX10_subsNow RX10 5 (xr_R 4 93) (some .int) (some (xr_Qi G r h1))) (k19 : Nat → Int32 → Int32 → Int32 → hp_T → Option (Int32 × hp_T)) (j19 : ∀ (a0 : Nat) (a1 : Int32) (a2 : Int32) (a3 : Int32) (ta0 : hp_sh a0 = (10, 0)) (h : hp_T), k19 a0 a1 a2 a3 h = some (r, h1) → xr_j l G K 5 h [(0, .ref (G.2.2.1 a0)), (1, .int a1), (2, .int a2), (3, .int a3)] 19 []) : ∀ (n : Nat) (a0 : Nat) (a1 : Int32) (a2 : Int32) (a3 : Int32) (a4 : Int32) (ta0 : hp_sh a0 = (10, 0)) (h : hp_T), fX10_subsNow_34 k19 n a0 a1 a2 a3 a4 h = some (r, h1) → xr_j l G K 5 h [(0, .ref (G.2.2.1 a0)), (1, .int a1), (2, .int a2), (3, .int a3), (4, .int a4)] 34 [] := by
  intro n
  induction n with
  | zero =>
    intro a0 a1 a2 a3 a4 ta0 h hF
    cases hF
  | succ n ih =>
    intro a0 a1 a2 a3 a4 ta0 h hF
    rw [fX10_subsNow_34] at hF
    refine xr_iload C 4 dX10_subsNow_34 rfl ?_
    refine xr_aload_n C 0 dX10_subsNow_36 rfl rfl ?_
    refine xr_getr C flX10_13 rfl (by decide) dX10_subsNow_37 ta0 (fun t37 => ?_)
    refine xr_iconst (v := 5) C dX10_subsNow_40 (by decide) ?_
    refine xr_iload_n C 1 dX10_subsNow_41 rfl rfl ?_
    refine xr_iadd C dX10_subsNow_42 ?_
    obtain ⟨g43, hF⟩ := fx_gE hF
    refine xr_iald C dX10_subsNow_43 t37 g43 ?_
    refine xr_icmp_ge C 72 dX10_subsNow_44 (by decide) (fun c44 => ?_) (fun c44 => ?_)
    · have hF := fx_pos hF c44
      obtain ⟨x72, e72⟩ : ∃ y : Int32, y = (a3 + (1 : Int32)) := ⟨_, rfl⟩
      have hF := fx_letE hF x72 e72
      refine xr_iinc C x72 3 [(3, .int x72), (0, .ref (G.2.2.1 a0)), (1, .int a1), (2, .int a2), (4, .int a4)] dX10_subsNow_72 rfl (by rw [e72]; rfl) (Nat.le_of_ble_eq_true rfl) rfl ?_
      refine xr_goto C 19 dX10_subsNow_75 (by decide) ?_
      refine xr_sub [1, 2, 3, 0] [(0, .ref (G.2.2.1 a0)), (1, .int a1), (2, .int a2), (3, .int x72)] rfl ?_
      exact j19 a0 a1 a2 x72 ta0 h hF
    · have hF := fx_neg hF c44
      refine xr_iload_n C 2 dX10_subsNow_47 rfl rfl ?_
      refine xr_aload_n C 0 dX10_subsNow_48 rfl rfl ?_
      refine xr_iload_n C 1 dX10_subsNow_49 rfl rfl ?_
      refine xr_iload_n C 3 dX10_subsNow_50 rfl rfl ?_
      refine xr_iload C 4 dX10_subsNow_51 rfl ?_
      obtain ⟨r53, h53, e53, hF⟩ := fx_b2E hF
      refine xr_callVi C mvX10_227 [.int a1, .int a3, .int a4] [.int a2] (mX10_wrongSub l G a0 a1 a3 a4 ta0 h h53 r53 e53) ta0 (by decide) vc10 rfl ⟨rfl, rfl, (Nat.le_of_ble_eq_true rfl), (Nat.le_of_ble_eq_true rfl)⟩ rfl (Nat.le_of_ble_eq_true rfl) dX10_subsNow_53 ?_
      refine xr_if_ne C 63 dX10_subsNow_56 (by decide) (fun c56 => ?_) (fun c56 => ?_)
      · have hF := fx_neg hF c56
        refine xr_iconst (v := 0) C dX10_subsNow_63 (by decide) ?_
        refine xr_sub [0, 1, 3, 4] [(0, .ref (G.2.2.1 a0)), (1, .int a1), (3, .int a3), (4, .int a4)] rfl ?_
        exact bX10_subsNow_64 C k19 j19 (fX10_subsNow_34 k19 n) (fun a0 a1 a2 a3 a4 ta0 h hF => ih a0 a1 a2 a3 a4 ta0 h hF)  a0 a1 a3 a4 a2 (0 : Int32) ta0 h53 hF
      · have hF := fx_pos hF c56
        refine xr_iconst (v := 1) C dX10_subsNow_59 (by decide) ?_
        refine xr_goto C 64 dX10_subsNow_60 (by decide) ?_
        refine xr_sub [0, 1, 3, 4] [(0, .ref (G.2.2.1 a0)), (1, .int a1), (3, .int a3), (4, .int a4)] rfl ?_
        exact bX10_subsNow_64 C k19 j19 (fX10_subsNow_34 k19 n) (fun a0 a1 a2 a3 a4 ta0 h hF => ih a0 a1 a2 a3 a4 ta0 h hF)  a0 a1 a3 a4 a2 (1 : Int32) ta0 h53 hF
def fX10_subsNow_19  : Nat → Nat → Int32 → Int32 → Int32 → hp_T → Option (Int32 × hp_T)
  | 0, _, _, _, _, _ => none
  | n + 1, a0, a1, a2, a3, h => fx_g (fx_in ((5 : Int32) + a1) 117) (if (h.1 (h.2.2 a0 3) (fx_ix ((5 : Int32) + a1))) ≤ a3 then (some (a2, h)) else (fX10_subsNow_34 (fX10_subsNow_19 n) fx_N a0 a1 a2 a3 (0 : Int32) h))
set_option maxRecDepth 100000 in
set_option maxHeartbeats 4000000 in
theorem bX10_subsNow_19 {l : Launch} {G : xr_G} {K : xr_K} {r : Int32} {h1 : hp_T} (C : xr_C G K cX10_subsNow RX10 5 (xr_R 4 93) (some .int) (some (xr_Qi G r h1)))  : ∀ (n : Nat) (a0 : Nat) (a1 : Int32) (a2 : Int32) (a3 : Int32) (ta0 : hp_sh a0 = (10, 0)) (h : hp_T), fX10_subsNow_19 n a0 a1 a2 a3 h = some (r, h1) → xr_j l G K 5 h [(0, .ref (G.2.2.1 a0)), (1, .int a1), (2, .int a2), (3, .int a3)] 19 [] := by
  intro n
  induction n with
  | zero =>
    intro a0 a1 a2 a3 ta0 h hF
    cases hF
  | succ n ih =>
    intro a0 a1 a2 a3 ta0 h hF
    rw [fX10_subsNow_19] at hF
    refine xr_iload_n C 3 dX10_subsNow_19 rfl rfl ?_
    refine xr_aload_n C 0 dX10_subsNow_20 rfl rfl ?_
    refine xr_getr C flX10_13 rfl (by decide) dX10_subsNow_21 ta0 (fun t21 => ?_)
    refine xr_iconst (v := 5) C dX10_subsNow_24 (by decide) ?_
    refine xr_iload_n C 1 dX10_subsNow_25 rfl rfl ?_
    refine xr_iadd C dX10_subsNow_26 ?_
    obtain ⟨g27, hF⟩ := fx_gE hF
    refine xr_iald C dX10_subsNow_27 t21 g27 ?_
    refine xr_icmp_ge C 78 dX10_subsNow_28 (by decide) (fun c28 => ?_) (fun c28 => ?_)
    · have hF := fx_pos hF c28
      refine xr_iload_n C 2 dX10_subsNow_78 rfl rfl ?_
      cases hF
      exact xr_iret C dX10_subsNow_79
    · have hF := fx_neg hF c28
      refine xr_iconst (v := 0) C dX10_subsNow_31 (by decide) ?_
      refine xr_istore C [(4, .int (0 : Int32)), (0, .ref (G.2.2.1 a0)), (1, .int a1), (2, .int a2), (3, .int a3)] dX10_subsNow_32 (Nat.le_of_ble_eq_true rfl) rfl ?_
      refine xr_sub [1, 2, 3, 4, 0] [(0, .ref (G.2.2.1 a0)), (1, .int a1), (2, .int a2), (3, .int a3), (4, .int (0 : Int32))] rfl ?_
      exact bX10_subsNow_34 C (fX10_subsNow_19 n) (fun a0 a1 a2 a3 ta0 h hF => ih a0 a1 a2 a3 ta0 h hF) fx_N a0 a1 a2 a3 (0 : Int32) ta0 h hF
def fX10_subsNow (a0 : Nat) (a1 : Int32) (h : hp_T) : Option (Int32 × hp_T) := fx_let (hp_sI h a0 0 (0 : Int32)) fun (h2 : hp_T) => fx_b2 (fX10_isSide a0 a1 h2) fun (r7 : Int32) (h7 : hp_T) => if r7 = 0 then (some ((-1 : Int32), h7)) else (fX10_subsNow_19 fx_N a0 a1 (0 : Int32) (0 : Int32) h7)
set_option maxRecDepth 100000 in
set_option maxHeartbeats 4000000 in
theorem mX10_subsNow (l : Launch) (G : xr_G) (a0 : Nat) (a1 : Int32) (ta0 : hp_sh a0 = (10, 0)) (h h1 : hp_T) (r : Int32) (hF : fX10_subsNow a0 a1 h = some (r, h1)) : xr_M l G yX10_subsNow cX10_subsNow 5 (xr_R 4 93) (some .int) [.ref (G.2.2.1 a0), .int a1] h (xr_Qi G r h1) := by
  refine xr_start rfl (Nat.le_of_ble_eq_true rfl) (fun K C => ?_)
  show xr_j l G K 5 h [(0, .ref (G.2.2.1 a0)), (1, .int a1)] 0 []
  unfold fX10_subsNow at hF
  refine xr_aload_n C 0 dX10_subsNow_0 rfl rfl ?_
  refine xr_iconst (v := 0) C dX10_subsNow_1 (by decide) ?_
  refine xr_puti C fpX10_63 rfl rfl rfl dX10_subsNow_2 ta0 (fun h2 e2 => ?_)
  have hF := fx_letE hF h2 e2
  refine xr_aload_n C 0 dX10_subsNow_5 rfl rfl ?_
  refine xr_iload_n C 1 dX10_subsNow_6 rfl rfl ?_
  obtain ⟨r7, h7, e7, hF⟩ := fx_b2E hF
  refine xr_callVi C mvX10_180 [.int a1] [] (mX10_isSide l G a0 a1 ta0 h2 h7 r7 e7) ta0 (by decide) vc10 rfl ⟨rfl, rfl, (Nat.le_of_ble_eq_true rfl), (Nat.le_of_ble_eq_true rfl)⟩ rfl (Nat.le_of_ble_eq_true rfl) dX10_subsNow_7 ?_
  refine xr_if_ne C 15 dX10_subsNow_10 (by decide) (fun c10 => ?_) (fun c10 => ?_)
  · have hF := fx_neg hF c10
    refine xr_iconst (v := 0) C dX10_subsNow_15 (by decide) ?_
    refine xr_istore_n C [(2, .int (0 : Int32)), (0, .ref (G.2.2.1 a0)), (1, .int a1)] dX10_subsNow_16 rfl (Nat.le_of_ble_eq_true rfl) rfl ?_
    refine xr_iconst (v := 0) C dX10_subsNow_17 (by decide) ?_
    refine xr_istore_n C [(3, .int (0 : Int32)), (2, .int (0 : Int32)), (0, .ref (G.2.2.1 a0)), (1, .int a1)] dX10_subsNow_18 rfl (Nat.le_of_ble_eq_true rfl) rfl ?_
    refine xr_sub [2, 3, 1, 0] [(0, .ref (G.2.2.1 a0)), (1, .int a1), (2, .int (0 : Int32)), (3, .int (0 : Int32))] rfl ?_
    exact bX10_subsNow_19 C  fx_N a0 a1 (0 : Int32) (0 : Int32) ta0 h7 hF
  · have hF := fx_pos hF c10
    refine xr_iconst (v := -1) C dX10_subsNow_13 (by decide) ?_
    cases hF
    exact xr_iret C dX10_subsNow_14
theorem dX10_goesOn_0 : decode cX10_goesOn 0 = .ok (.aload_n 0, 1) := by decide +kernel
theorem dX10_goesOn_1 : decode cX10_goesOn 1 = .ok (.getfield 55, 3) := by decide +kernel
theorem dX10_goesOn_4 : decode cX10_goesOn 4 = .ok (.iload_n 1, 1) := by decide +kernel
theorem dX10_goesOn_5 : decode cX10_goesOn 5 = .ok (.iload_n 2, 1) := by decide +kernel
theorem dX10_goesOn_6 : decode cX10_goesOn 6 = .ok (.iload_n 3, 1) := by decide +kernel
theorem dX10_goesOn_7 : decode cX10_goesOn 7 = .ok (.iload 4, 2) := by decide +kernel
theorem dX10_goesOn_9 : decode cX10_goesOn 9 = .ok (.iload 5, 2) := by decide +kernel
theorem dX10_goesOn_11 : decode cX10_goesOn 11 = .ok (.invokestatic 270, 3) := by decide +kernel
theorem dX10_goesOn_14 : decode cX10_goesOn 14 = .ok (.laload, 1) := by decide +kernel
theorem dX10_goesOn_15 : decode cX10_goesOn 15 = .ok (.lstore 6, 2) := by decide +kernel
theorem dX10_goesOn_17 : decode cX10_goesOn 17 = .ok (.lload 6, 2) := by decide +kernel
theorem dX10_goesOn_19 : decode cX10_goesOn 19 = .ok (.lconst 0, 1) := by decide +kernel
theorem dX10_goesOn_20 : decode cX10_goesOn 20 = .ok (.lcmp, 1) := by decide +kernel
theorem dX10_goesOn_21 : decode cX10_goesOn 21 = .ok (.ifCond .ne 4, 3) := by decide +kernel
theorem dX10_goesOn_24 : decode cX10_goesOn 24 = .ok (.return_, 1) := by decide +kernel
theorem dX10_goesOn_25 : decode cX10_goesOn 25 = .ok (.lload 6, 2) := by decide +kernel
theorem dX10_goesOn_27 : decode cX10_goesOn 27 = .ok (.aload_n 0, 1) := by decide +kernel
theorem dX10_goesOn_28 : decode cX10_goesOn 28 = .ok (.getfield 52, 3) := by decide +kernel
theorem dX10_goesOn_31 : decode cX10_goesOn 31 = .ok (.bipush 12, 2) := by decide +kernel
theorem dX10_goesOn_33 : decode cX10_goesOn 33 = .ok (.iload_n 3, 1) := by decide +kernel
theorem dX10_goesOn_34 : decode cX10_goesOn 34 = .ok (.imul, 1) := by decide +kernel
theorem dX10_goesOn_35 : decode cX10_goesOn 35 = .ok (.iconst 2, 1) := by decide +kernel
theorem dX10_goesOn_36 : decode cX10_goesOn 36 = .ok (.iload 4, 2) := by decide +kernel
theorem dX10_goesOn_38 : decode cX10_goesOn 38 = .ok (.imul, 1) := by decide +kernel
theorem dX10_goesOn_39 : decode cX10_goesOn 39 = .ok (.iadd, 1) := by decide +kernel
theorem dX10_goesOn_40 : decode cX10_goesOn 40 = .ok (.iload 5, 2) := by decide +kernel
theorem dX10_goesOn_42 : decode cX10_goesOn 42 = .ok (.iadd, 1) := by decide +kernel
theorem dX10_goesOn_43 : decode cX10_goesOn 43 = .ok (.iaload, 1) := by decide +kernel
theorem dX10_goesOn_44 : decode cX10_goesOn 44 = .ok (.i2l, 1) := by decide +kernel
theorem dX10_goesOn_45 : decode cX10_goesOn 45 = .ok (.lmul, 1) := by decide +kernel
theorem dX10_goesOn_46 : decode cX10_goesOn 46 = .ok (.ldc2_w 272, 3) := by decide +kernel
theorem dX10_goesOn_49 : decode cX10_goesOn 49 = .ok (.ldiv, 1) := by decide +kernel
theorem dX10_goesOn_50 : decode cX10_goesOn 50 = .ok (.lstore 8, 2) := by decide +kernel
theorem dX10_goesOn_52 : decode cX10_goesOn 52 = .ok (.iload 5, 2) := by decide +kernel
theorem dX10_goesOn_54 : decode cX10_goesOn 54 = .ok (.ifCond .ne 17, 3) := by decide +kernel
theorem dX10_goesOn_57 : decode cX10_goesOn 57 = .ok (.iload_n 1, 1) := by decide +kernel
theorem dX10_goesOn_58 : decode cX10_goesOn 58 = .ok (.iconst 1, 1) := by decide +kernel
theorem dX10_goesOn_59 : decode cX10_goesOn 59 = .ok (.iadd, 1) := by decide +kernel
theorem dX10_goesOn_60 : decode cX10_goesOn 60 = .ok (.iload_n 2, 1) := by decide +kernel
theorem dX10_goesOn_61 : decode cX10_goesOn 61 = .ok (.iload_n 3, 1) := by decide +kernel
theorem dX10_goesOn_62 : decode cX10_goesOn 62 = .ok (.iload 4, 2) := by decide +kernel
theorem dX10_goesOn_64 : decode cX10_goesOn 64 = .ok (.iconst 0, 1) := by decide +kernel
theorem dX10_goesOn_65 : decode cX10_goesOn 65 = .ok (.invokestatic 270, 3) := by decide +kernel
theorem dX10_goesOn_68 : decode cX10_goesOn 68 = .ok (.goto 14, 3) := by decide +kernel
theorem dX10_goesOn_71 : decode cX10_goesOn 71 = .ok (.iload_n 1, 1) := by decide +kernel
theorem dX10_goesOn_72 : decode cX10_goesOn 72 = .ok (.iload_n 2, 1) := by decide +kernel
theorem dX10_goesOn_73 : decode cX10_goesOn 73 = .ok (.iconst 1, 1) := by decide +kernel
theorem dX10_goesOn_74 : decode cX10_goesOn 74 = .ok (.iadd, 1) := by decide +kernel
theorem dX10_goesOn_75 : decode cX10_goesOn 75 = .ok (.iload_n 3, 1) := by decide +kernel
theorem dX10_goesOn_76 : decode cX10_goesOn 76 = .ok (.iload 4, 2) := by decide +kernel
theorem dX10_goesOn_78 : decode cX10_goesOn 78 = .ok (.iconst 1, 1) := by decide +kernel
theorem dX10_goesOn_79 : decode cX10_goesOn 79 = .ok (.invokestatic 270, 3) := by decide +kernel
theorem dX10_goesOn_82 : decode cX10_goesOn 82 = .ok (.istore 10, 2) := by decide +kernel
theorem dX10_goesOn_84 : decode cX10_goesOn 84 = .ok (.iload 5, 2) := by decide +kernel
theorem dX10_goesOn_86 : decode cX10_goesOn 86 = .ok (.ifCond .ne 22, 3) := by decide +kernel
theorem dX10_goesOn_89 : decode cX10_goesOn 89 = .ok (.iload_n 1, 1) := by decide +kernel
theorem dX10_goesOn_90 : decode cX10_goesOn 90 = .ok (.iload_n 2, 1) := by decide +kernel
theorem dX10_goesOn_91 : decode cX10_goesOn 91 = .ok (.iconst 1, 1) := by decide +kernel
theorem dX10_goesOn_92 : decode cX10_goesOn 92 = .ok (.iadd, 1) := by decide +kernel
theorem dX10_goesOn_93 : decode cX10_goesOn 93 = .ok (.iload_n 3, 1) := by decide +kernel
theorem dX10_goesOn_94 : decode cX10_goesOn 94 = .ok (.iload 4, 2) := by decide +kernel
theorem dX10_goesOn_96 : decode cX10_goesOn 96 = .ok (.iconst 1, 1) := by decide +kernel
theorem dX10_goesOn_97 : decode cX10_goesOn 97 = .ok (.iadd, 1) := by decide +kernel
theorem dX10_goesOn_98 : decode cX10_goesOn 98 = .ok (.bipush 6, 2) := by decide +kernel
theorem dX10_goesOn_100 : decode cX10_goesOn 100 = .ok (.irem, 1) := by decide +kernel
theorem dX10_goesOn_101 : decode cX10_goesOn 101 = .ok (.iconst 1, 1) := by decide +kernel
theorem dX10_goesOn_102 : decode cX10_goesOn 102 = .ok (.invokestatic 270, 3) := by decide +kernel
theorem dX10_goesOn_105 : decode cX10_goesOn 105 = .ok (.goto 19, 3) := by decide +kernel
theorem dX10_goesOn_108 : decode cX10_goesOn 108 = .ok (.iload_n 1, 1) := by decide +kernel
theorem dX10_goesOn_109 : decode cX10_goesOn 109 = .ok (.iconst 1, 1) := by decide +kernel
theorem dX10_goesOn_110 : decode cX10_goesOn 110 = .ok (.iadd, 1) := by decide +kernel
theorem dX10_goesOn_111 : decode cX10_goesOn 111 = .ok (.iload_n 2, 1) := by decide +kernel
theorem dX10_goesOn_112 : decode cX10_goesOn 112 = .ok (.iload_n 3, 1) := by decide +kernel
theorem dX10_goesOn_113 : decode cX10_goesOn 113 = .ok (.iconst 1, 1) := by decide +kernel
theorem dX10_goesOn_114 : decode cX10_goesOn 114 = .ok (.iadd, 1) := by decide +kernel
theorem dX10_goesOn_115 : decode cX10_goesOn 115 = .ok (.bipush 6, 2) := by decide +kernel
theorem dX10_goesOn_117 : decode cX10_goesOn 117 = .ok (.irem, 1) := by decide +kernel
theorem dX10_goesOn_118 : decode cX10_goesOn 118 = .ok (.iload 4, 2) := by decide +kernel
theorem dX10_goesOn_120 : decode cX10_goesOn 120 = .ok (.iconst 0, 1) := by decide +kernel
theorem dX10_goesOn_121 : decode cX10_goesOn 121 = .ok (.invokestatic 270, 3) := by decide +kernel
theorem dX10_goesOn_124 : decode cX10_goesOn 124 = .ok (.istore 11, 2) := by decide +kernel
theorem dX10_goesOn_126 : decode cX10_goesOn 126 = .ok (.aload_n 0, 1) := by decide +kernel
theorem dX10_goesOn_127 : decode cX10_goesOn 127 = .ok (.getfield 55, 3) := by decide +kernel
theorem dX10_goesOn_130 : decode cX10_goesOn 130 = .ok (.iload 10, 2) := by decide +kernel
theorem dX10_goesOn_132 : decode cX10_goesOn 132 = .ok (.dup2, 1) := by decide +kernel
theorem dX10_goesOn_133 : decode cX10_goesOn 133 = .ok (.laload, 1) := by decide +kernel
theorem dX10_goesOn_134 : decode cX10_goesOn 134 = .ok (.lload 8, 2) := by decide +kernel
theorem dX10_goesOn_136 : decode cX10_goesOn 136 = .ok (.ladd, 1) := by decide +kernel
theorem dX10_goesOn_137 : decode cX10_goesOn 137 = .ok (.lastore, 1) := by decide +kernel
theorem dX10_goesOn_138 : decode cX10_goesOn 138 = .ok (.aload_n 0, 1) := by decide +kernel
theorem dX10_goesOn_139 : decode cX10_goesOn 139 = .ok (.getfield 55, 3) := by decide +kernel
theorem dX10_goesOn_142 : decode cX10_goesOn 142 = .ok (.iload 11, 2) := by decide +kernel
theorem dX10_goesOn_144 : decode cX10_goesOn 144 = .ok (.dup2, 1) := by decide +kernel
theorem dX10_goesOn_145 : decode cX10_goesOn 145 = .ok (.laload, 1) := by decide +kernel
theorem dX10_goesOn_146 : decode cX10_goesOn 146 = .ok (.lload 6, 2) := by decide +kernel
theorem dX10_goesOn_148 : decode cX10_goesOn 148 = .ok (.lload 8, 2) := by decide +kernel
theorem dX10_goesOn_150 : decode cX10_goesOn 150 = .ok (.lsub, 1) := by decide +kernel
theorem dX10_goesOn_151 : decode cX10_goesOn 151 = .ok (.ladd, 1) := by decide +kernel
theorem dX10_goesOn_152 : decode cX10_goesOn 152 = .ok (.lastore, 1) := by decide +kernel
theorem dX10_goesOn_153 : decode cX10_goesOn 153 = .ok (.return_, 1) := by decide +kernel
def fX10_goesOn_124  (a0 : Nat) (a6 : Int64) (a8 : Int64) (a10 : Int32) (s0 : Int32) (h : hp_T) : Option hp_T := fx_g (fx_in a10 48672) (fx_g (fx_in a10 48672) (fx_let (hp_sL h (h.2.2 a0 27) (fx_ix a10) ((h.2.1 (h.2.2 a0 27) (fx_ix a10)) + a8)) fun (h137 : hp_T) => fx_g (fx_in s0 48672) (fx_g (fx_in s0 48672) (fx_let (hp_sL h137 (h137.2.2 a0 27) (fx_ix s0) ((h137.2.1 (h137.2.2 a0 27) (fx_ix s0)) + (a6 - a8))) fun (h152 : hp_T) => some h152))))
set_option maxRecDepth 100000 in
set_option maxHeartbeats 4000000 in
theorem bX10_goesOn_124 {l : Launch} {G : xr_G} {K : xr_K} {h1 : hp_T} (C : xr_C G K cX10_goesOn RX10 12 (xr_R 1 24) none (some (xr_Qv G h1)))  (a0 : Nat) (a6 : Int64) (a8 : Int64) (a10 : Int32) (s0 : Int32) (ta0 : hp_sh a0 = (10, 0)) (h : hp_T) (hF : fX10_goesOn_124 a0 a6 a8 a10 s0 h = some h1) : xr_j l G K 12 h [(0, .ref (G.2.2.1 a0)), (6, .long a6), (8, .long a8), (10, .int a10)] 124 [.int s0] := by
  unfold fX10_goesOn_124 at hF
  refine xr_istore C [(11, .int s0), (0, .ref (G.2.2.1 a0)), (6, .long a6), (8, .long a8), (10, .int a10)] dX10_goesOn_124 (Nat.le_of_ble_eq_true rfl) rfl ?_
  refine xr_aload_n C 1 dX10_goesOn_126 rfl rfl ?_
  refine xr_getr C flX10_55 rfl (by decide) dX10_goesOn_127 ta0 (fun t127 => ?_)
  refine xr_iload C 4 dX10_goesOn_130 rfl ?_
  refine xr_dup2 C dX10_goesOn_132 rfl rfl ?_
  obtain ⟨g133, hF⟩ := fx_gE hF
  refine xr_lald C dX10_goesOn_133 t127 g133 ?_
  refine xr_lload C 3 dX10_goesOn_134 rfl ?_
  refine xr_ladd C dX10_goesOn_136 ?_
  obtain ⟨g137, hF⟩ := fx_gE hF
  refine xr_last C dX10_goesOn_137 t127 g137 (fun h137 e137 => ?_)
  have hF := fx_letE hF h137 e137
  refine xr_aload_n C 1 dX10_goesOn_138 rfl rfl ?_
  refine xr_getr C flX10_55 rfl (by decide) dX10_goesOn_139 ta0 (fun t139 => ?_)
  refine xr_iload C 0 dX10_goesOn_142 rfl ?_
  refine xr_dup2 C dX10_goesOn_144 rfl rfl ?_
  obtain ⟨g145, hF⟩ := fx_gE hF
  refine xr_lald C dX10_goesOn_145 t139 g145 ?_
  refine xr_lload C 2 dX10_goesOn_146 rfl ?_
  refine xr_lload C 3 dX10_goesOn_148 rfl ?_
  refine xr_lsub C dX10_goesOn_150 ?_
  refine xr_ladd C dX10_goesOn_151 ?_
  obtain ⟨g152, hF⟩ := fx_gE hF
  refine xr_last C dX10_goesOn_152 t139 g152 (fun h152 e152 => ?_)
  have hF := fx_letE hF h152 e152
  cases hF
  exact xr_vret C dX10_goesOn_153
def fX10_goesOn_82  (a0 : Nat) (a1 : Int32) (a2 : Int32) (a3 : Int32) (a4 : Int32) (a5 : Int32) (a6 : Int64) (a8 : Int64) (s0 : Int32) (h : hp_T) : Option hp_T := if a5 = 0 then (fx_b2 (fX10_at a1 (a2 + (1 : Int32)) a3 (fx_rem (a4 + (1 : Int32)) (6 : Int32)) (1 : Int32) h) fun (r102 : Int32) (h102 : hp_T) => fX10_goesOn_124 a0 a6 a8 s0 r102 h102) else (fx_b2 (fX10_at (a1 + (1 : Int32)) a2 (fx_rem (a3 + (1 : Int32)) (6 : Int32)) a4 (0 : Int32) h) fun (r121 : Int32) (h121 : hp_T) => fX10_goesOn_124 a0 a6 a8 s0 r121 h121)
set_option maxRecDepth 100000 in
set_option maxHeartbeats 4000000 in
theorem bX10_goesOn_82 {l : Launch} {G : xr_G} {K : xr_K} {h1 : hp_T} (C : xr_C G K cX10_goesOn RX10 12 (xr_R 1 24) none (some (xr_Qv G h1)))  (a0 : Nat) (a1 : Int32) (a2 : Int32) (a3 : Int32) (a4 : Int32) (a5 : Int32) (a6 : Int64) (a8 : Int64) (s0 : Int32) (ta0 : hp_sh a0 = (10, 0)) (h : hp_T) (hF : fX10_goesOn_82 a0 a1 a2 a3 a4 a5 a6 a8 s0 h = some h1) : xr_j l G K 12 h [(0, .ref (G.2.2.1 a0)), (1, .int a1), (2, .int a2), (3, .int a3), (4, .int a4), (5, .int a5), (6, .long a6), (8, .long a8)] 82 [.int s0] := by
  unfold fX10_goesOn_82 at hF
  refine xr_istore C [(10, .int s0), (0, .ref (G.2.2.1 a0)), (1, .int a1), (2, .int a2), (3, .int a3), (4, .int a4), (5, .int a5), (6, .long a6), (8, .long a8)] dX10_goesOn_82 (Nat.le_of_ble_eq_true rfl) rfl ?_
  refine xr_iload C 6 dX10_goesOn_84 rfl ?_
  refine xr_if_ne C 108 dX10_goesOn_86 (by decide) (fun c86 => ?_) (fun c86 => ?_)
  · have hF := fx_neg hF c86
    refine xr_iload_n C 2 dX10_goesOn_108 rfl rfl ?_
    refine xr_iconst (v := 1) C dX10_goesOn_109 (by decide) ?_
    refine xr_iadd C dX10_goesOn_110 ?_
    refine xr_iload_n C 3 dX10_goesOn_111 rfl rfl ?_
    refine xr_iload_n C 4 dX10_goesOn_112 rfl rfl ?_
    refine xr_iconst (v := 1) C dX10_goesOn_113 (by decide) ?_
    refine xr_iadd C dX10_goesOn_114 ?_
    refine xr_bipush (v := 6) C dX10_goesOn_115 (by decide) ?_
    refine xr_irem C dX10_goesOn_117 (by decide) ?_
    refine xr_iload C 5 dX10_goesOn_118 rfl ?_
    refine xr_iconst (v := 0) C dX10_goesOn_120 (by decide) ?_
    obtain ⟨r121, h121, e121, hF⟩ := fx_b2E hF
    refine xr_callSi C mvX10_270 [.int (a1 + (1 : Int32)), .int a2, .int (fx_rem (a3 + (1 : Int32)) (6 : Int32)), .int a4, .int (0 : Int32)] [] (mX10_at l G (a1 + (1 : Int32)) a2 (fx_rem (a3 + (1 : Int32)) (6 : Int32)) a4 (0 : Int32)  h h121 r121 e121) rfl ⟨rfl, rfl, (Nat.le_of_ble_eq_true rfl), (Nat.le_of_ble_eq_true rfl)⟩ rfl (Nat.le_of_ble_eq_true rfl) dX10_goesOn_121 ?_
    refine xr_sub [1, 7, 8, 0] [(0, .ref (G.2.2.1 a0)), (6, .long a6), (8, .long a8), (10, .int s0)] rfl ?_
    exact bX10_goesOn_124 C   a0 a6 a8 s0 r121 ta0 h121 hF
  · have hF := fx_pos hF c86
    refine xr_iload_n C 2 dX10_goesOn_89 rfl rfl ?_
    refine xr_iload_n C 3 dX10_goesOn_90 rfl rfl ?_
    refine xr_iconst (v := 1) C dX10_goesOn_91 (by decide) ?_
    refine xr_iadd C dX10_goesOn_92 ?_
    refine xr_iload_n C 4 dX10_goesOn_93 rfl rfl ?_
    refine xr_iload C 5 dX10_goesOn_94 rfl ?_
    refine xr_iconst (v := 1) C dX10_goesOn_96 (by decide) ?_
    refine xr_iadd C dX10_goesOn_97 ?_
    refine xr_bipush (v := 6) C dX10_goesOn_98 (by decide) ?_
    refine xr_irem C dX10_goesOn_100 (by decide) ?_
    refine xr_iconst (v := 1) C dX10_goesOn_101 (by decide) ?_
    obtain ⟨r102, h102, e102, hF⟩ := fx_b2E hF
    refine xr_callSi C mvX10_270 [.int a1, .int (a2 + (1 : Int32)), .int a3, .int (fx_rem (a4 + (1 : Int32)) (6 : Int32)), .int (1 : Int32)] [] (mX10_at l G a1 (a2 + (1 : Int32)) a3 (fx_rem (a4 + (1 : Int32)) (6 : Int32)) (1 : Int32)  h h102 r102 e102) rfl ⟨rfl, rfl, (Nat.le_of_ble_eq_true rfl), (Nat.le_of_ble_eq_true rfl)⟩ rfl (Nat.le_of_ble_eq_true rfl) dX10_goesOn_102 ?_
    refine xr_goto C 124 dX10_goesOn_105 (by decide) ?_
    refine xr_sub [1, 7, 8, 0] [(0, .ref (G.2.2.1 a0)), (6, .long a6), (8, .long a8), (10, .int s0)] rfl ?_
    exact bX10_goesOn_124 C   a0 a6 a8 s0 r102 ta0 h102 hF
def fX10_goesOn (a0 : Nat) (a1 : Int32) (a2 : Int32) (a3 : Int32) (a4 : Int32) (a5 : Int32) (h : hp_T) : Option hp_T := fx_b2 (fX10_at a1 a2 a3 a4 a5 h) fun (r11 : Int32) (h11 : hp_T) => fx_g (fx_in r11 48672) (fx_let (h11.2.1 (h.2.2 a0 27) (fx_ix r11)) fun (x15 : Int64) => if (lg_cmp x15 (0 : Int64)) = 0 then (some h11) else (fx_g (fx_in ((((12 : Int32) * a3) + ((2 : Int32) * a4)) + a5) 72) (fx_let ((x15 * (Int32.toInt64 (h11.1 (h11.2.2 a0 26) (fx_ix ((((12 : Int32) * a3) + ((2 : Int32) * a4)) + a5))))) / (1000 : Int64)) fun (x50 : Int64) => if a5 = 0 then (fx_b2 (fX10_at (a1 + (1 : Int32)) a2 a3 a4 (0 : Int32) h11) fun (r65 : Int32) (h65 : hp_T) => fX10_goesOn_82 a0 a1 a2 a3 a4 a5 x15 x50 r65 h65) else (fx_b2 (fX10_at a1 (a2 + (1 : Int32)) a3 a4 (1 : Int32) h11) fun (r79 : Int32) (h79 : hp_T) => fX10_goesOn_82 a0 a1 a2 a3 a4 a5 x15 x50 r79 h79))))
set_option maxRecDepth 100000 in
set_option maxHeartbeats 4000000 in
theorem mX10_goesOn (l : Launch) (G : xr_G) (a0 : Nat) (a1 : Int32) (a2 : Int32) (a3 : Int32) (a4 : Int32) (a5 : Int32) (ta0 : hp_sh a0 = (10, 0)) (h h1 : hp_T) (hF : fX10_goesOn a0 a1 a2 a3 a4 a5 h = some h1) : xr_M l G yX10_goesOn cX10_goesOn 12 (xr_R 1 24) none [.ref (G.2.2.1 a0), .int a1, .int a2, .int a3, .int a4, .int a5] h (xr_Qv G h1) := by
  refine xr_start rfl (Nat.le_of_ble_eq_true rfl) (fun K C => ?_)
  show xr_j l G K 12 h [(0, .ref (G.2.2.1 a0)), (1, .int a1), (2, .int a2), (3, .int a3), (4, .int a4), (5, .int a5)] 0 []
  unfold fX10_goesOn at hF
  refine xr_aload_n C 0 dX10_goesOn_0 rfl rfl ?_
  refine xr_getr C flX10_55 rfl (by decide) dX10_goesOn_1 ta0 (fun t1 => ?_)
  refine xr_iload_n C 1 dX10_goesOn_4 rfl rfl ?_
  refine xr_iload_n C 2 dX10_goesOn_5 rfl rfl ?_
  refine xr_iload_n C 3 dX10_goesOn_6 rfl rfl ?_
  refine xr_iload C 4 dX10_goesOn_7 rfl ?_
  refine xr_iload C 5 dX10_goesOn_9 rfl ?_
  obtain ⟨r11, h11, e11, hF⟩ := fx_b2E hF
  refine xr_callSi C mvX10_270 [.int a1, .int a2, .int a3, .int a4, .int a5] [.ref (G.2.2.1 (h.2.2 a0 27))] (mX10_at l G a1 a2 a3 a4 a5  h h11 r11 e11) rfl ⟨rfl, rfl, (Nat.le_of_ble_eq_true rfl), (Nat.le_of_ble_eq_true rfl)⟩ rfl (Nat.le_of_ble_eq_true rfl) dX10_goesOn_11 ?_
  obtain ⟨g14, hF⟩ := fx_gE hF
  refine xr_lald C dX10_goesOn_14 t1 g14 ?_
  refine xr_topl (fun x15 e15 => ?_)
  have hF := fx_letE hF x15 e15
  refine xr_lstore C [(6, .long x15), (0, .ref (G.2.2.1 a0)), (1, .int a1), (2, .int a2), (3, .int a3), (4, .int a4), (5, .int a5)] dX10_goesOn_15 (Nat.le_of_ble_eq_true rfl) rfl ?_
  refine xr_lload C 0 dX10_goesOn_17 rfl ?_
  refine xr_lconst (v := 0) C dX10_goesOn_19 (by decide) ?_
  refine xr_lcmp C dX10_goesOn_20 ?_
  refine xr_if_ne C 25 dX10_goesOn_21 (by decide) (fun c21 => ?_) (fun c21 => ?_)
  · have hF := fx_neg hF c21
    refine xr_lload C 0 dX10_goesOn_25 rfl ?_
    refine xr_aload_n C 1 dX10_goesOn_27 rfl rfl ?_
    refine xr_getr C flX10_52 rfl (by decide) dX10_goesOn_28 ta0 (fun t28 => ?_)
    refine xr_bipush (v := 12) C dX10_goesOn_31 (by decide) ?_
    refine xr_iload_n C 4 dX10_goesOn_33 rfl rfl ?_
    refine xr_imul C dX10_goesOn_34 ?_
    refine xr_iconst (v := 2) C dX10_goesOn_35 (by decide) ?_
    refine xr_iload C 5 dX10_goesOn_36 rfl ?_
    refine xr_imul C dX10_goesOn_38 ?_
    refine xr_iadd C dX10_goesOn_39 ?_
    refine xr_iload C 6 dX10_goesOn_40 rfl ?_
    refine xr_iadd C dX10_goesOn_42 ?_
    obtain ⟨g43, hF⟩ := fx_gE hF
    refine xr_iald C dX10_goesOn_43 t28 g43 ?_
    refine xr_i2l C dX10_goesOn_44 ?_
    refine xr_lmul C dX10_goesOn_45 ?_
    refine xr_ldc2 C klX10_272 dX10_goesOn_46 ?_
    refine xr_ldiv C dX10_goesOn_49 (by decide) ?_
    refine xr_topl (fun x50 e50 => ?_)
    have hF := fx_letE hF x50 e50
    refine xr_lstore C [(8, .long x50), (6, .long x15), (0, .ref (G.2.2.1 a0)), (1, .int a1), (2, .int a2), (3, .int a3), (4, .int a4), (5, .int a5)] dX10_goesOn_50 (Nat.le_of_ble_eq_true rfl) rfl ?_
    refine xr_iload C 7 dX10_goesOn_52 rfl ?_
    refine xr_if_ne C 71 dX10_goesOn_54 (by decide) (fun c54 => ?_) (fun c54 => ?_)
    · have hF := fx_neg hF c54
      refine xr_iload_n C 3 dX10_goesOn_71 rfl rfl ?_
      refine xr_iload_n C 4 dX10_goesOn_72 rfl rfl ?_
      refine xr_iconst (v := 1) C dX10_goesOn_73 (by decide) ?_
      refine xr_iadd C dX10_goesOn_74 ?_
      refine xr_iload_n C 5 dX10_goesOn_75 rfl rfl ?_
      refine xr_iload C 6 dX10_goesOn_76 rfl ?_
      refine xr_iconst (v := 1) C dX10_goesOn_78 (by decide) ?_
      obtain ⟨r79, h79, e79, hF⟩ := fx_b2E hF
      refine xr_callSi C mvX10_270 [.int a1, .int (a2 + (1 : Int32)), .int a3, .int a4, .int (1 : Int32)] [] (mX10_at l G a1 (a2 + (1 : Int32)) a3 a4 (1 : Int32)  h11 h79 r79 e79) rfl ⟨rfl, rfl, (Nat.le_of_ble_eq_true rfl), (Nat.le_of_ble_eq_true rfl)⟩ rfl (Nat.le_of_ble_eq_true rfl) dX10_goesOn_79 ?_
      refine xr_sub [2, 3, 4, 5, 6, 7, 1, 0] [(0, .ref (G.2.2.1 a0)), (1, .int a1), (2, .int a2), (3, .int a3), (4, .int a4), (5, .int a5), (6, .long x15), (8, .long x50)] rfl ?_
      exact bX10_goesOn_82 C   a0 a1 a2 a3 a4 a5 x15 x50 r79 ta0 h79 hF
    · have hF := fx_pos hF c54
      refine xr_iload_n C 3 dX10_goesOn_57 rfl rfl ?_
      refine xr_iconst (v := 1) C dX10_goesOn_58 (by decide) ?_
      refine xr_iadd C dX10_goesOn_59 ?_
      refine xr_iload_n C 4 dX10_goesOn_60 rfl rfl ?_
      refine xr_iload_n C 5 dX10_goesOn_61 rfl rfl ?_
      refine xr_iload C 6 dX10_goesOn_62 rfl ?_
      refine xr_iconst (v := 0) C dX10_goesOn_64 (by decide) ?_
      obtain ⟨r65, h65, e65, hF⟩ := fx_b2E hF
      refine xr_callSi C mvX10_270 [.int (a1 + (1 : Int32)), .int a2, .int a3, .int a4, .int (0 : Int32)] [] (mX10_at l G (a1 + (1 : Int32)) a2 a3 a4 (0 : Int32)  h11 h65 r65 e65) rfl ⟨rfl, rfl, (Nat.le_of_ble_eq_true rfl), (Nat.le_of_ble_eq_true rfl)⟩ rfl (Nat.le_of_ble_eq_true rfl) dX10_goesOn_65 ?_
      refine xr_goto C 82 dX10_goesOn_68 (by decide) ?_
      refine xr_sub [2, 3, 4, 5, 6, 7, 1, 0] [(0, .ref (G.2.2.1 a0)), (1, .int a1), (2, .int a2), (3, .int a3), (4, .int a4), (5, .int a5), (6, .long x15), (8, .long x50)] rfl ?_
      exact bX10_goesOn_82 C   a0 a1 a2 a3 a4 a5 x15 x50 r65 ta0 h65 hF
  · have hF := fx_pos hF c21
    cases hF
    exact xr_vret C dX10_goesOn_24
theorem dX10_laysWays_0 : decode cX10_laysWays 0 = .ok (.aload_n 0, 1) := by decide +kernel
theorem dX10_laysWays_1 : decode cX10_laysWays 1 = .ok (.invokevirtual 262, 3) := by decide +kernel
theorem dX10_laysWays_4 : decode cX10_laysWays 4 = .ok (.iconst 0, 1) := by decide +kernel
theorem dX10_laysWays_5 : decode cX10_laysWays 5 = .ok (.istore_n 1, 1) := by decide +kernel
theorem dX10_laysWays_6 : decode cX10_laysWays 6 = .ok (.iload_n 1, 1) := by decide +kernel
theorem dX10_laysWays_7 : decode cX10_laysWays 7 = .ok (.bipush 72, 2) := by decide +kernel
theorem dX10_laysWays_9 : decode cX10_laysWays 9 = .ok (.if_icmp .ge 32, 3) := by decide +kernel
theorem dX10_laysWays_12 : decode cX10_laysWays 12 = .ok (.aload_n 0, 1) := by decide +kernel
theorem dX10_laysWays_13 : decode cX10_laysWays 13 = .ok (.getfield 52, 3) := by decide +kernel
theorem dX10_laysWays_16 : decode cX10_laysWays 16 = .ok (.iload_n 1, 1) := by decide +kernel
theorem dX10_laysWays_17 : decode cX10_laysWays 17 = .ok (.aload_n 0, 1) := by decide +kernel
theorem dX10_laysWays_18 : decode cX10_laysWays 18 = .ok (.iload_n 1, 1) := by decide +kernel
theorem dX10_laysWays_19 : decode cX10_laysWays 19 = .ok (.bipush 12, 2) := by decide +kernel
theorem dX10_laysWays_21 : decode cX10_laysWays 21 = .ok (.idiv, 1) := by decide +kernel
theorem dX10_laysWays_22 : decode cX10_laysWays 22 = .ok (.iload_n 1, 1) := by decide +kernel
theorem dX10_laysWays_23 : decode cX10_laysWays 23 = .ok (.iconst 2, 1) := by decide +kernel
theorem dX10_laysWays_24 : decode cX10_laysWays 24 = .ok (.idiv, 1) := by decide +kernel
theorem dX10_laysWays_25 : decode cX10_laysWays 25 = .ok (.bipush 6, 2) := by decide +kernel
theorem dX10_laysWays_27 : decode cX10_laysWays 27 = .ok (.irem, 1) := by decide +kernel
theorem dX10_laysWays_28 : decode cX10_laysWays 28 = .ok (.iload_n 1, 1) := by decide +kernel
theorem dX10_laysWays_29 : decode cX10_laysWays 29 = .ok (.iconst 2, 1) := by decide +kernel
theorem dX10_laysWays_30 : decode cX10_laysWays 30 = .ok (.irem, 1) := by decide +kernel
theorem dX10_laysWays_31 : decode cX10_laysWays 31 = .ok (.invokevirtual 256, 3) := by decide +kernel
theorem dX10_laysWays_34 : decode cX10_laysWays 34 = .ok (.iastore, 1) := by decide +kernel
theorem dX10_laysWays_35 : decode cX10_laysWays 35 = .ok (.iinc 1 1, 3) := by decide +kernel
theorem dX10_laysWays_38 : decode cX10_laysWays 38 = .ok (.goto (-32), 3) := by decide +kernel
theorem dX10_laysWays_41 : decode cX10_laysWays 41 = .ok (.iconst 0, 1) := by decide +kernel
theorem dX10_laysWays_42 : decode cX10_laysWays 42 = .ok (.istore_n 1, 1) := by decide +kernel
theorem dX10_laysWays_43 : decode cX10_laysWays 43 = .ok (.iload_n 1, 1) := by decide +kernel
theorem dX10_laysWays_44 : decode cX10_laysWays 44 = .ok (.ldc 48, 2) := by decide +kernel
theorem dX10_laysWays_46 : decode cX10_laysWays 46 = .ok (.if_icmp .ge 16, 3) := by decide +kernel
theorem dX10_laysWays_49 : decode cX10_laysWays 49 = .ok (.aload_n 0, 1) := by decide +kernel
theorem dX10_laysWays_50 : decode cX10_laysWays 50 = .ok (.getfield 55, 3) := by decide +kernel
theorem dX10_laysWays_53 : decode cX10_laysWays 53 = .ok (.iload_n 1, 1) := by decide +kernel
theorem dX10_laysWays_54 : decode cX10_laysWays 54 = .ok (.lconst 0, 1) := by decide +kernel
theorem dX10_laysWays_55 : decode cX10_laysWays 55 = .ok (.lastore, 1) := by decide +kernel
theorem dX10_laysWays_56 : decode cX10_laysWays 56 = .ok (.iinc 1 1, 3) := by decide +kernel
theorem dX10_laysWays_59 : decode cX10_laysWays 59 = .ok (.goto (-16), 3) := by decide +kernel
theorem dX10_laysWays_62 : decode cX10_laysWays 62 = .ok (.aload_n 0, 1) := by decide +kernel
theorem dX10_laysWays_63 : decode cX10_laysWays 63 = .ok (.getfield 55, 3) := by decide +kernel
theorem dX10_laysWays_66 : decode cX10_laysWays 66 = .ok (.aload_n 0, 1) := by decide +kernel
theorem dX10_laysWays_67 : decode cX10_laysWays 67 = .ok (.getfield 36, 3) := by decide +kernel
theorem dX10_laysWays_70 : decode cX10_laysWays 70 = .ok (.iconst 0, 1) := by decide +kernel
theorem dX10_laysWays_71 : decode cX10_laysWays 71 = .ok (.iaload, 1) := by decide +kernel
theorem dX10_laysWays_72 : decode cX10_laysWays 72 = .ok (.aload_n 0, 1) := by decide +kernel
theorem dX10_laysWays_73 : decode cX10_laysWays 73 = .ok (.getfield 36, 3) := by decide +kernel
theorem dX10_laysWays_76 : decode cX10_laysWays 76 = .ok (.iconst 1, 1) := by decide +kernel
theorem dX10_laysWays_77 : decode cX10_laysWays 77 = .ok (.iaload, 1) := by decide +kernel
theorem dX10_laysWays_78 : decode cX10_laysWays 78 = .ok (.iconst 0, 1) := by decide +kernel
theorem dX10_laysWays_79 : decode cX10_laysWays 79 = .ok (.iconst 0, 1) := by decide +kernel
theorem dX10_laysWays_80 : decode cX10_laysWays 80 = .ok (.aload_n 0, 1) := by decide +kernel
theorem dX10_laysWays_81 : decode cX10_laysWays 81 = .ok (.getfield 36, 3) := by decide +kernel
theorem dX10_laysWays_84 : decode cX10_laysWays 84 = .ok (.iconst 2, 1) := by decide +kernel
theorem dX10_laysWays_85 : decode cX10_laysWays 85 = .ok (.iaload, 1) := by decide +kernel
theorem dX10_laysWays_86 : decode cX10_laysWays 86 = .ok (.invokestatic 270, 3) := by decide +kernel
theorem dX10_laysWays_89 : decode cX10_laysWays 89 = .ok (.ldc2_w 313, 3) := by decide +kernel
theorem dX10_laysWays_92 : decode cX10_laysWays 92 = .ok (.lastore, 1) := by decide +kernel
theorem dX10_laysWays_93 : decode cX10_laysWays 93 = .ok (.aload_n 0, 1) := by decide +kernel
theorem dX10_laysWays_94 : decode cX10_laysWays 94 = .ok (.getfield 36, 3) := by decide +kernel
theorem dX10_laysWays_97 : decode cX10_laysWays 97 = .ok (.iconst 0, 1) := by decide +kernel
theorem dX10_laysWays_98 : decode cX10_laysWays 98 = .ok (.iaload, 1) := by decide +kernel
theorem dX10_laysWays_99 : decode cX10_laysWays 99 = .ok (.istore_n 1, 1) := by decide +kernel
theorem dX10_laysWays_100 : decode cX10_laysWays 100 = .ok (.iload_n 1, 1) := by decide +kernel
theorem dX10_laysWays_101 : decode cX10_laysWays 101 = .ok (.aload_n 0, 1) := by decide +kernel
theorem dX10_laysWays_102 : decode cX10_laysWays 102 = .ok (.getfield 13, 3) := by decide +kernel
theorem dX10_laysWays_105 : decode cX10_laysWays 105 = .ok (.iconst 0, 1) := by decide +kernel
theorem dX10_laysWays_106 : decode cX10_laysWays 106 = .ok (.iaload, 1) := by decide +kernel
theorem dX10_laysWays_107 : decode cX10_laysWays 107 = .ok (.if_icmp .ge 65, 3) := by decide +kernel
theorem dX10_laysWays_110 : decode cX10_laysWays 110 = .ok (.aload_n 0, 1) := by decide +kernel
theorem dX10_laysWays_111 : decode cX10_laysWays 111 = .ok (.getfield 36, 3) := by decide +kernel
theorem dX10_laysWays_114 : decode cX10_laysWays 114 = .ok (.iconst 1, 1) := by decide +kernel
theorem dX10_laysWays_115 : decode cX10_laysWays 115 = .ok (.iaload, 1) := by decide +kernel
theorem dX10_laysWays_116 : decode cX10_laysWays 116 = .ok (.istore_n 2, 1) := by decide +kernel
theorem dX10_laysWays_117 : decode cX10_laysWays 117 = .ok (.iload_n 2, 1) := by decide +kernel
theorem dX10_laysWays_118 : decode cX10_laysWays 118 = .ok (.aload_n 0, 1) := by decide +kernel
theorem dX10_laysWays_119 : decode cX10_laysWays 119 = .ok (.getfield 13, 3) := by decide +kernel
theorem dX10_laysWays_122 : decode cX10_laysWays 122 = .ok (.iconst 0, 1) := by decide +kernel
theorem dX10_laysWays_123 : decode cX10_laysWays 123 = .ok (.iaload, 1) := by decide +kernel
theorem dX10_laysWays_124 : decode cX10_laysWays 124 = .ok (.if_icmp .ge 42, 3) := by decide +kernel
theorem dX10_laysWays_127 : decode cX10_laysWays 127 = .ok (.iconst 0, 1) := by decide +kernel
theorem dX10_laysWays_128 : decode cX10_laysWays 128 = .ok (.istore_n 3, 1) := by decide +kernel
theorem dX10_laysWays_129 : decode cX10_laysWays 129 = .ok (.iload_n 3, 1) := by decide +kernel
theorem dX10_laysWays_130 : decode cX10_laysWays 130 = .ok (.bipush 72, 2) := by decide +kernel
theorem dX10_laysWays_132 : decode cX10_laysWays 132 = .ok (.if_icmp .ge 28, 3) := by decide +kernel
theorem dX10_laysWays_135 : decode cX10_laysWays 135 = .ok (.aload_n 0, 1) := by decide +kernel
theorem dX10_laysWays_136 : decode cX10_laysWays 136 = .ok (.iload_n 1, 1) := by decide +kernel
theorem dX10_laysWays_137 : decode cX10_laysWays 137 = .ok (.iload_n 2, 1) := by decide +kernel
theorem dX10_laysWays_138 : decode cX10_laysWays 138 = .ok (.iload_n 3, 1) := by decide +kernel
theorem dX10_laysWays_139 : decode cX10_laysWays 139 = .ok (.bipush 12, 2) := by decide +kernel
theorem dX10_laysWays_141 : decode cX10_laysWays 141 = .ok (.idiv, 1) := by decide +kernel
theorem dX10_laysWays_142 : decode cX10_laysWays 142 = .ok (.iload_n 3, 1) := by decide +kernel
theorem dX10_laysWays_143 : decode cX10_laysWays 143 = .ok (.iconst 2, 1) := by decide +kernel
theorem dX10_laysWays_144 : decode cX10_laysWays 144 = .ok (.idiv, 1) := by decide +kernel
theorem dX10_laysWays_145 : decode cX10_laysWays 145 = .ok (.bipush 6, 2) := by decide +kernel
theorem dX10_laysWays_147 : decode cX10_laysWays 147 = .ok (.irem, 1) := by decide +kernel
theorem dX10_laysWays_148 : decode cX10_laysWays 148 = .ok (.iload_n 3, 1) := by decide +kernel
theorem dX10_laysWays_149 : decode cX10_laysWays 149 = .ok (.iconst 2, 1) := by decide +kernel
theorem dX10_laysWays_150 : decode cX10_laysWays 150 = .ok (.irem, 1) := by decide +kernel
theorem dX10_laysWays_151 : decode cX10_laysWays 151 = .ok (.invokevirtual 315, 3) := by decide +kernel
theorem dX10_laysWays_154 : decode cX10_laysWays 154 = .ok (.iinc 3 1, 3) := by decide +kernel
theorem dX10_laysWays_157 : decode cX10_laysWays 157 = .ok (.goto (-28), 3) := by decide +kernel
theorem dX10_laysWays_160 : decode cX10_laysWays 160 = .ok (.iinc 2 1, 3) := by decide +kernel
theorem dX10_laysWays_163 : decode cX10_laysWays 163 = .ok (.goto (-46), 3) := by decide +kernel
theorem dX10_laysWays_166 : decode cX10_laysWays 166 = .ok (.iinc 1 1, 3) := by decide +kernel
theorem dX10_laysWays_169 : decode cX10_laysWays 169 = .ok (.goto (-69), 3) := by decide +kernel
theorem dX10_laysWays_172 : decode cX10_laysWays 172 = .ok (.return_, 1) := by decide +kernel
def fX10_laysWays_129 (k100 : Nat → Int32 → hp_T → Option hp_T) (k117 : Nat → Int32 → Int32 → hp_T → Option hp_T) : Nat → Nat → Int32 → Int32 → Int32 → hp_T → Option hp_T
  | 0, _, _, _, _, _ => none
  | n + 1, a0, a1, a2, a3, h => if (72 : Int32) ≤ a3 then (fx_let (a2 + (1 : Int32)) fun (x160 : Int32) => k117 a0 a1 x160 h) else (fx_b1 (fX10_goesOn a0 a1 a2 (a3 / (12 : Int32)) (fx_rem (a3 / (2 : Int32)) (6 : Int32)) (fx_rem a3 (2 : Int32)) h) fun (h151 : hp_T) => fx_let (a3 + (1 : Int32)) fun (x154 : Int32) => fX10_laysWays_129 k100 k117 n a0 a1 a2 x154 h151)
set_option maxRecDepth 100000 in
set_option maxHeartbeats 4000000 in
theorem bX10_laysWays_129 {l : Launch} {G : xr_G} {K : xr_K} {h1 : hp_T} (C : xr_C G K cX10_laysWays RX10 4 (xr_R 4 97) none (some (xr_Qv G h1))) (k100 : Nat → Int32 → hp_T → Option hp_T) (j100 : ∀ (a0 : Nat) (a1 : Int32) (ta0 : hp_sh a0 = (10, 0)) (h : hp_T), k100 a0 a1 h = some h1 → xr_j l G K 4 h [(0, .ref (G.2.2.1 a0)), (1, .int a1)] 100 []) (k117 : Nat → Int32 → Int32 → hp_T → Option hp_T) (j117 : ∀ (a0 : Nat) (a1 : Int32) (a2 : Int32) (ta0 : hp_sh a0 = (10, 0)) (h : hp_T), k117 a0 a1 a2 h = some h1 → xr_j l G K 4 h [(0, .ref (G.2.2.1 a0)), (1, .int a1), (2, .int a2)] 117 []) : ∀ (n : Nat) (a0 : Nat) (a1 : Int32) (a2 : Int32) (a3 : Int32) (ta0 : hp_sh a0 = (10, 0)) (h : hp_T), fX10_laysWays_129 k100 k117 n a0 a1 a2 a3 h = some h1 → xr_j l G K 4 h [(0, .ref (G.2.2.1 a0)), (1, .int a1), (2, .int a2), (3, .int a3)] 129 [] := by
  intro n
  induction n with
  | zero =>
    intro a0 a1 a2 a3 ta0 h hF
    cases hF
  | succ n ih =>
    intro a0 a1 a2 a3 ta0 h hF
    rw [fX10_laysWays_129] at hF
    refine xr_iload_n C 3 dX10_laysWays_129 rfl rfl ?_
    refine xr_bipush (v := 72) C dX10_laysWays_130 (by decide) ?_
    refine xr_icmp_ge C 160 dX10_laysWays_132 (by decide) (fun c132 => ?_) (fun c132 => ?_)
    · have hF := fx_pos hF c132
      obtain ⟨x160, e160⟩ : ∃ y : Int32, y = (a2 + (1 : Int32)) := ⟨_, rfl⟩
      have hF := fx_letE hF x160 e160
      refine xr_iinc C x160 2 [(2, .int x160), (0, .ref (G.2.2.1 a0)), (1, .int a1), (3, .int a3)] dX10_laysWays_160 rfl (by rw [e160]; rfl) (Nat.le_of_ble_eq_true rfl) rfl ?_
      refine xr_goto C 117 dX10_laysWays_163 (by decide) ?_
      refine xr_sub [1, 2, 0] [(0, .ref (G.2.2.1 a0)), (1, .int a1), (2, .int x160)] rfl ?_
      exact j117 a0 a1 x160 ta0 h hF
    · have hF := fx_neg hF c132
      refine xr_aload_n C 0 dX10_laysWays_135 rfl rfl ?_
      refine xr_iload_n C 1 dX10_laysWays_136 rfl rfl ?_
      refine xr_iload_n C 2 dX10_laysWays_137 rfl rfl ?_
      refine xr_iload_n C 3 dX10_laysWays_138 rfl rfl ?_
      refine xr_bipush (v := 12) C dX10_laysWays_139 (by decide) ?_
      refine xr_idiv C dX10_laysWays_141 (by decide) ?_
      refine xr_iload_n C 3 dX10_laysWays_142 rfl rfl ?_
      refine xr_iconst (v := 2) C dX10_laysWays_143 (by decide) ?_
      refine xr_idiv C dX10_laysWays_144 (by decide) ?_
      refine xr_bipush (v := 6) C dX10_laysWays_145 (by decide) ?_
      refine xr_irem C dX10_laysWays_147 (by decide) ?_
      refine xr_iload_n C 3 dX10_laysWays_148 rfl rfl ?_
      refine xr_iconst (v := 2) C dX10_laysWays_149 (by decide) ?_
      refine xr_irem C dX10_laysWays_150 (by decide) ?_
      obtain ⟨h151, e151, hF⟩ := fx_b1E hF
      refine xr_callVv C mvX10_315 [.int a1, .int a2, .int (a3 / (12 : Int32)), .int (fx_rem (a3 / (2 : Int32)) (6 : Int32)), .int (fx_rem a3 (2 : Int32))] [] (mX10_goesOn l G a0 a1 a2 (a3 / (12 : Int32)) (fx_rem (a3 / (2 : Int32)) (6 : Int32)) (fx_rem a3 (2 : Int32)) ta0 h h151 e151) ta0 (by decide) vc10 rfl ⟨rfl, rfl, (Nat.le_of_ble_eq_true rfl), (Nat.le_of_ble_eq_true rfl)⟩ rfl (Nat.le_of_ble_eq_true rfl) dX10_laysWays_151 ?_
      obtain ⟨x154, e154⟩ : ∃ y : Int32, y = (a3 + (1 : Int32)) := ⟨_, rfl⟩
      have hF := fx_letE hF x154 e154
      refine xr_iinc C x154 3 [(3, .int x154), (0, .ref (G.2.2.1 a0)), (1, .int a1), (2, .int a2)] dX10_laysWays_154 rfl (by rw [e154]; rfl) (Nat.le_of_ble_eq_true rfl) rfl ?_
      refine xr_goto C 129 dX10_laysWays_157 (by decide) ?_
      refine xr_sub [1, 2, 3, 0] [(0, .ref (G.2.2.1 a0)), (1, .int a1), (2, .int a2), (3, .int x154)] rfl ?_
      exact ih a0 a1 a2 x154 ta0 h151 hF
def fX10_laysWays_117 (k100 : Nat → Int32 → hp_T → Option hp_T) : Nat → Nat → Int32 → Int32 → hp_T → Option hp_T
  | 0, _, _, _, _ => none
  | n + 1, a0, a1, a2, h => if (h.1 (h.2.2 a0 3) (fx_ix (0 : Int32))) ≤ a2 then (fx_let (a1 + (1 : Int32)) fun (x166 : Int32) => k100 a0 x166 h) else (fX10_laysWays_129 k100 (fX10_laysWays_117 k100 n) fx_N a0 a1 a2 (0 : Int32) h)
set_option maxRecDepth 100000 in
set_option maxHeartbeats 4000000 in
theorem bX10_laysWays_117 {l : Launch} {G : xr_G} {K : xr_K} {h1 : hp_T} (C : xr_C G K cX10_laysWays RX10 4 (xr_R 4 97) none (some (xr_Qv G h1))) (k100 : Nat → Int32 → hp_T → Option hp_T) (j100 : ∀ (a0 : Nat) (a1 : Int32) (ta0 : hp_sh a0 = (10, 0)) (h : hp_T), k100 a0 a1 h = some h1 → xr_j l G K 4 h [(0, .ref (G.2.2.1 a0)), (1, .int a1)] 100 []) : ∀ (n : Nat) (a0 : Nat) (a1 : Int32) (a2 : Int32) (ta0 : hp_sh a0 = (10, 0)) (h : hp_T), fX10_laysWays_117 k100 n a0 a1 a2 h = some h1 → xr_j l G K 4 h [(0, .ref (G.2.2.1 a0)), (1, .int a1), (2, .int a2)] 117 [] := by
  intro n
  induction n with
  | zero =>
    intro a0 a1 a2 ta0 h hF
    cases hF
  | succ n ih =>
    intro a0 a1 a2 ta0 h hF
    rw [fX10_laysWays_117] at hF
    refine xr_iload_n C 2 dX10_laysWays_117 rfl rfl ?_
    refine xr_aload_n C 0 dX10_laysWays_118 rfl rfl ?_
    refine xr_getr C flX10_13 rfl (by decide) dX10_laysWays_119 ta0 (fun t119 => ?_)
    refine xr_iconst (v := 0) C dX10_laysWays_122 (by decide) ?_
    refine xr_iald C dX10_laysWays_123 t119 (by decide) ?_
    refine xr_icmp_ge C 166 dX10_laysWays_124 (by decide) (fun c124 => ?_) (fun c124 => ?_)
    · have hF := fx_pos hF c124
      obtain ⟨x166, e166⟩ : ∃ y : Int32, y = (a1 + (1 : Int32)) := ⟨_, rfl⟩
      have hF := fx_letE hF x166 e166
      refine xr_iinc C x166 1 [(1, .int x166), (0, .ref (G.2.2.1 a0)), (2, .int a2)] dX10_laysWays_166 rfl (by rw [e166]; rfl) (Nat.le_of_ble_eq_true rfl) rfl ?_
      refine xr_goto C 100 dX10_laysWays_169 (by decide) ?_
      refine xr_sub [1, 0] [(0, .ref (G.2.2.1 a0)), (1, .int x166)] rfl ?_
      exact j100 a0 x166 ta0 h hF
    · have hF := fx_neg hF c124
      refine xr_iconst (v := 0) C dX10_laysWays_127 (by decide) ?_
      refine xr_istore_n C [(3, .int (0 : Int32)), (0, .ref (G.2.2.1 a0)), (1, .int a1), (2, .int a2)] dX10_laysWays_128 rfl (Nat.le_of_ble_eq_true rfl) rfl ?_
      refine xr_sub [1, 2, 3, 0] [(0, .ref (G.2.2.1 a0)), (1, .int a1), (2, .int a2), (3, .int (0 : Int32))] rfl ?_
      exact bX10_laysWays_129 C k100 j100 (fX10_laysWays_117 k100 n) (fun a0 a1 a2 ta0 h hF => ih a0 a1 a2 ta0 h hF) fx_N a0 a1 a2 (0 : Int32) ta0 h hF
def fX10_laysWays_100  : Nat → Nat → Int32 → hp_T → Option hp_T
  | 0, _, _, _ => none
  | n + 1, a0, a1, h => if (h.1 (h.2.2 a0 3) (fx_ix (0 : Int32))) ≤ a1 then (some h) else (fx_let (h.1 (h.2.2 a0 20) (fx_ix (1 : Int32))) fun (x116 : Int32) => fX10_laysWays_117 (fX10_laysWays_100 n) fx_N a0 a1 x116 h)
set_option maxRecDepth 100000 in
set_option maxHeartbeats 4000000 in
theorem bX10_laysWays_100 {l : Launch} {G : xr_G} {K : xr_K} {h1 : hp_T} (C : xr_C G K cX10_laysWays RX10 4 (xr_R 4 97) none (some (xr_Qv G h1)))  : ∀ (n : Nat) (a0 : Nat) (a1 : Int32) (ta0 : hp_sh a0 = (10, 0)) (h : hp_T), fX10_laysWays_100 n a0 a1 h = some h1 → xr_j l G K 4 h [(0, .ref (G.2.2.1 a0)), (1, .int a1)] 100 [] := by
  intro n
  induction n with
  | zero =>
    intro a0 a1 ta0 h hF
    cases hF
  | succ n ih =>
    intro a0 a1 ta0 h hF
    rw [fX10_laysWays_100] at hF
    refine xr_iload_n C 1 dX10_laysWays_100 rfl rfl ?_
    refine xr_aload_n C 0 dX10_laysWays_101 rfl rfl ?_
    refine xr_getr C flX10_13 rfl (by decide) dX10_laysWays_102 ta0 (fun t102 => ?_)
    refine xr_iconst (v := 0) C dX10_laysWays_105 (by decide) ?_
    refine xr_iald C dX10_laysWays_106 t102 (by decide) ?_
    refine xr_icmp_ge C 172 dX10_laysWays_107 (by decide) (fun c107 => ?_) (fun c107 => ?_)
    · have hF := fx_pos hF c107
      cases hF
      exact xr_vret C dX10_laysWays_172
    · have hF := fx_neg hF c107
      refine xr_aload_n C 0 dX10_laysWays_110 rfl rfl ?_
      refine xr_getr C flX10_36 rfl (by decide) dX10_laysWays_111 ta0 (fun t111 => ?_)
      refine xr_iconst (v := 1) C dX10_laysWays_114 (by decide) ?_
      refine xr_iald C dX10_laysWays_115 t111 (by decide) ?_
      refine xr_topi (fun x116 e116 => ?_)
      have hF := fx_letE hF x116 e116
      refine xr_istore_n C [(2, .int x116), (0, .ref (G.2.2.1 a0)), (1, .int a1)] dX10_laysWays_116 rfl (Nat.le_of_ble_eq_true rfl) rfl ?_
      refine xr_sub [1, 2, 0] [(0, .ref (G.2.2.1 a0)), (1, .int a1), (2, .int x116)] rfl ?_
      exact bX10_laysWays_117 C (fX10_laysWays_100 n) (fun a0 a1 ta0 h hF => ih a0 a1 ta0 h hF) fx_N a0 a1 x116 ta0 h hF
def fX10_laysWays_43  : Nat → Nat → Int32 → hp_T → Option hp_T
  | 0, _, _, _ => none
  | n + 1, a0, a1, h => if (48672 : Int32) ≤ a1 then (fx_b2 (fX10_at (h.1 (h.2.2 a0 20) (fx_ix (0 : Int32))) (h.1 (h.2.2 a0 20) (fx_ix (1 : Int32))) (0 : Int32) (0 : Int32) (h.1 (h.2.2 a0 20) (fx_ix (2 : Int32))) h) fun (r86 : Int32) (h86 : hp_T) => fx_g (fx_in r86 48672) (fx_let (hp_sL h86 (h.2.2 a0 27) (fx_ix r86) (1000000000000 : Int64)) fun (h92 : hp_T) => fx_let (h92.1 (h92.2.2 a0 20) (fx_ix (0 : Int32))) fun (x99 : Int32) => fX10_laysWays_100 fx_N a0 x99 h92)) else (fx_g (fx_in a1 48672) (fx_let (hp_sL h (h.2.2 a0 27) (fx_ix a1) (0 : Int64)) fun (h55 : hp_T) => fx_let (a1 + (1 : Int32)) fun (x56 : Int32) => fX10_laysWays_43 n a0 x56 h55))
set_option maxRecDepth 100000 in
set_option maxHeartbeats 4000000 in
theorem bX10_laysWays_43 {l : Launch} {G : xr_G} {K : xr_K} {h1 : hp_T} (C : xr_C G K cX10_laysWays RX10 4 (xr_R 4 97) none (some (xr_Qv G h1)))  : ∀ (n : Nat) (a0 : Nat) (a1 : Int32) (ta0 : hp_sh a0 = (10, 0)) (h : hp_T), fX10_laysWays_43 n a0 a1 h = some h1 → xr_j l G K 4 h [(0, .ref (G.2.2.1 a0)), (1, .int a1)] 43 [] := by
  intro n
  induction n with
  | zero =>
    intro a0 a1 ta0 h hF
    cases hF
  | succ n ih =>
    intro a0 a1 ta0 h hF
    rw [fX10_laysWays_43] at hF
    refine xr_iload_n C 1 dX10_laysWays_43 rfl rfl ?_
    refine xr_ldc C kcX10_48 dX10_laysWays_44 ?_
    refine xr_icmp_ge C 62 dX10_laysWays_46 (by decide) (fun c46 => ?_) (fun c46 => ?_)
    · have hF := fx_pos hF c46
      refine xr_aload_n C 0 dX10_laysWays_62 rfl rfl ?_
      refine xr_getr C flX10_55 rfl (by decide) dX10_laysWays_63 ta0 (fun t63 => ?_)
      refine xr_aload_n C 0 dX10_laysWays_66 rfl rfl ?_
      refine xr_getr C flX10_36 rfl (by decide) dX10_laysWays_67 ta0 (fun t67 => ?_)
      refine xr_iconst (v := 0) C dX10_laysWays_70 (by decide) ?_
      refine xr_iald C dX10_laysWays_71 t67 (by decide) ?_
      refine xr_aload_n C 0 dX10_laysWays_72 rfl rfl ?_
      refine xr_getr C flX10_36 rfl (by decide) dX10_laysWays_73 ta0 (fun t73 => ?_)
      refine xr_iconst (v := 1) C dX10_laysWays_76 (by decide) ?_
      refine xr_iald C dX10_laysWays_77 t73 (by decide) ?_
      refine xr_iconst (v := 0) C dX10_laysWays_78 (by decide) ?_
      refine xr_iconst (v := 0) C dX10_laysWays_79 (by decide) ?_
      refine xr_aload_n C 0 dX10_laysWays_80 rfl rfl ?_
      refine xr_getr C flX10_36 rfl (by decide) dX10_laysWays_81 ta0 (fun t81 => ?_)
      refine xr_iconst (v := 2) C dX10_laysWays_84 (by decide) ?_
      refine xr_iald C dX10_laysWays_85 t81 (by decide) ?_
      obtain ⟨r86, h86, e86, hF⟩ := fx_b2E hF
      refine xr_callSi C mvX10_270 [.int (h.1 (h.2.2 a0 20) (fx_ix (0 : Int32))), .int (h.1 (h.2.2 a0 20) (fx_ix (1 : Int32))), .int (0 : Int32), .int (0 : Int32), .int (h.1 (h.2.2 a0 20) (fx_ix (2 : Int32)))] [.ref (G.2.2.1 (h.2.2 a0 27))] (mX10_at l G (h.1 (h.2.2 a0 20) (fx_ix (0 : Int32))) (h.1 (h.2.2 a0 20) (fx_ix (1 : Int32))) (0 : Int32) (0 : Int32) (h.1 (h.2.2 a0 20) (fx_ix (2 : Int32)))  h h86 r86 e86) rfl ⟨rfl, rfl, (Nat.le_of_ble_eq_true rfl), (Nat.le_of_ble_eq_true rfl)⟩ rfl (Nat.le_of_ble_eq_true rfl) dX10_laysWays_86 ?_
      refine xr_ldc2 C klX10_313 dX10_laysWays_89 ?_
      obtain ⟨g92, hF⟩ := fx_gE hF
      refine xr_last C dX10_laysWays_92 t63 g92 (fun h92 e92 => ?_)
      have hF := fx_letE hF h92 e92
      refine xr_aload_n C 0 dX10_laysWays_93 rfl rfl ?_
      refine xr_getr C flX10_36 rfl (by decide) dX10_laysWays_94 ta0 (fun t94 => ?_)
      refine xr_iconst (v := 0) C dX10_laysWays_97 (by decide) ?_
      refine xr_iald C dX10_laysWays_98 t94 (by decide) ?_
      refine xr_topi (fun x99 e99 => ?_)
      have hF := fx_letE hF x99 e99
      refine xr_istore_n C [(1, .int x99), (0, .ref (G.2.2.1 a0))] dX10_laysWays_99 rfl (Nat.le_of_ble_eq_true rfl) rfl ?_
      refine xr_sub [1, 0] [(0, .ref (G.2.2.1 a0)), (1, .int x99)] rfl ?_
      exact bX10_laysWays_100 C  fx_N a0 x99 ta0 h92 hF
    · have hF := fx_neg hF c46
      refine xr_aload_n C 0 dX10_laysWays_49 rfl rfl ?_
      refine xr_getr C flX10_55 rfl (by decide) dX10_laysWays_50 ta0 (fun t50 => ?_)
      refine xr_iload_n C 1 dX10_laysWays_53 rfl rfl ?_
      refine xr_lconst (v := 0) C dX10_laysWays_54 (by decide) ?_
      obtain ⟨g55, hF⟩ := fx_gE hF
      refine xr_last C dX10_laysWays_55 t50 g55 (fun h55 e55 => ?_)
      have hF := fx_letE hF h55 e55
      obtain ⟨x56, e56⟩ : ∃ y : Int32, y = (a1 + (1 : Int32)) := ⟨_, rfl⟩
      have hF := fx_letE hF x56 e56
      refine xr_iinc C x56 1 [(1, .int x56), (0, .ref (G.2.2.1 a0))] dX10_laysWays_56 rfl (by rw [e56]; rfl) (Nat.le_of_ble_eq_true rfl) rfl ?_
      refine xr_goto C 43 dX10_laysWays_59 (by decide) ?_
      refine xr_sub [1, 0] [(0, .ref (G.2.2.1 a0)), (1, .int x56)] rfl ?_
      exact ih a0 x56 ta0 h55 hF
def fX10_laysWays_6  : Nat → Nat → Int32 → hp_T → Option hp_T
  | 0, _, _, _ => none
  | n + 1, a0, a1, h => if (72 : Int32) ≤ a1 then (fX10_laysWays_43 fx_N a0 (0 : Int32) h) else (fx_b2 (fX10_chanceOf a0 (a1 / (12 : Int32)) (fx_rem (a1 / (2 : Int32)) (6 : Int32)) (fx_rem a1 (2 : Int32)) h) fun (r31 : Int32) (h31 : hp_T) => fx_g (fx_in a1 72) (fx_let (hp_sI h31 (h.2.2 a0 26) (fx_ix a1) r31) fun (h34 : hp_T) => fx_let (a1 + (1 : Int32)) fun (x35 : Int32) => fX10_laysWays_6 n a0 x35 h34))
set_option maxRecDepth 100000 in
set_option maxHeartbeats 4000000 in
theorem bX10_laysWays_6 {l : Launch} {G : xr_G} {K : xr_K} {h1 : hp_T} (C : xr_C G K cX10_laysWays RX10 4 (xr_R 4 97) none (some (xr_Qv G h1)))  : ∀ (n : Nat) (a0 : Nat) (a1 : Int32) (ta0 : hp_sh a0 = (10, 0)) (h : hp_T), fX10_laysWays_6 n a0 a1 h = some h1 → xr_j l G K 4 h [(0, .ref (G.2.2.1 a0)), (1, .int a1)] 6 [] := by
  intro n
  induction n with
  | zero =>
    intro a0 a1 ta0 h hF
    cases hF
  | succ n ih =>
    intro a0 a1 ta0 h hF
    rw [fX10_laysWays_6] at hF
    refine xr_iload_n C 1 dX10_laysWays_6 rfl rfl ?_
    refine xr_bipush (v := 72) C dX10_laysWays_7 (by decide) ?_
    refine xr_icmp_ge C 41 dX10_laysWays_9 (by decide) (fun c9 => ?_) (fun c9 => ?_)
    · have hF := fx_pos hF c9
      refine xr_iconst (v := 0) C dX10_laysWays_41 (by decide) ?_
      refine xr_istore_n C [(1, .int (0 : Int32)), (0, .ref (G.2.2.1 a0))] dX10_laysWays_42 rfl (Nat.le_of_ble_eq_true rfl) rfl ?_
      refine xr_sub [1, 0] [(0, .ref (G.2.2.1 a0)), (1, .int (0 : Int32))] rfl ?_
      exact bX10_laysWays_43 C  fx_N a0 (0 : Int32) ta0 h hF
    · have hF := fx_neg hF c9
      refine xr_aload_n C 0 dX10_laysWays_12 rfl rfl ?_
      refine xr_getr C flX10_52 rfl (by decide) dX10_laysWays_13 ta0 (fun t13 => ?_)
      refine xr_iload_n C 1 dX10_laysWays_16 rfl rfl ?_
      refine xr_aload_n C 0 dX10_laysWays_17 rfl rfl ?_
      refine xr_iload_n C 1 dX10_laysWays_18 rfl rfl ?_
      refine xr_bipush (v := 12) C dX10_laysWays_19 (by decide) ?_
      refine xr_idiv C dX10_laysWays_21 (by decide) ?_
      refine xr_iload_n C 1 dX10_laysWays_22 rfl rfl ?_
      refine xr_iconst (v := 2) C dX10_laysWays_23 (by decide) ?_
      refine xr_idiv C dX10_laysWays_24 (by decide) ?_
      refine xr_bipush (v := 6) C dX10_laysWays_25 (by decide) ?_
      refine xr_irem C dX10_laysWays_27 (by decide) ?_
      refine xr_iload_n C 1 dX10_laysWays_28 rfl rfl ?_
      refine xr_iconst (v := 2) C dX10_laysWays_29 (by decide) ?_
      refine xr_irem C dX10_laysWays_30 (by decide) ?_
      obtain ⟨r31, h31, e31, hF⟩ := fx_b2E hF
      refine xr_callVi C mvX10_256 [.int (a1 / (12 : Int32)), .int (fx_rem (a1 / (2 : Int32)) (6 : Int32)), .int (fx_rem a1 (2 : Int32))] [.int a1, .ref (G.2.2.1 (h.2.2 a0 26))] (mX10_chanceOf l G a0 (a1 / (12 : Int32)) (fx_rem (a1 / (2 : Int32)) (6 : Int32)) (fx_rem a1 (2 : Int32)) ta0 h h31 r31 e31) ta0 (by decide) vc10 rfl ⟨rfl, rfl, (Nat.le_of_ble_eq_true rfl), (Nat.le_of_ble_eq_true rfl)⟩ rfl (Nat.le_of_ble_eq_true rfl) dX10_laysWays_31 ?_
      obtain ⟨g34, hF⟩ := fx_gE hF
      refine xr_iast C dX10_laysWays_34 t13 g34 (fun h34 e34 => ?_)
      have hF := fx_letE hF h34 e34
      obtain ⟨x35, e35⟩ : ∃ y : Int32, y = (a1 + (1 : Int32)) := ⟨_, rfl⟩
      have hF := fx_letE hF x35 e35
      refine xr_iinc C x35 1 [(1, .int x35), (0, .ref (G.2.2.1 a0))] dX10_laysWays_35 rfl (by rw [e35]; rfl) (Nat.le_of_ble_eq_true rfl) rfl ?_
      refine xr_goto C 6 dX10_laysWays_38 (by decide) ?_
      refine xr_sub [1, 0] [(0, .ref (G.2.2.1 a0)), (1, .int x35)] rfl ?_
      exact ih a0 x35 ta0 h34 hF
def fX10_laysWays (a0 : Nat) (h : hp_T) : Option hp_T := fx_b1 (fX10_takesLines a0 h) fun (h1 : hp_T) => fX10_laysWays_6 fx_N a0 (0 : Int32) h1
set_option maxRecDepth 100000 in
set_option maxHeartbeats 4000000 in
theorem mX10_laysWays (l : Launch) (G : xr_G) (a0 : Nat) (ta0 : hp_sh a0 = (10, 0)) (h h1 : hp_T) (hF : fX10_laysWays a0 h = some h1) : xr_M l G yX10_laysWays cX10_laysWays 4 (xr_R 4 97) none [.ref (G.2.2.1 a0)] h (xr_Qv G h1) := by
  refine xr_start rfl (Nat.le_of_ble_eq_true rfl) (fun K C => ?_)
  show xr_j l G K 4 h [(0, .ref (G.2.2.1 a0))] 0 []
  unfold fX10_laysWays at hF
  refine xr_aload_n C 0 dX10_laysWays_0 rfl rfl ?_
  obtain ⟨h1, e1, hF⟩ := fx_b1E hF
  refine xr_callVv C mvX10_262 [] [] (mX10_takesLines l G a0 ta0 h h1 e1) ta0 (by decide) vc10 rfl ⟨rfl, rfl, (Nat.le_of_ble_eq_true rfl), (Nat.le_of_ble_eq_true rfl)⟩ rfl (Nat.le_of_ble_eq_true rfl) dX10_laysWays_1 ?_
  refine xr_iconst (v := 0) C dX10_laysWays_4 (by decide) ?_
  refine xr_istore_n C [(1, .int (0 : Int32)), (0, .ref (G.2.2.1 a0))] dX10_laysWays_5 rfl (Nat.le_of_ble_eq_true rfl) rfl ?_
  refine xr_sub [1, 0] [(0, .ref (G.2.2.1 a0)), (1, .int (0 : Int32))] rfl ?_
  exact bX10_laysWays_6 C  fx_N a0 (0 : Int32) ta0 h1 hF
theorem dX10_allAt_0 : decode cX10_allAt 0 = .ok (.lconst 0, 1) := by decide +kernel
theorem dX10_allAt_1 : decode cX10_allAt 1 = .ok (.lstore_n 3, 1) := by decide +kernel
theorem dX10_allAt_2 : decode cX10_allAt 2 = .ok (.iconst 0, 1) := by decide +kernel
theorem dX10_allAt_3 : decode cX10_allAt 3 = .ok (.istore 5, 2) := by decide +kernel
theorem dX10_allAt_5 : decode cX10_allAt 5 = .ok (.iload 5, 2) := by decide +kernel
theorem dX10_allAt_7 : decode cX10_allAt 7 = .ok (.bipush 72, 2) := by decide +kernel
theorem dX10_allAt_9 : decode cX10_allAt 9 = .ok (.if_icmp .ge 29, 3) := by decide +kernel
theorem dX10_allAt_12 : decode cX10_allAt 12 = .ok (.lload_n 3, 1) := by decide +kernel
theorem dX10_allAt_13 : decode cX10_allAt 13 = .ok (.aload_n 0, 1) := by decide +kernel
theorem dX10_allAt_14 : decode cX10_allAt 14 = .ok (.getfield 55, 3) := by decide +kernel
theorem dX10_allAt_17 : decode cX10_allAt 17 = .ok (.bipush 72, 2) := by decide +kernel
theorem dX10_allAt_19 : decode cX10_allAt 19 = .ok (.bipush 26, 2) := by decide +kernel
theorem dX10_allAt_21 : decode cX10_allAt 21 = .ok (.iload_n 1, 1) := by decide +kernel
theorem dX10_allAt_22 : decode cX10_allAt 22 = .ok (.imul, 1) := by decide +kernel
theorem dX10_allAt_23 : decode cX10_allAt 23 = .ok (.iload_n 2, 1) := by decide +kernel
theorem dX10_allAt_24 : decode cX10_allAt 24 = .ok (.iadd, 1) := by decide +kernel
theorem dX10_allAt_25 : decode cX10_allAt 25 = .ok (.imul, 1) := by decide +kernel
theorem dX10_allAt_26 : decode cX10_allAt 26 = .ok (.iload 5, 2) := by decide +kernel
theorem dX10_allAt_28 : decode cX10_allAt 28 = .ok (.iadd, 1) := by decide +kernel
theorem dX10_allAt_29 : decode cX10_allAt 29 = .ok (.laload, 1) := by decide +kernel
theorem dX10_allAt_30 : decode cX10_allAt 30 = .ok (.ladd, 1) := by decide +kernel
theorem dX10_allAt_31 : decode cX10_allAt 31 = .ok (.lstore_n 3, 1) := by decide +kernel
theorem dX10_allAt_32 : decode cX10_allAt 32 = .ok (.iinc 5 1, 3) := by decide +kernel
theorem dX10_allAt_35 : decode cX10_allAt 35 = .ok (.goto (-30), 3) := by decide +kernel
theorem dX10_allAt_38 : decode cX10_allAt 38 = .ok (.lload_n 3, 1) := by decide +kernel
theorem dX10_allAt_39 : decode cX10_allAt 39 = .ok (.lreturn, 1) := by decide +kernel
def fX10_allAt_5  : Nat → Nat → Int32 → Int32 → Int64 → Int32 → hp_T → Option (Int64 × hp_T)
  | 0, _, _, _, _, _, _ => none
  | n + 1, a0, a1, a2, a3, a5, h => if (72 : Int32) ≤ a5 then (some (a3, h)) else (fx_g (fx_in (((72 : Int32) * (((26 : Int32) * a1) + a2)) + a5) 48672) (fx_let (a3 + (h.2.1 (h.2.2 a0 27) (fx_ix (((72 : Int32) * (((26 : Int32) * a1) + a2)) + a5)))) fun (x31 : Int64) => fx_let (a5 + (1 : Int32)) fun (x32 : Int32) => fX10_allAt_5 n a0 a1 a2 x31 x32 h))
set_option maxRecDepth 100000 in
set_option maxHeartbeats 4000000 in
theorem bX10_allAt_5 {l : Launch} {G : xr_G} {K : xr_K} {r : Int64} {h1 : hp_T} (C : xr_C G K cX10_allAt RX10 6 (xr_R 0 0) (some .long) (some (xr_Ql G r h1)))  : ∀ (n : Nat) (a0 : Nat) (a1 : Int32) (a2 : Int32) (a3 : Int64) (a5 : Int32) (ta0 : hp_sh a0 = (10, 0)) (h : hp_T), fX10_allAt_5 n a0 a1 a2 a3 a5 h = some (r, h1) → xr_j l G K 6 h [(0, .ref (G.2.2.1 a0)), (1, .int a1), (2, .int a2), (3, .long a3), (5, .int a5)] 5 [] := by
  intro n
  induction n with
  | zero =>
    intro a0 a1 a2 a3 a5 ta0 h hF
    cases hF
  | succ n ih =>
    intro a0 a1 a2 a3 a5 ta0 h hF
    rw [fX10_allAt_5] at hF
    refine xr_iload C 4 dX10_allAt_5 rfl ?_
    refine xr_bipush (v := 72) C dX10_allAt_7 (by decide) ?_
    refine xr_icmp_ge C 38 dX10_allAt_9 (by decide) (fun c9 => ?_) (fun c9 => ?_)
    · have hF := fx_pos hF c9
      refine xr_lload_n C 3 dX10_allAt_38 rfl rfl ?_
      cases hF
      exact xr_lret C dX10_allAt_39
    · have hF := fx_neg hF c9
      refine xr_lload_n C 3 dX10_allAt_12 rfl rfl ?_
      refine xr_aload_n C 0 dX10_allAt_13 rfl rfl ?_
      refine xr_getr C flX10_55 rfl (by decide) dX10_allAt_14 ta0 (fun t14 => ?_)
      refine xr_bipush (v := 72) C dX10_allAt_17 (by decide) ?_
      refine xr_bipush (v := 26) C dX10_allAt_19 (by decide) ?_
      refine xr_iload_n C 1 dX10_allAt_21 rfl rfl ?_
      refine xr_imul C dX10_allAt_22 ?_
      refine xr_iload_n C 2 dX10_allAt_23 rfl rfl ?_
      refine xr_iadd C dX10_allAt_24 ?_
      refine xr_imul C dX10_allAt_25 ?_
      refine xr_iload C 4 dX10_allAt_26 rfl ?_
      refine xr_iadd C dX10_allAt_28 ?_
      obtain ⟨g29, hF⟩ := fx_gE hF
      refine xr_lald C dX10_allAt_29 t14 g29 ?_
      refine xr_ladd C dX10_allAt_30 ?_
      refine xr_topl (fun x31 e31 => ?_)
      have hF := fx_letE hF x31 e31
      refine xr_lstore_n C [(3, .long x31), (0, .ref (G.2.2.1 a0)), (1, .int a1), (2, .int a2), (5, .int a5)] dX10_allAt_31 rfl (Nat.le_of_ble_eq_true rfl) rfl ?_
      obtain ⟨x32, e32⟩ : ∃ y : Int32, y = (a5 + (1 : Int32)) := ⟨_, rfl⟩
      have hF := fx_letE hF x32 e32
      refine xr_iinc C x32 4 [(5, .int x32), (3, .long x31), (0, .ref (G.2.2.1 a0)), (1, .int a1), (2, .int a2)] dX10_allAt_32 rfl (by rw [e32]; rfl) (Nat.le_of_ble_eq_true rfl) rfl ?_
      refine xr_goto C 5 dX10_allAt_35 (by decide) ?_
      refine xr_sub [2, 3, 4, 1, 0] [(0, .ref (G.2.2.1 a0)), (1, .int a1), (2, .int a2), (3, .long x31), (5, .int x32)] rfl ?_
      exact ih a0 a1 a2 x31 x32 ta0 h hF
def fX10_allAt (a0 : Nat) (a1 : Int32) (a2 : Int32) (h : hp_T) : Option (Int64 × hp_T) := fX10_allAt_5 fx_N a0 a1 a2 (0 : Int64) (0 : Int32) h
set_option maxRecDepth 100000 in
set_option maxHeartbeats 4000000 in
theorem mX10_allAt (l : Launch) (G : xr_G) (a0 : Nat) (a1 : Int32) (a2 : Int32) (ta0 : hp_sh a0 = (10, 0)) (h h1 : hp_T) (r : Int64) (hF : fX10_allAt a0 a1 a2 h = some (r, h1)) : xr_M l G yX10_allAt cX10_allAt 6 (xr_R 0 0) (some .long) [.ref (G.2.2.1 a0), .int a1, .int a2] h (xr_Ql G r h1) := by
  refine xr_start rfl (Nat.le_of_ble_eq_true rfl) (fun K C => ?_)
  show xr_j l G K 6 h [(0, .ref (G.2.2.1 a0)), (1, .int a1), (2, .int a2)] 0 []
  unfold fX10_allAt at hF
  refine xr_lconst (v := 0) C dX10_allAt_0 (by decide) ?_
  refine xr_lstore_n C [(3, .long (0 : Int64)), (0, .ref (G.2.2.1 a0)), (1, .int a1), (2, .int a2)] dX10_allAt_1 rfl (Nat.le_of_ble_eq_true rfl) rfl ?_
  refine xr_iconst (v := 0) C dX10_allAt_2 (by decide) ?_
  refine xr_istore C [(5, .int (0 : Int32)), (3, .long (0 : Int64)), (0, .ref (G.2.2.1 a0)), (1, .int a1), (2, .int a2)] dX10_allAt_3 (Nat.le_of_ble_eq_true rfl) rfl ?_
  refine xr_sub [2, 3, 4, 1, 0] [(0, .ref (G.2.2.1 a0)), (1, .int a1), (2, .int a2), (3, .long (0 : Int64)), (5, .int (0 : Int32))] rfl ?_
  exact bX10_allAt_5 C  fx_N a0 a1 a2 (0 : Int64) (0 : Int32) ta0 h hF
theorem dX10_likely_0 : decode cX10_likely 0 = .ok (.aload_n 0, 1) := by decide +kernel
theorem dX10_likely_1 : decode cX10_likely 1 = .ok (.iconst 0, 1) := by decide +kernel
theorem dX10_likely_2 : decode cX10_likely 2 = .ok (.putfield 63, 3) := by decide +kernel
theorem dX10_likely_5 : decode cX10_likely 5 = .ok (.aload_n 0, 1) := by decide +kernel
theorem dX10_likely_6 : decode cX10_likely 6 = .ok (.iload_n 1, 1) := by decide +kernel
theorem dX10_likely_7 : decode cX10_likely 7 = .ok (.iload_n 2, 1) := by decide +kernel
theorem dX10_likely_8 : decode cX10_likely 8 = .ok (.invokevirtual 280, 3) := by decide +kernel
theorem dX10_likely_11 : decode cX10_likely 11 = .ok (.ifCond .ne 5, 3) := by decide +kernel
theorem dX10_likely_14 : decode cX10_likely 14 = .ok (.iconst (-1), 1) := by decide +kernel
theorem dX10_likely_15 : decode cX10_likely 15 = .ok (.ireturn, 1) := by decide +kernel
theorem dX10_likely_16 : decode cX10_likely 16 = .ok (.aload_n 0, 1) := by decide +kernel
theorem dX10_likely_17 : decode cX10_likely 17 = .ok (.invokevirtual 319, 3) := by decide +kernel
theorem dX10_likely_20 : decode cX10_likely 20 = .ok (.aload_n 0, 1) := by decide +kernel
theorem dX10_likely_21 : decode cX10_likely 21 = .ok (.iload_n 1, 1) := by decide +kernel
theorem dX10_likely_22 : decode cX10_likely 22 = .ok (.iload_n 2, 1) := by decide +kernel
theorem dX10_likely_23 : decode cX10_likely 23 = .ok (.invokevirtual 322, 3) := by decide +kernel
theorem dX10_likely_26 : decode cX10_likely 26 = .ok (.ldc2_w 326, 3) := by decide +kernel
theorem dX10_likely_29 : decode cX10_likely 29 = .ok (.ldiv, 1) := by decide +kernel
theorem dX10_likely_30 : decode cX10_likely 30 = .ok (.l2i, 1) := by decide +kernel
theorem dX10_likely_31 : decode cX10_likely 31 = .ok (.ireturn, 1) := by decide +kernel
def fX10_likely (a0 : Nat) (a1 : Int32) (a2 : Int32) (h : hp_T) : Option (Int32 × hp_T) := fx_let (hp_sI h a0 0 (0 : Int32)) fun (h2 : hp_T) => fx_b2 (fX10_arePoints a0 a1 a2 h2) fun (r8 : Int32) (h8 : hp_T) => if r8 = 0 then (some ((-1 : Int32), h8)) else (fx_b1 (fX10_laysWays a0 h8) fun (h17 : hp_T) => fx_b2 (fX10_allAt a0 a1 a2 h17) fun (r23 : Int64) (h23 : hp_T) => some ((Int64.toInt32 (r23 / (1000000 : Int64))), h23))
set_option maxRecDepth 100000 in
set_option maxHeartbeats 4000000 in
theorem mX10_likely (l : Launch) (G : xr_G) (a0 : Nat) (a1 : Int32) (a2 : Int32) (ta0 : hp_sh a0 = (10, 0)) (h h1 : hp_T) (r : Int32) (hF : fX10_likely a0 a1 a2 h = some (r, h1)) : xr_M l G yX10_likely cX10_likely 3 (xr_R 5 120) (some .int) [.ref (G.2.2.1 a0), .int a1, .int a2] h (xr_Qi G r h1) := by
  refine xr_start rfl (Nat.le_of_ble_eq_true rfl) (fun K C => ?_)
  show xr_j l G K 3 h [(0, .ref (G.2.2.1 a0)), (1, .int a1), (2, .int a2)] 0 []
  unfold fX10_likely at hF
  refine xr_aload_n C 0 dX10_likely_0 rfl rfl ?_
  refine xr_iconst (v := 0) C dX10_likely_1 (by decide) ?_
  refine xr_puti C fpX10_63 rfl rfl rfl dX10_likely_2 ta0 (fun h2 e2 => ?_)
  have hF := fx_letE hF h2 e2
  refine xr_aload_n C 0 dX10_likely_5 rfl rfl ?_
  refine xr_iload_n C 1 dX10_likely_6 rfl rfl ?_
  refine xr_iload_n C 2 dX10_likely_7 rfl rfl ?_
  obtain ⟨r8, h8, e8, hF⟩ := fx_b2E hF
  refine xr_callVi C mvX10_280 [.int a1, .int a2] [] (mX10_arePoints l G a0 a1 a2 ta0 h2 h8 r8 e8) ta0 (by decide) vc10 rfl ⟨rfl, rfl, (Nat.le_of_ble_eq_true rfl), (Nat.le_of_ble_eq_true rfl)⟩ rfl (Nat.le_of_ble_eq_true rfl) dX10_likely_8 ?_
  refine xr_if_ne C 16 dX10_likely_11 (by decide) (fun c11 => ?_) (fun c11 => ?_)
  · have hF := fx_neg hF c11
    refine xr_aload_n C 0 dX10_likely_16 rfl rfl ?_
    obtain ⟨h17, e17, hF⟩ := fx_b1E hF
    refine xr_callVv C mvX10_319 [] [] (mX10_laysWays l G a0 ta0 h8 h17 e17) ta0 (by decide) vc10 rfl ⟨rfl, rfl, (Nat.le_of_ble_eq_true rfl), (Nat.le_of_ble_eq_true rfl)⟩ rfl (Nat.le_of_ble_eq_true rfl) dX10_likely_17 ?_
    refine xr_aload_n C 0 dX10_likely_20 rfl rfl ?_
    refine xr_iload_n C 1 dX10_likely_21 rfl rfl ?_
    refine xr_iload_n C 2 dX10_likely_22 rfl rfl ?_
    obtain ⟨r23, h23, e23, hF⟩ := fx_b2E hF
    refine xr_callVl C mvX10_322 [.int a1, .int a2] [] (mX10_allAt l G a0 a1 a2 ta0 h17 h23 r23 e23) ta0 (by decide) vc10 rfl ⟨rfl, rfl, (Nat.le_of_ble_eq_true rfl), (Nat.le_of_ble_eq_true rfl)⟩ rfl (Nat.le_of_ble_eq_true rfl) dX10_likely_23 ?_
    refine xr_ldc2 C klX10_326 dX10_likely_26 ?_
    refine xr_ldiv C dX10_likely_29 (by decide) ?_
    refine xr_l2i C dX10_likely_30 ?_
    cases hF
    exact xr_iret C dX10_likely_31
  · have hF := fx_pos hF c11
    refine xr_iconst (v := -1) C dX10_likely_14 (by decide) ?_
    cases hF
    exact xr_iret C dX10_likely_15
theorem dX10_ends_0 : decode cX10_ends 0 = .ok (.aload_n 0, 1) := by decide +kernel
theorem dX10_ends_1 : decode cX10_ends 1 = .ok (.iconst 0, 1) := by decide +kernel
theorem dX10_ends_2 : decode cX10_ends 2 = .ok (.putfield 63, 3) := by decide +kernel
theorem dX10_ends_5 : decode cX10_ends 5 = .ok (.aload_n 0, 1) := by decide +kernel
theorem dX10_ends_6 : decode cX10_ends 6 = .ok (.iload_n 1, 1) := by decide +kernel
theorem dX10_ends_7 : decode cX10_ends 7 = .ok (.invokevirtual 180, 3) := by decide +kernel
theorem dX10_ends_10 : decode cX10_ends 10 = .ok (.ifCond .eq 17, 3) := by decide +kernel
theorem dX10_ends_13 : decode cX10_ends 13 = .ok (.iload_n 2, 1) := by decide +kernel
theorem dX10_ends_14 : decode cX10_ends 14 = .ok (.ifCond .lt 13, 3) := by decide +kernel
theorem dX10_ends_17 : decode cX10_ends 17 = .ok (.iload_n 2, 1) := by decide +kernel
theorem dX10_ends_18 : decode cX10_ends 18 = .ok (.aload_n 0, 1) := by decide +kernel
theorem dX10_ends_19 : decode cX10_ends 19 = .ok (.getfield 13, 3) := by decide +kernel
theorem dX10_ends_22 : decode cX10_ends 22 = .ok (.iconst 0, 1) := by decide +kernel
theorem dX10_ends_23 : decode cX10_ends 23 = .ok (.iaload, 1) := by decide +kernel
theorem dX10_ends_24 : decode cX10_ends 24 = .ok (.if_icmp .lt 5, 3) := by decide +kernel
theorem dX10_ends_27 : decode cX10_ends 27 = .ok (.iconst (-1), 1) := by decide +kernel
theorem dX10_ends_28 : decode cX10_ends 28 = .ok (.ireturn, 1) := by decide +kernel
theorem dX10_ends_29 : decode cX10_ends 29 = .ok (.aload_n 0, 1) := by decide +kernel
theorem dX10_ends_30 : decode cX10_ends 30 = .ok (.invokevirtual 319, 3) := by decide +kernel
theorem dX10_ends_33 : decode cX10_ends 33 = .ok (.iload_n 1, 1) := by decide +kernel
theorem dX10_ends_34 : decode cX10_ends 34 = .ok (.ifCond .ne 17, 3) := by decide +kernel
theorem dX10_ends_37 : decode cX10_ends 37 = .ok (.aload_n 0, 1) := by decide +kernel
theorem dX10_ends_38 : decode cX10_ends 38 = .ok (.aload_n 0, 1) := by decide +kernel
theorem dX10_ends_39 : decode cX10_ends 39 = .ok (.getfield 13, 3) := by decide +kernel
theorem dX10_ends_42 : decode cX10_ends 42 = .ok (.iconst 0, 1) := by decide +kernel
theorem dX10_ends_43 : decode cX10_ends 43 = .ok (.iaload, 1) := by decide +kernel
theorem dX10_ends_44 : decode cX10_ends 44 = .ok (.iload_n 2, 1) := by decide +kernel
theorem dX10_ends_45 : decode cX10_ends 45 = .ok (.invokevirtual 322, 3) := by decide +kernel
theorem dX10_ends_48 : decode cX10_ends 48 = .ok (.goto 14, 3) := by decide +kernel
theorem dX10_ends_51 : decode cX10_ends 51 = .ok (.aload_n 0, 1) := by decide +kernel
theorem dX10_ends_52 : decode cX10_ends 52 = .ok (.iload_n 2, 1) := by decide +kernel
theorem dX10_ends_53 : decode cX10_ends 53 = .ok (.aload_n 0, 1) := by decide +kernel
theorem dX10_ends_54 : decode cX10_ends 54 = .ok (.getfield 13, 3) := by decide +kernel
theorem dX10_ends_57 : decode cX10_ends 57 = .ok (.iconst 0, 1) := by decide +kernel
theorem dX10_ends_58 : decode cX10_ends 58 = .ok (.iaload, 1) := by decide +kernel
theorem dX10_ends_59 : decode cX10_ends 59 = .ok (.invokevirtual 322, 3) := by decide +kernel
theorem dX10_ends_62 : decode cX10_ends 62 = .ok (.lstore_n 3, 1) := by decide +kernel
theorem dX10_ends_63 : decode cX10_ends 63 = .ok (.lload_n 3, 1) := by decide +kernel
theorem dX10_ends_64 : decode cX10_ends 64 = .ok (.ldc2_w 326, 3) := by decide +kernel
theorem dX10_ends_67 : decode cX10_ends 67 = .ok (.ldiv, 1) := by decide +kernel
theorem dX10_ends_68 : decode cX10_ends 68 = .ok (.l2i, 1) := by decide +kernel
theorem dX10_ends_69 : decode cX10_ends 69 = .ok (.ireturn, 1) := by decide +kernel
def fX10_ends_62  (s0 : Int64) (h : hp_T) : Option (Int32 × hp_T) := some ((Int64.toInt32 (s0 / (1000000 : Int64))), h)
set_option maxRecDepth 100000 in
set_option maxHeartbeats 4000000 in
theorem bX10_ends_62 {l : Launch} {G : xr_G} {K : xr_K} {r : Int32} {h1 : hp_T} (C : xr_C G K cX10_ends RX10 5 (xr_R 5 120) (some .int) (some (xr_Qi G r h1)))  (s0 : Int64) (h : hp_T) (hF : fX10_ends_62 s0 h = some (r, h1)) : xr_j l G K 5 h [] 62 [.long s0] := by
  unfold fX10_ends_62 at hF
  refine xr_lstore_n C [(3, .long s0)] dX10_ends_62 rfl (Nat.le_of_ble_eq_true rfl) rfl ?_
  refine xr_lload_n C 0 dX10_ends_63 rfl rfl ?_
  refine xr_ldc2 C klX10_326 dX10_ends_64 ?_
  refine xr_ldiv C dX10_ends_67 (by decide) ?_
  refine xr_l2i C dX10_ends_68 ?_
  cases hF
  exact xr_iret C dX10_ends_69
def fX10_ends (a0 : Nat) (a1 : Int32) (a2 : Int32) (h : hp_T) : Option (Int32 × hp_T) := fx_let (hp_sI h a0 0 (0 : Int32)) fun (h2 : hp_T) => fx_b2 (fX10_isSide a0 a1 h2) fun (r7 : Int32) (h7 : hp_T) => if r7 = 0 then (some ((-1 : Int32), h7)) else (if a2 < 0 then (some ((-1 : Int32), h7)) else (if a2 < (h7.1 (h7.2.2 a0 3) (fx_ix (0 : Int32))) then (fx_b1 (fX10_laysWays a0 h7) fun (h30 : hp_T) => if a1 = 0 then (fx_b2 (fX10_allAt a0 (h30.1 (h30.2.2 a0 3) (fx_ix (0 : Int32))) a2 h30) fun (r45 : Int64) (h45 : hp_T) => fX10_ends_62 r45 h45) else (fx_b2 (fX10_allAt a0 a2 (h30.1 (h30.2.2 a0 3) (fx_ix (0 : Int32))) h30) fun (r59 : Int64) (h59 : hp_T) => fX10_ends_62 r59 h59)) else (some ((-1 : Int32), h7))))
set_option maxRecDepth 100000 in
set_option maxHeartbeats 4000000 in
theorem mX10_ends (l : Launch) (G : xr_G) (a0 : Nat) (a1 : Int32) (a2 : Int32) (ta0 : hp_sh a0 = (10, 0)) (h h1 : hp_T) (r : Int32) (hF : fX10_ends a0 a1 a2 h = some (r, h1)) : xr_M l G yX10_ends cX10_ends 5 (xr_R 5 120) (some .int) [.ref (G.2.2.1 a0), .int a1, .int a2] h (xr_Qi G r h1) := by
  refine xr_start rfl (Nat.le_of_ble_eq_true rfl) (fun K C => ?_)
  show xr_j l G K 5 h [(0, .ref (G.2.2.1 a0)), (1, .int a1), (2, .int a2)] 0 []
  unfold fX10_ends at hF
  refine xr_aload_n C 0 dX10_ends_0 rfl rfl ?_
  refine xr_iconst (v := 0) C dX10_ends_1 (by decide) ?_
  refine xr_puti C fpX10_63 rfl rfl rfl dX10_ends_2 ta0 (fun h2 e2 => ?_)
  have hF := fx_letE hF h2 e2
  refine xr_aload_n C 0 dX10_ends_5 rfl rfl ?_
  refine xr_iload_n C 1 dX10_ends_6 rfl rfl ?_
  obtain ⟨r7, h7, e7, hF⟩ := fx_b2E hF
  refine xr_callVi C mvX10_180 [.int a1] [] (mX10_isSide l G a0 a1 ta0 h2 h7 r7 e7) ta0 (by decide) vc10 rfl ⟨rfl, rfl, (Nat.le_of_ble_eq_true rfl), (Nat.le_of_ble_eq_true rfl)⟩ rfl (Nat.le_of_ble_eq_true rfl) dX10_ends_7 ?_
  refine xr_if_eq C 27 dX10_ends_10 (by decide) (fun c10 => ?_) (fun c10 => ?_)
  · have hF := fx_pos hF c10
    refine xr_iconst (v := -1) C dX10_ends_27 (by decide) ?_
    cases hF
    exact xr_iret C dX10_ends_28
  · have hF := fx_neg hF c10
    refine xr_iload_n C 2 dX10_ends_13 rfl rfl ?_
    refine xr_if_lt C 27 dX10_ends_14 (by decide) (fun c14 => ?_) (fun c14 => ?_)
    · have hF := fx_pos hF c14
      refine xr_iconst (v := -1) C dX10_ends_27 (by decide) ?_
      cases hF
      exact xr_iret C dX10_ends_28
    · have hF := fx_neg hF c14
      refine xr_iload_n C 2 dX10_ends_17 rfl rfl ?_
      refine xr_aload_n C 0 dX10_ends_18 rfl rfl ?_
      refine xr_getr C flX10_13 rfl (by decide) dX10_ends_19 ta0 (fun t19 => ?_)
      refine xr_iconst (v := 0) C dX10_ends_22 (by decide) ?_
      refine xr_iald C dX10_ends_23 t19 (by decide) ?_
      refine xr_icmp_lt C 29 dX10_ends_24 (by decide) (fun c24 => ?_) (fun c24 => ?_)
      · have hF := fx_pos hF c24
        refine xr_aload_n C 0 dX10_ends_29 rfl rfl ?_
        obtain ⟨h30, e30, hF⟩ := fx_b1E hF
        refine xr_callVv C mvX10_319 [] [] (mX10_laysWays l G a0 ta0 h7 h30 e30) ta0 (by decide) vc10 rfl ⟨rfl, rfl, (Nat.le_of_ble_eq_true rfl), (Nat.le_of_ble_eq_true rfl)⟩ rfl (Nat.le_of_ble_eq_true rfl) dX10_ends_30 ?_
        refine xr_iload_n C 1 dX10_ends_33 rfl rfl ?_
        refine xr_if_ne C 51 dX10_ends_34 (by decide) (fun c34 => ?_) (fun c34 => ?_)
        · have hF := fx_neg hF c34
          refine xr_aload_n C 0 dX10_ends_51 rfl rfl ?_
          refine xr_iload_n C 2 dX10_ends_52 rfl rfl ?_
          refine xr_aload_n C 0 dX10_ends_53 rfl rfl ?_
          refine xr_getr C flX10_13 rfl (by decide) dX10_ends_54 ta0 (fun t54 => ?_)
          refine xr_iconst (v := 0) C dX10_ends_57 (by decide) ?_
          refine xr_iald C dX10_ends_58 t54 (by decide) ?_
          obtain ⟨r59, h59, e59, hF⟩ := fx_b2E hF
          refine xr_callVl C mvX10_322 [.int a2, .int (h30.1 (h30.2.2 a0 3) (fx_ix (0 : Int32)))] [] (mX10_allAt l G a0 a2 (h30.1 (h30.2.2 a0 3) (fx_ix (0 : Int32))) ta0 h30 h59 r59 e59) ta0 (by decide) vc10 rfl ⟨rfl, rfl, (Nat.le_of_ble_eq_true rfl), (Nat.le_of_ble_eq_true rfl)⟩ rfl (Nat.le_of_ble_eq_true rfl) dX10_ends_59 ?_
          refine xr_sub [] [] rfl ?_
          exact bX10_ends_62 C   r59 h59 hF
        · have hF := fx_pos hF c34
          refine xr_aload_n C 0 dX10_ends_37 rfl rfl ?_
          refine xr_aload_n C 0 dX10_ends_38 rfl rfl ?_
          refine xr_getr C flX10_13 rfl (by decide) dX10_ends_39 ta0 (fun t39 => ?_)
          refine xr_iconst (v := 0) C dX10_ends_42 (by decide) ?_
          refine xr_iald C dX10_ends_43 t39 (by decide) ?_
          refine xr_iload_n C 2 dX10_ends_44 rfl rfl ?_
          obtain ⟨r45, h45, e45, hF⟩ := fx_b2E hF
          refine xr_callVl C mvX10_322 [.int (h30.1 (h30.2.2 a0 3) (fx_ix (0 : Int32))), .int a2] [] (mX10_allAt l G a0 (h30.1 (h30.2.2 a0 3) (fx_ix (0 : Int32))) a2 ta0 h30 h45 r45 e45) ta0 (by decide) vc10 rfl ⟨rfl, rfl, (Nat.le_of_ble_eq_true rfl), (Nat.le_of_ble_eq_true rfl)⟩ rfl (Nat.le_of_ble_eq_true rfl) dX10_ends_45 ?_
          refine xr_goto C 62 dX10_ends_48 (by decide) ?_
          refine xr_sub [] [] rfl ?_
          exact bX10_ends_62 C   r45 h45 hF
      · have hF := fx_neg hF c24
        refine xr_iconst (v := -1) C dX10_ends_27 (by decide) ?_
        cases hF
        exact xr_iret C dX10_ends_28
theorem dX10_length_0 : decode cX10_length 0 = .ok (.aload_n 0, 1) := by decide +kernel
theorem dX10_length_1 : decode cX10_length 1 = .ok (.iconst 0, 1) := by decide +kernel
theorem dX10_length_2 : decode cX10_length 2 = .ok (.putfield 63, 3) := by decide +kernel
theorem dX10_length_5 : decode cX10_length 5 = .ok (.aload_n 0, 1) := by decide +kernel
theorem dX10_length_6 : decode cX10_length 6 = .ok (.getfield 59, 3) := by decide +kernel
theorem dX10_length_9 : decode cX10_length 9 = .ok (.ifCond .ne 5, 3) := by decide +kernel
theorem dX10_length_12 : decode cX10_length 12 = .ok (.iconst (-1), 1) := by decide +kernel
theorem dX10_length_13 : decode cX10_length 13 = .ok (.ireturn, 1) := by decide +kernel
theorem dX10_length_14 : decode cX10_length 14 = .ok (.aload_n 0, 1) := by decide +kernel
theorem dX10_length_15 : decode cX10_length 15 = .ok (.invokevirtual 319, 3) := by decide +kernel
theorem dX10_length_18 : decode cX10_length 18 = .ok (.aload_n 0, 1) := by decide +kernel
theorem dX10_length_19 : decode cX10_length 19 = .ok (.getfield 13, 3) := by decide +kernel
theorem dX10_length_22 : decode cX10_length 22 = .ok (.iconst 0, 1) := by decide +kernel
theorem dX10_length_23 : decode cX10_length 23 = .ok (.iaload, 1) := by decide +kernel
theorem dX10_length_24 : decode cX10_length 24 = .ok (.istore_n 1, 1) := by decide +kernel
theorem dX10_length_25 : decode cX10_length 25 = .ok (.lconst 0, 1) := by decide +kernel
theorem dX10_length_26 : decode cX10_length 26 = .ok (.lstore_n 2, 1) := by decide +kernel
theorem dX10_length_27 : decode cX10_length 27 = .ok (.iconst 0, 1) := by decide +kernel
theorem dX10_length_28 : decode cX10_length 28 = .ok (.istore 4, 2) := by decide +kernel
theorem dX10_length_30 : decode cX10_length 30 = .ok (.iload 4, 2) := by decide +kernel
theorem dX10_length_32 : decode cX10_length 32 = .ok (.iload_n 1, 1) := by decide +kernel
theorem dX10_length_33 : decode cX10_length 33 = .ok (.if_icmp .ge 33, 3) := by decide +kernel
theorem dX10_length_36 : decode cX10_length 36 = .ok (.lload_n 2, 1) := by decide +kernel
theorem dX10_length_37 : decode cX10_length 37 = .ok (.aload_n 0, 1) := by decide +kernel
theorem dX10_length_38 : decode cX10_length 38 = .ok (.iload_n 1, 1) := by decide +kernel
theorem dX10_length_39 : decode cX10_length 39 = .ok (.iload 4, 2) := by decide +kernel
theorem dX10_length_41 : decode cX10_length 41 = .ok (.invokevirtual 322, 3) := by decide +kernel
theorem dX10_length_44 : decode cX10_length 44 = .ok (.aload_n 0, 1) := by decide +kernel
theorem dX10_length_45 : decode cX10_length 45 = .ok (.iload 4, 2) := by decide +kernel
theorem dX10_length_47 : decode cX10_length 47 = .ok (.iload_n 1, 1) := by decide +kernel
theorem dX10_length_48 : decode cX10_length 48 = .ok (.invokevirtual 322, 3) := by decide +kernel
theorem dX10_length_51 : decode cX10_length 51 = .ok (.ladd, 1) := by decide +kernel
theorem dX10_length_52 : decode cX10_length 52 = .ok (.iload_n 1, 1) := by decide +kernel
theorem dX10_length_53 : decode cX10_length 53 = .ok (.iload 4, 2) := by decide +kernel
theorem dX10_length_55 : decode cX10_length 55 = .ok (.iadd, 1) := by decide +kernel
theorem dX10_length_56 : decode cX10_length 56 = .ok (.i2l, 1) := by decide +kernel
theorem dX10_length_57 : decode cX10_length 57 = .ok (.lmul, 1) := by decide +kernel
theorem dX10_length_58 : decode cX10_length 58 = .ok (.ladd, 1) := by decide +kernel
theorem dX10_length_59 : decode cX10_length 59 = .ok (.lstore_n 2, 1) := by decide +kernel
theorem dX10_length_60 : decode cX10_length 60 = .ok (.iinc 4 1, 3) := by decide +kernel
theorem dX10_length_63 : decode cX10_length 63 = .ok (.goto (-33), 3) := by decide +kernel
theorem dX10_length_66 : decode cX10_length 66 = .ok (.lload_n 2, 1) := by decide +kernel
theorem dX10_length_67 : decode cX10_length 67 = .ok (.ldc2_w 328, 3) := by decide +kernel
theorem dX10_length_70 : decode cX10_length 70 = .ok (.ldiv, 1) := by decide +kernel
theorem dX10_length_71 : decode cX10_length 71 = .ok (.l2i, 1) := by decide +kernel
theorem dX10_length_72 : decode cX10_length 72 = .ok (.ireturn, 1) := by decide +kernel
def fX10_length_30  : Nat → Nat → Int32 → Int64 → Int32 → hp_T → Option (Int32 × hp_T)
  | 0, _, _, _, _, _ => none
  | n + 1, a0, a1, a2, a4, h => if a1 ≤ a4 then (some ((Int64.toInt32 (a2 / (10000000000 : Int64))), h)) else (fx_b2 (fX10_allAt a0 a1 a4 h) fun (r41 : Int64) (h41 : hp_T) => fx_b2 (fX10_allAt a0 a4 a1 h41) fun (r48 : Int64) (h48 : hp_T) => fx_let (a2 + ((r41 + r48) * (Int32.toInt64 (a1 + a4)))) fun (x59 : Int64) => fx_let (a4 + (1 : Int32)) fun (x60 : Int32) => fX10_length_30 n a0 a1 x59 x60 h48)
set_option maxRecDepth 100000 in
set_option maxHeartbeats 4000000 in
theorem bX10_length_30 {l : Launch} {G : xr_G} {K : xr_K} {r : Int32} {h1 : hp_T} (C : xr_C G K cX10_length RX10 5 (xr_R 5 120) (some .int) (some (xr_Qi G r h1)))  : ∀ (n : Nat) (a0 : Nat) (a1 : Int32) (a2 : Int64) (a4 : Int32) (ta0 : hp_sh a0 = (10, 0)) (h : hp_T), fX10_length_30 n a0 a1 a2 a4 h = some (r, h1) → xr_j l G K 5 h [(0, .ref (G.2.2.1 a0)), (1, .int a1), (2, .long a2), (4, .int a4)] 30 [] := by
  intro n
  induction n with
  | zero =>
    intro a0 a1 a2 a4 ta0 h hF
    cases hF
  | succ n ih =>
    intro a0 a1 a2 a4 ta0 h hF
    rw [fX10_length_30] at hF
    refine xr_iload C 3 dX10_length_30 rfl ?_
    refine xr_iload_n C 1 dX10_length_32 rfl rfl ?_
    refine xr_icmp_ge C 66 dX10_length_33 (by decide) (fun c33 => ?_) (fun c33 => ?_)
    · have hF := fx_pos hF c33
      refine xr_lload_n C 2 dX10_length_66 rfl rfl ?_
      refine xr_ldc2 C klX10_328 dX10_length_67 ?_
      refine xr_ldiv C dX10_length_70 (by decide) ?_
      refine xr_l2i C dX10_length_71 ?_
      cases hF
      exact xr_iret C dX10_length_72
    · have hF := fx_neg hF c33
      refine xr_lload_n C 2 dX10_length_36 rfl rfl ?_
      refine xr_aload_n C 0 dX10_length_37 rfl rfl ?_
      refine xr_iload_n C 1 dX10_length_38 rfl rfl ?_
      refine xr_iload C 3 dX10_length_39 rfl ?_
      obtain ⟨r41, h41, e41, hF⟩ := fx_b2E hF
      refine xr_callVl C mvX10_322 [.int a1, .int a4] [.long a2] (mX10_allAt l G a0 a1 a4 ta0 h h41 r41 e41) ta0 (by decide) vc10 rfl ⟨rfl, rfl, (Nat.le_of_ble_eq_true rfl), (Nat.le_of_ble_eq_true rfl)⟩ rfl (Nat.le_of_ble_eq_true rfl) dX10_length_41 ?_
      refine xr_aload_n C 0 dX10_length_44 rfl rfl ?_
      refine xr_iload C 3 dX10_length_45 rfl ?_
      refine xr_iload_n C 1 dX10_length_47 rfl rfl ?_
      obtain ⟨r48, h48, e48, hF⟩ := fx_b2E hF
      refine xr_callVl C mvX10_322 [.int a4, .int a1] [.long r41, .long a2] (mX10_allAt l G a0 a4 a1 ta0 h41 h48 r48 e48) ta0 (by decide) vc10 rfl ⟨rfl, rfl, (Nat.le_of_ble_eq_true rfl), (Nat.le_of_ble_eq_true rfl)⟩ rfl (Nat.le_of_ble_eq_true rfl) dX10_length_48 ?_
      refine xr_ladd C dX10_length_51 ?_
      refine xr_iload_n C 1 dX10_length_52 rfl rfl ?_
      refine xr_iload C 3 dX10_length_53 rfl ?_
      refine xr_iadd C dX10_length_55 ?_
      refine xr_i2l C dX10_length_56 ?_
      refine xr_lmul C dX10_length_57 ?_
      refine xr_ladd C dX10_length_58 ?_
      refine xr_topl (fun x59 e59 => ?_)
      have hF := fx_letE hF x59 e59
      refine xr_lstore_n C [(2, .long x59), (0, .ref (G.2.2.1 a0)), (1, .int a1), (4, .int a4)] dX10_length_59 rfl (Nat.le_of_ble_eq_true rfl) rfl ?_
      obtain ⟨x60, e60⟩ : ∃ y : Int32, y = (a4 + (1 : Int32)) := ⟨_, rfl⟩
      have hF := fx_letE hF x60 e60
      refine xr_iinc C x60 3 [(4, .int x60), (2, .long x59), (0, .ref (G.2.2.1 a0)), (1, .int a1)] dX10_length_60 rfl (by rw [e60]; rfl) (Nat.le_of_ble_eq_true rfl) rfl ?_
      refine xr_goto C 30 dX10_length_63 (by decide) ?_
      refine xr_sub [2, 3, 1, 0] [(0, .ref (G.2.2.1 a0)), (1, .int a1), (2, .long x59), (4, .int x60)] rfl ?_
      exact ih a0 a1 x59 x60 ta0 h48 hF
def fX10_length (a0 : Nat) (h : hp_T) : Option (Int32 × hp_T) := fx_let (hp_sI h a0 0 (0 : Int32)) fun (h2 : hp_T) => if (h2.1 a0 7) = 0 then (some ((-1 : Int32), h2)) else (fx_b1 (fX10_laysWays a0 h2) fun (h15 : hp_T) => fx_let (h15.1 (h15.2.2 a0 3) (fx_ix (0 : Int32))) fun (x24 : Int32) => fX10_length_30 fx_N a0 x24 (0 : Int64) (0 : Int32) h15)
set_option maxRecDepth 100000 in
set_option maxHeartbeats 4000000 in
theorem mX10_length (l : Launch) (G : xr_G) (a0 : Nat) (ta0 : hp_sh a0 = (10, 0)) (h h1 : hp_T) (r : Int32) (hF : fX10_length a0 h = some (r, h1)) : xr_M l G yX10_length cX10_length 5 (xr_R 5 120) (some .int) [.ref (G.2.2.1 a0)] h (xr_Qi G r h1) := by
  refine xr_start rfl (Nat.le_of_ble_eq_true rfl) (fun K C => ?_)
  show xr_j l G K 5 h [(0, .ref (G.2.2.1 a0))] 0 []
  unfold fX10_length at hF
  refine xr_aload_n C 0 dX10_length_0 rfl rfl ?_
  refine xr_iconst (v := 0) C dX10_length_1 (by decide) ?_
  refine xr_puti C fpX10_63 rfl rfl rfl dX10_length_2 ta0 (fun h2 e2 => ?_)
  have hF := fx_letE hF h2 e2
  refine xr_aload_n C 0 dX10_length_5 rfl rfl ?_
  refine xr_geti C flX10_59 rfl dX10_length_6 ta0 ?_
  refine xr_if_ne C 14 dX10_length_9 (by decide) (fun c9 => ?_) (fun c9 => ?_)
  · have hF := fx_neg hF c9
    refine xr_aload_n C 0 dX10_length_14 rfl rfl ?_
    obtain ⟨h15, e15, hF⟩ := fx_b1E hF
    refine xr_callVv C mvX10_319 [] [] (mX10_laysWays l G a0 ta0 h2 h15 e15) ta0 (by decide) vc10 rfl ⟨rfl, rfl, (Nat.le_of_ble_eq_true rfl), (Nat.le_of_ble_eq_true rfl)⟩ rfl (Nat.le_of_ble_eq_true rfl) dX10_length_15 ?_
    refine xr_aload_n C 0 dX10_length_18 rfl rfl ?_
    refine xr_getr C flX10_13 rfl (by decide) dX10_length_19 ta0 (fun t19 => ?_)
    refine xr_iconst (v := 0) C dX10_length_22 (by decide) ?_
    refine xr_iald C dX10_length_23 t19 (by decide) ?_
    refine xr_topi (fun x24 e24 => ?_)
    have hF := fx_letE hF x24 e24
    refine xr_istore_n C [(1, .int x24), (0, .ref (G.2.2.1 a0))] dX10_length_24 rfl (Nat.le_of_ble_eq_true rfl) rfl ?_
    refine xr_lconst (v := 0) C dX10_length_25 (by decide) ?_
    refine xr_lstore_n C [(2, .long (0 : Int64)), (1, .int x24), (0, .ref (G.2.2.1 a0))] dX10_length_26 rfl (Nat.le_of_ble_eq_true rfl) rfl ?_
    refine xr_iconst (v := 0) C dX10_length_27 (by decide) ?_
    refine xr_istore C [(4, .int (0 : Int32)), (2, .long (0 : Int64)), (1, .int x24), (0, .ref (G.2.2.1 a0))] dX10_length_28 (Nat.le_of_ble_eq_true rfl) rfl ?_
    refine xr_sub [3, 2, 1, 0] [(0, .ref (G.2.2.1 a0)), (1, .int x24), (2, .long (0 : Int64)), (4, .int (0 : Int32))] rfl ?_
    exact bX10_length_30 C  fx_N a0 x24 (0 : Int64) (0 : Int32) ta0 h15 hF
  · have hF := fx_pos hF c9
    refine xr_iconst (v := -1) C dX10_length_12 (by decide) ?_
    cases hF
    exact xr_iret C dX10_length_13
theorem dX10_streak_0 : decode cX10_streak 0 = .ok (.aload_n 0, 1) := by decide +kernel
theorem dX10_streak_1 : decode cX10_streak 1 = .ok (.iconst 0, 1) := by decide +kernel
theorem dX10_streak_2 : decode cX10_streak 2 = .ok (.putfield 63, 3) := by decide +kernel
theorem dX10_streak_5 : decode cX10_streak 5 = .ok (.aload_n 0, 1) := by decide +kernel
theorem dX10_streak_6 : decode cX10_streak 6 = .ok (.iload_n 1, 1) := by decide +kernel
theorem dX10_streak_7 : decode cX10_streak 7 = .ok (.invokevirtual 180, 3) := by decide +kernel
theorem dX10_streak_10 : decode cX10_streak 10 = .ok (.ifCond .eq 7, 3) := by decide +kernel
theorem dX10_streak_13 : decode cX10_streak 13 = .ok (.iload_n 2, 1) := by decide +kernel
theorem dX10_streak_14 : decode cX10_streak 14 = .ok (.ifCond .ge 5, 3) := by decide +kernel
theorem dX10_streak_17 : decode cX10_streak 17 = .ok (.iconst (-1), 1) := by decide +kernel
theorem dX10_streak_18 : decode cX10_streak 18 = .ok (.ireturn, 1) := by decide +kernel
theorem dX10_streak_19 : decode cX10_streak 19 = .ok (.aload_n 0, 1) := by decide +kernel
theorem dX10_streak_20 : decode cX10_streak 20 = .ok (.invokevirtual 215, 3) := by decide +kernel
theorem dX10_streak_23 : decode cX10_streak 23 = .ok (.ifCond .eq 7, 3) := by decide +kernel
theorem dX10_streak_26 : decode cX10_streak 26 = .ok (.iconst 0, 1) := by decide +kernel
theorem dX10_streak_27 : decode cX10_streak 27 = .ok (.goto 18, 3) := by decide +kernel
theorem dX10_streak_30 : decode cX10_streak 30 = .ok (.aload_n 0, 1) := by decide +kernel
theorem dX10_streak_31 : decode cX10_streak 31 = .ok (.getfield 13, 3) := by decide +kernel
theorem dX10_streak_34 : decode cX10_streak 34 = .ok (.iconst 0, 1) := by decide +kernel
theorem dX10_streak_35 : decode cX10_streak 35 = .ok (.iaload, 1) := by decide +kernel
theorem dX10_streak_36 : decode cX10_streak 36 = .ok (.aload_n 0, 1) := by decide +kernel
theorem dX10_streak_37 : decode cX10_streak 37 = .ok (.getfield 36, 3) := by decide +kernel
theorem dX10_streak_40 : decode cX10_streak 40 = .ok (.iconst 0, 1) := by decide +kernel
theorem dX10_streak_41 : decode cX10_streak 41 = .ok (.iload_n 1, 1) := by decide +kernel
theorem dX10_streak_42 : decode cX10_streak 42 = .ok (.iadd, 1) := by decide +kernel
theorem dX10_streak_43 : decode cX10_streak 43 = .ok (.iaload, 1) := by decide +kernel
theorem dX10_streak_44 : decode cX10_streak 44 = .ok (.isub, 1) := by decide +kernel
theorem dX10_streak_45 : decode cX10_streak 45 = .ok (.istore_n 3, 1) := by decide +kernel
theorem dX10_streak_46 : decode cX10_streak 46 = .ok (.iload_n 2, 1) := by decide +kernel
theorem dX10_streak_47 : decode cX10_streak 47 = .ok (.iload_n 3, 1) := by decide +kernel
theorem dX10_streak_48 : decode cX10_streak 48 = .ok (.if_icmp .le 5, 3) := by decide +kernel
theorem dX10_streak_51 : decode cX10_streak 51 = .ok (.iconst (-1), 1) := by decide +kernel
theorem dX10_streak_52 : decode cX10_streak 52 = .ok (.ireturn, 1) := by decide +kernel
theorem dX10_streak_53 : decode cX10_streak 53 = .ok (.aload_n 0, 1) := by decide +kernel
theorem dX10_streak_54 : decode cX10_streak 54 = .ok (.invokevirtual 262, 3) := by decide +kernel
theorem dX10_streak_57 : decode cX10_streak 57 = .ok (.ldc2_w 326, 3) := by decide +kernel
theorem dX10_streak_60 : decode cX10_streak 60 = .ok (.lstore 4, 2) := by decide +kernel
theorem dX10_streak_62 : decode cX10_streak 62 = .ok (.iconst 0, 1) := by decide +kernel
theorem dX10_streak_63 : decode cX10_streak 63 = .ok (.istore 6, 2) := by decide +kernel
theorem dX10_streak_65 : decode cX10_streak 65 = .ok (.aload_n 0, 1) := by decide +kernel
theorem dX10_streak_66 : decode cX10_streak 66 = .ok (.getfield 36, 3) := by decide +kernel
theorem dX10_streak_69 : decode cX10_streak 69 = .ok (.iconst 2, 1) := by decide +kernel
theorem dX10_streak_70 : decode cX10_streak 70 = .ok (.iaload, 1) := by decide +kernel
theorem dX10_streak_71 : decode cX10_streak 71 = .ok (.istore 7, 2) := by decide +kernel
theorem dX10_streak_73 : decode cX10_streak 73 = .ok (.iconst 0, 1) := by decide +kernel
theorem dX10_streak_74 : decode cX10_streak 74 = .ok (.istore 8, 2) := by decide +kernel
theorem dX10_streak_76 : decode cX10_streak 76 = .ok (.iload 8, 2) := by decide +kernel
theorem dX10_streak_78 : decode cX10_streak 78 = .ok (.iload_n 2, 1) := by decide +kernel
theorem dX10_streak_79 : decode cX10_streak 79 = .ok (.if_icmp .ge 84, 3) := by decide +kernel
theorem dX10_streak_82 : decode cX10_streak 82 = .ok (.aload_n 0, 1) := by decide +kernel
theorem dX10_streak_83 : decode cX10_streak 83 = .ok (.iload_n 1, 1) := by decide +kernel
theorem dX10_streak_84 : decode cX10_streak 84 = .ok (.ifCond .ne 8, 3) := by decide +kernel
theorem dX10_streak_87 : decode cX10_streak 87 = .ok (.iload 6, 2) := by decide +kernel
theorem dX10_streak_89 : decode cX10_streak 89 = .ok (.goto 4, 3) := by decide +kernel
theorem dX10_streak_92 : decode cX10_streak 92 = .ok (.iconst 0, 1) := by decide +kernel
theorem dX10_streak_93 : decode cX10_streak 93 = .ok (.iload_n 1, 1) := by decide +kernel
theorem dX10_streak_94 : decode cX10_streak 94 = .ok (.iconst 1, 1) := by decide +kernel
theorem dX10_streak_95 : decode cX10_streak 95 = .ok (.if_icmp .ne 8, 3) := by decide +kernel
theorem dX10_streak_98 : decode cX10_streak 98 = .ok (.iload 6, 2) := by decide +kernel
theorem dX10_streak_100 : decode cX10_streak 100 = .ok (.goto 4, 3) := by decide +kernel
theorem dX10_streak_103 : decode cX10_streak 103 = .ok (.iconst 0, 1) := by decide +kernel
theorem dX10_streak_104 : decode cX10_streak 104 = .ok (.iload 7, 2) := by decide +kernel
theorem dX10_streak_106 : decode cX10_streak 106 = .ok (.invokevirtual 256, 3) := by decide +kernel
theorem dX10_streak_109 : decode cX10_streak 109 = .ok (.istore 9, 2) := by decide +kernel
theorem dX10_streak_111 : decode cX10_streak 111 = .ok (.lload 4, 2) := by decide +kernel
theorem dX10_streak_113 : decode cX10_streak 113 = .ok (.iload 7, 2) := by decide +kernel
theorem dX10_streak_115 : decode cX10_streak 115 = .ok (.iload_n 1, 1) := by decide +kernel
theorem dX10_streak_116 : decode cX10_streak 116 = .ok (.if_icmp .ne 8, 3) := by decide +kernel
theorem dX10_streak_119 : decode cX10_streak 119 = .ok (.iload 9, 2) := by decide +kernel
theorem dX10_streak_121 : decode cX10_streak 121 = .ok (.goto 9, 3) := by decide +kernel
theorem dX10_streak_124 : decode cX10_streak 124 = .ok (.sipush 1000, 3) := by decide +kernel
theorem dX10_streak_127 : decode cX10_streak 127 = .ok (.iload 9, 2) := by decide +kernel
theorem dX10_streak_129 : decode cX10_streak 129 = .ok (.isub, 1) := by decide +kernel
theorem dX10_streak_130 : decode cX10_streak 130 = .ok (.i2l, 1) := by decide +kernel
theorem dX10_streak_131 : decode cX10_streak 131 = .ok (.lmul, 1) := by decide +kernel
theorem dX10_streak_132 : decode cX10_streak 132 = .ok (.ldc2_w 272, 3) := by decide +kernel
theorem dX10_streak_135 : decode cX10_streak 135 = .ok (.ldiv, 1) := by decide +kernel
theorem dX10_streak_136 : decode cX10_streak 136 = .ok (.lstore 4, 2) := by decide +kernel
theorem dX10_streak_138 : decode cX10_streak 138 = .ok (.iload 6, 2) := by decide +kernel
theorem dX10_streak_140 : decode cX10_streak 140 = .ok (.iload 7, 2) := by decide +kernel
theorem dX10_streak_142 : decode cX10_streak 142 = .ok (.iload_n 1, 1) := by decide +kernel
theorem dX10_streak_143 : decode cX10_streak 143 = .ok (.if_icmp .ne 7, 3) := by decide +kernel
theorem dX10_streak_146 : decode cX10_streak 146 = .ok (.iconst 0, 1) := by decide +kernel
theorem dX10_streak_147 : decode cX10_streak 147 = .ok (.goto 4, 3) := by decide +kernel
theorem dX10_streak_150 : decode cX10_streak 150 = .ok (.iconst 1, 1) := by decide +kernel
theorem dX10_streak_151 : decode cX10_streak 151 = .ok (.iadd, 1) := by decide +kernel
theorem dX10_streak_152 : decode cX10_streak 152 = .ok (.istore 6, 2) := by decide +kernel
theorem dX10_streak_154 : decode cX10_streak 154 = .ok (.iload_n 1, 1) := by decide +kernel
theorem dX10_streak_155 : decode cX10_streak 155 = .ok (.istore 7, 2) := by decide +kernel
theorem dX10_streak_157 : decode cX10_streak 157 = .ok (.iinc 8 1, 3) := by decide +kernel
theorem dX10_streak_160 : decode cX10_streak 160 = .ok (.goto (-84), 3) := by decide +kernel
theorem dX10_streak_163 : decode cX10_streak 163 = .ok (.lload 4, 2) := by decide +kernel
theorem dX10_streak_165 : decode cX10_streak 165 = .ok (.l2i, 1) := by decide +kernel
theorem dX10_streak_166 : decode cX10_streak 166 = .ok (.ireturn, 1) := by decide +kernel
def fX10_streak_151 (k76 : Nat → Int32 → Int32 → Int64 → Int32 → Int32 → Int32 → hp_T → Option (Int32 × hp_T)) (a0 : Nat) (a1 : Int32) (a2 : Int32) (a4 : Int64) (a8 : Int32) (s0 : Int32) (s1 : Int32) (h : hp_T) : Option (Int32 × hp_T) := fx_let (s0 + s1) fun (x152 : Int32) => fx_let (a8 + (1 : Int32)) fun (x157 : Int32) => k76 a0 a1 a2 a4 x152 a1 x157 h
set_option maxRecDepth 100000 in
set_option maxHeartbeats 4000000 in
theorem bX10_streak_151 {l : Launch} {G : xr_G} {K : xr_K} {r : Int32} {h1 : hp_T} (C : xr_C G K cX10_streak RX10 10 (xr_R 4 97) (some .int) (some (xr_Qi G r h1))) (k76 : Nat → Int32 → Int32 → Int64 → Int32 → Int32 → Int32 → hp_T → Option (Int32 × hp_T)) (j76 : ∀ (a0 : Nat) (a1 : Int32) (a2 : Int32) (a4 : Int64) (a6 : Int32) (a7 : Int32) (a8 : Int32) (ta0 : hp_sh a0 = (10, 0)) (h : hp_T), k76 a0 a1 a2 a4 a6 a7 a8 h = some (r, h1) → xr_j l G K 10 h [(0, .ref (G.2.2.1 a0)), (1, .int a1), (2, .int a2), (4, .long a4), (6, .int a6), (7, .int a7), (8, .int a8)] 76 []) (a0 : Nat) (a1 : Int32) (a2 : Int32) (a4 : Int64) (a8 : Int32) (s0 : Int32) (s1 : Int32) (ta0 : hp_sh a0 = (10, 0)) (h : hp_T) (hF : fX10_streak_151 k76 a0 a1 a2 a4 a8 s0 s1 h = some (r, h1)) : xr_j l G K 10 h [(0, .ref (G.2.2.1 a0)), (1, .int a1), (2, .int a2), (4, .long a4), (8, .int a8)] 151 [.int s1, .int s0] := by
  unfold fX10_streak_151 at hF
  refine xr_iadd C dX10_streak_151 ?_
  refine xr_topi (fun x152 e152 => ?_)
  have hF := fx_letE hF x152 e152
  refine xr_istore C [(6, .int x152), (0, .ref (G.2.2.1 a0)), (1, .int a1), (2, .int a2), (4, .long a4), (8, .int a8)] dX10_streak_152 (Nat.le_of_ble_eq_true rfl) rfl ?_
  refine xr_iload_n C 2 dX10_streak_154 rfl rfl ?_
  refine xr_istore C [(7, .int a1), (6, .int x152), (0, .ref (G.2.2.1 a0)), (1, .int a1), (2, .int a2), (4, .long a4), (8, .int a8)] dX10_streak_155 (Nat.le_of_ble_eq_true rfl) rfl ?_
  obtain ⟨x157, e157⟩ : ∃ y : Int32, y = (a8 + (1 : Int32)) := ⟨_, rfl⟩
  have hF := fx_letE hF x157 e157
  refine xr_iinc C x157 6 [(8, .int x157), (7, .int a1), (6, .int x152), (0, .ref (G.2.2.1 a0)), (1, .int a1), (2, .int a2), (4, .long a4)] dX10_streak_157 rfl (by rw [e157]; rfl) (Nat.le_of_ble_eq_true rfl) rfl ?_
  refine xr_goto C 76 dX10_streak_160 (by decide) ?_
  refine xr_sub [3, 4, 5, 6, 2, 1, 0] [(0, .ref (G.2.2.1 a0)), (1, .int a1), (2, .int a2), (4, .long a4), (6, .int x152), (7, .int a1), (8, .int x157)] rfl ?_
  exact j76 a0 a1 a2 a4 x152 a1 x157 ta0 h hF
def fX10_streak_130 (k76 : Nat → Int32 → Int32 → Int64 → Int32 → Int32 → Int32 → hp_T → Option (Int32 × hp_T)) (a0 : Nat) (a1 : Int32) (a2 : Int32) (a6 : Int32) (a7 : Int32) (a8 : Int32) (s0 : Int64) (s1 : Int32) (h : hp_T) : Option (Int32 × hp_T) := fx_let ((s0 * (Int32.toInt64 s1)) / (1000 : Int64)) fun (x136 : Int64) => if a7 = a1 then (fX10_streak_151 k76 a0 a1 a2 x136 a8 a6 (0 : Int32) h) else (fX10_streak_151 k76 a0 a1 a2 x136 a8 a6 (1 : Int32) h)
set_option maxRecDepth 100000 in
set_option maxHeartbeats 4000000 in
theorem bX10_streak_130 {l : Launch} {G : xr_G} {K : xr_K} {r : Int32} {h1 : hp_T} (C : xr_C G K cX10_streak RX10 10 (xr_R 4 97) (some .int) (some (xr_Qi G r h1))) (k76 : Nat → Int32 → Int32 → Int64 → Int32 → Int32 → Int32 → hp_T → Option (Int32 × hp_T)) (j76 : ∀ (a0 : Nat) (a1 : Int32) (a2 : Int32) (a4 : Int64) (a6 : Int32) (a7 : Int32) (a8 : Int32) (ta0 : hp_sh a0 = (10, 0)) (h : hp_T), k76 a0 a1 a2 a4 a6 a7 a8 h = some (r, h1) → xr_j l G K 10 h [(0, .ref (G.2.2.1 a0)), (1, .int a1), (2, .int a2), (4, .long a4), (6, .int a6), (7, .int a7), (8, .int a8)] 76 []) (a0 : Nat) (a1 : Int32) (a2 : Int32) (a6 : Int32) (a7 : Int32) (a8 : Int32) (s0 : Int64) (s1 : Int32) (ta0 : hp_sh a0 = (10, 0)) (h : hp_T) (hF : fX10_streak_130 k76 a0 a1 a2 a6 a7 a8 s0 s1 h = some (r, h1)) : xr_j l G K 10 h [(0, .ref (G.2.2.1 a0)), (1, .int a1), (2, .int a2), (6, .int a6), (7, .int a7), (8, .int a8)] 130 [.int s1, .long s0] := by
  unfold fX10_streak_130 at hF
  refine xr_i2l C dX10_streak_130 ?_
  refine xr_lmul C dX10_streak_131 ?_
  refine xr_ldc2 C klX10_272 dX10_streak_132 ?_
  refine xr_ldiv C dX10_streak_135 (by decide) ?_
  refine xr_topl (fun x136 e136 => ?_)
  have hF := fx_letE hF x136 e136
  refine xr_lstore C [(4, .long x136), (0, .ref (G.2.2.1 a0)), (1, .int a1), (2, .int a2), (6, .int a6), (7, .int a7), (8, .int a8)] dX10_streak_136 (Nat.le_of_ble_eq_true rfl) rfl ?_
  refine xr_iload C 4 dX10_streak_138 rfl ?_
  refine xr_iload C 5 dX10_streak_140 rfl ?_
  refine xr_iload_n C 2 dX10_streak_142 rfl rfl ?_
  refine xr_icmp_ne C 150 dX10_streak_143 (by decide) (fun c143 => ?_) (fun c143 => ?_)
  · have hF := fx_neg hF c143
    refine xr_iconst (v := 1) C dX10_streak_150 (by decide) ?_
    refine xr_sub [1, 2, 3, 0, 6] [(0, .ref (G.2.2.1 a0)), (1, .int a1), (2, .int a2), (4, .long x136), (8, .int a8)] rfl ?_
    exact bX10_streak_151 C k76 j76  a0 a1 a2 x136 a8 a6 (1 : Int32) ta0 h hF
  · have hF := fx_pos hF c143
    refine xr_iconst (v := 0) C dX10_streak_146 (by decide) ?_
    refine xr_goto C 151 dX10_streak_147 (by decide) ?_
    refine xr_sub [1, 2, 3, 0, 6] [(0, .ref (G.2.2.1 a0)), (1, .int a1), (2, .int a2), (4, .long x136), (8, .int a8)] rfl ?_
    exact bX10_streak_151 C k76 j76  a0 a1 a2 x136 a8 a6 (0 : Int32) ta0 h hF
def fX10_streak_104 (k76 : Nat → Int32 → Int32 → Int64 → Int32 → Int32 → Int32 → hp_T → Option (Int32 × hp_T)) (a0 : Nat) (a1 : Int32) (a2 : Int32) (a4 : Int64) (a6 : Int32) (a7 : Int32) (a8 : Int32) (s0 : Nat) (s1 : Int32) (s2 : Int32) (h : hp_T) : Option (Int32 × hp_T) := fx_b2 (fX10_chanceOf s0 s1 s2 a7 h) fun (r106 : Int32) (h106 : hp_T) => if a7 = a1 then (fX10_streak_130 k76 a0 a1 a2 a6 a7 a8 a4 r106 h106) else (fX10_streak_130 k76 a0 a1 a2 a6 a7 a8 a4 ((1000 : Int32) - r106) h106)
set_option maxRecDepth 100000 in
set_option maxHeartbeats 4000000 in
theorem bX10_streak_104 {l : Launch} {G : xr_G} {K : xr_K} {r : Int32} {h1 : hp_T} (C : xr_C G K cX10_streak RX10 10 (xr_R 4 97) (some .int) (some (xr_Qi G r h1))) (k76 : Nat → Int32 → Int32 → Int64 → Int32 → Int32 → Int32 → hp_T → Option (Int32 × hp_T)) (j76 : ∀ (a0 : Nat) (a1 : Int32) (a2 : Int32) (a4 : Int64) (a6 : Int32) (a7 : Int32) (a8 : Int32) (ta0 : hp_sh a0 = (10, 0)) (h : hp_T), k76 a0 a1 a2 a4 a6 a7 a8 h = some (r, h1) → xr_j l G K 10 h [(0, .ref (G.2.2.1 a0)), (1, .int a1), (2, .int a2), (4, .long a4), (6, .int a6), (7, .int a7), (8, .int a8)] 76 []) (a0 : Nat) (a1 : Int32) (a2 : Int32) (a4 : Int64) (a6 : Int32) (a7 : Int32) (a8 : Int32) (s0 : Nat) (s1 : Int32) (s2 : Int32) (ta0 : hp_sh a0 = (10, 0)) (ts0 : hp_sh s0 = (10, 0)) (h : hp_T) (hF : fX10_streak_104 k76 a0 a1 a2 a4 a6 a7 a8 s0 s1 s2 h = some (r, h1)) : xr_j l G K 10 h [(0, .ref (G.2.2.1 a0)), (1, .int a1), (2, .int a2), (4, .long a4), (6, .int a6), (7, .int a7), (8, .int a8)] 104 [.int s2, .int s1, .ref (G.2.2.1 s0)] := by
  unfold fX10_streak_104 at hF
  refine xr_iload C 5 dX10_streak_104 rfl ?_
  obtain ⟨r106, h106, e106, hF⟩ := fx_b2E hF
  refine xr_callVi C mvX10_256 [.int s1, .int s2, .int a7] [] (mX10_chanceOf l G s0 s1 s2 a7 ts0 h h106 r106 e106) ts0 (by decide) vc10 rfl ⟨rfl, rfl, (Nat.le_of_ble_eq_true rfl), (Nat.le_of_ble_eq_true rfl)⟩ rfl (Nat.le_of_ble_eq_true rfl) dX10_streak_106 ?_
  refine xr_istore C [(9, .int r106), (0, .ref (G.2.2.1 a0)), (1, .int a1), (2, .int a2), (4, .long a4), (6, .int a6), (7, .int a7), (8, .int a8)] dX10_streak_109 (Nat.le_of_ble_eq_true rfl) rfl ?_
  refine xr_lload C 4 dX10_streak_111 rfl ?_
  refine xr_iload C 6 dX10_streak_113 rfl ?_
  refine xr_iload_n C 2 dX10_streak_115 rfl rfl ?_
  refine xr_icmp_ne C 124 dX10_streak_116 (by decide) (fun c116 => ?_) (fun c116 => ?_)
  · have hF := fx_neg hF c116
    refine xr_sipush (v := 1000) C dX10_streak_124 (by decide) ?_
    refine xr_iload C 0 dX10_streak_127 rfl ?_
    refine xr_isub C dX10_streak_129 ?_
    refine xr_sub [1, 2, 3, 5, 6, 7] [(0, .ref (G.2.2.1 a0)), (1, .int a1), (2, .int a2), (6, .int a6), (7, .int a7), (8, .int a8)] rfl ?_
    exact bX10_streak_130 C k76 j76  a0 a1 a2 a6 a7 a8 a4 ((1000 : Int32) - r106) ta0 h106 hF
  · have hF := fx_pos hF c116
    refine xr_iload C 0 dX10_streak_119 rfl ?_
    refine xr_goto C 130 dX10_streak_121 (by decide) ?_
    refine xr_sub [1, 2, 3, 5, 6, 7] [(0, .ref (G.2.2.1 a0)), (1, .int a1), (2, .int a2), (6, .int a6), (7, .int a7), (8, .int a8)] rfl ?_
    exact bX10_streak_130 C k76 j76  a0 a1 a2 a6 a7 a8 a4 r106 ta0 h106 hF
def fX10_streak_93 (k76 : Nat → Int32 → Int32 → Int64 → Int32 → Int32 → Int32 → hp_T → Option (Int32 × hp_T)) (a0 : Nat) (a1 : Int32) (a2 : Int32) (a4 : Int64) (a6 : Int32) (a7 : Int32) (a8 : Int32) (s0 : Nat) (s1 : Int32) (h : hp_T) : Option (Int32 × hp_T) := if a1 = (1 : Int32) then (fX10_streak_104 k76 a0 a1 a2 a4 a6 a7 a8 s0 s1 a6 h) else (fX10_streak_104 k76 a0 a1 a2 a4 a6 a7 a8 s0 s1 (0 : Int32) h)
set_option maxRecDepth 100000 in
set_option maxHeartbeats 4000000 in
theorem bX10_streak_93 {l : Launch} {G : xr_G} {K : xr_K} {r : Int32} {h1 : hp_T} (C : xr_C G K cX10_streak RX10 10 (xr_R 4 97) (some .int) (some (xr_Qi G r h1))) (k76 : Nat → Int32 → Int32 → Int64 → Int32 → Int32 → Int32 → hp_T → Option (Int32 × hp_T)) (j76 : ∀ (a0 : Nat) (a1 : Int32) (a2 : Int32) (a4 : Int64) (a6 : Int32) (a7 : Int32) (a8 : Int32) (ta0 : hp_sh a0 = (10, 0)) (h : hp_T), k76 a0 a1 a2 a4 a6 a7 a8 h = some (r, h1) → xr_j l G K 10 h [(0, .ref (G.2.2.1 a0)), (1, .int a1), (2, .int a2), (4, .long a4), (6, .int a6), (7, .int a7), (8, .int a8)] 76 []) (a0 : Nat) (a1 : Int32) (a2 : Int32) (a4 : Int64) (a6 : Int32) (a7 : Int32) (a8 : Int32) (s0 : Nat) (s1 : Int32) (ta0 : hp_sh a0 = (10, 0)) (ts0 : hp_sh s0 = (10, 0)) (h : hp_T) (hF : fX10_streak_93 k76 a0 a1 a2 a4 a6 a7 a8 s0 s1 h = some (r, h1)) : xr_j l G K 10 h [(0, .ref (G.2.2.1 a0)), (1, .int a1), (2, .int a2), (4, .long a4), (6, .int a6), (7, .int a7), (8, .int a8)] 93 [.int s1, .ref (G.2.2.1 s0)] := by
  unfold fX10_streak_93 at hF
  refine xr_iload_n C 1 dX10_streak_93 rfl rfl ?_
  refine xr_iconst (v := 1) C dX10_streak_94 (by decide) ?_
  refine xr_icmp_ne C 103 dX10_streak_95 (by decide) (fun c95 => ?_) (fun c95 => ?_)
  · have hF := fx_neg hF c95
    refine xr_iconst (v := 0) C dX10_streak_103 (by decide) ?_
    exact bX10_streak_104 C k76 j76  a0 a1 a2 a4 a6 a7 a8 s0 s1 (0 : Int32) ta0 ts0 h hF
  · have hF := fx_pos hF c95
    refine xr_iload C 4 dX10_streak_98 rfl ?_
    refine xr_goto C 104 dX10_streak_100 (by decide) ?_
    exact bX10_streak_104 C k76 j76  a0 a1 a2 a4 a6 a7 a8 s0 s1 a6 ta0 ts0 h hF
def fX10_streak_76  : Nat → Nat → Int32 → Int32 → Int64 → Int32 → Int32 → Int32 → hp_T → Option (Int32 × hp_T)
  | 0, _, _, _, _, _, _, _, _ => none
  | n + 1, a0, a1, a2, a4, a6, a7, a8, h => if a2 ≤ a8 then (some ((Int64.toInt32 a4), h)) else (if a1 = 0 then (fX10_streak_93 (fX10_streak_76 n) a0 a1 a2 a4 a6 a7 a8 a0 a6 h) else (fX10_streak_93 (fX10_streak_76 n) a0 a1 a2 a4 a6 a7 a8 a0 (0 : Int32) h))
set_option maxRecDepth 100000 in
set_option maxHeartbeats 4000000 in
theorem bX10_streak_76 {l : Launch} {G : xr_G} {K : xr_K} {r : Int32} {h1 : hp_T} (C : xr_C G K cX10_streak RX10 10 (xr_R 4 97) (some .int) (some (xr_Qi G r h1)))  : ∀ (n : Nat) (a0 : Nat) (a1 : Int32) (a2 : Int32) (a4 : Int64) (a6 : Int32) (a7 : Int32) (a8 : Int32) (ta0 : hp_sh a0 = (10, 0)) (h : hp_T), fX10_streak_76 n a0 a1 a2 a4 a6 a7 a8 h = some (r, h1) → xr_j l G K 10 h [(0, .ref (G.2.2.1 a0)), (1, .int a1), (2, .int a2), (4, .long a4), (6, .int a6), (7, .int a7), (8, .int a8)] 76 [] := by
  intro n
  induction n with
  | zero =>
    intro a0 a1 a2 a4 a6 a7 a8 ta0 h hF
    cases hF
  | succ n ih =>
    intro a0 a1 a2 a4 a6 a7 a8 ta0 h hF
    rw [fX10_streak_76] at hF
    refine xr_iload C 6 dX10_streak_76 rfl ?_
    refine xr_iload_n C 2 dX10_streak_78 rfl rfl ?_
    refine xr_icmp_ge C 163 dX10_streak_79 (by decide) (fun c79 => ?_) (fun c79 => ?_)
    · have hF := fx_pos hF c79
      refine xr_lload C 3 dX10_streak_163 rfl ?_
      refine xr_l2i C dX10_streak_165 ?_
      cases hF
      exact xr_iret C dX10_streak_166
    · have hF := fx_neg hF c79
      refine xr_aload_n C 0 dX10_streak_82 rfl rfl ?_
      refine xr_iload_n C 1 dX10_streak_83 rfl rfl ?_
      refine xr_if_ne C 92 dX10_streak_84 (by decide) (fun c84 => ?_) (fun c84 => ?_)
      · have hF := fx_neg hF c84
        refine xr_iconst (v := 0) C dX10_streak_92 (by decide) ?_
        exact bX10_streak_93 C (fX10_streak_76 n) (fun a0 a1 a2 a4 a6 a7 a8 ta0 h hF => ih a0 a1 a2 a4 a6 a7 a8 ta0 h hF)  a0 a1 a2 a4 a6 a7 a8 a0 (0 : Int32) ta0 ta0 h hF
      · have hF := fx_pos hF c84
        refine xr_iload C 4 dX10_streak_87 rfl ?_
        refine xr_goto C 93 dX10_streak_89 (by decide) ?_
        exact bX10_streak_93 C (fX10_streak_76 n) (fun a0 a1 a2 a4 a6 a7 a8 ta0 h hF => ih a0 a1 a2 a4 a6 a7 a8 ta0 h hF)  a0 a1 a2 a4 a6 a7 a8 a0 a6 ta0 ta0 h hF
def fX10_streak_45  (a0 : Nat) (a1 : Int32) (a2 : Int32) (s0 : Int32) (h : hp_T) : Option (Int32 × hp_T) := if a2 ≤ s0 then (fx_b1 (fX10_takesLines a0 h) fun (h54 : hp_T) => fx_let (h54.1 (h54.2.2 a0 20) (fx_ix (2 : Int32))) fun (x71 : Int32) => fX10_streak_76 fx_N a0 a1 a2 (1000000 : Int64) (0 : Int32) x71 (0 : Int32) h54) else (some ((-1 : Int32), h))
set_option maxRecDepth 100000 in
set_option maxHeartbeats 4000000 in
theorem bX10_streak_45 {l : Launch} {G : xr_G} {K : xr_K} {r : Int32} {h1 : hp_T} (C : xr_C G K cX10_streak RX10 10 (xr_R 4 97) (some .int) (some (xr_Qi G r h1)))  (a0 : Nat) (a1 : Int32) (a2 : Int32) (s0 : Int32) (ta0 : hp_sh a0 = (10, 0)) (h : hp_T) (hF : fX10_streak_45 a0 a1 a2 s0 h = some (r, h1)) : xr_j l G K 10 h [(0, .ref (G.2.2.1 a0)), (1, .int a1), (2, .int a2)] 45 [.int s0] := by
  unfold fX10_streak_45 at hF
  refine xr_istore_n C [(3, .int s0), (0, .ref (G.2.2.1 a0)), (1, .int a1), (2, .int a2)] dX10_streak_45 rfl (Nat.le_of_ble_eq_true rfl) rfl ?_
  refine xr_iload_n C 3 dX10_streak_46 rfl rfl ?_
  refine xr_iload_n C 0 dX10_streak_47 rfl rfl ?_
  refine xr_icmp_le C 53 dX10_streak_48 (by decide) (fun c48 => ?_) (fun c48 => ?_)
  · have hF := fx_pos hF c48
    refine xr_aload_n C 1 dX10_streak_53 rfl rfl ?_
    obtain ⟨h54, e54, hF⟩ := fx_b1E hF
    refine xr_callVv C mvX10_262 [] [] (mX10_takesLines l G a0 ta0 h h54 e54) ta0 (by decide) vc10 rfl ⟨rfl, rfl, (Nat.le_of_ble_eq_true rfl), (Nat.le_of_ble_eq_true rfl)⟩ rfl (Nat.le_of_ble_eq_true rfl) dX10_streak_54 ?_
    refine xr_ldc2 C klX10_326 dX10_streak_57 ?_
    refine xr_lstore C [(4, .long (1000000 : Int64)), (3, .int s0), (0, .ref (G.2.2.1 a0)), (1, .int a1), (2, .int a2)] dX10_streak_60 (Nat.le_of_ble_eq_true rfl) rfl ?_
    refine xr_iconst (v := 0) C dX10_streak_62 (by decide) ?_
    refine xr_istore C [(6, .int (0 : Int32)), (4, .long (1000000 : Int64)), (3, .int s0), (0, .ref (G.2.2.1 a0)), (1, .int a1), (2, .int a2)] dX10_streak_63 (Nat.le_of_ble_eq_true rfl) rfl ?_
    refine xr_aload_n C 3 dX10_streak_65 rfl rfl ?_
    refine xr_getr C flX10_36 rfl (by decide) dX10_streak_66 ta0 (fun t66 => ?_)
    refine xr_iconst (v := 2) C dX10_streak_69 (by decide) ?_
    refine xr_iald C dX10_streak_70 t66 (by decide) ?_
    refine xr_topi (fun x71 e71 => ?_)
    have hF := fx_letE hF x71 e71
    refine xr_istore C [(7, .int x71), (6, .int (0 : Int32)), (4, .long (1000000 : Int64)), (3, .int s0), (0, .ref (G.2.2.1 a0)), (1, .int a1), (2, .int a2)] dX10_streak_71 (Nat.le_of_ble_eq_true rfl) rfl ?_
    refine xr_iconst (v := 0) C dX10_streak_73 (by decide) ?_
    refine xr_istore C [(8, .int (0 : Int32)), (7, .int x71), (6, .int (0 : Int32)), (4, .long (1000000 : Int64)), (3, .int s0), (0, .ref (G.2.2.1 a0)), (1, .int a1), (2, .int a2)] dX10_streak_74 (Nat.le_of_ble_eq_true rfl) rfl ?_
    refine xr_sub [5, 6, 7, 3, 2, 1, 0] [(0, .ref (G.2.2.1 a0)), (1, .int a1), (2, .int a2), (4, .long (1000000 : Int64)), (6, .int (0 : Int32)), (7, .int x71), (8, .int (0 : Int32))] rfl ?_
    exact bX10_streak_76 C  fx_N a0 a1 a2 (1000000 : Int64) (0 : Int32) x71 (0 : Int32) ta0 h54 hF
  · have hF := fx_neg hF c48
    refine xr_iconst (v := -1) C dX10_streak_51 (by decide) ?_
    cases hF
    exact xr_iret C dX10_streak_52
def fX10_streak (a0 : Nat) (a1 : Int32) (a2 : Int32) (h : hp_T) : Option (Int32 × hp_T) := fx_let (hp_sI h a0 0 (0 : Int32)) fun (h2 : hp_T) => fx_b2 (fX10_isSide a0 a1 h2) fun (r7 : Int32) (h7 : hp_T) => if r7 = 0 then (some ((-1 : Int32), h7)) else (if 0 ≤ a2 then (fx_b2 (fX10_isOver a0 h7) fun (r20 : Int32) (h20 : hp_T) => if r20 = 0 then (fx_g (fx_in ((0 : Int32) + a1) 120) (fX10_streak_45 a0 a1 a2 ((h20.1 (h20.2.2 a0 3) (fx_ix (0 : Int32))) - (h20.1 (h20.2.2 a0 20) (fx_ix ((0 : Int32) + a1)))) h20)) else (fX10_streak_45 a0 a1 a2 (0 : Int32) h20)) else (some ((-1 : Int32), h7)))
set_option maxRecDepth 100000 in
set_option maxHeartbeats 4000000 in
theorem mX10_streak (l : Launch) (G : xr_G) (a0 : Nat) (a1 : Int32) (a2 : Int32) (ta0 : hp_sh a0 = (10, 0)) (h h1 : hp_T) (r : Int32) (hF : fX10_streak a0 a1 a2 h = some (r, h1)) : xr_M l G yX10_streak cX10_streak 10 (xr_R 4 97) (some .int) [.ref (G.2.2.1 a0), .int a1, .int a2] h (xr_Qi G r h1) := by
  refine xr_start rfl (Nat.le_of_ble_eq_true rfl) (fun K C => ?_)
  show xr_j l G K 10 h [(0, .ref (G.2.2.1 a0)), (1, .int a1), (2, .int a2)] 0 []
  unfold fX10_streak at hF
  refine xr_aload_n C 0 dX10_streak_0 rfl rfl ?_
  refine xr_iconst (v := 0) C dX10_streak_1 (by decide) ?_
  refine xr_puti C fpX10_63 rfl rfl rfl dX10_streak_2 ta0 (fun h2 e2 => ?_)
  have hF := fx_letE hF h2 e2
  refine xr_aload_n C 0 dX10_streak_5 rfl rfl ?_
  refine xr_iload_n C 1 dX10_streak_6 rfl rfl ?_
  obtain ⟨r7, h7, e7, hF⟩ := fx_b2E hF
  refine xr_callVi C mvX10_180 [.int a1] [] (mX10_isSide l G a0 a1 ta0 h2 h7 r7 e7) ta0 (by decide) vc10 rfl ⟨rfl, rfl, (Nat.le_of_ble_eq_true rfl), (Nat.le_of_ble_eq_true rfl)⟩ rfl (Nat.le_of_ble_eq_true rfl) dX10_streak_7 ?_
  refine xr_if_eq C 17 dX10_streak_10 (by decide) (fun c10 => ?_) (fun c10 => ?_)
  · have hF := fx_pos hF c10
    refine xr_iconst (v := -1) C dX10_streak_17 (by decide) ?_
    cases hF
    exact xr_iret C dX10_streak_18
  · have hF := fx_neg hF c10
    refine xr_iload_n C 2 dX10_streak_13 rfl rfl ?_
    refine xr_if_ge C 19 dX10_streak_14 (by decide) (fun c14 => ?_) (fun c14 => ?_)
    · have hF := fx_pos hF c14
      refine xr_aload_n C 0 dX10_streak_19 rfl rfl ?_
      obtain ⟨r20, h20, e20, hF⟩ := fx_b2E hF
      refine xr_callVi C mvX10_215 [] [] (mX10_isOver l G a0 ta0 h7 h20 r20 e20) ta0 (by decide) vc10 rfl ⟨rfl, rfl, (Nat.le_of_ble_eq_true rfl), (Nat.le_of_ble_eq_true rfl)⟩ rfl (Nat.le_of_ble_eq_true rfl) dX10_streak_20 ?_
      refine xr_if_eq C 30 dX10_streak_23 (by decide) (fun c23 => ?_) (fun c23 => ?_)
      · have hF := fx_pos hF c23
        refine xr_aload_n C 0 dX10_streak_30 rfl rfl ?_
        refine xr_getr C flX10_13 rfl (by decide) dX10_streak_31 ta0 (fun t31 => ?_)
        refine xr_iconst (v := 0) C dX10_streak_34 (by decide) ?_
        refine xr_iald C dX10_streak_35 t31 (by decide) ?_
        refine xr_aload_n C 0 dX10_streak_36 rfl rfl ?_
        refine xr_getr C flX10_36 rfl (by decide) dX10_streak_37 ta0 (fun t37 => ?_)
        refine xr_iconst (v := 0) C dX10_streak_40 (by decide) ?_
        refine xr_iload_n C 1 dX10_streak_41 rfl rfl ?_
        refine xr_iadd C dX10_streak_42 ?_
        obtain ⟨g43, hF⟩ := fx_gE hF
        refine xr_iald C dX10_streak_43 t37 g43 ?_
        refine xr_isub C dX10_streak_44 ?_
        exact bX10_streak_45 C   a0 a1 a2 ((h20.1 (h20.2.2 a0 3) (fx_ix (0 : Int32))) - (h20.1 (h20.2.2 a0 20) (fx_ix ((0 : Int32) + a1)))) ta0 h20 hF
      · have hF := fx_neg hF c23
        refine xr_iconst (v := 0) C dX10_streak_26 (by decide) ?_
        refine xr_goto C 45 dX10_streak_27 (by decide) ?_
        exact bX10_streak_45 C   a0 a1 a2 (0 : Int32) ta0 h20 hF
    · have hF := fx_neg hF c14
      refine xr_iconst (v := -1) C dX10_streak_17 (by decide) ?_
      cases hF
      exact xr_iret C dX10_streak_18
