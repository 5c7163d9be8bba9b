/-! ===== the calls that reckon ===== -/
theorem op_chance : lw_o0 ps_Inv (fun h => fX9_chance 0 h) (fun h => fX10_chance 290 h) := by
  rintro h ⟨A, t, v, w, I, L, rfl, i⟩
  obtain ⟨J, j1, j2⟩ := cx_chance (L := L) (v := v) (w := w) i.1 i.2.1
  obtain ⟨H, k1, k2⟩ := cm_chance (t := t) (L := L) (v := v) (w := w) i.1 ((i.fx j1).2.2.1)
  exact ⟨_, _, _, j2, k2, (i.fx j1).k2 k1⟩
theorem op_chanceAt : lw_o3 ps_Inv (fun a1 a2 a3 h => fX9_chanceAt 0 a1 a2 a3 h) (fun a1 a2 a3 h => fX10_chanceAt 290 a1 a2 a3 h) := by
  rintro h ⟨A, t, v, w, I, L, rfl, i⟩ a1 a2 a3
  obtain ⟨J, j1, j2⟩ := cx_chanceAt (L := L) (v := v) (w := w) i.1 i.2.1 a1 a2 a3
  obtain ⟨H, k1, k2⟩ := cm_chanceAt (t := t) (L := L) (v := v) (w := w) i.1 ((i.fx j1).2.2.1) a1 a2 a3
  exact ⟨_, _, _, j2, k2, (i.fx j1).k2 k1⟩
theorem op_bestMove : lw_o2 ps_Inv (fun a1 a2 h => fX9_bestMove 0 a1 a2 h) (fun a1 a2 h => fX10_bestMove 290 a1 a2 h) := by
  rintro h ⟨A, t, v, w, I, L, rfl, i⟩ a1 a2
  obtain ⟨J, j1, j2⟩ := cx_bestMove (L := L) (v := v) (w := w) i.1 i.2.1 a1 a2
  obtain ⟨H, k1, k2⟩ := cm_bestMove (t := t) (L := L) (v := v) (w := w) i.1 ((i.fx j1).2.2.1) a1 a2
  exact ⟨_, _, _, j2, k2, (i.fx j1).k2 k1⟩
theorem op_streak : lw_o2 ps_Inv (fun a1 a2 h => fX9_streak 0 a1 a2 h) (fun a1 a2 h => fX10_streak 290 a1 a2 h) := by
  rintro h ⟨A, t, v, w, I, L, rfl, i⟩ a1 a2
  obtain ⟨J, j1, j2⟩ := cx_streak (L := L) (v := v) (w := w) i.1 i.2.1 a1 a2
  obtain ⟨H, k1, k2⟩ := cm_streak (t := t) (L := L) (v := v) (w := w) i.1 ((i.fx j1).2.2.1) a1 a2
  exact ⟨_, _, _, j2, k2, (i.fx j1).k2 k1⟩
theorem op_weak : lw_o2 ps_Inv (fun a1 a2 h => fX9_weak 0 a1 a2 h) (fun a1 a2 h => fX10_weak 290 a1 a2 h) := by
  rintro h ⟨A, t, v, w, I, L, rfl, i⟩ a1 a2
  obtain ⟨J, j1, j2⟩ := cx_weak (L := L) (v := v) (w := w) i.1 i.2.1 a1 a2
  obtain ⟨H, k1, k2⟩ := cm_weak (t := t) (L := L) (v := v) (w := w) i.1 ((i.fx j1).2.2.1) a1 a2
  exact ⟨_, _, _, j2, k2, (i.fx j1).k2 k1⟩
theorem op_strong : lw_o2 ps_Inv (fun a1 a2 h => fX9_strong 0 a1 a2 h) (fun a1 a2 h => fX10_strong 290 a1 a2 h) := by
  rintro h ⟨A, t, v, w, I, L, rfl, i⟩ a1 a2
  obtain ⟨J, j1, j2⟩ := cx_strong (L := L) (v := v) (w := w) i.1 i.2.1 a1 a2
  obtain ⟨H, k1, k2⟩ := cm_strong (t := t) (L := L) (v := v) (w := w) i.1 ((i.fx j1).2.2.1) a1 a2
  exact ⟨_, _, _, j2, k2, (i.fx j1).k2 k1⟩
theorem op_strength : lw_o2 ps_Inv (fun a1 a2 h => fX9_strength 0 a1 a2 h) (fun a1 a2 h => fX10_strength 290 a1 a2 h) := by
  rintro h ⟨A, t, v, w, I, L, rfl, i⟩ a1 a2
  obtain ⟨J, j1, j2⟩ := cx_strength (L := L) (v := v) (w := w) i.1 i.2.1 a1 a2
  obtain ⟨H, k1, k2⟩ := cm_strength (t := t) (L := L) (v := v) (w := w) i.1 ((i.fx j1).2.2.1) a1 a2
  exact ⟨_, _, _, j2, k2, (i.fx j1).k2 k1⟩
theorem op_run : lw_o1 ps_Inv (fun a1 h => fX9_run 0 a1 h) (fun a1 h => fX10_run 290 a1 h) := by
  rintro h ⟨A, t, v, w, I, L, rfl, i⟩ a1
  obtain ⟨J, j1, j2⟩ := cx_run (L := L) (v := v) (w := w) i.1 i.2.1 a1
  obtain ⟨H, k1, k2⟩ := cm_run (t := t) (L := L) (v := v) (w := w) i.1 ((i.fx j1).2.2.1) a1
  exact ⟨_, _, _, j2, k2, (i.fx j1).k2 k1⟩
theorem op_value : lw_o0 ps_Inv (fun h => fX9_value 0 h) (fun h => fX10_value 290 h) := by
  rintro h ⟨A, t, v, w, I, L, rfl, i⟩
  obtain ⟨z, j1, j2⟩ := cx_value (L := L) (v := v) (w := w) i.1 i.2.1
  obtain ⟨H, k1, k2⟩ := cm_value (t := t) (L := L) (v := z.1) (w := w) i.1 ((i.fx j1).2.2.1)
  exact ⟨_, _, _, j2, k2, (i.fx j1).k2 k1⟩
theorem op_valueAt : lw_o5 ps_Inv (fun a1 a2 a3 a4 a5 h => fX9_valueAt 0 a1 a2 a3 a4 a5 h) (fun a1 a2 a3 a4 a5 h => fX10_valueAt 290 a1 a2 a3 a4 a5 h) := by
  rintro h ⟨A, t, v, w, I, L, rfl, i⟩ a1 a2 a3 a4 a5
  obtain ⟨z, j1, j2⟩ := cx_valueAt (L := L) (v := v) (w := w) i.1 i.2.1 a1 a2 a3 a4 a5
  obtain ⟨H, k1, k2⟩ := cm_valueAt (t := t) (L := L) (v := z.1) (w := w) i.1 ((i.fx j1).2.2.1) a1 a2 a3 a4 a5
  exact ⟨_, _, _, j2, k2, (i.fx j1).k2 k1⟩
theorem op_worth : lw_o1 ps_Inv (fun a1 h => fX9_worth 0 a1 h) (fun a1 h => fX10_worth 290 a1 h) := by
  rintro h ⟨A, t, v, w, I, L, rfl, i⟩ a1
  obtain ⟨z, j1, j2⟩ := cx_worth (L := L) (v := v) (w := w) i.1 i.2.1 a1
  obtain ⟨H, k1, k2⟩ := cm_worth (t := t) (L := L) (v := z.1) (w := w) i.1 ((i.fx j1).2.2.1) a1
  exact ⟨_, _, _, j2, k2, (i.fx j1).k2 k1⟩
theorem op_ifSub : lw_o3 ps_Inv (fun a1 a2 a3 h => fX9_ifSub 0 a1 a2 a3 h) (fun a1 a2 a3 h => fX10_ifSub 290 a1 a2 a3 h) := by
  rintro h ⟨A, t, v, w, I, L, rfl, i⟩ a1 a2 a3
  obtain ⟨z, j1, j2⟩ := cx_ifSub (L := L) (v := v) (w := w) i.1 i.2.1 a1 a2 a3
  obtain ⟨H, k1, k2⟩ := cm_ifSub (t := t) (L := L) (v := z.1) (w := w) i.1 ((i.fx j1).2.2.1) a1 a2 a3
  exact ⟨_, _, _, j2, k2, (i.fx j1).k2 k1⟩
theorem op_ifSwapped : lw_o3 ps_Inv (fun a1 a2 a3 h => fX9_ifSwapped 0 a1 a2 a3 h) (fun a1 a2 a3 h => fX10_ifSwapped 290 a1 a2 a3 h) := by
  rintro h ⟨A, t, v, w, I, L, rfl, i⟩ a1 a2 a3
  obtain ⟨z, j1, j2⟩ := cx_ifSwapped (L := L) (v := v) (w := w) i.1 i.2.1 a1 a2 a3
  obtain ⟨H, k1, k2⟩ := cm_ifSwapped (t := t) (L := L) (v := z.1) (w := w) i.1 ((i.fx j1).2.2.1) a1 a2 a3
  exact ⟨_, _, _, j2, k2, (i.fx j1).k2 k1⟩
theorem op_likely : lw_o2 ps_Inv (fun a1 a2 h => fX9_likely 0 a1 a2 h) (fun a1 a2 h => fX10_likely 290 a1 a2 h) := by
  rintro h ⟨A, t, v, w, I, L, rfl, i⟩ a1 a2
  obtain ⟨w', J, M, j1, j2⟩ := cx_likely (L := L) (v := v) (w := w) i.1 i.2.1 a1 a2
  obtain ⟨H, N, k1, k2⟩ := cm_likely (t := t) (L := M) (v := v) (w := w') i.1 ((i.fx j1).2.2.1) a1 a2
  exact ⟨_, _, _, j2, k2, (i.fx j1).k2 k1⟩
theorem op_ends : lw_o2 ps_Inv (fun a1 a2 h => fX9_ends 0 a1 a2 h) (fun a1 a2 h => fX10_ends 290 a1 a2 h) := by
  rintro h ⟨A, t, v, w, I, L, rfl, i⟩ a1 a2
  obtain ⟨w', J, M, j1, j2⟩ := cx_ends (L := L) (v := v) (w := w) i.1 i.2.1 a1 a2
  obtain ⟨H, N, k1, k2⟩ := cm_ends (t := t) (L := M) (v := v) (w := w') i.1 ((i.fx j1).2.2.1) a1 a2
  exact ⟨_, _, _, j2, k2, (i.fx j1).k2 k1⟩
theorem op_length : lw_o0 ps_Inv (fun h => fX9_length 0 h) (fun h => fX10_length 290 h) := by
  rintro h ⟨A, t, v, w, I, L, rfl, i⟩
  obtain ⟨w', J, M, j1, j2⟩ := cx_length (L := L) (v := v) (w := w) i.1 i.2.1
  obtain ⟨H, N, k1, k2⟩ := cm_length (t := t) (L := M) (v := v) (w := w') i.1 ((i.fx j1).2.2.1)
  exact ⟨_, _, _, j2, k2, (i.fx j1).k2 k1⟩
theorem op_table : lw_o2 ps_Inv (fun a1 a2 h => fX9_table 0 a1 a2 h) (fun a1 a2 h => fX10_table 290 a1 a2 h) := by
  rintro h ⟨A, t, v, w, I, L, rfl, i⟩ a1 a2
  obtain ⟨z, j1, j2⟩ := cx_table (L := L) (v := v) (w := w) i.1 i.2.1 (fun ho => (i.2.2.2 ho).1) a1 a2
  obtain ⟨H, k1, k2⟩ := cm_table (t := t) (L := L) (v := z.1) (w := w) i.1 ((i.GT j1).2.2.1) a1 a2
  exact ⟨_, _, _, j2, k2, (i.GT j1).k2 k1⟩
theorem op_safe : lw_o2 ps_Inv (fun a1 a2 h => fX9_safe 0 a1 a2 h) (fun a1 a2 h => fX10_safe 290 a1 a2 h) := by
  rintro h ⟨A, t, v, w, I, L, rfl, i⟩ a1 a2
  obtain ⟨z, j1, j2⟩ := cx_safe (L := L) (v := v) (w := w) i.1 i.2.1 (fun ho => (i.2.2.2 ho).1) a1 a2
  obtain ⟨H, k1, k2⟩ := cm_safe (t := t) (L := L) (v := z.1) (w := w) i.1 ((i.GT j1).2.2.1) a1 a2
  exact ⟨_, _, _, j2, k2, (i.GT j1).k2 k1⟩
theorem op_saddle : lw_o0 ps_Inv (fun h => fX9_saddle 0 h) (fun h => fX10_saddle 290 h) := by
  rintro h ⟨A, t, v, w, I, L, rfl, i⟩
  obtain ⟨z, j1, j2⟩ := cx_saddle (L := L) (v := v) (w := w) i.1 i.2.1 (fun ho => (i.2.2.2 ho).1)
  obtain ⟨H, k1, k2⟩ := cm_saddle (t := t) (L := L) (v := z.1) (w := w) i.1 ((i.GT j1).2.2.1)
  exact ⟨_, _, _, j2, k2, (i.GT j1).k2 k1⟩
theorem op_reply : lw_o2 ps_Inv (fun a1 a2 h => fX9_reply 0 a1 a2 h) (fun a1 a2 h => fX10_reply 290 a1 a2 h) := by
  rintro h ⟨A, t, v, w, I, L, rfl, i⟩ a1 a2
  obtain ⟨z, j1, j2⟩ := cx_reply (L := L) (v := v) (w := w) i.1 i.2.1 (fun ho => (i.2.2.2 ho).1) a1 a2
  obtain ⟨H, k1, k2⟩ := cm_reply (t := t) (L := L) (v := z.1) (w := w) i.1 ((i.GT j1).2.2.1) a1 a2
  exact ⟨_, _, _, j2, k2, (i.GT j1).k2 k1⟩
theorem op_bestSub : lw_o2 ps_Inv (fun a1 a2 h => fX9_bestSub 0 a1 a2 h) (fun a1 a2 h => fX10_bestSub 290 a1 a2 h) := by
  rintro h ⟨A, t, v, w, I, L, rfl, i⟩ a1 a2
  obtain ⟨z, j1, j3, j4, j5, j6, j2⟩ := cx_bestSub (L := L) (v := v) (w := w) i.1 i.2.1 (fun ho s hs => ((i.2.2.2 ho).2 s hs).1) a1 a2
  have i2 : ps_I5 A t z.2 := ⟨i.1, i.2.1.G j1, i.2.2.1.G j1, fun ho => ⟨(i.2.2.2 ho).1.imp (fun e => by rw [j3]; exact e) (fun e => e.cell j4), fun s hs => ⟨j6 ho s hs, ((i.2.2.2 ho).2 s hs).2.cell (j5 s hs)⟩⟩⟩
  obtain ⟨H, k1, k2⟩ := cm_bestSub (t := t) (L := L) (v := z.1) (w := w) i.1 i2.2.2.1 a1 a2
  exact ⟨_, _, _, j2, k2, i2.k2 k1⟩
theorem op_bestSwap : lw_o2 ps_Inv (fun a1 a2 h => fX9_bestSwap 0 a1 a2 h) (fun a1 a2 h => fX10_bestSwap 290 a1 a2 h) := by
  rintro h ⟨A, t, v, w, I, L, rfl, i⟩ a1 a2
  obtain ⟨z, j1, j3, j4, j5, j6, j2⟩ := cx_bestSwap (L := L) (v := v) (w := w) i.1 i.2.1 (fun ho s hs => ((i.2.2.2 ho).2 s hs).2) a1 a2
  have i2 : ps_I5 A t z.2 := ⟨i.1, i.2.1.G j1, i.2.2.1.G j1, fun ho => ⟨(i.2.2.2 ho).1.imp (fun e => by rw [j3]; exact e) (fun e => e.cell j4), fun s hs => ⟨((i.2.2.2 ho).2 s hs).1.cell (j5 s hs), j6 ho s hs⟩⟩⟩
  obtain ⟨H, k1, k2⟩ := cm_bestSwap (t := t) (L := L) (v := z.1) (w := w) i.1 i2.2.2.1 a1 a2
  exact ⟨_, _, _, j2, k2, i2.k2 k1⟩
