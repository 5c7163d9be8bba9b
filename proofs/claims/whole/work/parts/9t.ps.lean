/-! ===== the calls that change ===== -/
section PSF68
variable {t v w : Bool} {I J H : Nat → Nat → Int32} {L : Nat → Nat → Int64} {A B : ps_A}
theorem ps_I5.step (i : ps_I5 A t I) (ho : A.on = true) (hw : ps_wf B) (hW : B.W = A.W) (hR : ps_RX t B J) (e : ∀ a, (a = 34 ∨ a = 287 ∨ a = 289) → J a = I a) (e0 : ∀ k, k ≠ 15 → k ≠ 16 → J 0 k = I 0 k) (z0 : J 286 0 = 0) (z1 : J 288 0 = 0) (hM : ps_MX B H) (f : ∀ a, a < 290 → H a = J a) : ps_Inv (H, L, px_R t v w) :=
  ps_I5.inv ⟨hw, hR.cong f, hM, i.2.2.2.forget ho hW (by rw [f 0 (by omega)]; exact e0 14 (by omega) (by omega)) (by rw [f 34 (by omega)]; exact e 34 (by omega)) (fun s hs => by rw [f _ (by omega)]; exact e _ (by omega)) (by rw [f 286 (by omega)]; exact z0) (by rw [f 288 (by omega)]; exact z1)⟩
end PSF68
theorem op_point : lw_o1 ps_Inv (fun a1 h => fX9_point 0 a1 h) (fun a1 h => fX10_point 290 a1 h) := by
  rintro h ⟨A, t, v, w, I, L, rfl, i⟩ a1
  cases e : ps_sd A a1 with
  | false =>
    refine ⟨-1, (I, L, px_R t v w), (hp_u I 290 0 0, L, px_R t v w), ?_, ?_, i.k1⟩
    · show fX9_point 0 a1 _ = _
      unfold fX9_point
      rw [cx_side i.2.1, pb_2, e]
      rfl
    · show fX10_point 290 a1 _ = _
      unfold fX10_point
      rw [pl_let]
      show fx_b2 (fX10_isSide 290 a1 (hp_u I 290 0 0, L, px_R t v w)) _ = _
      rw [cm_side i.2.2.1.flag, pb_2, e]
      rfl
  | true =>
    obtain ⟨ho, s, hs, rfl⟩ := ps_sd_of e
    cases c : ps_over A with
    | true =>
      refine ⟨-2, (I, L, px_R t v w), (hp_u I 290 0 0, L, px_R t v w), ?_, ?_, i.k1⟩
      · show fX9_point 0 (nI s) _ = _
        unfold fX9_point
        rw [cx_side i.2.1, pb_2, e, if_pos rfl, if_neg (by decide), cx_over (i.1.C ho) (i.1.W ho) (i.2.1.C ho) (i.2.1.W ho), pb_2, c]
        rfl
      · show fX10_point 290 (nI s) _ = _
        unfold fX10_point
        rw [pl_let]
        show fx_b2 (fX10_isSide 290 (nI s) (hp_u I 290 0 0, L, px_R t v w)) _ = _
        have hM := i.2.2.1.flag (z := 0)
        rw [cm_side hM, pb_2, e, if_pos rfl, if_neg (by decide), cm_over (i.1.C ho) (i.1.W ho) (hM.C ho) (hM.W ho), pb_2, c]
        rfl
    | false =>
      obtain ⟨J, r1, r2, r3, r4, r5, r6⟩ := cx_point (L := L) (v := v) (w := w) i.1 ho i.2.1 hs c
      obtain ⟨H, q1, q2, q3⟩ := cm_point (t := t) (L := L) (v := v) (w := w) i.1 ho (i.2.2.1.cong (fun a h1 h2 => r3 a (by omega) (by omega) (by omega) (by omega) (by omega))) hs c
      exact ⟨_, _, _, r1, q1, i.step ho (ps_wf_point i.1 ho hs c) rfl r2 (fun a ha => r3 a (by omega) (by omega) (by omega) (by omega) (by omega)) r4 r5 r6 q2 q3⟩
theorem op_sub : lw_o3 ps_Inv (fun a1 a2 a3 h => fX9_sub 0 a1 a2 a3 h) (fun a1 a2 a3 h => fX10_sub 290 a1 a2 a3 h) := by
  rintro h ⟨A, t, v, w, I, L, rfl, i⟩ a1 a2 a3
  by_cases c : sp_maySub A a1 a2 a3 = 0
  · unfold sp_maySub at c
    by_cases d : (ps_pl A a1 a2 && ps_pl A a1 a3) = true
    · rw [if_pos d] at c
      rw [Bool.and_eq_true] at d
      obtain ⟨ho, s, hs, rfl, g, hg, hg2, rfl⟩ := ps_pl_of i.1 d.1
      obtain ⟨-, s', hs', es, p, hp, hp2, rfl⟩ := ps_pl_of i.1 d.2
      obtain rfl := (nI_eq (by omega) (by omega)).mp es
      rw [nI_clamp (by omega), nI_clamp (by omega), nI_clamp (by omega)] at c
      obtain ⟨J, r1, r2, r3, r4, r5, r6⟩ := cx_sub (L := L) (v := v) (w := w) i.1 ho i.2.1 hs hg hp c
      obtain ⟨H, q1, q2, q3⟩ := cm_sub (t := t) (L := L) (v := v) (w := w) i.1 ho (i.2.2.1.cong (fun a h1 h2 => r3 a (by omega) (by omega) (by omega) (by omega) (by omega))) hs hg hp c
      exact ⟨_, _, _, r1, q1, i.step ho (ps_wf_sub i.1 ho hs hg hp c) rfl r2 (fun a ha => r3 a (by omega) (by omega) (by omega) (by omega) (by omega)) r4 r5 r6 q2 q3⟩
    · rw [if_neg d] at c
      exact absurd c (by decide)
  · refine ⟨sp_maySub A a1 a2 a3, (I, L, px_R t v w), (hp_u I 290 0 0, L, px_R t v w), ?_, ?_, i.k1⟩
    · show fX9_sub 0 a1 a2 a3 _ = _
      unfold fX9_sub
      rw [cx_judge i.1 i.2.1, pb_2, if_neg c]
    · show fX10_sub 290 a1 a2 a3 _ = _
      unfold fX10_sub
      rw [pl_let]
      show fx_b2 (fX10_wrongSub 290 a1 a2 a3 (hp_u I 290 0 0, L, px_R t v w)) _ = _
      rw [cm_judge i.1 i.2.2.1.flag, pb_2, if_neg c]
theorem ps_rear_of {b : Int32} (h : (decide (b = 0) || ps_rear b) = true) : ∃ f : Nat, (f = 0 ∨ f = 1 ∨ f = 5 ∨ f = 6) ∧ b = nI f := by
  unfold ps_rear at h
  simp only [Bool.or_eq_true, decide_eq_true_eq] at h
  rcases h with rfl | rfl | rfl | rfl
  · exact ⟨0, by omega, rfl⟩
  · exact ⟨1, by omega, rfl⟩
  · exact ⟨5, by omega, rfl⟩
  · exact ⟨6, by omega, rfl⟩
theorem op_move : lw_o2 ps_Inv (fun a1 a2 h => fX9_move 0 a1 a2 h) (fun a1 a2 h => fX10_move 290 a1 a2 h) := by
  rintro h ⟨A, t, v, w, I, L, rfl, i⟩ a1 a2
  by_cases c : sp_mayMove A a1 a2 = 0
  · have c0 := c
    unfold sp_mayMove at c
    by_cases d : (ps_sd A a1 && (decide (a2 = 0) || ps_rear a2)) = true
    · rw [if_pos d] at c
      rw [Bool.and_eq_true] at d
      obtain ⟨ho, s, hs, rfl⟩ := ps_sd_of d.1
      obtain ⟨f, hf, rfl⟩ := ps_rear_of d.2
      rw [nI_clamp (by omega)] at c
      unfold ps_jmove at c
      by_cases e1 : ps_over A = true
      · rw [if_pos e1] at c
        exact absurd c (by decide)
      rw [if_neg e1] at c
      by_cases e2 : A.W.free s = none ∨ (nI f = 0 ↔ A.C.fs s = 0)
      · rw [if_pos e2] at c
        exact absurd c (by decide)
      have e3 : A.W.free s ≠ none := fun q => e2 (Or.inl q)
      have e4 : f = 0 ↔ A.C.fs s ≠ 0 := by
        have z : nI f = 0 ↔ f = 0 := nI_eq (b := 0) (by omega) (by omega)
        have : ¬ (nI f = 0 ↔ A.C.fs s = 0) := fun q => e2 (Or.inr q)
        rw [z] at this
        omega
      obtain ⟨p, hp⟩ := Option.ne_none_iff_exists'.mp e3
      obtain ⟨J, r1, r2, r3, r4, r5, r6⟩ := cx_move (L := L) (v := v) (w := w) i.1 ho i.2.1 hs (show f ≤ 6 by omega) c0 e4.mp
      obtain ⟨H, q1, q2, q3⟩ := cm_move (t := t) (L := L) (v := v) (w := w) i.1 ho (i.2.2.1.cong (fun a h1 h2 => r3 a (by omega) (by omega) (by omega) (by omega) (by omega))) hs (show f ≤ 6 by omega) c0 hp e4
      exact ⟨_, _, _, r1, q1, i.step ho (ps_wf_move i.1 ho hs hf e3) rfl r2 (fun a ha => r3 a (by omega) (by omega) (by omega) (by omega) (by omega)) r4 r5 r6 q2 q3⟩
    · rw [if_neg d] at c
      exact absurd c (by decide)
  · refine ⟨sp_mayMove A a1 a2, (I, L, px_R t v w), (hp_u I 290 0 0, L, px_R t v w), ?_, ?_, i.k1⟩
    · show fX9_move 0 a1 a2 _ = _
      unfold fX9_move
      rw [cx_jmove i.1 i.2.1, pb_2, if_neg c]
    · show fX10_move 290 a1 a2 _ = _
      unfold fX10_move
      rw [pl_let]
      show fx_b2 (fX10_wrongMove 290 a1 a2 (hp_u I 290 0 0, L, px_R t v w)) _ = _
      rw [cm_jmove i.1 i.2.2.1.flag, pb_2, if_neg c]
theorem op_stand : lw_o4 ps_Inv (fun a1 a2 a3 a4 h => fX9_stand 0 a1 a2 a3 a4 h) (fun a1 a2 a3 a4 h => fX10_stand 290 a1 a2 a3 a4 h) := by
  rintro h ⟨A, t, v, w, I, L, rfl, i⟩ a1 a2 a3 a4
  by_cases c : ps_sd A a1 = true ∧ ps_sp a2 = true ∧ ps_place a3 = true ∧ ps_place a4 = true
  · obtain ⟨c1, c2, c3, c4⟩ := c
    obtain ⟨ho, s, hs, rfl⟩ := ps_sd_of c1
    obtain ⟨k, hk, rfl⟩ := ps_sp_of c2
    obtain ⟨x, hx, rfl⟩ := ps_place_of c3
    obtain ⟨y, hy, rfl⟩ := ps_place_of c4
    obtain ⟨J, r1, r2, r3, r4, r5, r6⟩ := cx_stand (L := L) (v := v) (w := w) i.1 ho i.2.1 hs hk hx hy
    obtain ⟨H, q1, q2, q3⟩ := cm_stand (t := t) (L := L) (v := v) (w := w) i.1 ho (i.2.2.1.cong (fun a h1 h2 => r3 a (by omega) (by omega) (by omega) (by omega) (by omega))) hs hk hx hy
    exact ⟨_, _, _, r1, q1, i.step ho (ps_wf_stand i.1 ho hx hy) rfl r2 (fun a ha => r3 a (by omega) (by omega) (by omega) (by omega) (by omega)) r4 r5 r6 q2 q3⟩
  · exact ⟨_, _, _, cx_stand0 i.2.1 c, cm_stand0 i.2.2.1 c, i.k1⟩
theorem op_undo : lw_o0 ps_Inv (fun h => fX9_undo 0 h) (fun h => fX10_undo 290 h) := by
  rintro h ⟨A, t, v, w, I, L, rfl, i⟩
  by_cases c : A.u = 0
  · have z : nI A.u = 0 := by rw [c]; rfl
    refine ⟨-1, (I, L, px_R t v w), (hp_u I 290 0 0, L, px_R t v w), ?_, ?_, i.k1⟩
    · show fX9_undo 0 _ = _
      unfold fX9_undo
      rw [if_pos (show I 0 15 = 0 from i.2.1.u.trans z)]
    · show fX10_undo 290 _ = _
      unfold fX10_undo
      rw [pl_let]
      have hM := i.2.2.1.flag (z := 0)
      show (if hp_u I 290 0 0 290 22 = 0 then _ else _) = _
      rw [if_pos (hM.u.trans z)]
      rfl
  · have ho : A.on = true := by
      cases e : A.on with
      | true => rfl
      | false => exact absurd (i.1.off e) c
    obtain ⟨J, r1, r2, r3, r4, r5, r6⟩ := cx_undo (L := L) (v := v) (w := w) i.1 ho i.2.1 c
    obtain ⟨H, q1, q2, q3⟩ := cm_undo (t := t) (L := L) (v := v) (w := w) i.1 ho (i.2.2.1.cong (fun a h1 h2 => r3 a (by omega) (by omega) (by omega) (by omega))) c
    exact ⟨_, _, _, r1, q1, i.step ho (ps_wf_pop i.1 ho c) rfl r2 (fun a ha => r3 a (by omega) (by omega) (by omega) (by omega)) r4 r5 r6 q2 (fun a ha => q3 a (by omega) (by omega))⟩
theorem op_feed : lw_o5 ps_Inv (fun a1 a2 a3 a4 a5 h => fX9_feed 0 a1 a2 a3 a4 a5 h) (fun a1 a2 a3 a4 a5 h => fX10_feed 290 a1 a2 a3 a4 a5 h) := by
  rintro h ⟨A, t, v, w, I, L, rfl, i⟩ a1 a2 a3 a4 a5
  by_cases c : A.tz ≤ 880
  · obtain ⟨J, r1, r2, r3⟩ := cx_feed (L := L) (v := v) (w := w) i.2.1 c a1 a2 a3 a4 a5
    obtain ⟨H, q1, q2, q3⟩ := cm_feed (t := t) (L := L) (v := v) (w := w) (i.2.2.1.cong (fun a h1 h2 => r1 a (by omega) (by omega))) c a1 a2 a3 a4 a5
    refine ⟨_, _, _, r3, q3, ps_I5.inv (A := ps_feed A a1 a2 a3 a4 a5) ⟨ps_wf_feed i.1 c a1 a2 a3 a4 a5, r2.cong q1, q2, ?_⟩⟩
    exact (i.2.2.2.near (fun a ha => (q1 a (by omega)).trans (r1 a (by omega) (by omega)))).same rfl rfl rfl
  · exact ⟨_, _, _, cx_feed0 i.1 i.2.1 c a1 a2 a3 a4 a5, cm_feed0 i.1 i.2.2.1 c a1 a2 a3 a4 a5, i.k1⟩
theorem op_text : lw_o1 ps_Inv (fun a1 h => fX9_text 0 a1 h) (fun a1 h => fX10_text 290 a1 h) := by
  rintro h ⟨A, t, v, w, I, L, rfl, i⟩ a1
  by_cases c : ∃ n, a1 = nI n ∧ n ≤ A.tz
  · obtain ⟨n, rfl, hn⟩ := c
    obtain ⟨J, t', r1, r2, r3, r4⟩ := cx_text (L := L) (v := v) (w := w) i.1 i.2.1 hn
    obtain ⟨H, q1, q2, q3⟩ := cm_text (t := t') (L := L) (v := v) (w := w) i.1 (i.2.2.1.cong (fun a h1 h2 => r2 a h1)) hn
    refine ⟨_, _, _, r4, q3, ps_I5.inv (A := (ps_text A n).2) ⟨ps_wf_text i.1 hn (fun e he => ?_), r1.cong q2, q1, ?_⟩⟩
    · unfold ps_TX at r3
      rw [he] at r3
      exact r3.2.2.2
    · unfold ps_TX at r3
      unfold ps_text
      cases e : ps_read A.tb n with
      | error d =>
        rw [e] at r3
        exact (i.2.2.2.near (fun a ha => (q2 a (by omega)).trans (r3.2.1 a (by omega) (by omega)))).same rfl rfl rfl
      | ok Q =>
        rw [e] at r3
        refine fun _ => ⟨Or.inl (by rw [q2 0 (by omega)]; exact r3.2.1), fun s hs => ⟨Or.inl ?_, Or.inl ?_⟩⟩
        · rw [q2 _ (by omega)]
          exact r3.2.2.1 (2 * s) (by omega)
        · rw [q2 _ (by omega), show 287 + 2 * s = 286 + (1 + 2 * s) by omega]
          exact r3.2.2.1 (1 + 2 * s) (by omega)
  · have hx : ∀ n, a1 = nI n → n ≤ A.tz → False := fun n e1 e2 => c ⟨n, e1, e2⟩
    exact ⟨_, _, _, cx_text0 i.1 i.2.1 hx, cm_text0 i.1 i.2.2.1 hx, i.k1⟩
