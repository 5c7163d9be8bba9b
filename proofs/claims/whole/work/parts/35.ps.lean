/-! ===== now, count, named, till; starters, roles, mates ===== -/
theorem pq_if {α β : Type} {c : Prop} [Decidable c] {p o : Option (α × β)} {x y : α} {h : β} (hp : p = some (x, h)) (ho : o = some (y, h)) : (if c then p else o) = some (if c then x else y, h) := by
  by_cases q : c
  · rw [if_pos q, if_pos q]; exact hp
  · rw [if_neg q, if_neg q]; exact ho
section PSF
variable {t v w : Bool} {A : ps_A} {I : Nat → Nat → Int32} {L : Nat → Nat → Int64}
def sp_now (A : ps_A) (a : Int32) : Int32 := if A.on = false then -1 else if a = 0 then nI (A.C.sc 0) else if a = 1 then nI (A.C.sc 1) else if a = 2 then nI A.C.sv else if a = 3 then (if ps_over A then 1 else 0) else if a = 4 then nI (A.C.lf 0) else if a = 5 then nI (A.C.lf 1) else if a = 6 then nI (A.C.tn 0) else if a = 7 then nI (A.C.tn 1) else if a = 8 then nI A.C.pl else -1
theorem cx_now (h0 : ps_wf A) (hX : ps_RX t A I) (a : Int32) : fX9_now 0 a (I, L, px_R t v w) = some (sp_now A a, (I, L, px_R t v w)) := by
  unfold fX9_now sp_now
  show (if I 0 13 = 0 then _ else _) = _
  rw [hX.on]
  cases ho : A.on with
  | false => simp
  | true =>
    have hC := hX.C ho
    rw [if_neg (by decide), cx_over (h0.C ho) (h0.W ho) hC (hX.W ho), pb_2]
    show (if a = 0 then some (I 23 8, _) else if a = 1 then some (I 28 8, _) else if a = 2 then some (I 22 2, _) else if a = 3 then _ else if a = 4 then some (I 23 6, _) else if a = 5 then some (I 28 6, _) else if a = 6 then some (I 23 7, _) else if a = 7 then some (I 28 7, _) else if a = 8 then some (I 22 3, _) else _) = _
    rw [show I 23 8 = nI (A.C.sc 0) from hC.sc 0 (by decide), show I 28 8 = nI (A.C.sc 1) from hC.sc 1 (by decide), hC.sv, hC.pl,
      show I 23 6 = nI (A.C.lf 0) from hC.lf 0 (by decide), show I 28 6 = nI (A.C.lf 1) from hC.lf 1 (by decide), show I 23 7 = nI (A.C.tn 0) from hC.tn 0 (by decide), show I 28 7 = nI (A.C.tn 1) from hC.tn 1 (by decide)]
    rw [if_neg (show ¬ (true = false) by decide)]
    refine pq_if rfl (pq_if rfl (pq_if rfl (pq_if ?_ (pq_if rfl (pq_if rfl (pq_if rfl (pq_if rfl (pq_if rfl rfl))))))))
    cases ps_over A <;> rfl
theorem cm_now (h0 : ps_wf A) (hM : ps_MX A I) (a : Int32) : fX10_now 290 a (I, L, px_R t v w) = some (sp_now A a, (hp_u I 290 0 0, L, px_R t v w)) := by
  unfold fX10_now sp_now
  rw [pl_let]
  have hM := hM.flag (z := 0)
  show (if hp_u I 290 0 0 290 7 = 0 then _ else _) = _
  rw [hM.on]
  cases ho : A.on with
  | false => simp [hp_sI]
  | true =>
    have hC := hM.C ho
    rw [if_neg (by decide)]
    by_cases c1 : a < 0
    · rw [if_pos c1]
      have d : ∀ n : Nat, n ≤ 8 → a ≠ nI n := fun n hn e => nI_pos (n := n) (by omega) (e ▸ c1)
      rw [if_neg (by decide), if_neg (show ¬ a = 0 from d 0 (by decide)), if_neg (show ¬ a = 1 from d 1 (by decide)), if_neg (show ¬ a = 2 from d 2 (by decide)), if_neg (show ¬ a = 3 from d 3 (by decide)), if_neg (show ¬ a = 4 from d 4 (by decide)), if_neg (show ¬ a = 5 from d 5 (by decide)), if_neg (show ¬ a = 6 from d 6 (by decide)), if_neg (show ¬ a = 7 from d 7 (by decide)), if_neg (show ¬ a = 8 from d 8 (by decide))]
      rfl
    · rw [if_neg c1]
      by_cases c2 : a ≤ 8
      · rw [if_pos c2]
        obtain ⟨j, hj, rfl⟩ := nI_of2 (n := 8) (M := 8) rfl c1 c2
        show (if nI j = 0 then fX10_now_72 290 (nI j) (hp_u I 290 0 0, L, px_R t v w) else if nI j = 1 then fX10_now_72 290 (nI j) (hp_u I 290 0 0, L, px_R t v w) else if nI j = 2 then some (hp_u I 290 0 0 298 2, _) else if nI j = 3 then fx_b2 (fX10_isOver 290 (hp_u I 290 0 0, L, px_R t v w)) _ else if nI j = 4 then fX10_now_101 290 (nI j) (hp_u I 290 0 0, L, px_R t v w) else if nI j = 5 then fX10_now_101 290 (nI j) (hp_u I 290 0 0, L, px_R t v w) else if nI j = 6 then fX10_now_112 290 (nI j) (hp_u I 290 0 0, L, px_R t v w) else if nI j = 7 then fX10_now_112 290 (nI j) (hp_u I 290 0 0, L, px_R t v w) else some (hp_u I 290 0 0 298 119, _)) = _
        rw [cm_over (h0.C ho) (h0.W ho) hC (hM.W ho), pb_2, hC.sv, hC.pl]
        have e0 := hC.sc 0 (by decide)
        have e1 := hC.sc 1 (by decide)
        have e2 := hC.lf 0 (by decide)
        have e3 := hC.lf 1 (by decide)
        have e4 := hC.tn 0 (by decide)
        have e5 := hC.tn 1 (by decide)
        unfold fX10_now_72 fX10_now_101 fX10_now_112
        rcases (show j = 0 ∨ j = 1 ∨ j = 2 ∨ j = 3 ∨ j = 4 ∨ j = 5 ∨ j = 6 ∨ j = 7 ∨ j = 8 by omega) with rfl | rfl | rfl | rfl | rfl | rfl | rfl | rfl | rfl
        · rw [if_pos (show nI 0 = 0 from rfl), pg_pos (by decide)]; exact congrArg (fun z => some (z, _)) e0
        · rw [if_neg (by decide), if_pos (show nI 1 = 1 from rfl), pg_pos (by decide)]; exact congrArg (fun z => some (z, _)) e1
        · rfl
        · cases ps_over A <;> rfl
        · rw [if_neg (by decide), if_neg (by decide), if_neg (by decide), if_neg (by decide), if_pos (show nI 4 = 4 from rfl), pg_pos (by decide)]; exact congrArg (fun z => some (z, _)) e2
        · rw [if_neg (by decide), if_neg (by decide), if_neg (by decide), if_neg (by decide), if_neg (by decide), if_pos (show nI 5 = 5 from rfl), pg_pos (by decide)]; exact congrArg (fun z => some (z, _)) e3
        · rw [if_neg (by decide), if_neg (by decide), if_neg (by decide), if_neg (by decide), if_neg (by decide), if_neg (by decide), if_pos (show nI 6 = 6 from rfl), pg_pos (by decide)]; exact congrArg (fun z => some (z, _)) e4
        · rw [if_neg (by decide), if_neg (by decide), if_neg (by decide), if_neg (by decide), if_neg (by decide), if_neg (by decide), if_neg (by decide), if_pos (show nI 7 = 7 from rfl), pg_pos (by decide)]; exact congrArg (fun z => some (z, _)) e5
        · rfl
      · rw [if_neg c2]
        have d : ∀ n : Nat, n ≤ 8 → a ≠ nI n := fun n hn e => c2 (by rw [e]; exact nI_le (b := 8) hn (by decide))
        rw [if_neg (by decide), if_neg (show ¬ a = 0 from d 0 (by decide)), if_neg (show ¬ a = 1 from d 1 (by decide)), if_neg (show ¬ a = 2 from d 2 (by decide)), if_neg (show ¬ a = 3 from d 3 (by decide)), if_neg (show ¬ a = 4 from d 4 (by decide)), if_neg (show ¬ a = 5 from d 5 (by decide)), if_neg (show ¬ a = 6 from d 6 (by decide)), if_neg (show ¬ a = 7 from d 7 (by decide)), if_neg (show ¬ a = 8 from d 8 (by decide))]
        rfl
def sp_count (A : ps_A) (a : Int32) : Int32 := if a = 7 then nI A.tz else if A.on = false then -1 else if a = 0 then nI A.W.lns else if a = 1 then nI A.W.pts else if a = 2 then nI A.W.sbs else if a = 3 then nI A.W.edg else if a = 4 then nI (A.W.size 0) else if a = 5 then nI (A.W.size 1) else if a = 6 then nI A.u else -1
theorem cx_count (hX : ps_RX t A I) (a : Int32) : fX9_count 0 a (I, L, px_R t v w) = some (sp_count A a, (I, L, px_R t v w)) := by
  unfold fX9_count sp_count
  show (if a = 7 then some (I 1 1, _) else if I 0 13 = 0 then _ else _) = _
  rw [hX.on, hX.tz]
  by_cases c7 : a = 7
  · rw [if_pos c7, if_pos c7]
  rw [if_neg c7, if_neg c7]
  cases ho : A.on with
  | false => simp
  | true =>
    have hW := hX.W ho
    rw [if_neg (by decide)]
    show (if a = 0 then some (I (ps_T t) 6, _) else if a = 1 then some (I (ps_T t) 2, _) else if a = 2 then some (I (ps_T t) 3, _) else if a = 3 then some (I (ps_T t) 4, _) else if a = 4 then some (I (px_R t v w (ps_T t) 0) 5, _) else if a = 5 then some (I (px_R t v w (ps_T t) 1) 5, _) else if a = 6 then some (I 0 15, _) else _) = _
    rw [pr_T_0, pr_T_1, hW.pts, hW.sbs, hW.edg, hW.lns, show I (ps_T t + 1) 5 = nI (A.W.size 0) from hW.size 0 (by decide), show I (ps_T t + 7) 5 = nI (A.W.size 1) from hW.size 1 (by decide), hX.u]
    rw [if_neg (show ¬ (true = false) by decide)]
    exact pq_if rfl (pq_if rfl (pq_if rfl (pq_if rfl (pq_if rfl (pq_if rfl (pq_if rfl rfl))))))
theorem cm_count (hM : ps_MX A I) (a : Int32) : fX10_count 290 a (I, L, px_R t v w) = some (sp_count A a, (hp_u I 290 0 0, L, px_R t v w)) := by
  unfold fX10_count sp_count
  rw [pl_let]
  have hM := hM.flag (z := 0)
  show (if a = 7 then some (hp_u I 290 0 0 290 2, _) else if hp_u I 290 0 0 290 7 = 0 then _ else _) = _
  rw [hM.on, hM.tz]
  by_cases c7 : a = 7
  · rw [if_pos c7, if_pos c7]; rfl
  rw [if_neg c7, if_neg c7]
  cases ho : A.on with
  | false => simp [hp_sI]
  | true =>
    have hW := hM.W ho
    rw [if_neg (by decide)]
    by_cases c1 : a < 0
    · rw [if_pos c1]
      have d : ∀ n : Nat, n ≤ 8 → a ≠ nI n := fun n hn e => nI_pos (n := n) (by omega) (e ▸ c1)
      rw [if_neg (by decide), if_neg (show ¬ a = 0 from d 0 (by decide)), if_neg (show ¬ a = 1 from d 1 (by decide)), if_neg (show ¬ a = 2 from d 2 (by decide)), if_neg (show ¬ a = 3 from d 3 (by decide)), if_neg (show ¬ a = 4 from d 4 (by decide)), if_neg (show ¬ a = 5 from d 5 (by decide)), if_neg (show ¬ a = 6 from d 6 (by decide))]
      rfl
    · rw [if_neg c1]
      by_cases c2 : a ≤ 6
      · rw [if_pos c2]
        obtain ⟨j, hj, rfl⟩ := nI_of2 (n := 6) (M := 6) rfl c1 c2
        have e0 := hW.size 0 (by decide)
        have e1 := hW.size 1 (by decide)
        unfold fX10_count_104
        rcases (show j = 0 ∨ j = 1 ∨ j = 2 ∨ j = 3 ∨ j = 4 ∨ j = 5 ∨ j = 6 by omega) with rfl | rfl | rfl | rfl | rfl | rfl | rfl
        · exact congrArg (fun z => some (z, _)) hW.lns
        · exact congrArg (fun z => some (z, _)) hW.pts
        · exact congrArg (fun z => some (z, _)) hW.sbs
        · exact congrArg (fun z => some (z, _)) hW.edg
        · rw [if_neg (by decide), if_neg (by decide), if_neg (by decide), if_neg (by decide), if_pos (show nI 4 = 4 from rfl), pg_pos (by decide)]; exact congrArg (fun z => some (z, _)) e0
        · rw [if_neg (by decide), if_neg (by decide), if_neg (by decide), if_neg (by decide), if_neg (by decide), if_pos (show nI 5 = 5 from rfl), pg_pos (by decide)]; exact congrArg (fun z => some (z, _)) e1
        · exact congrArg (fun z => some (z, _)) hM.u
      · rw [if_neg c2]
        have d : ∀ n : Nat, n ≤ 6 → a ≠ nI n := fun n hn e => c2 (by rw [e]; exact nI_le (b := 6) hn (by decide))
        rw [if_neg (by decide), if_neg (show ¬ a = 0 from d 0 (by decide)), if_neg (show ¬ a = 1 from d 1 (by decide)), if_neg (show ¬ a = 2 from d 2 (by decide)), if_neg (show ¬ a = 3 from d 3 (by decide)), if_neg (show ¬ a = 4 from d 4 (by decide)), if_neg (show ¬ a = 5 from d 5 (by decide)), if_neg (show ¬ a = 6 from d 6 (by decide))]
        rfl
end PSF
