/-! ===== what holds between two calls ===== -/
/-- what the class keeps of earlier answers -/
def ps_CH (A : ps_A) (I : Nat → Nat → Int32) : Prop := A.on = true → (I 0 14 = 0 ∨ ps_kt A I) ∧ ∀ s, s < 2 → ps_kb I (286 + 2 * s) (ps_sbs A s (A.W.size s)) ∧ ps_kb I (287 + 2 * s) (ps_sws A s 5)
def ps_I5 (A : ps_A) (t : Bool) (I : Nat → Nat → Int32) : Prop := ps_wf A ∧ ps_RX t A I ∧ ps_MX A I ∧ ps_CH A I
def ps_Inv (h : hp_T) : Prop := ∃ (A : ps_A) (t v w : Bool) (I : Nat → Nat → Int32) (L : Nat → Nat → Int64), h = (I, L, px_R t v w) ∧ ps_I5 A t I
section PSF67
variable {t v w : Bool} {I J H : Nat → Nat → Int32} {L : Nat → Nat → Int64} {A B : ps_A}
theorem ps_kt.cell (h : ps_kt A I) (e : J 34 = I 34) : ps_kt A J := fun r s hr hs => by rw [e]; exact h r s hr hs
theorem ps_CH.near (h : ps_CH A I) (e : ∀ a, (a = 0 ∨ a = 34 ∨ (286 ≤ a ∧ a ≤ 289)) → J a = I a) : ps_CH A J := fun ho => by
  obtain ⟨h1, h2⟩ := h ho
  refine ⟨?_, fun s hs => ⟨(h2 s hs).1.cell (e _ (by omega)), (h2 s hs).2.cell (e _ (by omega))⟩⟩
  rcases h1 with h1 | h1
  · exact Or.inl (by rw [e 0 (by omega)]; exact h1)
  · exact Or.inr (h1.cell (e 34 (by omega)))
theorem ps_wv_cong (h : B.W = A.W) (s i j : Nat) : ps_wv B s i j = ps_wv A s i j := by
  have e : ps_wq B s i j = ps_wq A s i j := by
    funext s' k
    unfold ps_wq
    rw [h]
  unfold ps_wv
  rw [e, h]
theorem ps_swr_cong (h : B.W = A.W) (s i : Nat) (b : Option (Int32 × Int32 × Int32)) : ∀ n, ps_swr B s i b n = ps_swr A s i b n
  | 0 => rfl
  | n + 1 => by rw [ps_swr, ps_swr, ps_swr_cong h s i b n, ps_wv_cong h]
theorem ps_sws_cong (h : B.W = A.W) (s : Nat) : ∀ i, ps_sws B s i = ps_sws A s i
  | 0 => rfl
  | i + 1 => by rw [ps_sws, ps_sws, ps_sws_cong h s i, ps_swr_cong h]
theorem ps_tb_cong (h : B.W = A.W) (r s : Nat) : ps_tb B r s = ps_tb A r s := by
  unfold ps_tb
  rw [h]
theorem ps_kt.cong (h : B.W = A.W) (k : ps_kt A I) : ps_kt B I := fun r s hr hs => by rw [ps_tb_cong h]; exact k r s hr hs
theorem ps_judge_cong (h : B.W = A.W) (hC : B.C = A.C) (s g c : Nat) : ps_judge B s g c = ps_judge A s g c := by
  have e1 : ps_over B = ps_over A := by unfold ps_over; rw [h, hC]
  have e2 : ∀ p, ps_role B s p = ps_role A s p := fun p => by unfold ps_role; rw [h, hC]
  have e3 : ps_fit B s g c = ps_fit A s g c := by unfold ps_fit; rw [e2, e2, hC]
  unfold ps_judge
  rw [e1, e3, h, hC]
theorem ps_sbr_cong (h : B.W = A.W) (hC : B.C = A.C) (s g : Nat) (b : Option (Int32 × Int32 × Int32)) : ∀ c, ps_sbr B s g b c = ps_sbr A s g b c
  | 0 => rfl
  | c + 1 => by
    have e1 : ps_sq B s g c = ps_sq A s g c := by
      funext s' k
      unfold ps_sq
      rw [hC]
    have e2 : ps_val B (ps_sq A s g c) = ps_val A (ps_sq A s g c) := by
      unfold ps_val
      rw [h, hC]
    rw [ps_sbr, ps_sbr, ps_sbr_cong h hC s g b c, ps_judge_cong h hC, e1, e2]
theorem ps_sbs_cong (h : B.W = A.W) (hC : B.C = A.C) (s : Nat) : ∀ g, ps_sbs B s g = ps_sbs A s g
  | 0 => rfl
  | g + 1 => by rw [ps_sbs, ps_sbs, ps_sbs_cong h hC s g, ps_sbr_cong h hC, h]
/-- the same set: the same answers -/
theorem ps_CH.same (h : ps_CH A I) (ho : B.on = A.on) (hW : B.W = A.W) (hC : B.C = A.C) : ps_CH B I := fun hb => by
  obtain ⟨h1, h2⟩ := h (ho ▸ hb)
  refine ⟨h1.imp id (ps_kt.cong hW), fun s hs => ?_⟩
  rw [ps_sbs_cong hW hC, ps_sws_cong hW, hW]
  exact h2 s hs
/-- another court: the bests of changes are forgotten -/
theorem ps_CH.forget (h : ps_CH A I) (ho : A.on = true) (hW : B.W = A.W) (e0 : J 0 14 = I 0 14) (e34 : J 34 = I 34) (e : ∀ s, s < 2 → J (287 + 2 * s) = I (287 + 2 * s)) (z0 : J 286 0 = 0) (z1 : J 288 0 = 0) : ps_CH B J := fun _ => by
  obtain ⟨h1, h2⟩ := h ho
  refine ⟨?_, fun s hs => ⟨?_, ?_⟩⟩
  · rcases h1 with h1 | h1
    · exact Or.inl (e0.trans h1)
    · exact Or.inr ((h1.cell e34).cong hW)
  · rcases (show s = 0 ∨ s = 1 by omega) with rfl | rfl
    · exact Or.inl z0
    · exact Or.inl z1
  · rw [ps_sws_cong hW]
    exact (h2 s hs).2.cell (e s hs)
theorem ps_I5.k0 (h : ps_I5 A t I) : ps_I5 A t (hp_u I 290 0 0) := ⟨h.1, h.2.1.cong (fun a ha => pu_cell (by omega)), h.2.2.1.flag, h.2.2.2.near (fun a ha => pu_cell (by omega))⟩
theorem ps_I5.inv (h : ps_I5 A t I) : ps_Inv (I, L, px_R t v w) := ⟨A, t, v, w, I, L, rfl, h⟩
theorem ps_I5.k1 (h : ps_I5 A t I) : ps_Inv (hp_u I 290 0 0, L, px_R t v w) := h.k0.inv
theorem ps_I5.fx (h : ps_I5 A t I) (e : ps_fx I J) : ps_I5 A t J := ⟨h.1, h.2.1.fx e, h.2.2.1.fx e, h.2.2.2.near (fun a ha => e a (by unfold ps_sc; omega))⟩
theorem ps_I5.fm (h : ps_I5 A t I) (e : ps_fm I J) : ps_I5 A t J := ⟨h.1, h.2.1.fm e, h.2.2.1.fm e, h.2.2.2.near (fun a ha => e a (by omega))⟩
theorem ps_I5.k2 (h : ps_I5 A t J) (e : ps_fm (hp_u J 290 0 0) H) : ps_Inv (H, L, px_R t v w) := (h.k0.fm e).inv
theorem ps_I5.GT (h : ps_I5 A t I) (g : ps_GT A I J) : ps_I5 A t J := ⟨h.1, h.2.1.G g.1, h.2.2.1.G g.1, fun ho => ⟨g.2.1 ho, fun s hs => ⟨((h.2.2.2 ho).2 s hs).1.cell (g.2.2 _ (by omega)), ((h.2.2.2 ho).2 s hs).2.cell (g.2.2 _ (by omega))⟩⟩⟩
end PSF67
theorem op_fault : lw_o1 ps_Inv (fun a1 h => fX9_fault 0 a1 h) (fun a1 h => fX10_fault 290 a1 h) := by
  rintro h ⟨A, t, v, w, I, L, rfl, i⟩ a1
  exact ⟨_, _, _, cx_fault i.2.1 a1, cm_fault i.2.2.1 a1, i.k1⟩
theorem op_on : lw_o2 ps_Inv (fun a1 a2 h => fX9_on 0 a1 a2 h) (fun a1 a2 h => fX10_on 290 a1 a2 h) := by
  rintro h ⟨A, t, v, w, I, L, rfl, i⟩ a1 a2
  exact ⟨_, _, _, cx_on i.1 i.2.1 a1 a2, cm_on i.2.2.1 a1 a2, i.k1⟩
theorem op_lineUp : lw_o2 ps_Inv (fun a1 a2 h => fX9_lineUp 0 a1 a2 h) (fun a1 a2 h => fX10_lineUp 290 a1 a2 h) := by
  rintro h ⟨A, t, v, w, I, L, rfl, i⟩ a1 a2
  exact ⟨_, _, _, cx_lineUp i.2.1 a1 a2, cm_lineUp i.1 i.2.2.1 a1 a2, i.k1⟩
theorem op_standing : lw_o3 ps_Inv (fun a1 a2 a3 h => fX9_standing 0 a1 a2 a3 h) (fun a1 a2 a3 h => fX10_standing 290 a1 a2 a3 h) := by
  rintro h ⟨A, t, v, w, I, L, rfl, i⟩ a1 a2 a3
  exact ⟨_, _, _, cx_standing i.2.1 a1 a2 a3, cm_standing i.2.2.1 a1 a2 a3, i.k1⟩
theorem op_wrong : lw_o2 ps_Inv (fun a1 a2 h => fX9_wrong 0 a1 a2 h) (fun a1 a2 h => fX10_wrong_ 290 a1 a2 h) := by
  rintro h ⟨A, t, v, w, I, L, rfl, i⟩ a1 a2
  exact ⟨_, _, _, cx_wrong i.1 i.2.1 a1 a2, cm_wrong i.1 i.2.2.1 a1 a2, i.k1⟩
theorem op_now : lw_o1 ps_Inv (fun a1 h => fX9_now 0 a1 h) (fun a1 h => fX10_now 290 a1 h) := by
  rintro h ⟨A, t, v, w, I, L, rfl, i⟩ a1
  exact ⟨_, _, _, cx_now i.1 i.2.1 a1, cm_now i.1 i.2.2.1 a1, i.k1⟩
theorem op_together : lw_o4 ps_Inv (fun a1 a2 a3 a4 h => fX9_together 0 a1 a2 a3 a4 h) (fun a1 a2 a3 a4 h => fX10_together 290 a1 a2 a3 a4 h) := by
  rintro h ⟨A, t, v, w, I, L, rfl, i⟩ a1 a2 a3 a4
  exact ⟨_, _, _, cx_together i.1 i.2.1 a1 a2 a3 a4, cm_together i.1 i.2.2.1 a1 a2 a3 a4, i.k1⟩
theorem op_maySub : lw_o3 ps_Inv (fun a1 a2 a3 h => fX9_maySub 0 a1 a2 a3 h) (fun a1 a2 a3 h => fX10_maySub 290 a1 a2 a3 h) := by
  rintro h ⟨A, t, v, w, I, L, rfl, i⟩ a1 a2 a3
  exact ⟨_, _, _, cx_maySub i.1 i.2.1 a1 a2 a3, cm_maySub i.1 i.2.2.1 a1 a2 a3, i.k1⟩
theorem op_mayMove : lw_o2 ps_Inv (fun a1 a2 h => fX9_mayMove 0 a1 a2 h) (fun a1 a2 h => fX10_mayMove 290 a1 a2 h) := by
  rintro h ⟨A, t, v, w, I, L, rfl, i⟩ a1 a2
  exact ⟨_, _, _, cx_mayMove i.1 i.2.1 a1 a2, cm_mayMove i.1 i.2.2.1 a1 a2, i.k1⟩
theorem op_subsNow : lw_o1 ps_Inv (fun a1 h => fX9_subsNow 0 a1 h) (fun a1 h => fX10_subsNow 290 a1 h) := by
  rintro h ⟨A, t, v, w, I, L, rfl, i⟩ a1
  exact ⟨_, _, _, cx_subsNow i.1 i.2.1 a1, cm_subsNow i.1 i.2.2.1 a1, i.k1⟩
theorem op_ranked : lw_o2 ps_Inv (fun a1 a2 h => fX9_ranked 0 a1 a2 h) (fun a1 a2 h => fX10_ranked 290 a1 a2 h) := by
  rintro h ⟨A, t, v, w, I, L, rfl, i⟩ a1 a2
  exact ⟨_, _, _, cx_ranked i.1 i.2.1 a1 a2, cm_ranked i.1 i.2.2.1 a1 a2, i.k1⟩
theorem op_named : lw_o2 ps_Inv (fun a1 a2 h => fX9_named 0 a1 a2 h) (fun a1 a2 h => fX10_named 290 a1 a2 h) := by
  rintro h ⟨A, t, v, w, I, L, rfl, i⟩ a1 a2
  exact ⟨_, _, _, cx_named i.1 i.2.1 a1 a2, cm_named i.1 i.2.2.1 a1 a2, i.k1⟩
theorem op_was : lw_o2 ps_Inv (fun a1 a2 h => fX9_was 0 a1 a2 h) (fun a1 a2 h => fX10_was 290 a1 a2 h) := by
  rintro h ⟨A, t, v, w, I, L, rfl, i⟩ a1 a2
  exact ⟨_, _, _, cx_was i.1 i.2.1 a1 a2, cm_was i.1 i.2.2.1 a1 a2, i.k1⟩
theorem op_till : lw_o3 ps_Inv (fun a1 a2 a3 h => fX9_till 0 a1 a2 a3 h) (fun a1 a2 a3 h => fX10_till 290 a1 a2 a3 h) := by
  rintro h ⟨A, t, v, w, I, L, rfl, i⟩ a1 a2 a3
  exact ⟨_, _, _, cx_till i.1 i.2.1 a1 a2 a3, cm_till i.1 i.2.2.1 a1 a2 a3, i.k1⟩
theorem op_count : lw_o1 ps_Inv (fun a1 h => fX9_count 0 a1 h) (fun a1 h => fX10_count 290 a1 h) := by
  rintro h ⟨A, t, v, w, I, L, rfl, i⟩ a1
  exact ⟨_, _, _, cx_count i.2.1 a1, cm_count i.2.2.1 a1, i.k1⟩
