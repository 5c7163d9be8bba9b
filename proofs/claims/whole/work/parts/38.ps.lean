/-! ===== the same of the reference ===== -/
section PSI
variable {t v w : Bool} {A : ps_A} {I : Nat → Nat → Int32} {L : Nat → Nat → Int64}
theorem ps_role_cases (A : ps_A) (s p : Nat) : ps_role A s p = 0 ∨ ps_role A s p = 1 ∨ ps_role A s p = 2 := by unfold ps_role; split; simp; split <;> simp
theorem ps_gone0 (h0 : ps_wf A) (ho : A.on = true) {s g : Nat} (hs : s < 2) (hg : g < 12) (hr : ps_role A s g = 0) : ps_gone A.W A.C s g = 0 ↔ A.C.mate s g = none := by
  have hst : ps_start A.W s (nI g) = true := by
    unfold ps_role at hr
    cases e : ps_start A.W s (nI g) with
    | true => rfl
    | false =>
      rw [e] at hr
      simp only [Bool.false_eq_true, if_false] at hr
      split at hr <;> omega
  rw [ps_st_iff (h0.W ho) hs (by omega)] at hst
  unfold ps_gone
  by_cases d : A.C.mate s g = none
  · rw [if_neg (fun q => q.2 d)]; simp [d]
  · rw [if_pos ⟨hst, d⟩]
    split <;> simp [d]
theorem ps_gone1 (h0 : ps_wf A) (ho : A.on = true) {s g c : Nat} (hs : s < 2) (hg : g < 12) (hc : c < 12) (hr : ps_role A s g = 1) (hm : A.C.mate s g = some c) (hg1 : ps_spot A.C s (nI g) ≠ 0) : ps_gone A.W A.C s c = 1 := by
  have w0 := h0.C ho
  have w1 := h0.W ho
  have hst : ps_start A.W s (nI g) = false := by
    unfold ps_role at hr
    cases e : ps_start A.W s (nI g) with
    | false => rfl
    | true => rw [e] at hr; simp at hr
  rw [ps_st_iff w1 hs (by omega)] at hst
  have h1 := w0.role2 s hs g c hm hst
  have h2 := (w0.mate s hs g c hm).2.2.1
  obtain ⟨h3, h4⟩ := w0.role s hs c g h2 h1
  rw [ps_in_iff w1 w0 hs (p := g) (by omega), decide_eq_true hg1] at h4
  unfold ps_gone
  rw [if_pos ⟨h1, by rw [h2]; simp⟩, h4]
  rfl
theorem cm_j137 (h0 : ps_wf A) (ho : A.on = true) (hM : ps_MX A I) {s g p : Nat} (hs : s < 2) (hg : g < 12) (hp : p < 12) (hgs : ps_spot A.C s (nI g) ≠ 0) (z : Int32) : fX10_wrongSub_137 290 (nI s) (nI g) (nI p) z (I, L, px_R t v w) = some (if z = 0 ∧ ¬ (ps_role A s g = 1 ∧ A.C.mate s g = some p) then -6 else 0, (I, L, px_R t v w)) := by
  have hC := hM.C ho
  have hm := ps_mate_lt h0 ho hs g
  have m1 : ps_e2 (A.C.mate s g) = nI p ↔ A.C.mate s g = some p := by
    cases em : A.C.mate s g with
    | none => exact ⟨fun q => absurd q.symm (nI_ne_m2 (by omega)), fun q => by cases q⟩
    | some q => rw [show ps_e2 (some q) = nI q from rfl, nI_eq (hm q em) (by omega)]; simp
  unfold fX10_wrongSub_137 fX10_wrongSub_173 fX10_wrongSub_174
  rw [cm_role h0 ho hM hs hg, pb_2, cm_mate hC hs hg, pb_2, cm_gone hC hs hp, pb_2]
  rcases ps_role_cases A s g with e3 | e3 | e3
  · rw [e3, if_neg (show ¬ nI 0 = 1 by decide)]
    by_cases c : z = 0 <;> simp [c]
  · rw [e3, if_pos (show nI 1 = 1 by decide)]
    by_cases d : A.C.mate s g = some p
    · rw [if_pos (m1.mpr d), ps_gone1 h0 ho hs hg hp e3 d hgs, if_pos (show nI 1 = 1 by decide)]
      by_cases c : z = 0 <;> simp [c, d]
    · rw [if_neg (fun q => d (m1.mp q))]
      by_cases c : z = 0 <;> simp [c, d]
  · rw [e3, if_neg (show ¬ nI 2 = 1 by decide)]
    by_cases c : z = 0 <;> simp [c]
theorem cm_judge (h0 : ps_wf A) (hM : ps_MX A I) (a b c : Int32) : fX10_wrongSub 290 a b c (I, L, px_R t v w) = some (sp_maySub A a b c, (I, L, px_R t v w)) := by
  unfold fX10_wrongSub sp_maySub
  rw [cm_player h0 hM, pb_2]
  cases e : ps_pl A a b with
  | false => rfl
  | true =>
    rw [if_neg (by decide), cm_player h0 hM, pb_2]
    cases e2 : ps_pl A a c with
    | false => rfl
    | true =>
      obtain ⟨ho, s, hs, rfl, g, hg, hg2, rfl⟩ := ps_pl_of h0 e
      obtain ⟨-, s', hs', es, p, hp, hp2, rfl⟩ := ps_pl_of h0 e2
      obtain rfl := (nI_eq (by omega) (by omega)).mp es
      have w0 := h0.C ho
      have w1 := h0.W ho
      have hC := hM.C ho
      have hlf := w0.lf s hs
      have hfr := ps_free_lt w1 hs
      have hfs := w0.fs s hs
      have hsg := ps_spot_le A.C s (nI g)
      have hsp := ps_spot_le A.C s (nI p)
      have hog : ps_onc A.W A.C s g ≤ 6 := by unfold ps_onc; split; omega; split <;> omega
      have hop : ps_onc A.W A.C s p ≤ 6 := by unfold ps_onc; split; omega; split <;> omega
      rw [if_neg (by decide), cm_over w0 w1 hC (hM.W ho), pb_2, nI_clamp (by omega), nI_clamp (by omega), nI_clamp (by omega), if_pos (show (true && true) = true from rfl)]
      unfold ps_judge
      cases ps_over A with
      | true => rfl
      | false =>
        rw [if_pos (by rfl), show (5 : Int32) = nI 5 from rfl, show (7 : Int32) = nI 7 from rfl, nI_add, nI_add, pg_pos (pi_in (by omega) (by omega)), pg_pos (pi_in (by omega) (by omega)), pi_ix (by omega), pi_ix (by omega), pl_let, cm_spotOf hC hs, pb_2, cm_spotOf hC hs, pb_2, pg_pos (pi_in (by omega) (by omega)), ps_onc_eq w1 w0 hs (by omega), ps_onc_eq w1 w0 hs (by omega), cm_role h0 ho hM hs hg2, pb_2, cm_gone hC hs hg2, pb_2, cm_role h0 ho hM hs hp2, pb_2, if_neg (show ¬ (false = true) by decide)]
        show (if I 298 (5 + s) = 0 then _ else if nI (ps_onc A.W A.C s g) = 0 then _ else if nI g = I 292 (7 + s) then _ else if 0 < nI (ps_onc A.W A.C s p) then _ else if nI p = I 292 (7 + s) then _ else if nI p = I 298 (7 + s) then _ else _) = _
        rw [hC.lf s hs, (hM.W ho).free s hs, hC.fr s hs]
        by_cases c1 : A.C.lf s = 0
        · rw [if_pos (by rw [c1]; rfl), if_pos c1]
        rw [if_neg (nI_ne0 (by omega) (by omega)), if_neg c1]
        by_cases c3 : ps_onc A.W A.C s g = 0
        · rw [if_pos (by rw [c3]; rfl), if_pos (Or.inr c3)]
        rw [if_neg (nI_ne0 (by omega) (by omega))]
        by_cases c2 : A.W.free s = some g
        · rw [if_pos ((ps_e1_eq (by omega) hfr).mpr c2), if_pos (Or.inl c2)]
        rw [if_neg (fun q => c2 ((ps_e1_eq (by omega) hfr).mp q)), if_neg (show ¬ (A.W.free s = some g ∨ ps_onc A.W A.C s g = 0) from fun q => q.elim c2 c3)]
        have hgs : ps_spot A.C s (nI g) ≠ 0 := by
          intro q
          apply c3
          unfold ps_onc
          rw [if_neg c2, q]
          split <;> rfl
        by_cases c4 : A.W.free s = some p
        · rw [if_pos (Or.inl c4)]
          by_cases d : 0 < nI (ps_onc A.W A.C s p)
          · rw [if_pos d]
          · rw [if_neg d, if_pos ((ps_e1_eq (by omega) hfr).mpr c4)]
        by_cases c5 : ps_spot A.C s (nI p) = 0
        · have d1 : ps_onc A.W A.C s p = 0 := by
            unfold ps_onc
            rw [if_neg c4, c5]
            split <;> rfl
          have d2 : ¬ nI p = ps_for A.C s := by
            unfold ps_for
            by_cases z : A.C.fs s = 0
            · rw [if_pos z]; exact nI_ne_m1 (by omega)
            · rw [if_neg z]
              exact fun q => ps_at_none c5 (A.C.fs s - 1) (by omega) (by omega) q.symm
          rw [d1, if_neg (show ¬ (0 : Int32) < nI 0 by decide), if_neg (fun q => c4 ((ps_e1_eq (by omega) hfr).mp q)), if_neg d2, if_neg (show ¬ (A.W.free s = some p ∨ ps_spot A.C s (nI p) ≠ 0) from fun q => q.elim c4 (fun z => z c5))]
          unfold fX10_wrongSub_136 ps_fit
          rw [cm_j137 h0 ho hM hs hg2 hp2 hgs, cm_j137 h0 ho hM hs hg2 hp2 hgs]
          rcases ps_role_cases A s g with e3 | e3 | e3
          · have hz := ps_gone0 h0 ho hs hg2 e3
            have hgl : ps_gone A.W A.C s g ≤ 2 := by unfold ps_gone; split; split <;> omega; omega
            rw [e3, if_pos (show nI 0 = 0 by decide), if_neg (show ¬ (0 : Nat) = 1 by decide)]
            by_cases d : A.C.mate s g = none
            · rw [if_pos (by rw [hz.mpr d]; rfl)]
              rcases ps_role_cases A s p with e4 | e4 | e4 <;> rw [e4] <;> simp [d] <;> decide
            · rw [if_neg (nI_ne0 (by have := (not_congr hz).mpr d; omega) (by omega))]
              simp [d]
          · rw [e3, if_neg (show ¬ nI 1 = 0 by decide), if_pos (show (1 : Nat) = 1 from rfl)]
            by_cases d : A.C.mate s g = some p <;> simp [d]
          · rw [e3, if_neg (show ¬ nI 2 = 0 by decide), if_neg (show ¬ (2 : Nat) = 1 by decide)]
            simp
        · rw [if_pos (Or.inr c5)]
          by_cases d : ps_spot A.C s (nI p) = A.C.fs s
          · have d1 : ps_onc A.W A.C s p = 0 := by
              unfold ps_onc
              rw [if_neg c4, if_pos d]
            have d2 : nI p = ps_for A.C s := by
              obtain ⟨i, -, h1, h2, h3⟩ := ps_at_some c5
              have h4 : ps_spot A.C s (nI p) = i + 1 := h2
              unfold ps_for
              rw [if_neg (by omega), show A.C.fs s - 1 = i by omega]
              exact h3.symm
            rw [d1, if_neg (show ¬ (0 : Int32) < nI 0 by decide), if_neg (fun q => c4 ((ps_e1_eq (by omega) hfr).mp q)), if_pos d2]
          · have d1 : ps_onc A.W A.C s p ≠ 0 := by
              unfold ps_onc
              rw [if_neg c4, if_neg d]
              exact c5
            rw [if_pos (show (0 : Int32) < nI (ps_onc A.W A.C s p) from nI_lt (a := 0) (by omega) (by omega))]
theorem cx_maySub (h0 : ps_wf A) (hX : ps_RX t A I) (a b c : Int32) : fX9_maySub 0 a b c (I, L, px_R t v w) = some (sp_maySub A a b c, (I, L, px_R t v w)) := by
  unfold fX9_maySub
  rw [cx_judge h0 hX, pb_2]
theorem cm_maySub (h0 : ps_wf A) (hM : ps_MX A I) (a b c : Int32) : fX10_maySub 290 a b c (I, L, px_R t v w) = some (sp_maySub A a b c, (hp_u I 290 0 0, L, px_R t v w)) := by
  unfold fX10_maySub
  rw [pl_let]
  show fx_b2 (fX10_wrongSub 290 a b c (hp_u I 290 0 0, L, px_R t v w)) _ = _
  rw [cm_judge h0 hM.flag, pb_2]
end PSI
