/-! ===== a player's line, the one who is free (the reference's side) ===== -/
def ps_MO (I0 : Nat → Nat → Int32) (b : Nat → Nat) (n : Nat) (r : Except (Nat × Nat) (ps_Q × Nat)) (J : Nat → Nat → Int32) : Prop := match r with | .ok x => ps_MK I0 b n x.1 (ps_nx b n x.2) J | .error e => ps_MF I0 e.1 e.2 J
section PSF59
variable {t v w : Bool} {I I0 : Nat → Nat → Int32} {L : Nat → Nat → Int64} {b : Nat → Nat} {n p f g : Nat} {Q Q' : ps_Q}
theorem ps_MF.player73 (h : ps_MF I0 f g I) (x y : Int32) : fX10_readPlayer_73 290 x y (I, L, px_R t v w) = some (I, L, px_R t v w) := by
  unfold fX10_readPlayer_73
  rw [pl_let, h.goOn, pb_1, h.number, pb_2, h.number, pb_2, h.number, pb_2, if_neg h.ne]
theorem ps_MF.player43 (h : ps_MF I0 f g I) (x y : Int32) : fX10_readPlayer_43 290 x y (I, L, px_R t v w) = some (I, L, px_R t v w) := by
  unfold fX10_readPlayer_43
  rw [if_neg h.ne, h.player73]
theorem ps_MF.player20 (h : ps_MF I0 f g I) (x y : Int32) : fX10_readPlayer_20 290 x y (I, L, px_R t v w) = some (I, L, px_R t v w) := by
  unfold fX10_readPlayer_20
  rw [h.goOn, pb_1, if_neg h.ne, h.player43]
theorem ps_MK.add (h : ps_MK I0 b n Q p I) (hl : ps_Ql Q) {s : Nat} (hs : s < 2) (hz : Q.size s < 12) (c : Int32) (x y z : Nat) : ps_MK I0 b n (Q.add s c x y z) p (hp_u (hp_u (hp_u (hp_u (hp_u I 294 (12 * s + Q.size s) c) 293 (21 + 4 * (12 * s + Q.size s)) (nI x)) 293 (21 + 4 * (12 * s + Q.size s) + 1) (nI y)) 293 (21 + 4 * (12 * s + Q.size s) + 2) (nI z)) 293 (5 + s) (nI (Q.size s + 1))) := by
  obtain ⟨m, hm⟩ : ∃ m, m = Q.size s := ⟨_, rfl⟩
  rw [← hm] at hz ⊢
  have e : ∀ a, a ≠ 293 → a ≠ 294 → hp_u (hp_u (hp_u (hp_u (hp_u I 294 (12 * s + m) c) 293 (21 + 4 * (12 * s + m)) (nI x)) 293 (21 + 4 * (12 * s + m) + 1) (nI y)) 293 (21 + 4 * (12 * s + m) + 2) (nI z)) 293 (5 + s) (nI (m + 1)) a = I a := fun a h1 h2 => by rw [pu_cell h1, pu_cell h1, pu_cell h1, pu_cell h1, pu_cell h2]
  have e3 : ∀ k, k ≠ 5 + s → k ≠ 21 + 4 * (12 * s + m) → k ≠ 21 + 4 * (12 * s + m) + 1 → k ≠ 21 + 4 * (12 * s + m) + 2 → hp_u (hp_u (hp_u (hp_u (hp_u I 294 (12 * s + m) c) 293 (21 + 4 * (12 * s + m)) (nI x)) 293 (21 + 4 * (12 * s + m) + 1) (nI y)) 293 (21 + 4 * (12 * s + m) + 2) (nI z)) 293 (5 + s) (nI (m + 1)) 293 k = I 293 k := fun k q1 q2 q3 q4 => by rw [pu_place q1, pu_place q4, pu_place q3, pu_place q2, pu_cell (by omega)]
  have e4 : ∀ k, hp_u (hp_u (hp_u (hp_u (hp_u I 294 (12 * s + m) c) 293 (21 + 4 * (12 * s + m)) (nI x)) 293 (21 + 4 * (12 * s + m) + 1) (nI y)) 293 (21 + 4 * (12 * s + m) + 2) (nI z)) 293 (5 + s) (nI (m + 1)) 294 k = if k = 12 * s + m then c else I 294 k := fun k => by
    rw [pu_cell (by omega), pu_cell (by omega), pu_cell (by omega), pu_cell (by omega)]
    by_cases d : k = 12 * s + m
    · rw [if_pos d, d, pu_eq]
    · rw [if_neg d, pu_place d]
  have v5 : hp_u (hp_u (hp_u (hp_u (hp_u I 294 (12 * s + m) c) 293 (21 + 4 * (12 * s + m)) (nI x)) 293 (21 + 4 * (12 * s + m) + 1) (nI y)) 293 (21 + 4 * (12 * s + m) + 2) (nI z)) 293 (5 + s) (nI (m + 1)) 293 (5 + s) = nI (m + 1) := pu_eq
  have vx : hp_u (hp_u (hp_u (hp_u (hp_u I 294 (12 * s + m) c) 293 (21 + 4 * (12 * s + m)) (nI x)) 293 (21 + 4 * (12 * s + m) + 1) (nI y)) 293 (21 + 4 * (12 * s + m) + 2) (nI z)) 293 (5 + s) (nI (m + 1)) 293 (21 + 4 * (12 * s + m)) = nI x := by rw [pu_place (by omega), pu_place (by omega), pu_place (by omega), pu_eq]
  have vy : hp_u (hp_u (hp_u (hp_u (hp_u I 294 (12 * s + m) c) 293 (21 + 4 * (12 * s + m)) (nI x)) 293 (21 + 4 * (12 * s + m) + 1) (nI y)) 293 (21 + 4 * (12 * s + m) + 2) (nI z)) 293 (5 + s) (nI (m + 1)) 293 (21 + 4 * (12 * s + m) + 1) = nI y := by rw [pu_place (by omega), pu_place (by omega), pu_eq]
  have vz : hp_u (hp_u (hp_u (hp_u (hp_u I 294 (12 * s + m) c) 293 (21 + 4 * (12 * s + m)) (nI x)) 293 (21 + 4 * (12 * s + m) + 1) (nI y)) 293 (21 + 4 * (12 * s + m) + 2) (nI z)) 293 (5 + s) (nI (m + 1)) 293 (21 + 4 * (12 * s + m) + 2) = nI z := by rw [pu_place (by omega), pu_eq]
  generalize hp_u (hp_u (hp_u (hp_u (hp_u I 294 (12 * s + m) c) 293 (21 + 4 * (12 * s + m)) (nI x)) 293 (21 + 4 * (12 * s + m) + 1) (nI y)) 293 (21 + 4 * (12 * s + m) + 2) (nI z)) 293 (5 + s) (nI (m + 1)) = H at e e3 e4 v5 vx vy vz ⊢
  have e290 := e 290 (by omega) (by omega)
  have e291 := e 291 (by omega) (by omega)
  have e296 := e 296 (by omega) (by omega)
  have e297 := e 297 (by omega) (by omega)
  obtain ⟨r1, r2, r3, r4⟩ := h.rd
  obtain ⟨t1, t2, t3, t4, t5⟩ := h.tok
  obtain ⟨q1, q2, q3, q4, q5, q6, q7, q8, q9, q10, q11, q12, q13, q14, q15⟩ := h.Q
  refine ⟨⟨r1, by rw [e290]; exact r2, fun k hk => by rw [e291]; exact r3 k hk, r4⟩, h.p, ⟨by rw [e290]; exact t1, by rw [e290]; exact t2, by rw [e290]; exact t3, fun q => by rw [e290]; exact t4 q, fun q => by rw [e290]; exact t5 q⟩, by rw [e290]; exact h.fk, ⟨by rw [e3 _ (by omega) (by omega) (by omega) (by omega)]; exact q1, by rw [e3 _ (by omega) (by omega) (by omega) (by omega)]; exact q2, by rw [e3 _ (by omega) (by omega) (by omega) (by omega)]; exact q3, by rw [e3 _ (by omega) (by omega) (by omega) (by omega)]; exact q4, by rw [e296]; exact q5, by rw [e296]; exact q6, by rw [e296]; exact q7, by rw [e296]; exact q8, by rw [e3 _ (by omega) (by omega) (by omega) (by omega)]; exact q9, fun s' hs' => ?_, fun s' hs' => by rw [e3 _ (by omega) (by omega) (by omega) (by omega)]; exact q11 s' hs', fun s' hs' => by rw [e297]; exact q12 s' hs', fun s' hs' e' k hk => by rw [e3 _ (by omega) (by omega) (by omega) (by omega)]; exact q13 s' hs' e' k hk, fun s' hs' i hi k hk => ?_, fun s' hs' k hk => ?_⟩, fun a p1 p2 p3 p4 p5 => by rw [e a p2 p3]; exact h.fr a p1 p2 p3 p4 p5, fun k hk => by rw [e290]; exact h.fl k hk⟩
  · show _ = nI (if s' = s then Q.size s' + 1 else Q.size s')
    by_cases d : s' = s
    · rw [if_pos d, d, v5, hm]
    · rw [if_neg d, e3 _ (by omega) (by omega) (by omega) (by omega)]; exact q10 s' hs'
  · show _ = nI (if s' = s ∧ k = Q.size s then (if i = 0 then x else if i = 1 then y else z) else Q.sk s' k i)
    have hk : k < (if s' = s then Q.size s' + 1 else Q.size s') := hk
    by_cases d : s' = s
    · subst d
      rw [if_pos rfl] at hk
      by_cases d2 : k = Q.size s'
      · rw [if_pos ⟨rfl, d2⟩, d2, ← hm]
        rcases (show i = 0 ∨ i = 1 ∨ i = 2 by omega) with rfl | rfl | rfl
        · rw [show 21 + 48 * s' + 4 * m + 0 = 21 + 4 * (12 * s' + m) by omega]; exact vx
        · rw [show 21 + 48 * s' + 4 * m + 1 = 21 + 4 * (12 * s' + m) + 1 by omega]; exact vy
        · rw [show 21 + 48 * s' + 4 * m + 2 = 21 + 4 * (12 * s' + m) + 2 by omega]; exact vz
      · rw [if_neg (fun q => d2 q.2), e3 _ (by omega) (by omega) (by omega) (by omega)]; exact q14 s' hs' i hi k (by omega)
    · rw [if_neg d] at hk
      have hk12 := hl s' hs'
      rw [if_neg (fun q => d q.1), e3 _ (by omega) (by omega) (by omega) (by omega)]; exact q14 s' hs' i hi k hk
  · show _ = (if s' = s ∧ k = Q.size s then c else Q.nm s' k)
    have hk : k < (if s' = s then Q.size s' + 1 else Q.size s') := hk
    rw [e4]
    by_cases d : s' = s
    · subst d
      rw [if_pos rfl] at hk
      by_cases d2 : k = Q.size s'
      · rw [if_pos (by omega), if_pos ⟨rfl, d2⟩]
      · rw [if_neg (by omega), if_neg (fun q => d2 q.2)]; exact q15 s' hs' k (by omega)
    · rw [if_neg d] at hk
      have hk12 := hl s' hs'
      rw [if_neg (by omega), if_neg (fun q => d q.1)]; exact q15 s' hs' k hk
theorem cm_lplayer (h : ps_MK I0 b n Q p I) (hl : ps_Ql Q) {s : Nat} (hs : s < 2) : ∃ J, ps_MO I0 b n (ps_Lplayer b n Q s p) J ∧ fX10_readPlayer 290 (nI s) (I, L, px_R t v w) = some (J, L, px_R t v w) := by
  have hz := hl s hs
  unfold fX10_readPlayer ps_Lplayer
  rw [show (5 : Int32) = nI 5 from rfl, nI_add, pg_pos (pi_in (by omega) (by omega)), pl_let, pi_ix (by omega), show (I, L, px_R t v w).1 ((I, L, px_R t v w).2.2 290 4) (5 + s) = nI (Q.size s) from h.Q.size s hs]
  by_cases c0 : 12 ≤ Q.size s
  · rw [if_pos c0, if_pos (show nI (Q.size s) = 12 from (nI_eq (b := 12) (by omega) (by omega)).mpr (by omega)), show (2 : Int32) = nI 2 from rfl]
    obtain ⟨J, j1, j2⟩ := h.wrong (L := L) (t := t) (v := v) (w := w) (k := 2) (by omega) (by omega)
    rw [j2, pb_1, j1.player20]
    exact ⟨J, j1, rfl⟩
  · rw [if_neg c0, if_neg (show ¬ nI (Q.size s) = 12 from fun z => by have := (nI_eq (b := 12) (by omega) (by omega)).mp z; omega)]
    unfold fX10_readPlayer_20
    obtain ⟨J, j1, j2⟩ := h.goOn (L := L) (t := t) (v := v) (w := w)
    rw [j2, pb_1, show (J, L, px_R t v w).1 290 14 = 0 from j1.fk, if_pos (show (0 : Int32) = 0 from rfl), j1.isOther, pb_2]
    by_cases c1 : ps_tk b n (ps_nx b n p) = 1
    · rw [if_neg (show ¬ ps_tk b n (ps_nx b n p) ≠ 1 from fun q => q c1), if_pos c1, if_neg (show ¬ (1 : Int32) = 0 by decide)]
      unfold fX10_readPlayer_43 fX10_readPlayer_68
      rw [show (J, L, px_R t v w).1 290 14 = 0 from j1.fk, if_pos (show (0 : Int32) = 0 from rfl)]
      have n0 := j1.named (L := L) (t := t) (v := v) (w := w) hl c1 (s := 0) (by omega)
      have n1 := j1.named (L := L) (t := t) (v := v) (w := w) hl c1 (s := 1) (by omega)
      have n0 : fX10_namedOf 290 0 (J, L, px_R t v w) = _ := n0
      have n1 : fX10_namedOf 290 1 (J, L, px_R t v w) = _ := n1
      have e13 : J 290 13 = nI (ps_tw b n (ps_nx b n p)) := (j1.tok.2.2.2.1 (ps_ms_tk.2.2.2.1.mpr (Or.inl c1))).2
      generalize nI (ps_tw b n (ps_nx b n p)) = x at n0 n1 e13 ⊢
      have bad : ∃ J', ps_MO I0 b n (.error (3, ps_nx b n p)) J' ∧ (fx_b1 (fX10_wrong 290 3 (J, L, px_R t v w)) fun h70 => fX10_readPlayer_73 290 (nI s) (nI (Q.size s)) h70) = some (J', L, px_R t v w) := by
        obtain ⟨H, k1, k2⟩ := j1.wrong (L := L) (t := t) (v := v) (w := w) (k := 3) (by omega) (by omega)
        rw [show (3 : Int32) = nI 3 from rfl, k2, pb_1, k1.player73]
        exact ⟨H, k1, rfl⟩
      rw [n0, pb_2]
      by_cases f0 : ps_fd Q 0 x = none
      · rw [if_pos ((ps_fd_none hl (by omega) x).mpr f0), n1, pb_2]
        by_cases f1 : ps_fd Q 1 x = none
        · rw [if_pos ((ps_fd_none hl (by omega) x).mpr f1), if_neg (show ¬ (ps_fd Q 0 x ≠ none ∨ ps_fd Q 1 x ≠ none) from fun q => q.elim (fun z => z f0) (fun z => z f1))]
          unfold fX10_readPlayer_73
          rw [pl_let, show (J, L, px_R t v w).1 290 13 = x from e13]
          obtain ⟨J2, a1, a2⟩ := j1.goOn (L := L) (t := t) (v := v) (w := w)
          rw [a2, pb_1]
          rcases a1.number (L := L) (t := t) (v := v) (w := w) (lo := 0) (hi := 99) (by omega) (by omega) with ⟨y1, J3, e1, b1, b2⟩ | ⟨k, H, e1, k1, r, k2⟩
          · have b2 : fX10_number 290 0 99 (J2, L, px_R t v w) = _ := b2
            rw [e1, b2, pb_2]
            rcases b1.number (L := L) (t := t) (v := v) (w := w) (lo := 0) (hi := 99) (by omega) (by omega) with ⟨y2, J4, e2, d1, d2⟩ | ⟨k, H, e2, k1, r, k2⟩
            · have d2 : fX10_number 290 0 99 (J3, L, px_R t v w) = _ := d2
              rw [e2, d2, pb_2]
              rcases d1.number (L := L) (t := t) (v := v) (w := w) (lo := 0) (hi := 99) (by omega) (by omega) with ⟨y3, J5, e3, g1, g2⟩ | ⟨k, H, e3, k1, r, k2⟩
              · have g2 : fX10_number 290 0 99 (J4, L, px_R t v w) = _ := g2
                rw [e3, g2, pb_2, show (J5, L, px_R t v w).1 290 14 = 0 from g1.fk, if_pos (show (0 : Int32) = 0 from rfl), show (12 : Int32) = nI 12 from rfl, pk_mul, nI_add, pg_pos (pi_in (by omega) (by omega)), pl_let, pl_let, pi_ix (by omega), show (4 : Int32) = nI 4 from rfl, show (21 : Int32) = nI 21 from rfl, pk_mul, nI_add, pg_pos (pi_in (by omega) (by omega)), pl_let, pi_ix (by omega), nI_1, pg_pos (pi_in (by omega) (by omega)), pl_let, pi_ix (by omega), show (2 : Int32) = nI 2 from rfl, nI_add, pg_pos (pi_in (by omega) (by omega)), pl_let, pi_ix (by omega), pl_let, show (5 : Int32) = nI 5 from rfl, nI_add, pg_pos (pi_in (by omega) (by omega)), pg_pos (pi_in (by omega) (by omega)), pl_let, pi_ix (by omega)]
                have a5 := g1.add hl hs (by omega) x y1 y2 y3
                refine ⟨_, a5, ?_⟩
                show some (hp_u (hp_u (hp_u (hp_u (hp_u J5 294 (12 * s + Q.size s) x) 293 (21 + 4 * (12 * s + Q.size s)) (nI y1)) 293 (21 + 4 * (12 * s + Q.size s) + 1) (nI y2)) 293 (21 + 4 * (12 * s + Q.size s) + 2) (nI y3)) 293 (5 + s) (hp_u (hp_u (hp_u (hp_u J5 294 (12 * s + Q.size s) x) 293 (21 + 4 * (12 * s + Q.size s)) (nI y1)) 293 (21 + 4 * (12 * s + Q.size s) + 1) (nI y2)) 293 (21 + 4 * (12 * s + Q.size s) + 2) (nI y3) 293 (5 + s) + 1), L, px_R t v w) = _
                rw [pu_place (j := 5 + s) (by omega), pu_place (j := 5 + s) (by omega), pu_place (j := 5 + s) (by omega), pu_cell (x := 293) (by omega), g1.Q.size s hs, nI_1]
              · have k2 : fX10_number 290 0 99 (J4, L, px_R t v w) = _ := k2
                rw [e3, k2, pb_2, if_neg k1.ne]
                exact ⟨H, k1, rfl⟩
            · have k2 : fX10_number 290 0 99 (J3, L, px_R t v w) = _ := k2
              rw [e2, k2, pb_2, k1.number, pb_2, if_neg k1.ne]
              exact ⟨H, k1, rfl⟩
          · have k2 : fX10_number 290 0 99 (J2, L, px_R t v w) = _ := k2
            rw [e1, k2, pb_2, k1.number, pb_2, k1.number, pb_2, if_neg k1.ne]
            exact ⟨H, k1, rfl⟩
        · rw [if_neg (fun q => f1 ((ps_fd_none hl (by omega) x).mp q)), if_pos (Or.inr f1)]
          exact bad
      · rw [if_neg (fun q => f0 ((ps_fd_none hl (by omega) x).mp q)), if_pos (Or.inl f0)]
        exact bad
    · rw [if_pos c1, if_neg c1, if_pos (show (0 : Int32) = 0 from rfl)]
      obtain ⟨H, k1, k2⟩ := j1.wrong (L := L) (t := t) (v := v) (w := w) (k := 1) (by omega) (by omega)
      rw [show (1 : Int32) = nI 1 from rfl, k2, pb_1, k1.player43]
      exact ⟨H, k1, rfl⟩
end PSF59
