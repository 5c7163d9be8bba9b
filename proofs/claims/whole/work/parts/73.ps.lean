/-! ===== the table of the starts ===== -/
def ps_tb (A : ps_A) (r s : Nat) : Int32 := nI (ps_V (ps_ch A.W A.W.start) A.W.pts A.W.pts r s A.W.fst)
def ps_kt (A : ps_A) (I : Nat → Nat → Int32) : Prop := ∀ r s, r < 6 → s < 6 → I 34 (6 * r + s) = ps_tb A r s
def ps_to (A : ps_A) (s k o : Nat) : Int32 := if s = 0 then ps_tb A k o else ps_tb A o k
def ps_wr (A : ps_A) (s k : Nat) : Nat → Int32
  | 0 => ps_to A s k 0
  | i + 1 => if s = 0 then fx_min (ps_wr A s k i) (ps_to A s k (i + 1)) else fx_max (ps_wr A s k i) (ps_to A s k (i + 1))
def ps_bx (g : Nat → Int32) (m : Bool) : Nat → Nat
  | 0 => 0
  | i + 1 => if (if m = true then g (ps_bx g m i) < g (i + 1) else g (i + 1) < g (ps_bx g m i)) then i + 1 else ps_bx g m i
def ps_pb (g : Nat → Int32) (m : Bool) : Nat → Option (Int32 × Int32 × Int32)
  | 0 => none
  | k + 1 => ps_bo (ps_pb g m k) (nI k) (g k) (g k) m
theorem ps_pb_bx (g : Nat → Int32) (m : Bool) : ∀ i, ps_pb g m (i + 1) = some (nI (ps_bx g m i), g (ps_bx g m i), g (ps_bx g m i))
  | 0 => rfl
  | i + 1 => by
    rw [ps_pb, ps_pb_bx g m i, ps_bx]
    show (if (if m = true then g (ps_bx g m i) < g (i + 1) else g (i + 1) < g (ps_bx g m i)) then _ else _) = _
    by_cases c : (if m = true then g (ps_bx g m i) < g (i + 1) else g (i + 1) < g (ps_bx g m i))
    · rw [if_pos c, if_pos c]
    · rw [if_neg c, if_neg c]
theorem ps_bx_le (g : Nat → Int32) (m : Bool) : ∀ i, ps_bx g m i ≤ i
  | 0 => Nat.le_refl _
  | i + 1 => by
    rw [ps_bx]
    have := ps_bx_le g m i
    split <;> split <;> omega
theorem ps_st_six {A : ps_A} (h0 : ps_wf A) (ho : A.on = true) : ∀ s, s < 2 → ps_six A.W s (A.W.start s) := fun s hs k hk => (h0.W ho).st s hs k hk
section PSF23
variable {t v w : Bool} {A : ps_A} {I : Nat → Nat → Int32} {L : Nat → Nat → Int64}
theorem cx_ft25 {C : Nat → Nat → Nat → Nat} {d fst p : Nat} (hd : d < 6) (hf : fst < 2) (hv : ∀ k, k < 12 → I (ps_vc v) k = nI (ps_Vk C 0 d fst p p k)) (k2 : Nat → Nat → Int32 → Int32 → hp_T → Option hp_T) (a2 : Int32) :
    ∃ J, ((∀ r, r < 6 → J 34 (6 * r + (r + d) % 6) = nI (ps_V C p p r ((r + d) % 6) fst)) ∧ (∀ i, (∀ r, r < 6 → i ≠ 6 * r + (r + d) % 6) → J 34 i = I 34 i) ∧ ∀ a, a ≠ 34 → J a = I a) ∧ fX4_fillTable_25 k2 fx_N 3 34 a2 (nI d) 0 (I, L, px_R t v w) = k2 3 34 a2 (nI (d + 1)) (J, L, px_R t v w) := by
  have hvc := ps_vc_ne v
  obtain ⟨J, ⟨j1, j2, j3⟩, j4⟩ := pf_loop (S := Nat → Nat → Int32) (fun n i J => fX4_fillTable_25 k2 n 3 34 a2 (nI d) (nI i) (J, L, px_R t v w)) (fun J => k2 3 34 a2 (nI (d + 1)) (J, L, px_R t v w))
    (fun i J => (∀ r, r < i → J 34 (6 * r + (r + d) % 6) = nI (ps_V C p p r ((r + d) % 6) fst)) ∧ (∀ k, (∀ r, r < 6 → k ≠ 6 * r + (r + d) % 6) → J 34 k = I 34 k) ∧ ∀ a, a ≠ 34 → J a = I a) 6 (by
      intro n J _
      show fX4_fillTable_25 k2 (n + 1) _ _ _ _ (nI 6) _ = _
      rw [fX4_fillTable_25, if_pos (by decide), pl_let, nI_1]) (by
      rintro n i J hi ⟨p1, p2, p3⟩
      show ∃ s', _ ∧ fX4_fillTable_25 k2 (n + 1) _ _ _ _ (nI i) _ = fX4_fillTable_25 k2 n _ _ _ _ (nI (i + 1)) _
      have hm : (i + d) % 6 < 6 := Nat.mod_lt _ (by omega)
      rw [fX4_fillTable_25, if_neg (show ¬ (6 : Int32) ≤ nI i from nI_ge (b := 6) hi (by omega)), nI_add, nI_rem6 (by omega), show (2 : Int32) = nI 2 from rfl, show (6 : Int32) = nI 6 from rfl, pk_mul, pk_mul, nI_add, pg_pos (pi_in (by omega) (by omega)), pg_pos (pi_in (by omega) (by omega)), pl_let, pl_let, nI_1, pi_ix (n := 2 * i) (by omega), pi_ix (by omega)]
      have ev : J (ps_vc v) (2 * i) = nI (ps_V C p p i ((i + d) % 6) fst) := by
        rw [p3 _ (by omega), hv _ (by omega)]
        unfold ps_Vk
        rw [show ps_cR 0 fst (2 * i) = i by unfold ps_cR; omega, show ps_cS d fst (2 * i) = (i + d) % 6 by unfold ps_cS; omega, show ps_cv fst (2 * i) = fst by unfold ps_cv; omega]
      refine ⟨hp_u J 34 (i * 6 + (i + d) % 6) (nI (ps_V C p p i ((i + d) % 6) fst)), ⟨fun r hr => ?_, fun k hk => ?_, fun a ha => ?_⟩, ?_⟩
      · by_cases c : r = i
        · subst c; rw [show 6 * r + (r + d) % 6 = r * 6 + (r + d) % 6 by omega]; exact pu_eq
        · rw [pu_place (by omega)]; exact p1 r (by omega)
      · have := hk i hi
        rw [pu_place (by omega)]; exact p2 k hk
      · rw [pu_cell ha]; exact p3 a ha
      · show fX4_fillTable_25 k2 n _ _ _ _ _ (hp_u J 34 _ (J (px_R t v w 3 4) (2 * i)), L, px_R t v w) = _
        rw [pr_3_4, ev]) 6 0 fx_N I (by omega) (by unfold fx_N; omega) ⟨fun r hr => absurd hr (by omega), fun _ _ => rfl, fun _ _ => rfl⟩
  exact ⟨J, ⟨j1, j2, j3⟩, j4⟩
theorem cx_fillTable {W : ps_W} (w1 : ps_wfW W) {q : Nat → Nat → Nat} (hq : ∀ s, s < 2 → ps_six W s (q s)) (hF : ps_F I W q) {fst : Nat} (hf : fst < 2) :
    ∃ z : Bool × (Nat → Nat → Int32), ((∀ r s, r < 6 → s < 6 → z.2 34 (6 * r + s) = nI (ps_V (ps_ch W q) W.pts W.pts r s fst)) ∧ ∀ a, (a < 12 ∨ 15 < a) → a ≠ 34 → z.2 a = I a) ∧ fX4_fillTable 3 34 (nI fst) (I, L, px_R t v w) = some (z.2, L, px_R t z.1 w) := by
  have hC : ps_Cok (ps_ch W q) := fun r s sv => by have := ps_ch_le W q r s sv; omega
  unfold fX4_fillTable
  obtain ⟨z, ⟨z1, z2⟩, z3⟩ := pf_loop (S := Bool × (Nat → Nat → Int32)) (fun n i z => fX4_fillTable_2 n 3 34 (nI fst) (nI i) (z.2, L, px_R t z.1 w)) (fun z => some (z.2, L, px_R t z.1 w))
    (fun i z => (∀ r d, r < 6 → d < i → z.2 34 (6 * r + (r + d) % 6) = nI (ps_V (ps_ch W q) W.pts W.pts r ((r + d) % 6) fst)) ∧ ∀ a, (a < 12 ∨ 15 < a) → a ≠ 34 → z.2 a = I a) 6 (by
      intro n z _
      show fX4_fillTable_2 (n + 1) _ _ _ (nI 6) _ = _
      rw [fX4_fillTable_2, if_pos (by decide)]) (by
      rintro n i ⟨v1, J⟩ hi ⟨p1, p2⟩
      dsimp only at p1 p2
      show ∃ z : Bool × (Nat → Nat → Int32), _ ∧ fX4_fillTable_2 (n + 1) _ _ _ (nI i) _ = fX4_fillTable_2 n _ _ _ (nI (i + 1)) _
      have hFJ : ps_F J W q := hF.cong (fun a h1 h2 => p2 a (by omega) (by omega))
      obtain ⟨J1, ⟨j1, j2⟩, j3⟩ := cx_fillCycle (I := J) (L := L) (t := t) (v := v1) (w := w) (C := ps_ch W q) (r := 0) (s := i) (by omega) hi hf (fun H e r s sv h1 h2 h3 => cx_chanceOf w1 hq (hFJ.cong (fun a h1 h2 => e a (by omega))) h1 h2 h3)
      obtain ⟨z1, ⟨k1, k2⟩, k3⟩ := cx_fillValues (I := J1) (L := L) (t := t) (v := v1) (w := w) hC (r := 0) (s := i) (a := 0) (b := 0) (by omega) hi hf (by omega) (by omega) w1.p25 j1 (by rw [j2 3 (by omega)]; exact hFJ.pts)
      obtain ⟨J2, ⟨l1, l2, l3⟩, l4⟩ := cx_ft25 (I := z1.2) (L := L) (t := t) (v := z1.1) (w := w) (C := ps_ch W q) (d := i) (fst := fst) (p := W.pts) hi hf (fun k hk => by have := k1 0 (by omega) (by omega) k hk; rw [Nat.mul_zero, Nat.zero_add] at this; exact this) (fX4_fillTable_2 n) (nI fst)
      rw [fX4_fillTable_2, if_neg (show ¬ (6 : Int32) ≤ nI i from nI_ge (b := 6) hi (by omega)), show (0 : Int32) = nI 0 from rfl, j3, pb_1, k3, pb_1, show nI 0 = (0 : Int32) from rfl, l4]
      refine ⟨(z1.1, J2), ⟨fun r d hr hd => ?_, fun a h1 h2 => ?_⟩, rfl⟩
      · by_cases c : d = i
        · subst c; exact l1 r hr
        · show J2 34 _ = _
          rw [l2 _ (fun r' hr' => by omega), k2 34 (by omega) (by omega), j2 34 (by omega)]
          exact p1 r d hr (by omega)
      · show J2 a = _
        rw [l3 a h2, k2 a (by omega) (by omega), j2 a (by omega)]; exact p2 a h1 h2) 6 0 fx_N (v, I) (by omega) (by unfold fx_N; omega) ⟨fun r d _ hd => absurd hd (by omega), fun _ _ _ => rfl⟩
  refine ⟨z, ⟨fun r s hr hs => ?_, z2⟩, z3⟩
  have := z1 r ((s + 6 - r) % 6) hr (Nat.mod_lt _ (by omega))
  rw [show (r + (s + 6 - r) % 6) % 6 = s by omega] at this
  exact this
theorem cx_knowTable (h0 : ps_wf A) (ho : A.on = true) (hX : ps_RX t A I) (hK : I 0 14 = 0 ∨ ps_kt A I) :
    ∃ z : Bool × (Nat → Nat → Int32), (ps_kt A z.2 ∧ (∀ a, (a < 3 ∨ 15 < a) → a ≠ 0 → a ≠ 34 → z.2 a = I a) ∧ ∀ k, k ≠ 14 → z.2 0 k = I 0 k) ∧ fX9_knowTable 0 (I, L, px_R t v w) = some (z.2, L, px_R t z.1 w) := by
  have hT := ps_T_le t
  unfold fX9_knowTable
  by_cases c : I 0 14 = 0
  · rw [if_pos (show (I, L, px_R t v w).1 0 14 = 0 from c)]
    show ∃ z : Bool × (Nat → Nat → Int32), _ ∧ fx_b1 (fX4_weigh 3 (ps_T t) (px_R t v w (px_R t v w (ps_T t) 0) 4) (px_R t v w (px_R t v w (ps_T t) 1) 4) _) _ = _
    rw [pr_T_0, pr_T_1, pr_T1 (by omega), pr_T7 (by omega)]
    have st0 := (hX.W ho).st 0 (by omega)
    have st1 := (hX.W ho).st 1 (by omega)
    obtain ⟨J, j1, j2, j3⟩ := cx_weigh (L := L) (t := t) (v := v) (w := w) (q := A.W.start) (z0 := ps_T t + 2 + 4) (z1 := ps_T t + 8 + 4) (h0.W ho) (hX.W ho) (ps_st_six h0 ho) (fun k hk => st0 k hk) (fun k hk => st1 k hk) (by omega) (by omega)
    rw [j3, pb_1]
    show ∃ z : Bool × (Nat → Nat → Int32), _ ∧ fx_b1 (fX4_fillTable 3 34 (J (ps_T t) 5) _) _ = _
    rw [j2 _ (by omega), (hX.W ho).fst]
    obtain ⟨z, ⟨z1, z2⟩, z3⟩ := cx_fillTable (I := J) (L := L) (t := t) (v := v) (w := w) (h0.W ho) (ps_st_six h0 ho) j1 (h0.W ho).fst
    rw [z3, pb_1, pl_let]
    refine ⟨(z.1, hp_u z.2 0 14 1), ⟨fun r s hr hs => ?_, fun a h1 h2 h3 => ?_, fun k hk => ?_⟩, rfl⟩
    · show hp_u z.2 0 14 1 34 _ = _
      rw [pu_cell (by omega)]; exact z1 r s hr hs
    · show hp_u z.2 0 14 1 a = _
      rw [pu_cell h2, z2 a (by omega) h3]; exact j2 a (by omega)
    · show hp_u z.2 0 14 1 0 k = _
      rw [pu_place hk, z2 0 (by omega) (by omega), j2 0 (by omega)]
  · rw [if_neg (show ¬ (I, L, px_R t v w).1 0 14 = 0 from c)]
    refine ⟨(v, I), ⟨hK.resolve_left c, fun _ _ _ _ => rfl, fun _ _ => rfl⟩, rfl⟩
theorem cx_tableOf (hK : ps_kt A I) {s k o : Nat} (hs : s < 2) (hk : k < 6) (ho : o < 6) : fX9_tableOf 0 (nI s) (nI k) (nI o) (I, L, px_R t v w) = some (ps_to A s k o, (I, L, px_R t v w)) := by
  unfold fX9_tableOf ps_to
  rw [show (6 : Int32) = nI 6 from rfl, pk_mul, pk_mul, nI_add, nI_add, pg_pos (pi_in (by omega) (by omega)), pg_pos (pi_in (by omega) (by omega)), pi_ix (by omega), pi_ix (by omega)]
  show (if nI s = 0 then some (I 34 (k * 6 + o), _) else some (I 34 (o * 6 + k), _)) = _
  rw [show k * 6 + o = 6 * k + o by omega, show o * 6 + k = 6 * o + k by omega, hK k o hk ho, hK o k ho hk]
  rcases (show s = 0 ∨ s = 1 by omega) with rfl | rfl <;> rfl
theorem cx_worstOf (hK : ps_kt A I) {s k : Nat} (hs : s < 2) (hk : k < 6) : fX9_worstOf 0 (nI s) (nI k) (I, L, px_R t v w) = some (ps_wr A s k 5, (I, L, px_R t v w)) := by
  unfold fX9_worstOf
  rw [show (0 : Int32) = nI 0 from rfl, cx_tableOf hK hs hk (by omega), pb_2]
  obtain ⟨x, hx, e⟩ := pf_loop (S := Int32) (fun n i x => fX9_worstOf_11 n 0 (nI s) (nI k) x (nI (i + 1)) (I, L, px_R t v w)) (fun x => some (x, (I, L, px_R t v w))) (fun i x => x = ps_wr A s k i) 5 (by
      intro n x _
      show fX9_worstOf_11 (n + 1) _ _ _ _ (nI 6) _ = _
      rw [fX9_worstOf_11, if_pos (by decide)]) (by
      rintro n i x hi rfl
      refine ⟨_, rfl, ?_⟩
      show fX9_worstOf_11 (n + 1) _ _ _ _ (nI (i + 1)) _ = fX9_worstOf_11 n _ _ _ _ (nI (i + 1 + 1)) _
      rw [fX9_worstOf_11, if_neg (show ¬ (6 : Int32) ≤ nI (i + 1) from nI_ge (b := 6) (by omega) (by omega)), cx_tableOf hK hs hk (by omega), pb_2]
      unfold fX9_worstOf_47
      simp only [pl_let, nI_1]
      rw [ps_wr]
      rcases (show s = 0 ∨ s = 1 by omega) with rfl | rfl <;> rfl) 5 0 fx_N (ps_to A s k 0) (by omega) (by unfold fx_N; omega) rfl
  rw [hx] at e
  exact e
end PSF23
