/-! ===== the reference's six and its chance ===== -/
def ps_onN (W : ps_W) (C : ps_C) (s k : Nat) : Nat := if C.fs s = k + 1 then (W.free s).getD 0 else C.six s k
theorem ps_onN_eq {W : ps_W} {C : ps_C} (w0 : ps_wfC W C) {s k : Nat} (hs : s < 2) : ps_on W C s k = nI (ps_onN W C s k) := by
  unfold ps_on ps_onN
  by_cases c : C.fs s = k + 1
  · rw [if_pos c, if_pos c]
    rcases w0.fs s hs with h | ⟨-, h⟩
    · omega
    · cases e : W.free s with
      | none => exact absurd e h
      | some p => rfl
  · rw [if_neg c, if_neg c]
theorem ps_onN_six {W : ps_W} {C : ps_C} (w1 : ps_wfW W) (w0 : ps_wfC W C) {s : Nat} (hs : s < 2) : ps_six W s (ps_onN W C s) := by
  intro k hk
  unfold ps_onN
  by_cases c : C.fs s = k + 1
  · rw [if_pos c]
    rcases w0.fs s hs with h | ⟨-, h⟩
    · omega
    · cases e : W.free s with
      | none => exact absurd e h
      | some p => exact w1.free s hs p e
  · rw [if_neg c]; exact w0.six s hs k hk
def ps_S (I : Nat → Nat → Int32) (q : Nat → Nat → Nat) : Prop := ∀ s, s < 2 → ∀ k, k < 6 → I 301 (6 * s + k) = nI (q s k)
theorem pm_two6 {s p : Nat} {h : hp_T} : fX10_two (nI s) (nI p) 6 h = some (nI (6 * s + p), h) := by
  unfold fX10_two
  rw [show (6 : Int32) = nI 6 from rfl, pk_mul, nI_add]
section PSF8
variable {t v w : Bool} {A : ps_A} {I : Nat → Nat → Int32} {L : Nat → Nat → Int64}
theorem cm_takes9 {q : Nat → Nat} {s : Nat} (hs : s < 2) (hc : ∀ J, (∀ a, a ≠ 301 → J a = I a) → ∀ k, k < 6 → fX10_court 290 (nI s) (nI (k + 1)) (J, L, px_R t v w) = some (nI (q k), (J, L, px_R t v w))) (k2 : Nat → Int32 → hp_T → Option hp_T) :
    ∃ J, ((∀ k, k < 6 → J 301 (6 * s + k) = nI (q k)) ∧ (∀ k, (k < 6 * s ∨ 6 * s + 6 ≤ k) → J 301 k = I 301 k) ∧ ∀ a, a ≠ 301 → J a = I a) ∧ fX10_takesCourt_9 k2 fx_N 290 (nI s) 0 (I, L, px_R t v w) = k2 290 (nI (s + 1)) (J, L, px_R t v w) := by
  refine pf_loop (S := Nat → Nat → Int32) (fun n i J => fX10_takesCourt_9 k2 n 290 (nI s) (nI i) (J, L, px_R t v w)) (fun J => k2 290 (nI (s + 1)) (J, L, px_R t v w))
    (fun i J => (∀ k, k < i → J 301 (6 * s + k) = nI (q k)) ∧ (∀ k, (k < 6 * s ∨ 6 * s + 6 ≤ k) → J 301 k = I 301 k) ∧ ∀ a, a ≠ 301 → J a = I a) 6 ?_ ?_ 6 0 fx_N I (by omega) (by unfold fx_N; omega) ⟨fun r hr => absurd hr (by omega), fun _ _ => rfl, fun _ _ => rfl⟩
  · intro n J _
    show fX10_takesCourt_9 k2 (n + 1) _ _ (nI 6) _ = _
    rw [fX10_takesCourt_9]
    rw [if_pos (by decide), pl_let, nI_1]
  · rintro n i J hi ⟨p1, p2, p3⟩
    show ∃ s', _ ∧ fX10_takesCourt_9 k2 (n + 1) _ _ (nI i) _ = fX10_takesCourt_9 k2 n _ _ (nI (i + 1)) _
    rw [fX10_takesCourt_9]
    rw [if_neg (show ¬ (6 : Int32) ≤ nI i from nI_ge (b := 6) hi (by omega)), pm_two6, pb_2, nI_1, hc J p3 i hi, pb_2, pg_pos (pi_in (by omega) (by omega)), pl_let, pl_let, pi_ix (by omega)]
    refine ⟨hp_u J 301 (6 * s + i) (nI (q i)), ⟨fun k hk => ?_, fun k hk => ?_, fun a ha => ?_⟩, rfl⟩
    · by_cases c : k = i
      · subst c; exact pu_eq
      · rw [pu_place (by omega)]; exact p1 k (by omega)
    · rw [pu_place (by omega)]; exact p2 k hk
    · rw [pu_cell ha]; exact p3 a ha
theorem cm_takesl9 {q : Nat → Nat} {s : Nat} (hs : s < 2) (hc : ∀ J, (∀ a, a ≠ 301 → J a = I a) → ∀ k, k < 6 → fX10_lined 290 (nI s) (nI (k + 1)) (J, L, px_R t v w) = some (nI (q k), (J, L, px_R t v w))) (k2 : Nat → Int32 → hp_T → Option hp_T) :
    ∃ J, ((∀ k, k < 6 → J 301 (6 * s + k) = nI (q k)) ∧ (∀ k, (k < 6 * s ∨ 6 * s + 6 ≤ k) → J 301 k = I 301 k) ∧ ∀ a, a ≠ 301 → J a = I a) ∧ fX10_takesLines_9 k2 fx_N 290 (nI s) 0 (I, L, px_R t v w) = k2 290 (nI (s + 1)) (J, L, px_R t v w) := by
  refine pf_loop (S := Nat → Nat → Int32) (fun n i J => fX10_takesLines_9 k2 n 290 (nI s) (nI i) (J, L, px_R t v w)) (fun J => k2 290 (nI (s + 1)) (J, L, px_R t v w))
    (fun i J => (∀ k, k < i → J 301 (6 * s + k) = nI (q k)) ∧ (∀ k, (k < 6 * s ∨ 6 * s + 6 ≤ k) → J 301 k = I 301 k) ∧ ∀ a, a ≠ 301 → J a = I a) 6 ?_ ?_ 6 0 fx_N I (by omega) (by unfold fx_N; omega) ⟨fun r hr => absurd hr (by omega), fun _ _ => rfl, fun _ _ => rfl⟩
  · intro n J _
    show fX10_takesLines_9 k2 (n + 1) _ _ (nI 6) _ = _
    rw [fX10_takesLines_9]
    rw [if_pos (by decide), pl_let, nI_1]
  · rintro n i J hi ⟨p1, p2, p3⟩
    show ∃ s', _ ∧ fX10_takesLines_9 k2 (n + 1) _ _ (nI i) _ = fX10_takesLines_9 k2 n _ _ (nI (i + 1)) _
    rw [fX10_takesLines_9]
    rw [if_neg (show ¬ (6 : Int32) ≤ nI i from nI_ge (b := 6) hi (by omega)), pm_two6, pb_2, nI_1, hc J p3 i hi, pb_2, pg_pos (pi_in (by omega) (by omega)), pl_let, pl_let, pi_ix (by omega)]
    refine ⟨hp_u J 301 (6 * s + i) (nI (q i)), ⟨fun k hk => ?_, fun k hk => ?_, fun a ha => ?_⟩, rfl⟩
    · by_cases c : k = i
      · subst c; exact pu_eq
      · rw [pu_place (by omega)]; exact p1 k (by omega)
    · rw [pu_place (by omega)]; exact p2 k hk
    · rw [pu_cell ha]; exact p3 a ha
theorem cm_takesCourt (h0 : ps_wf A) (ho : A.on = true) (hM : ps_MX A I) : ∃ J, ps_S J (ps_onN A.W A.C) ∧ (∀ a, a ≠ 301 → J a = I a) ∧ fX10_takesCourt 290 (I, L, px_R t v w) = some (J, L, px_R t v w) := by
  unfold fX10_takesCourt fx_N
  rw [fX10_takesCourt_2]
  rw [if_neg (by decide)]
  have hc : ∀ J, (∀ a, a ≠ 301 → J a = I a) → ∀ s, s < 2 → ∀ k, k < 6 → fX10_court 290 (nI s) (nI (k + 1)) (J, L, px_R t v w) = some (nI (ps_onN A.W A.C s k), (J, L, px_R t v w)) := fun J e s hs k hk => by
    rw [cm_court (A := A) (by rw [e 298 (by omega)]; exact hM.C ho) hs hk, ps_onN_eq (h0.C ho) hs]
  obtain ⟨J, ⟨j1, j2, j3⟩, j4⟩ := cm_takes9 (I := I) (L := L) (t := t) (v := v) (w := w) (s := 0) (by omega) (fun J e k hk => hc J e 0 (by omega) k hk) (fX10_takesCourt_2 99999)
  rw [show nI 0 = 0 from rfl] at j4
  rw [j4]
  rw [fX10_takesCourt_2]
  rw [if_neg (by decide)]
  obtain ⟨J2, ⟨k1, k2, k3⟩, k4⟩ := cm_takes9 (I := J) (L := L) (t := t) (v := v) (w := w) (s := 1) (by omega) (fun H e k hk => hc H (fun a ha => (e a ha).trans (j3 a ha)) 1 (by omega) k hk) (fX10_takesCourt_2 99998)
  rw [k4]
  rw [fX10_takesCourt_2]
  rw [if_pos (by decide)]
  refine ⟨J2, fun s hs k hk => ?_, fun a ha => (k3 a ha).trans (j3 a ha), rfl⟩
  rcases (show s = 0 ∨ s = 1 by omega) with rfl | rfl
  · rw [k2 _ (by omega)]; exact j1 k hk
  · exact k1 k hk
theorem cm_takesLines (h0 : ps_wf A) (ho : A.on = true) (hM : ps_MX A I) : ∃ J, ps_S J A.C.six ∧ (∀ a, a ≠ 301 → J a = I a) ∧ fX10_takesLines 290 (I, L, px_R t v w) = some (J, L, px_R t v w) := by
  unfold fX10_takesLines fx_N
  rw [fX10_takesLines_2]
  rw [if_neg (by decide)]
  have hc : ∀ J, (∀ a, a ≠ 301 → J a = I a) → ∀ s, s < 2 → ∀ k, k < 6 → fX10_lined 290 (nI s) (nI (k + 1)) (J, L, px_R t v w) = some (nI (A.C.six s k), (J, L, px_R t v w)) := fun J e s hs k hk => by
    exact cm_lined (A := A) h0 ho (hM.fm (fun a ha => e a (by omega))) hs hk
  obtain ⟨J, ⟨j1, j2, j3⟩, j4⟩ := cm_takesl9 (I := I) (L := L) (t := t) (v := v) (w := w) (s := 0) (by omega) (fun J e k hk => hc J e 0 (by omega) k hk) (fX10_takesLines_2 99999)
  rw [show nI 0 = 0 from rfl] at j4
  rw [j4]
  rw [fX10_takesLines_2]
  rw [if_neg (by decide)]
  obtain ⟨J2, ⟨k1, k2, k3⟩, k4⟩ := cm_takesl9 (I := J) (L := L) (t := t) (v := v) (w := w) (s := 1) (by omega) (fun H e k hk => hc H (fun a ha => (e a ha).trans (j3 a ha)) 1 (by omega) k hk) (fX10_takesLines_2 99998)
  rw [k4]
  rw [fX10_takesLines_2]
  rw [if_pos (by decide)]
  refine ⟨J2, fun s hs k hk => ?_, fun a ha => (k3 a ha).trans (j3 a ha), rfl⟩
  rcases (show s = 0 ∨ s = 1 by omega) with rfl | rfl
  · rw [k2 _ (by omega)]; exact j1 k hk
  · exact k1 k hk
theorem cm_takesStart (hW : ps_MW I A.W) : ∃ J, ps_S J A.W.start ∧ (∀ a, a ≠ 301 → J a = I a) ∧ fX10_takesStart 290 (I, L, px_R t v w) = some (J, L, px_R t v w) := by
  unfold fX10_takesStart
  obtain ⟨J, ⟨j1, j2⟩, j3⟩ := pf_loop (S := Nat → Nat → Int32) (fun n i J => fX10_takesStart_2 n 290 (nI i) (J, L, px_R t v w)) (fun J => some (J, L, px_R t v w))
    (fun i J => (∀ k, k < i → J 301 k = I 292 (9 + k)) ∧ ∀ a, a ≠ 301 → J a = I a) 12 (by
      intro n J _
      show fX10_takesStart_2 (n + 1) _ (nI 12) _ = _
      rw [fX10_takesStart_2]
      rw [if_pos (by decide)]) (by
      rintro n i J hi ⟨p1, p2⟩
      show ∃ s', _ ∧ fX10_takesStart_2 (n + 1) _ (nI i) _ = fX10_takesStart_2 n _ (nI (i + 1)) _
      rw [fX10_takesStart_2]
      rw [if_neg (show ¬ (12 : Int32) ≤ nI i from nI_ge (b := 12) hi (by omega)), show (9 : Int32) = nI 9 from rfl, nI_add, pg_pos (pi_in (by omega) (by omega)), pg_pos (pi_in hi (by omega)), pl_let, pl_let, nI_1, pi_ix (n := i) (by omega), pi_ix (by omega)]
      refine ⟨hp_u J 301 i (I 292 (9 + i)), ⟨fun k hk => ?_, fun a ha => ?_⟩, ?_⟩
      · by_cases c : k = i
        · subst c; exact pu_eq
        · rw [pu_place (by omega)]; exact p1 k (by omega)
      · rw [pu_cell ha]; exact p2 a ha
      · show fX10_takesStart_2 n _ _ (hp_u J 301 i (J 292 (9 + i)), L, px_R t v w) = _
        rw [p2 292 (by omega)]) 12 0 fx_N I (by omega) (by unfold fx_N; omega) ⟨fun r hr => absurd hr (by omega), fun _ _ => rfl⟩
  refine ⟨J, fun s hs k hk => ?_, j2, j3⟩
  rw [j1 _ (by omega), ← Nat.add_assoc]
  exact hW.st s hs k hk
theorem cm_sixWorth (w1 : ps_wfW A.W) (hW : ps_MW I A.W) {q : Nat → Nat → Nat} {s r : Nat} (hs : s < 2) (hr : r < 6) (hq : ps_six A.W s (q s)) (hS : ps_S I q) :
    fX10_sixWorth 290 (nI s) (nI r) (I, L, px_R t v w) = some (nI (ps_wo A.W q s r), (I, L, px_R t v w)) := by
  have hz12 := w1.size s hs
  unfold fX10_sixWorth
  obtain ⟨x, hx, e⟩ := pf_loop (S := Int32) (fun n i x => fX10_sixWorth_5 n 290 (nI s) (nI r) x (nI (i + 1)) (I, L, px_R t v w)) (fun x => some (x, (I, L, px_R t v w)))
    (fun i x => x = nI (ps_fs A.W s (q s) r i + ps_rs A.W s (q s) r i)) 6 (by
      intro n x _
      show fX10_sixWorth_5 (n + 1) _ _ _ _ (nI 7) _ = _
      rw [fX10_sixWorth_5]
      rw [if_pos (by decide)]) (by
      rintro n i x hi rfl
      show ∃ s', _ ∧ fX10_sixWorth_5 (n + 1) _ _ _ _ (nI (i + 1)) _ = fX10_sixWorth_5 n _ _ _ _ (nI (i + 1 + 1)) _
      have hm : (i + r) % 6 < 6 := Nat.mod_lt _ (by omega)
      have hqq := hq _ hm
      rw [fX10_sixWorth_5]
      unfold fX10_sixWorth_52
      rw [if_neg (show ¬ (6 : Int32) < nI (i + 1) from nI_nlt (a := 6) (by omega) (by omega)), nI_pred, nI_add, nI_rem6 (by omega), pm_two6, pb_2, pg_pos (pi_in (by omega) (by omega)), pl_let, pi_ix (by omega), cm_frn hi, pb_2,
        show (I, L, px_R t v w).1 ((I, L, px_R t v w).2.2 290 24) (6 * s + (i + r) % 6) = nI (q s ((i + r) % 6)) from hS s hs _ hm,
        show (2 : Int32) = nI 2 from rfl, cm_skill hW hs (by omega) hqq (by omega), pb_2, pl_let, pl_let]
      refine ⟨_, rfl, ?_⟩
      by_cases c : 1 ≤ i ∧ i ≤ 3
      · rw [if_pos c, if_neg (by decide), show (1 : Int32) = nI 1 from rfl, cm_skill hW hs (by omega) hqq (by omega), pb_2, pl_let, pl_let, show nI 1 = 1 from rfl, nI_1, nI_add]
        rw [show ps_fs A.W s (q s) r (i + 1) = ps_fs A.W s (q s) r i + A.W.sk s (q s ((i + r) % 6)) 1 by rw [ps_fs, if_pos c], show ps_rs A.W s (q s) r (i + 1) = ps_rs A.W s (q s) r i by rw [ps_rs, if_pos c]; rfl]
        congr 2; omega
      · rw [if_neg c, if_pos rfl, nI_1, nI_add]
        rw [show ps_rs A.W s (q s) r (i + 1) = ps_rs A.W s (q s) r i + A.W.sk s (q s ((i + r) % 6)) 2 by rw [ps_rs, if_neg c], show ps_fs A.W s (q s) r (i + 1) = ps_fs A.W s (q s) r i by rw [ps_fs, if_neg c]; rfl]
        congr 2; omega) 6 0 fx_N 0 (by omega) (by unfold fx_N; omega) rfl
  rw [hx] at e
  exact e
theorem cm_ch20 (w1 : ps_wfW A.W) (hW : ps_MW I A.W) {q : Nat → Nat → Nat} (hq : ∀ s, s < 2 → ps_six A.W s (q s)) (hS : ps_S I q) {s r r2 : Nat} (hs : s < 2) (hr : r < 6) (hr2 : r2 < 6) :
    fX10_chanceOf_20 290 (nI s) (nI r) (nI r2) (I, L, px_R t v w) = some (nI (ps_cl (500 + A.W.sk s (q s r) 0 + ps_wo A.W q s r) (ps_wo A.W q (1 - s) r2 + A.W.edg)), (I, L, px_R t v w)) := by
  have hz12 := w1.size s hs
  have hqq := hq s hs r hr
  unfold fX10_chanceOf_20
  rw [nI_rem6 (by omega), Nat.mod_eq_of_lt hr, pm_two6, pb_2, pg_pos (pi_in (by omega) (by omega)), pl_let, pi_ix (by omega),
    show (I, L, px_R t v w).1 ((I, L, px_R t v w).2.2 290 24) (6 * s + r) = nI (q s r) from hS s hs _ hr, show (0 : Int32) = nI 0 from rfl, cm_skill hW hs (by omega) hqq (by omega), pb_2, cm_sixWorth w1 hW hs hr (hq s hs) hS, pb_2,
    show (1 : Int32) - nI s = nI (1 - s) from pk_sub (a := 1) (by omega), cm_sixWorth w1 hW (by omega) hr2 (hq (1 - s) (by omega)) hS, pb_2, pl_let]
  show (if 50 ≤ 500 + nI (A.W.sk s (q s r) 0) + nI (ps_wo A.W q s r) - nI (ps_wo A.W q (1 - s) r2) - I 292 2 then (if 500 + nI (A.W.sk s (q s r) 0) + nI (ps_wo A.W q s r) - nI (ps_wo A.W q (1 - s) r2) - I 292 2 ≤ 950 then some (500 + nI (A.W.sk s (q s r) 0) + nI (ps_wo A.W q s r) - nI (ps_wo A.W q (1 - s) r2) - I 292 2, (I, L, px_R t v w)) else some ((950 : Int32), (I, L, px_R t v w))) else some ((50 : Int32), (I, L, px_R t v w))) = _
  have l0 := ps_wo_le w1 hs (hq s hs) r
  have l1 := ps_wo_le w1 (show 1 - s < 2 by omega) (hq (1 - s) (by omega)) r2
  have l2 := w1.sk s hs _ hqq 0 (by omega)
  have l4 := w1.edg
  have e : 500 + nI (A.W.sk s (q s r) 0) + nI (ps_wo A.W q s r) - nI (ps_wo A.W q (1 - s) r2) - I 292 2 = nI (500 + A.W.sk s (q s r) 0 + ps_wo A.W q s r) - nI (ps_wo A.W q (1 - s) r2 + A.W.edg) := by
    rw [hW.edg, ← nI_add, ← nI_add, ← nI_add, show nI 500 = 500 from rfl]
    grind
  rw [e, ps_clm (by omega) (by omega)]
theorem cm_chanceOf (w1 : ps_wfW A.W) (hW : ps_MW I A.W) {q : Nat → Nat → Nat} (hq : ∀ s, s < 2 → ps_six A.W s (q s)) (hS : ps_S I q) {r s sv : Nat} (hr : r < 6) (hs : s < 6) (hsv : sv < 2) :
    fX10_chanceOf 290 (nI r) (nI s) (nI sv) (I, L, px_R t v w) = some (nI (ps_ch A.W q r s sv), (I, L, px_R t v w)) := by
  unfold fX10_chanceOf fX10_chanceOf_9 ps_ch
  rcases (show sv = 0 ∨ sv = 1 by omega) with rfl | rfl
  · rw [if_pos (show nI 0 = 0 from rfl), if_pos (show nI 0 = 0 from rfl), if_pos rfl, cm_ch20 w1 hW hq hS (by omega) hr hs]
  · rw [if_neg (show ¬ nI 1 = 0 by decide), if_neg (show ¬ nI 1 = 0 by decide), if_neg (by decide), cm_ch20 w1 hW hq hS (by omega) hs hr]
end PSF8
