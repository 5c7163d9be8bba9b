/-! ===== words of the language in the reference ===== -/
def ps_wo_ (j : Nat) : Nat := [0, 5, 12, 19, 24, 29, 34, 40, 46].getD j 46
def ps_wl (j : Nat) : Nat := [4, 6, 6, 4, 4, 4, 5, 5].getD j 0
def ps_wch (x : Nat) : Nat := (hp_st 0 x).toNatClampNeg
theorem ps_w_a : ∀ j, j < 8 → ∀ i, i < 6 → i < ps_wl j → hp_st 0 (ps_wo_ j + i) = nI (ps_wch (ps_wo_ j + i)) ∧ 97 ≤ ps_wch (ps_wo_ j + i) ∧ ps_wch (ps_wo_ j + i) ≤ 122 := by decide +kernel
theorem ps_w_b : ∀ j, j < 8 → hp_st 0 (ps_wo_ j + ps_wl j) = 32 ∧ ps_wo_ (j + 1) = ps_wo_ j + ps_wl j + 1 ∧ ps_wl j ≤ 6 ∧ ps_wo_ j + ps_wl j < 46 := by decide +kernel
theorem ps_w_c : ∀ j, j < 8 → ps_cd (fun i => ps_wch (ps_wo_ j + i) - 96) (ps_wl j) = ps_kws.getD j 0 := by decide +kernel
def ps_wm (b : Nat → Nat) (p m j : Nat) : Prop := m = ps_wl j ∧ ∀ i, i < ps_wl j → b (p + i) = ps_wch (ps_wo_ j + i)
theorem ps_cd_inj {d e : Nat → Nat} : ∀ m k, (∀ i, i < m → 1 ≤ d i ∧ d i < 32) → (∀ i, i < k → 1 ≤ e i ∧ e i < 32) → ps_cd d m = ps_cd e k → m = k ∧ ∀ i, i < m → d i = e i
  | 0, 0, _, _, _ => ⟨rfl, fun i hi => absurd hi (by omega)⟩
  | 0, k + 1, _, h2, h => by
    rw [ps_cd, ps_cd] at h
    have := h2 k (by omega)
    omega
  | m + 1, 0, h1, _, h => by
    rw [ps_cd, ps_cd] at h
    have := h1 m (by omega)
    omega
  | m + 1, k + 1, h1, h2, h => by
    rw [ps_cd, ps_cd] at h
    have q1 := h1 m (by omega)
    have q2 := h2 k (by omega)
    have e1 : d m = e k := by omega
    have e2 : ps_cd d m = ps_cd e k := by omega
    obtain ⟨r1, r2⟩ := ps_cd_inj m k (fun i hi => h1 i (by omega)) (fun i hi => h2 i (by omega)) e2
    subst r1
    refine ⟨rfl, fun i hi => ?_⟩
    by_cases c : i = m
    · rw [c]; exact e1
    · exact r2 i (by omega)
theorem ps_wm_kw {b : Nat → Nat} {p m j : Nat} (hj : j < 8) (hl : ∀ i, i < m → 97 ≤ b (p + i) ∧ b (p + i) ≤ 122) : ps_wm b p m j ↔ ps_cd (fun i => b (p + i) - 96) m = ps_kws.getD j 0 := by
  obtain ⟨-, -, w6, -⟩ := ps_w_b j hj
  rw [← ps_w_c j hj]
  constructor
  · rintro ⟨h1, h2⟩
    subst h1
    have : ∀ k, k ≤ ps_wl j → ps_cd (fun i => b (p + i) - 96) k = ps_cd (fun i => ps_wch (ps_wo_ j + i) - 96) k := by
      intro k
      induction k with
      | zero => intro _; rfl
      | succ k ih =>
        intro hk
        rw [ps_cd, ps_cd, ih (by omega)]
        show _ + (b (p + k) - 96) = _ + (ps_wch (ps_wo_ j + k) - 96)
        rw [h2 k (by omega)]
    exact this _ (Nat.le_refl _)
  · intro h
    obtain ⟨h1, h2⟩ := ps_cd_inj m (ps_wl j) (fun i hi => by have := hl i hi; show 1 ≤ b (p + i) - 96 ∧ b (p + i) - 96 < 32; omega) (fun i hi => by
      have := (ps_w_a j hj i (by omega) hi).2
      show 1 ≤ ps_wch (ps_wo_ j + i) - 96 ∧ ps_wch (ps_wo_ j + i) - 96 < 32; omega) h
    refine ⟨h1, fun i hi => ?_⟩
    have h3 : b (p + i) - 96 = ps_wch (ps_wo_ j + i) - 96 := h2 i (by omega)
    have h4 := hl i (by omega)
    have h5 := (ps_w_a j hj i (by omega) hi).2
    omega
def ps_frst (M : Nat → Prop) (D : ∀ j, Decidable (M j)) : Nat → Nat → Int32
  | 0, _ => -1
  | r + 1, j => if M j then nI j else ps_frst M D r (j + 1)
def ps_kwI (o : Option Nat) : Int32 := match o with | none => -1 | some j => nI j
section PSF44
variable {t v w : Bool} {I : Nat → Nat → Int32} {L : Nat → Nat → Int64}
theorem cm_w97 {j : Nat} (hj : j < 8) (k4 : Nat → Int32 → Int32 → hp_T → Option (Int32 × hp_T)) (h : hp_T) : fX10_wordHere_97 k4 fx_N 290 (nI j) (nI (ps_wo_ j)) h = k4 290 (nI (j + 1)) (nI (ps_wo_ (j + 1))) h := by
  obtain ⟨w1, w2, w3, w4⟩ := ps_w_b j hj
  obtain ⟨x, -, e⟩ := pf_loop (S := Unit) (fun f i _ => fX10_wordHere_97 k4 f 290 (nI j) (nI (ps_wo_ j + i)) h) (fun _ => k4 290 (nI (j + 1)) (nI (ps_wo_ (j + 1))) h) (fun _ _ => True) (ps_wl j) (by
      intro f _ _
      show fX10_wordHere_97 k4 (f + 1) _ _ _ _ = _
      rw [fX10_wordHere_97, pg_pos (pi_in (by omega) (by omega)), pi_ix (by omega), w1, if_pos rfl, pl_let, pl_let, nI_1, nI_1, w2]) (by
      intro f i _ hi _
      refine ⟨(), trivial, ?_⟩
      show fX10_wordHere_97 k4 (f + 1) _ _ _ _ = fX10_wordHere_97 k4 f _ _ _ _
      obtain ⟨a1, a2, a3⟩ := ps_w_a j hj i (by omega) hi
      rw [fX10_wordHere_97, pg_pos (pi_in (by omega) (by omega)), pi_ix (by omega), a1, if_neg (show ¬ nI _ = 32 from fun q => by have := (nI_eq (b := 32) (by omega) (by omega)).mp q; omega), pl_let, nI_1]; rfl) (ps_wl j) 0 fx_N () (by omega) (by unfold fx_N; omega) trivial
  exact e
theorem cm_w15 {b : Nat → Nat} {p m j : Nat} (hj : j < 8) (hpm : p + m ≤ 900) (h10 : I 290 10 = nI p) (h9 : I 290 9 = nI (p + m)) (hb : ∀ k, k < p + m → I 291 k = nI (b k)) (h256 : ∀ k, b k < 256) (k4 : Nat → Int32 → Int32 → hp_T → Option (Int32 × hp_T)) [D : Decidable (ps_wm b p m j)] :
    ∀ r i, i + r = ps_wl j → (∀ i', i' < i → i' < m ∧ b (p + i') = ps_wch (ps_wo_ j + i')) → ∀ f, r < f → fX10_wordHere_15 k4 f 290 (nI j) (nI (ps_wo_ j)) (nI i) (I, L, px_R t v w) = if ps_wm b p m j then some (nI j, (I, L, px_R t v w)) else k4 290 (nI (j + 1)) (nI (ps_wo_ (j + 1))) (I, L, px_R t v w) := by
  obtain ⟨w1, w2, w3, w4⟩ := ps_w_b j hj
  intro r
  induction r with
  | zero =>
    intro i hi hall f hf
    obtain ⟨f, rfl⟩ : ∃ f', f = f' + 1 := ⟨f - 1, by omega⟩
    obtain rfl : i = ps_wl j := by omega
    rw [fX10_wordHere_15, nI_add, pg_pos (pi_in (by omega) (by omega)), pi_ix (by omega), w1, if_pos rfl]
    unfold fX10_wordHere_69
    rw [nI_add, pg_pos (pi_in (by omega) (by omega)), pi_ix (by omega), w1, if_pos rfl, show (I, L, px_R t v w).1 290 10 = nI p from h10, show (I, L, px_R t v w).1 290 9 = nI (p + m) from h9, nI_add]
    have hml : ps_wl j ≤ m := by
      by_cases z : ps_wl j = 0
      · omega
      · have := (hall (ps_wl j - 1) (by omega)).1; omega
    by_cases c : m = ps_wl j
    · rw [if_pos (by rw [c]), if_pos ⟨c, fun i hi => (hall i hi).2⟩]
    · rw [if_neg (fun q => c (by have := (nI_eq (by omega) (by omega)).mp q; omega)), if_neg (fun q => c q.1), cm_w97 hj]
  | succ r ih =>
    intro i hi hall f hf
    obtain ⟨f, rfl⟩ : ∃ f', f = f' + 1 := ⟨f - 1, by omega⟩
    obtain ⟨a1, a2, a3⟩ := ps_w_a j hj i (by omega) (by omega)
    have n32 : ¬ nI (ps_wch (ps_wo_ j + i)) = 32 := fun q => by have := (nI_eq (b := 32) (by omega) (by omega)).mp q; omega
    have e69 : fX10_wordHere_69 k4 290 (nI j) (nI (ps_wo_ j)) (nI i) (I, L, px_R t v w) = k4 290 (nI (j + 1)) (nI (ps_wo_ (j + 1))) (I, L, px_R t v w) := by
      unfold fX10_wordHere_69
      rw [nI_add, pg_pos (pi_in (by omega) (by omega)), pi_ix (by omega), a1, if_neg n32, cm_w97 hj]
    rw [fX10_wordHere_15, nI_add, pg_pos (pi_in (by omega) (by omega)), pi_ix (n := ps_wo_ j + i) (by omega), a1, if_neg n32, show (I, L, px_R t v w).1 290 10 = nI p from h10, show (I, L, px_R t v w).1 290 9 = nI (p + m) from h9, nI_add, e69]
    by_cases c : m ≤ i
    · rw [if_pos (nI_le (by omega) (by omega)), if_neg (fun q => by have := q.1; omega)]
    · have hx := h256 (p + i)
      rw [if_neg (nI_ge (by omega) (by omega)), pg_pos (pi_in (by omega) (by omega)), pg_pos (pi_in (by omega) (by omega)), pi_ix (n := p + i) (by omega), show (I, L, px_R t v w).1 ((I, L, px_R t v w).2.2 290 1) (p + i) = nI (b (p + i)) from hb _ (by omega)]
      by_cases z : b (p + i) = ps_wch (ps_wo_ j + i)
      · rw [if_pos (by rw [z]), pl_let, nI_1, ih (i + 1) (by omega) (fun i' hi' => by
          by_cases y : i' = i
          · rw [y]; exact ⟨by omega, z⟩
          · exact hall i' (by omega)) f (by omega)]
      · rw [if_neg (fun q => z ((nI_eq (by omega) (by omega)).mp q)), if_neg (fun q => z (q.2 i (by omega)))]
theorem cm_wordHere {b : Nat → Nat} {p m : Nat} (hpm : p + m ≤ 900) (h10 : I 290 10 = nI p) (h9 : I 290 9 = nI (p + m)) (hb : ∀ k, k < p + m → I 291 k = nI (b k)) (h256 : ∀ k, b k < 256) (D : ∀ j, Decidable (ps_wm b p m j)) :
    fX10_wordHere 290 (I, L, px_R t v w) = some (ps_frst (ps_wm b p m) D 8 0, (I, L, px_R t v w)) := by
  unfold fX10_wordHere
  have key : ∀ r j, j + r = 8 → ∀ f, r < f → fX10_wordHere_4 f 290 (nI j) (nI (ps_wo_ j)) (I, L, px_R t v w) = some (ps_frst (ps_wm b p m) D r j, (I, L, px_R t v w)) := by
    intro r
    induction r with
    | zero =>
      intro j hj f hf
      obtain ⟨f, rfl⟩ : ∃ f', f = f' + 1 := ⟨f - 1, by omega⟩
      obtain rfl : j = 8 := by omega
      rw [fX10_wordHere_4, if_pos (by decide)]; rfl
    | succ r ih =>
      intro j hj f hf
      obtain ⟨f, rfl⟩ : ∃ f', f = f' + 1 := ⟨f - 1, by omega⟩
      obtain ⟨w1, w2, w3, w4⟩ := ps_w_b j (by omega)
      have := @cm_w15 t v w I L b p m j (by omega) hpm h10 h9 hb h256 (fX10_wordHere_4 f) (D j) (ps_wl j) 0 (by omega) (fun i hi => absurd hi (by omega)) fx_N (by unfold fx_N; omega)
      rw [show nI 0 = (0 : Int32) from rfl] at this
      rw [fX10_wordHere_4, if_neg (show ¬ (46 : Int32) ≤ nI (ps_wo_ j) from nI_ge (b := 46) (by omega) (by omega)), this, ps_frst]
      by_cases c : ps_wm b p m j
      · rw [if_pos c, if_pos c]
      · rw [if_neg c, if_neg c, ih (j + 1) (by omega) f (by omega)]
  exact key 8 0 (by omega) fx_N (by unfold fx_N; omega)
theorem ps_frst_kw {b : Nat → Nat} {p m : Nat} (hl : ∀ i, i < m → 97 ≤ b (p + i) ∧ b (p + i) ≤ 122) (D : ∀ j, Decidable (ps_wm b p m j)) : ps_frst (ps_wm b p m) D 8 0 = ps_kwI (ps_kw (ps_cd (fun i => b (p + i) - 96) m)) := by
  have e : ∀ j, j < 8 → (ps_wm b p m j ↔ ps_cd (fun i => b (p + i) - 96) m = ps_kws.getD j 0) := fun j hj => ps_wm_kw hj hl
  unfold ps_kw
  generalize ps_cd (fun i => b (p + i) - 96) m = c at e ⊢
  have st : ∀ r j, j < 8 → ps_frst (ps_wm b p m) D (r + 1) j = if c = ps_kws.getD j 0 then nI j else ps_frst (ps_wm b p m) D r (j + 1) := fun r j hj => by
    rw [ps_frst]
    by_cases z : ps_wm b p m j
    · rw [if_pos z, if_pos ((e j hj).mp z)]
    · rw [if_neg z, if_neg (fun q => z ((e j hj).mpr q))]
  rw [st 7 0 (by omega), st 6 1 (by omega), st 5 2 (by omega), st 4 3 (by omega), st 3 4 (by omega), st 2 5 (by omega), st 1 6 (by omega), st 0 7 (by omega)]
  show (if c = 513619 then nI 0 else if c = 679650899 then nI 1 else if c = 552909459 then nI 2 else if c = 644179 then nI 3 else if c = 168165 then nI 4 else if c = 215205 then nI 5 else if c = 20579924 then nI 6 else if c = 6605428 then nI 7 else -1) = _
  split
  · rfl
  split
  · rfl
  split
  · rfl
  split
  · rfl
  split
  · rfl
  split
  · rfl
  split
  · rfl
  split <;> rfl
end PSF44
