/-! ===== ways ===== -/
theorem lg_cmp0 {x : Int64} : lg_cmp x 0 = 0 ↔ x = 0 := by
  unfold lg_cmp
  by_cases h : x = 0
  · subst h; decide
  · by_cases g : x > 0
    · rw [if_pos g]; exact ⟨fun c => absurd c (by decide), fun c => absurd c h⟩
    · rw [if_neg g, if_neg h]; exact ⟨fun c => absurd c (by decide), fun c => absurd c h⟩
def ps_kp (k : Nat) : Nat := if k = 0 then 11 else k - 1
def ps_Kc (c : Nat → Nat) (k : Nat) (h : Int64) : Int64 := h * lN (c k) / 1000
def ps_Dc (c : Nat → Nat) (k : Nat) (h : Int64) : Int64 := h - ps_Kc c k h
theorem ps_Kc0 (c : Nat → Nat) (k : Nat) : ps_Kc c k 0 = 0 := by unfold ps_Kc; simp
theorem ps_Dc0 (c : Nat → Nat) (k : Nat) : ps_Dc c k 0 = 0 := by unfold ps_Dc; rw [ps_Kc0]; rfl
def ps_F2 (c : Nat → Nat) (g : Nat → Int64) (k : Nat) : Int64 := ps_Kc c k (g k) + ps_Dc c (ps_kp k) (g (ps_kp k))
/-- what comes to a state from those that have been spread -/
def ps_cz (c : Nat → Nat) (sv e : Nat) (g : Nat → Int64) (ρ : Nat → Nat) (m k : Nat) : Int64 := (if ps_cv sv k = e ∧ ρ k < m then ps_Kc c k (g k) else 0) + (if ps_cv sv k = e ∧ ρ (ps_kp k) < m then ps_Dc c (ps_kp k) (g (ps_kp k)) else 0)
theorem ps_cz_0 (c : Nat → Nat) (sv e : Nat) (g : Nat → Int64) (ρ : Nat → Nat) (k : Nat) : ps_cz c sv e g ρ 0 k = 0 := by
  unfold ps_cz
  rw [if_neg (by omega), if_neg (by omega)]; rfl
theorem ps_cz_full {c : Nat → Nat} {sv e : Nat} {g : Nat → Int64} {ρ : Nat → Nat} {m k : Nat} (h : ∀ k, k < 12 → ρ k < m) (hk : k < 12) : ps_cz c sv e g ρ m k = if ps_cv sv k = e then ps_F2 c g k else 0 := by
  have h2 : ps_kp k < 12 := by unfold ps_kp; split <;> omega
  unfold ps_cz ps_F2
  by_cases q : ps_cv sv k = e
  · rw [if_pos ⟨q, h k hk⟩, if_pos ⟨q, h _ h2⟩, if_pos q]
  · rw [if_neg (fun z => q z.1), if_neg (fun z => q z.1), if_neg q]; rfl
theorem ps_kpn {k : Nat} (hk : k < 12) : ps_kp (ps_kn k) = k := by unfold ps_kp ps_kn; split <;> split <;> omega
theorem ps_knp {k : Nat} (hk : k < 12) : ps_kn (ps_kp k) = k := by unfold ps_kp ps_kn; split <;> split <;> omega
theorem ps_kn_lt {k : Nat} (hk : k < 12) : ps_kn k < 12 := by unfold ps_kn; split <;> omega
theorem ps_kp_lt {k : Nat} (hk : k < 12) : ps_kp k < 12 := by unfold ps_kp; split <;> omega
theorem ps_cvn {sv k : Nat} (hsv : sv < 2) (hk : k < 12) : ps_cv sv (ps_kn k) = 1 - ps_cv sv k := by unfold ps_cv ps_kn; split <;> omega
/-- one step: the state j is spread now -/
theorem ps_cz_step {c : Nat → Nat} {sv e : Nat} {g : Nat → Int64} {ρ : Nat → Nat} {m j : Nat} (hsv : sv < 2) (he : e < 2) (hj : j < 12) (hρ : ∀ k, k < 12 → (ρ k < m + 1 ↔ ρ k < m ∨ k = j)) (hjm : ¬ ρ j < m) {k : Nat} (hk : k < 12) :
    ps_cz c sv e g ρ (m + 1) k = ps_cz c sv e g ρ m k + (if ps_cv sv j = e then (if k = j then ps_Kc c j (g j) else 0) else (if k = ps_kn j then ps_Dc c j (g j) else 0)) := by
  have hkp := ps_kp_lt hk
  have e1 := hρ k hk
  have e2 := hρ (ps_kp k) hkp
  have c1 := ps_cvn hsv hj
  have c2 : ps_cv sv j < 2 := Nat.mod_lt _ (by omega)
  have z : ∀ x : Int64, x + 0 = x := fun x => by grind
  have z2 : ∀ x : Int64, 0 + x = x := fun x => by grind
  unfold ps_cz
  by_cases a1 : k = j
  · subst a1
    have ne : k ≠ ps_kn k := by unfold ps_kn; split <;> omega
    have n2 : ¬ ps_kp k = k := fun q => by unfold ps_kp at q; split at q <;> omega
    have e3 : (ρ (ps_kp k) < m + 1) ↔ ρ (ps_kp k) < m := by rw [e2]; simp [n2]
    by_cases q : ps_cv sv k = e
    · rw [if_pos (show ps_cv sv k = e ∧ ρ k < m + 1 from ⟨q, e1.mpr (Or.inr rfl)⟩), if_neg (show ¬ (ps_cv sv k = e ∧ ρ k < m) from fun y => hjm y.2), if_pos q, if_pos rfl]
      simp only [e3]
      grind
    · rw [if_neg (fun y => q y.1), if_neg (fun y => q y.1), if_neg (fun y => q y.1), if_neg (fun y => q y.1), if_neg q, if_neg ne]; rfl
  · by_cases a2 : k = ps_kn j
    · have e4 : ps_kp k = j := by rw [a2]; exact ps_kpn hj
      have e3 : (ρ k < m + 1) ↔ ρ k < m := by rw [e1]; simp [a1]
      rw [e4]
      by_cases q : ps_cv sv k = e
      · have q2 : ¬ ps_cv sv j = e := by rw [a2, c1] at q; omega
        rw [if_pos (show ps_cv sv k = e ∧ ρ j < m + 1 from ⟨q, (hρ j hj).mpr (Or.inr rfl)⟩), if_neg (show ¬ (ps_cv sv k = e ∧ ρ j < m) from fun y => hjm y.2), if_neg q2, if_pos a2]
        simp only [e3]
        grind
      · have q2 : ps_cv sv j = e := by rw [a2, c1] at q; omega
        rw [if_neg (fun y => q y.1), if_neg (fun y => q y.1), if_neg (fun y => q y.1), if_neg (fun y => q y.1), if_pos q2, if_neg a1]; rfl
    · have e3 : (ρ k < m + 1) ↔ ρ k < m := by rw [e1]; simp [a1]
      have n4 : ps_kp k ≠ j := fun y => a2 (by rw [← y]; exact (ps_knp hk).symm)
      have e4 : (ρ (ps_kp k) < m + 1) ↔ ρ (ps_kp k) < m := by rw [e2]; simp [n4]
      simp only [e3, e4]
      rw [if_neg (show ¬ k = j from a1), if_neg (show ¬ k = ps_kn j from a2)]
      split <;> grind
def ps_sm (g : Nat → Int64) : Nat → Int64
  | 0 => 0
  | m + 1 => ps_sm g m + g m
def ps_wc (w : Bool) : Nat := if w then 17 else 16
def ps_wa (w : Bool) : Nat := if w then 16 else 17
theorem ps_wc_ne (w : Bool) : (ps_wc w = 16 ∧ ps_wa w = 17) ∨ (ps_wc w = 17 ∧ ps_wa w = 16) := by cases w <;> simp [ps_wc, ps_wa]
section PSF28
variable {t v w : Bool} {A : ps_A} {I : Nat → Nat → Int32} {L : Nat → Nat → Int64}
theorem pr_3_6 : px_R t v w 3 6 = ps_wc w := by cases w <;> rfl
theorem pr_3_7 : px_R t v w 3 7 = ps_wa w := by cases w <;> rfl
theorem px_sww (t v w : Bool) : hp_u (hp_u (px_R t v w) 3 6 (ps_wa w)) 3 7 (ps_wc w) = px_R t v (!w) := by
  funext a k
  by_cases h4 : a = 3 ∧ k = 7
  · obtain ⟨rfl, rfl⟩ := h4; rw [pu_eq]; cases w <;> rfl
  · rw [pu_ne h4]
    by_cases h5 : a = 3 ∧ k = 6
    · obtain ⟨rfl, rfl⟩ := h5; rw [pu_eq]; cases w <;> rfl
    · rw [pu_ne h5]; unfold px_R; simp only [if_neg h4, if_neg h5]
/-- one cell spread: q says whether it is before the end -/
theorem cx_sc35 {c : Nat → Nat} {sv i j : Nat} {q : Bool} {g : Nat → Int64} (hsv : sv < 2) (hc : ∀ k, k < 12 → c k ≤ 1000) (hi : i ≤ 25) (hj : j ≤ 25) (hq : q = true → j < 25) (hcy : ∀ k, k < 12 → I 12 k = nI (c k)) (hg : ∀ k, k < 12 → L (ps_wc w) (12 * j + k) = g k) :
    ∃ H : Nat → Nat → Int64, ((∀ k, k < 12 → H (ps_wa w) (12 * j + k) = L (ps_wa w) (12 * j + k) + (if q = true ∧ ps_cv sv k = 0 then ps_F2 c g k else 0)) ∧ (∀ k, (k < 12 * j ∨ 12 * j + 12 ≤ k) → H (ps_wa w) k = L (ps_wa w) k) ∧
      (∀ k, k < 12 → H (ps_wc w) (12 * (j + 1) + k) = L (ps_wc w) (12 * (j + 1) + k) + (if q = true ∧ ps_cv sv k = 1 then ps_F2 c g k else 0)) ∧ (∀ k, (k < 12 * (j + 1) ∨ 12 * (j + 1) + 12 ≤ k) → H (ps_wc w) k = L (ps_wc w) k) ∧
      H 13 (26 * i + j) = ps_sm g 12 ∧ (∀ k, k ≠ 26 * i + j → H 13 k = L 13 k) ∧ ∀ a, a ≠ 13 → a ≠ 16 → a ≠ 17 → H a = L a) ∧
      fX4_spreadCell_35 fx_N 3 (nI i) (nI j) (nI sv) (nI (12 * j)) (if q then 0 else 1) 0 0 (I, L, px_R t v w) = some (I, H, px_R t v w) := by
  have hw := ps_wc_ne w
  obtain ⟨⟨x, H⟩, ⟨hx, h1, h2, h3, h4, h5⟩, e⟩ := pf_loop (S := Int64 × (Nat → Nat → Int64)) (fun n m z => fX4_spreadCell_35 n 3 (nI i) (nI j) (nI sv) (nI (12 * j)) (if q then 0 else 1) z.1 (nI m) (I, z.2, px_R t v w)) (fun z => some (I, hp_u z.2 13 (26 * i + j) z.1, px_R t v w))
    (fun m z => z.1 = ps_sm g m ∧ (∀ k, k < 12 → z.2 (ps_wa w) (12 * j + k) = L (ps_wa w) (12 * j + k) + (if q = true then ps_cz c sv 0 g (fun k => k) m k else 0)) ∧ (∀ k, (k < 12 * j ∨ 12 * j + 12 ≤ k) → z.2 (ps_wa w) k = L (ps_wa w) k) ∧
      (∀ k, k < 12 → z.2 (ps_wc w) (12 * (j + 1) + k) = L (ps_wc w) (12 * (j + 1) + k) + (if q = true then ps_cz c sv 1 g (fun k => k) m k else 0)) ∧ (∀ k, (k < 12 * (j + 1) ∨ 12 * (j + 1) + 12 ≤ k) → z.2 (ps_wc w) k = L (ps_wc w) k) ∧ ∀ a, a ≠ 16 → a ≠ 17 → z.2 a = L a) 12 (by
      rintro n z -
      show fX4_spreadCell_35 (n + 1) _ _ _ _ _ _ _ (nI 12) _ = _
      rw [fX4_spreadCell_35, if_pos (by decide), show (26 : Int32) = nI 26 from rfl, pk_mul, nI_add, pg_pos (pi_in (by omega) (by omega)), pl_let, pi_ix (by omega), show i * 26 + j = 26 * i + j by omega]
      rfl) (by
      rintro n m ⟨x, H⟩ hm ⟨hx, h1, h2, h3, h4, h5⟩
      dsimp only at hx h1 h2 h3 h4 h5
      subst hx
      show ∃ s' : Int64 × (Nat → Nat → Int64), _ ∧ fX4_spreadCell_35 (n + 1) _ _ _ _ _ _ _ (nI m) _ = fX4_spreadCell_35 n _ _ _ _ _ _ _ (nI (m + 1)) _
      have rd : H (ps_wc w) (12 * j + m) = g m := by rw [h4 _ (by omega)]; exact hg m hm
      have z0 : ∀ x : Int64, x + 0 = x := fun x => by grind
      have st : ∀ e, e < 2 → ∀ k, k < 12 → ps_cz c sv e g (fun k => k) (m + 1) k = ps_cz c sv e g (fun k => k) m k + (if ps_cv sv m = e then (if k = m then ps_Kc c m (g m) else 0) else (if k = ps_kn m then ps_Dc c m (g m) else 0)) := fun e he k hk => ps_cz_step hsv he hm (fun k _ => by show k < m + 1 ↔ k < m ∨ k = m; omega) (by show ¬ m < m; omega) hk
      have c2 : ps_cv sv m < 2 := Nat.mod_lt _ (by omega)
      rw [fX4_spreadCell_35, if_neg (show ¬ (12 : Int32) ≤ nI m from nI_ge (b := 12) hm (by omega)), nI_add, pg_pos (pi_in (by omega) (by omega)), pl_let, pl_let, pi_ix (by omega), show (I, H, px_R t v w).2.1 ((I, H, px_R t v w).2.2 3 6) (12 * j + m) = g m by
        show H (px_R t v w 3 6) _ = _
        rw [pr_3_6]; exact rd]
      unfold fX4_spreadCell_204
      rw [pl_let, nI_1]
      by_cases g0 : g m = 0
      · rw [if_pos (lg_cmp0.mpr g0)]
        refine ⟨(ps_sm g (m + 1), H), ⟨rfl, fun k hk => ?_, h2, fun k hk => ?_, h4, h5⟩, rfl⟩
        · show H (ps_wa w) _ = _
          rw [h1 k hk, st 0 (by omega) k hk, g0, ps_Kc0, ps_Dc0]
          simp only [ite_self, z0]
        · show H (ps_wc w) _ = _
          rw [h3 k hk, st 1 (by omega) k hk, g0, ps_Kc0, ps_Dc0]
          simp only [ite_self, z0]
      · rw [if_neg (fun y => g0 (lg_cmp0.mp y))]
        cases q with
        | false =>
          rw [if_neg (show ¬ ((if false = true then (0 : Int32) else 1) = 0) by decide)]
          exact ⟨(ps_sm g (m + 1), H), ⟨rfl, h1, h2, h3, h4, h5⟩, rfl⟩
        | true =>
          have hj2 := hq rfl
          have hkn := ps_kn_lt hm
          simp only [if_true] at h1 h3 ⊢
          have es : ∀ h x, (if nI (m + 1) = 12 then fX4_spreadCell_90 (fX4_spreadCell_35 n) 3 (nI i) (nI j) (nI sv) (nI (12 * j)) 0 x (nI m) (g m) 0 h else fX4_spreadCell_90 (fX4_spreadCell_35 n) 3 (nI i) (nI j) (nI sv) (nI (12 * j)) 0 x (nI m) (g m) (nI (m + 1)) h) = fX4_spreadCell_90 (fX4_spreadCell_35 n) 3 (nI i) (nI j) (nI sv) (nI (12 * j)) 0 x (nI m) (g m) (nI (ps_kn m)) h := by
            intro h x
            unfold ps_kn
            by_cases cc : m + 1 = 12
            · rw [if_pos (by rw [cc]; rfl), if_pos cc]; rfl
            · rw [if_neg (show ¬ nI (m + 1) = 12 from fun q => cc ((nI_eq (b := 12) (by omega) (by omega)).mp q)), if_neg cc]
          rw [es]
          unfold fX4_spreadCell_90 fX4_spreadCell_106 fX4_spreadCell_143 fX4_spreadCell_161 fX4_spreadCell_184 fX4_spreadCell_202 fX4_spreadCell_204
          rw [nI_add, pg_pos (pi_in hm (by omega)), pg_pos (pi_in hm (by omega)), pi_ix (n := m) (by omega), show (I, H, px_R t v w).1 ((I, H, px_R t v w).2.2 3 2) m = nI (c m) from hcy m hm, nI_l (by have := hc m hm; omega)]
          have hK : g m * lN (c m) / (1000 : Int64) = ps_Kc c m (g m) := rfl
          simp only [pl_let, hK, nI_1, nI_and1 (show m + sv < 2 ^ 31 by omega), show (12 : Int32) = nI 12 from rfl, nI_add]
          by_cases cc : (m + sv) % 2 = 0
          · have e0 : ps_cv sv m = 0 := by unfold ps_cv; omega
            rw [if_pos cc, if_neg (show ¬ (1 : Int32) = 0 by decide), pg_pos (pi_in (by omega) (by omega)), if_neg (show ¬ (1 : Int32) = 0 by decide), pg_pos (pi_in (by omega) (by omega)), if_neg (show ¬ (1 : Int32) = 0 by decide), pg_pos (pi_in (by omega) (by omega)), if_neg (show ¬ (1 : Int32) = 0 by decide), pg_pos (pi_in (by omega) (by omega)), pi_ix (n := 12 * j + m) (by omega), pi_ix (n := 12 * j + 12 + ps_kn m) (by omega)]
            refine ⟨(ps_sm g (m + 1), hp_u (hp_u H (ps_wa w) (12 * j + m) (H (ps_wa w) (12 * j + m) + ps_Kc c m (g m))) (ps_wc w) (12 * j + 12 + ps_kn m) (H (ps_wc w) (12 * j + 12 + ps_kn m) + ps_Dc c m (g m))), ⟨rfl, fun k hk => ?_, fun k hk => ?_, fun k hk => ?_, fun k hk => ?_, fun a p1 p2 => ?_⟩, ?_⟩
            · show hp_u (hp_u H _ _ _) _ _ _ (ps_wa w) _ = _
              rw [pu_cell (show ¬ ps_wa w = ps_wc w by omega), st 0 (by omega) k hk, if_pos e0]
              by_cases kk : k = m
              · subst kk; rw [pu_eq, h1 k hk, if_pos rfl]; grind
              · rw [pu_place (by omega), h1 k hk, if_neg kk, z0]
            · show hp_u (hp_u H _ _ _) _ _ _ (ps_wa w) _ = _
              rw [pu_cell (show ¬ ps_wa w = ps_wc w by omega), pu_place (by omega)]; exact h2 k hk
            · show hp_u (hp_u H _ _ _) _ _ _ (ps_wc w) _ = _
              rw [st 1 (by omega) k hk, if_neg (show ¬ ps_cv sv m = 1 by omega)]
              by_cases kk : k = ps_kn m
              · rw [kk, show 12 * (j + 1) + ps_kn m = 12 * j + 12 + ps_kn m by omega, pu_eq, show 12 * j + 12 + ps_kn m = 12 * (j + 1) + ps_kn m by omega, h3 _ hkn, if_pos rfl]; grind
              · rw [pu_place (by omega), pu_cell (show ¬ ps_wc w = ps_wa w by omega), h3 k hk, if_neg kk, z0]
            · show hp_u (hp_u H _ _ _) _ _ _ (ps_wc w) _ = _
              rw [pu_place (by omega), pu_cell (show ¬ ps_wc w = ps_wa w by omega)]; exact h4 k hk
            · show hp_u (hp_u H _ _ _) _ _ _ a = _
              rw [pu_cell (by omega), pu_cell (by omega)]; exact h5 a p1 p2
            · show fX4_spreadCell_35 n _ _ _ _ _ _ _ _ (I, hp_u (hp_u H (px_R t v w 3 7) (12 * j + m) (H (px_R t v w 3 7) (12 * j + m) + ps_Kc c m (g m))) (px_R t v w 3 6) (12 * j + 12 + ps_kn m) (hp_u H (px_R t v w 3 7) (12 * j + m) (H (px_R t v w 3 7) (12 * j + m) + ps_Kc c m (g m)) (px_R t v w 3 6) (12 * j + 12 + ps_kn m) + (g m - ps_Kc c m (g m))), px_R t v w) = _
              rw [pr_3_6, pr_3_7, pu_cell (x := ps_wc w) (by omega)]
              rfl
          · have e0 : ps_cv sv m = 1 := by unfold ps_cv; omega
            rw [if_neg cc]
            simp only [if_true]
            rw [pg_pos (pi_in (by omega) (by omega)), pg_pos (pi_in (by omega) (by omega)), pg_pos (pi_in (by omega) (by omega)), pg_pos (pi_in (by omega) (by omega)), pi_ix (n := 12 * j + ps_kn m) (by omega), pi_ix (n := 12 * j + 12 + m) (by omega)]
            refine ⟨(ps_sm g (m + 1), hp_u (hp_u H (ps_wa w) (12 * j + ps_kn m) (H (ps_wa w) (12 * j + ps_kn m) + ps_Dc c m (g m))) (ps_wc w) (12 * j + 12 + m) (H (ps_wc w) (12 * j + 12 + m) + ps_Kc c m (g m))), ⟨rfl, fun k hk => ?_, fun k hk => ?_, fun k hk => ?_, fun k hk => ?_, fun a p1 p2 => ?_⟩, ?_⟩
            · show hp_u (hp_u H _ _ _) _ _ _ (ps_wa w) _ = _
              rw [pu_cell (show ¬ ps_wa w = ps_wc w by omega), st 0 (by omega) k hk, if_neg (show ¬ ps_cv sv m = 0 by omega)]
              by_cases kk : k = ps_kn m
              · rw [kk, pu_eq, h1 _ hkn, if_pos rfl]; grind
              · rw [pu_place (by omega), h1 k hk, if_neg kk, z0]
            · show hp_u (hp_u H _ _ _) _ _ _ (ps_wa w) _ = _
              rw [pu_cell (show ¬ ps_wa w = ps_wc w by omega), pu_place (by omega)]; exact h2 k hk
            · show hp_u (hp_u H _ _ _) _ _ _ (ps_wc w) _ = _
              rw [st 1 (by omega) k hk, if_pos e0]
              by_cases kk : k = m
              · rw [kk, show 12 * (j + 1) + m = 12 * j + 12 + m by omega, pu_eq, show 12 * j + 12 + m = 12 * (j + 1) + m by omega, h3 _ hm, if_pos rfl]; grind
              · rw [pu_place (by omega), pu_cell (show ¬ ps_wc w = ps_wa w by omega), h3 k hk, if_neg kk, z0]
            · show hp_u (hp_u H _ _ _) _ _ _ (ps_wc w) _ = _
              rw [pu_place (by omega), pu_cell (show ¬ ps_wc w = ps_wa w by omega)]; exact h4 k hk
            · show hp_u (hp_u H _ _ _) _ _ _ a = _
              rw [pu_cell (by omega), pu_cell (by omega)]; exact h5 a p1 p2
            · show fX4_spreadCell_35 n _ _ _ _ _ _ _ _ (I, hp_u (hp_u H (px_R t v w 3 7) (12 * j + ps_kn m) (H (px_R t v w 3 7) (12 * j + ps_kn m) + (g m - ps_Kc c m (g m)))) (px_R t v w 3 6) (12 * j + 12 + m) (hp_u H (px_R t v w 3 7) (12 * j + ps_kn m) (H (px_R t v w 3 7) (12 * j + ps_kn m) + (g m - ps_Kc c m (g m))) (px_R t v w 3 6) (12 * j + 12 + m) + ps_Kc c m (g m)), px_R t v w) = _
              rw [pr_3_6, pr_3_7, pu_cell (x := ps_wc w) (by omega)]
              rfl) 12 0 fx_N (0, L) (by omega) (by unfold fx_N; omega) ⟨rfl, fun k _ => by simp only [ps_cz_0, ite_self]; grind, fun _ _ => rfl, fun k _ => by simp only [ps_cz_0, ite_self]; grind, fun _ _ => rfl, fun _ _ _ => rfl⟩
  dsimp only at hx h1 h2 h3 h4 h5
  subst hx
  refine ⟨hp_u H 13 (26 * i + j) (ps_sm g 12), ⟨fun k hk => ?_, fun k hk => ?_, fun k hk => ?_, fun k hk => ?_, pu_eq, fun k hk => ?_, fun a p1 p2 p3 => ?_⟩, e⟩
  · rw [pu_cell (by omega), h1 k hk, ps_cz_full (fun k hk => hk) hk]
    cases q <;> simp
  · rw [pu_cell (by omega)]; exact h2 k hk
  · rw [pu_cell (by omega), h3 k hk, ps_cz_full (fun k hk => hk) hk]
    cases q <;> simp
  · rw [pu_cell (by omega)]; exact h4 k hk
  · rw [pu_place hk, h5 13 (by omega) (by omega)]
  · rw [pu_cell p1]; exact h5 a p2 p3
end PSF28
