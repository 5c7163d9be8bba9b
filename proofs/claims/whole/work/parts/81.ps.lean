/-! ===== the reference's ways, cell by cell ===== -/
def ps_W3 (sv a b idx : Nat) : Prop := ∃ k, k < 12 ∧ idx = ps_U a b + ps_ix sv k
def ps_Tw (c : Nat → Nat) (sv p a0 b0 a b a' b' k : Nat) : Int64 :=
  if a' < a0 ∨ b' < b0 then 0 else if a' < a ∨ (a' = a ∧ b' ≤ b) then ps_ro c sv (p - a0) (p - b0) (a' - a0) (b' - b0) k
  else if a' = a ∨ (a' = a + 1 ∧ b' < b) then ps_Pp c sv (p - a0) (p - b0) (a' - a0) (b' - b0) k else 0
/-- the table stands for T -/
def ps_TB (sv p : Nat) (L : Nat → Nat → Int64) (T : Nat → Nat → Nat → Int64) : Prop := (∀ a b, a ≤ p → b ≤ p → ∀ k, k < 12 → L 304 (ps_U a b + ps_ix sv k) = T a b k) ∧ ∀ a b, a ≤ p → b ≤ p → ∀ m, m < 72 → ps_kk sv m = none → L 304 (ps_U a b + m) = 0
section PSF31
variable {t v w : Bool} {A : ps_A} {I : Nat → Nat → Int32} {L : Nat → Nat → Int64}
theorem cm_cell {c : Nat → Nat} {C : Nat → Nat → Nat → Nat} (hC : ps_Cok C) {sv p a b : Nat} (hsv : sv < 2) (hp : p ≤ 25) (ha : a < p) (hb : b < p) (hcc : ∀ k, k < 12 → c k = C (ps_cR 0 sv k) (ps_cS 0 sv k) (ps_cv sv k)) (hch : ∀ m, m < 72 → I 303 m = nI (C (m / 12) (m / 2 % 6) (m % 2))) {T : Nat → Nat → Nat → Int64} (hT : ps_TB sv p L T) (k100 : Nat → Int32 → hp_T → Option hp_T) (k117 : Nat → Int32 → Int32 → hp_T → Option hp_T) :
    ∃ H : Nat → Nat → Int64, ps_TB sv p H (fun a' b' k => T a' b' k + (if a' = a + 1 ∧ b' = b then (if ps_cv sv k = 0 then ps_F2 c (T a b) k else 0) else if a' = a ∧ b' = b + 1 then (if ps_cv sv k = 1 then ps_F2 c (T a b) k else 0) else 0)) ∧ fX10_laysWays_129 k100 k117 fx_N 290 (nI a) (nI b) 0 (I, L, px_R t v w) = k117 290 (nI a) (nI (b + 1)) (I, H, px_R t v w) := by
  obtain ⟨H, hH, e⟩ := pf_loop (S := Nat → Nat → Int64) (fun n m H => fX10_laysWays_129 k100 k117 n 290 (nI a) (nI b) (nI m) (I, H, px_R t v w)) (fun H => k117 290 (nI a) (nI (b + 1)) (I, H, px_R t v w))
    (fun m H => ps_TB sv p H (fun a' b' k => T a' b' k + (if a' = a + 1 ∧ b' = b then ps_cz c sv 0 (T a b) (ps_ix sv) m k else if a' = a ∧ b' = b + 1 then ps_cz c sv 1 (T a b) (ps_ix sv) m k else 0))) 72 (by
      intro n H _
      show fX10_laysWays_129 k100 k117 (n + 1) _ _ _ (nI 72) _ = _
      rw [fX10_laysWays_129, if_pos (by decide), pl_let, nI_1]) (by
      rintro n m H hm ⟨q1, q2⟩
      dsimp only at q1
      show ∃ s', _ ∧ fX10_laysWays_129 k100 k117 (n + 1) _ _ _ (nI m) _ = fX10_laysWays_129 k100 k117 n _ _ _ (nI (m + 1)) _
      have z0 : ∀ x : Int64, x + 0 = x := fun x => by grind
      have src : ∀ k, k < 12 → H 304 (ps_U a b + ps_ix sv k) = T a b k := fun k hk => by
        rw [q1 a b (by omega) (by omega) k hk, if_neg (by omega), if_neg (by omega), z0]
      rw [fX10_laysWays_129, if_neg (show ¬ (72 : Int32) ≤ nI m from nI_ge (b := 72) hm (by omega)), show (12 : Int32) = nI 12 from rfl, show (2 : Int32) = nI 2 from rfl, pk_div (by omega) (by omega) (by omega), pk_div (by omega) (by omega) (by omega), nI_rem6 (by omega), show fx_rem (nI m) (nI 2) = nI (m % 2) from pk_rem (by omega) (by omega) (by omega)]
      rcases ps_kk_lt sv hsv m hm with ek | ⟨j, hj, ek⟩
      · rw [cm_goes0 (by omega) (by omega) hm (q2 a b (by omega) (by omega) m hm ek), pb_1, pl_let, nI_1]
        have same : ∀ e k, k < 12 → ps_cz c sv e (T a b) (ps_ix sv) (m + 1) k = ps_cz c sv e (T a b) (ps_ix sv) m k := fun e k hk => ps_cz_same (fun k hk => by
          have h1 : ps_ix sv k ≠ m := fun q => by
            have := (ps_kk_ix sv hsv m hm k hk).mpr q
            rw [ek] at this; cases this
          omega) hk
        refine ⟨H, ⟨fun a' b' h1 h2 k hk => ?_, q2⟩, rfl⟩
        dsimp only
        rw [q1 a' b' h1 h2 k hk, same 0 k hk, same 1 k hk]
      · have ej : ps_ix sv j = m := (ps_kk_ix sv hsv m hm j hj).mp ek
        have hkn := ps_kn_lt hj
        have hmn := ps_ix_lt sv hsv _ hkn
        have c2 : ps_cv sv j < 2 := Nat.mod_lt _ (by omega)
        have st : ∀ e, e < 2 → ∀ k, k < 12 → ps_cz c sv e (T a b) (ps_ix sv) (m + 1) k = ps_cz c sv e (T a b) (ps_ix sv) m k + (if ps_cv sv j = e then (if k = j then ps_Kc c j (T a b j) else 0) else (if k = ps_kn j then ps_Dc c j (T a b j) else 0)) := fun e he k hk => ps_cz_step hsv he hj (fun k hk => by
          have := ps_ix_inj sv hsv k hk j hj
          omega) (by omega) hk
        by_cases g0 : T a b j = 0
        · rw [cm_goes0 (by omega) (by omega) hm (by rw [← ej, src j hj]; exact g0), pb_1, pl_let, nI_1]
          refine ⟨H, ⟨fun a' b' h1 h2 k hk => ?_, q2⟩, rfl⟩
          dsimp only
          rw [q1 a' b' h1 h2 k hk, st 0 (by omega) k hk, st 1 (by omega) k hk, g0, ps_Kc0, ps_Dc0]
          simp only [ite_self, z0]
        · have gs := cm_goes (I := I) (L := H) (t := t) (v := v) (w := w) hC hsv (show a < 25 by omega) (show b < 25 by omega) hj (hcc j hj) hch (src j hj) g0
          rw [ej] at gs
          rw [gs, pb_1, pl_let, nI_1]
          have ixl : ∀ k, k < 12 → ps_ix sv k < 72 := ps_ix_lt sv hsv
          have inj : ∀ k, k < 12 → (ps_ix sv k = m ↔ k = j) := fun k hk => by rw [← ej]; exact ps_ix_inj sv hsv k hk j hj
          have injn : ∀ k, k < 12 → (ps_ix sv k = ps_ix sv (ps_kn j) ↔ k = ps_kn j) := fun k hk => ps_ix_inj sv hsv k hk _ hkn
          have nn : ∀ m', m' < 72 → ps_kk sv m' = none → m' ≠ m ∧ m' ≠ ps_ix sv (ps_kn j) := fun m' hm' en => ⟨fun q => absurd en (by rw [q, ek]; exact fun z => nomatch z), fun q => absurd ((ps_kk_ix sv hsv m' hm' _ hkn).mpr q.symm) (by rw [en]; exact fun z => nomatch z)⟩
          rcases (show ps_cv sv j = 0 ∨ ps_cv sv j = 1 by omega) with e | e
          · rw [if_pos e]
            refine ⟨_, ⟨fun a' b' h1 h2 k hk => ?_, fun a' b' h1 h2 m' hm' en => ?_⟩, rfl⟩
            · have hik := ixl k hk
              have i1 := inj k hk
              have i2 := injn k hk
              have base := q1 a' b' h1 h2 k hk
              dsimp only
              rw [st 0 (by omega) k hk, st 1 (by omega) k hk, if_pos e, if_neg (show ¬ ps_cv sv j = 1 by omega)]
              by_cases b1 : a' = a + 1 ∧ b' = b
              · obtain ⟨rfl, rfl⟩ := b1
                rw [if_pos ⟨rfl, rfl⟩] at base ⊢
                rw [pu_place (by unfold ps_U; omega)]
                by_cases kk : k = j
                · have := i1.mpr kk
                  rw [this] at base ⊢
                  rw [pu_eq, base, if_pos kk]; grind
                · rw [pu_place (by omega), base, if_neg kk, z0]
              · rw [if_neg b1] at base ⊢
                by_cases b2 : a' = a ∧ b' = b + 1
                · obtain ⟨rfl, rfl⟩ := b2
                  rw [if_pos ⟨rfl, rfl⟩] at base ⊢
                  by_cases kk : k = ps_kn j
                  · rw [kk] at base ⊢
                    rw [pu_eq, base, if_pos rfl]; grind
                  · rw [pu_place (by omega), pu_place (by unfold ps_U; omega), base, if_neg kk, z0]
                · rw [if_neg b2] at base ⊢
                  rw [pu_place (by unfold ps_U; omega), pu_place (by unfold ps_U; omega), base]
            · obtain ⟨n1, n2⟩ := nn m' hm' en
              rw [pu_place (by unfold ps_U; omega), pu_place (by unfold ps_U; omega)]
              exact q2 a' b' h1 h2 m' hm' en
          · rw [if_neg (show ¬ ps_cv sv j = 0 by omega)]
            refine ⟨_, ⟨fun a' b' h1 h2 k hk => ?_, fun a' b' h1 h2 m' hm' en => ?_⟩, rfl⟩
            · have hik := ixl k hk
              have i1 := inj k hk
              have i2 := injn k hk
              have base := q1 a' b' h1 h2 k hk
              dsimp only
              rw [st 0 (by omega) k hk, st 1 (by omega) k hk, if_pos e, if_neg (show ¬ ps_cv sv j = 0 by omega)]
              by_cases b1 : a' = a + 1 ∧ b' = b
              · obtain ⟨rfl, rfl⟩ := b1
                rw [if_pos ⟨rfl, rfl⟩] at base ⊢
                by_cases kk : k = ps_kn j
                · rw [kk] at base ⊢
                  rw [pu_eq, base, if_pos rfl]; grind
                · rw [pu_place (by omega), pu_place (by unfold ps_U; omega), base, if_neg kk, z0]
              · rw [if_neg b1] at base ⊢
                by_cases b2 : a' = a ∧ b' = b + 1
                · obtain ⟨rfl, rfl⟩ := b2
                  rw [if_pos ⟨rfl, rfl⟩] at base ⊢
                  rw [pu_place (by unfold ps_U; omega)]
                  by_cases kk : k = j
                  · have := i1.mpr kk
                    rw [this] at base ⊢
                    rw [pu_eq, base, if_pos kk]; grind
                  · rw [pu_place (by omega), base, if_neg kk, z0]
                · rw [if_neg b2] at base ⊢
                  rw [pu_place (by unfold ps_U; omega), pu_place (by unfold ps_U; omega), base]
            · obtain ⟨n1, n2⟩ := nn m' hm' en
              rw [pu_place (by unfold ps_U; omega), pu_place (by unfold ps_U; omega)]
              exact q2 a' b' h1 h2 m' hm' en) 72 0 fx_N L (by omega) (by unfold fx_N; omega) ⟨fun a' b' h1 h2 k hk => by
        dsimp only
        rw [hT.1 a' b' h1 h2 k hk, ps_cz_0, ps_cz_0]; simp only [ite_self]; grind, hT.2⟩
  refine ⟨H, ⟨fun a' b' h1 h2 k hk => ?_, hH.2⟩, e⟩
  have := hH.1 a' b' h1 h2 k hk
  dsimp only at this ⊢
  rw [this, ps_cz_full (ps_ix_lt sv hsv) hk, ps_cz_full (ps_ix_lt sv hsv) hk]
end PSF31
