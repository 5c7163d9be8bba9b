/-! ===== loops; what six are worth ===== -/
theorem pf_loop {S β : Type} (F : Nat → Nat → S → Option β) (K : S → Option β) (P : Nat → S → Prop) (N : Nat)
    (stop : ∀ n s, P N s → F (n + 1) N s = K s) (step : ∀ n i s, i < N → P i s → ∃ s', P (i + 1) s' ∧ F (n + 1) i s = F n (i + 1) s') :
    ∀ m i n s, i + m = N → m < n → P i s → ∃ s', P N s' ∧ F n i s = K s' := by
  intro m
  induction m with
  | zero =>
    intro i n s h1 h2 h3
    obtain ⟨n, rfl⟩ : ∃ n', n = n' + 1 := ⟨n - 1, by omega⟩
    obtain rfl : i = N := by omega
    exact ⟨s, h3, stop n s h3⟩
  | succ m ih =>
    intro i n s h1 h2 h3
    obtain ⟨n, rfl⟩ : ∃ n', n = n' + 1 := ⟨n - 1, by omega⟩
    obtain ⟨s', h4, h5⟩ := step n i s (by omega) h3
    obtain ⟨s2, h6, h7⟩ := ih (i + 1) n s' (by omega) (by omega) h4
    exact ⟨s2, h6, h5.trans h7⟩
theorem nI_rem6 {a : Nat} (ha : a < 2 ^ 31) : fx_rem (nI a) 6 = nI (a % 6) := by
  unfold fx_rem; exact pk_rem (d := 6) ha (by omega) (by omega)
def ps_sc (a : Nat) : Prop := (3 ≤ a ∧ a ≤ 17) ∨ (35 ≤ a ∧ a ≤ 37)
def ps_fx (I J : Nat → Nat → Int32) : Prop := ∀ a, ¬ ps_sc a → J a = I a
def ps_fm (I J : Nat → Nat → Int32) : Prop := ∀ a, (a < 301 ∨ 304 < a) → J a = I a
theorem ps_fx.refl (I : Nat → Nat → Int32) : ps_fx I I := fun _ _ => rfl
theorem ps_fm.refl (I : Nat → Nat → Int32) : ps_fm I I := fun _ _ => rfl
theorem ps_fx.trans {I J H : Nat → Nat → Int32} (h : ps_fx I J) (h2 : ps_fx J H) : ps_fx I H := fun a q => (h2 a q).trans (h a q)
theorem ps_fm.trans {I J H : Nat → Nat → Int32} (h : ps_fm I J) (h2 : ps_fm J H) : ps_fm I H := fun a q => (h2 a q).trans (h a q)
theorem ps_RX.fx {t : Bool} {A : ps_A} {I J : Nat → Nat → Int32} (h : ps_RX t A I) (e : ps_fx I J) : ps_RX t A J := by
  have hT := ps_T_le t
  have e : ∀ a, (a < 3 ∨ (17 < a ∧ a < 35) ∨ 37 < a) → J a = I a := fun a q => e a (by unfold ps_sc; omega)
  refine ⟨?_, ?_, ?_, ?_, ?_, fun q => (h.W q).near (fun a h1 h2 => e a (by omega)), fun q => (h.C q).near (fun a h1 h2 => e a (by omega)), ?_, ?_, ?_, ?_, fun q => ?_⟩
  · rw [e _ (by omega)]; exact h.tz
  · intro k hk; rw [e _ (by omega)]; exact h.tb k hk
  · rw [e _ (by omega)]; exact h.fk
  · rw [e _ (by omega)]; exact h.fp
  · rw [e _ (by omega)]; exact h.on
  · intro q k hk; rw [e _ (by omega)]; exact h.had q k hk
  · intro q k hk; rw [e _ (by omega)]; exact h.svd q k hk
  · intro q k hk; rw [e _ (by omega)]; exact h.svr q k hk
  · rw [e _ (by omega)]; exact h.u
  · obtain ⟨np, h1, h2, h3⟩ := h.P q
    exact ⟨np, h1, by rw [e _ (by omega)]; exact h2, fun i hi => (h3 i hi).near (fun a h1 h2 => e a (by omega))⟩
theorem ps_MX.fx {A : ps_A} {I J : Nat → Nat → Int32} (h : ps_MX A I) (e : ps_fx I J) : ps_MX A J := h.cong (fun a h1 h2 => e a (by unfold ps_sc; omega))
theorem ps_RX.fm {t : Bool} {A : ps_A} {I J : Nat → Nat → Int32} (h : ps_RX t A I) (e : ps_fm I J) : ps_RX t A J := h.cong (fun a h1 => e a (by omega))
theorem ps_MX.fm {A : ps_A} {I J : Nat → Nat → Int32} (h : ps_MX A I) (e : ps_fm I J) : ps_MX A J := by
  have e : ∀ a, a < 301 → J a = I a := fun a q => e a (by omega)
  refine ⟨?_, ?_, ?_, ?_, ?_, ?_, fun q => ?_, fun q => ?_, fun q => ?_, fun q => ?_, fun q => ?_, fun q => ?_⟩
  · rw [e _ (by omega)]; exact h.tz
  · intro k hk; rw [e _ (by omega)]; exact h.tb k hk
  · rw [e _ (by omega)]; exact h.fk
  · rw [e _ (by omega)]; exact h.fp
  · rw [e _ (by omega)]; exact h.on
  · rw [e _ (by omega)]; exact h.u
  · have h9 := h.W q
    unfold ps_MW at h9 ⊢
    rw [e 292 (by omega), e 295 (by omega)]
    exact h9
  · rw [e _ (by omega)]; exact h.C q
  · rw [e _ (by omega)]; exact h.P q
  · rw [e _ (by omega)]; exact h.had q
  · rw [e _ (by omega)]; exact h.svd q
  · rw [e _ (by omega)]; exact h.svr q
def ps_fs (W : ps_W) (s : Nat) (q : Nat → Nat) (r : Nat) : Nat → Nat
  | 0 => 0
  | k + 1 => ps_fs W s q r k + (if 1 ≤ k ∧ k ≤ 3 then W.sk s (q ((k + r) % 6)) 1 else 0)
def ps_rs (W : ps_W) (s : Nat) (q : Nat → Nat) (r : Nat) : Nat → Nat
  | 0 => 0
  | k + 1 => ps_rs W s q r k + (if 1 ≤ k ∧ k ≤ 3 then 0 else W.sk s (q ((k + r) % 6)) 2)
def ps_six (W : ps_W) (s : Nat) (q : Nat → Nat) : Prop := ∀ k, k < 6 → q k < W.size s
theorem ps_fs_le {W : ps_W} (w1 : ps_wfW W) {s : Nat} {q : Nat → Nat} (hs : s < 2) (hq : ps_six W s q) (r : Nat) : ∀ k, ps_fs W s q r k ≤ 99 * k
  | 0 => Nat.le_refl _
  | k + 1 => by
    have h1 := ps_fs_le w1 hs hq r k
    have h2 := w1.sk s hs (q ((k + r) % 6)) (hq _ (Nat.mod_lt _ (by omega))) 1 (by omega)
    unfold ps_fs; split <;> omega
theorem ps_rs_le {W : ps_W} (w1 : ps_wfW W) {s : Nat} {q : Nat → Nat} (hs : s < 2) (hq : ps_six W s q) (r : Nat) : ∀ k, ps_rs W s q r k ≤ 99 * k
  | 0 => Nat.le_refl _
  | k + 1 => by
    have h1 := ps_rs_le w1 hs hq r k
    have h2 := w1.sk s hs (q ((k + r) % 6)) (hq _ (Nat.mod_lt _ (by omega))) 2 (by omega)
    unfold ps_rs; split <;> omega
theorem cx_frn {k : Nat} (hk : k < 6) (h : hp_T) : fX9_isFront (nI (k + 1)) h = some (if 1 ≤ k ∧ k ≤ 3 then 1 else 0, h) := by
  rcases (show k = 0 ∨ k = 1 ∨ k = 2 ∨ k = 3 ∨ k = 4 ∨ k = 5 by omega) with rfl | rfl | rfl | rfl | rfl | rfl <;> rfl
theorem cm_frn {k : Nat} (hk : k < 6) (h : hp_T) : fX10_isFront (nI (k + 1)) h = some (if 1 ≤ k ∧ k ≤ 3 then 1 else 0, h) := cx_frn hk h
theorem pr_f0 : ∀ t v w : Bool, ∀ s, s < 2 → ∀ k, k < 3 → px_R t v w (4 + 4 * s) k = 5 + 4 * s + k := by decide +kernel
section PSF6
variable {t v w : Bool} {A : ps_A} {I : Nat → Nat → Int32} {L : Nat → Nat → Int64}
theorem cx_weigh39 (w1 : ps_wfW A.W) (hW : ps_RW I (ps_T t) A.W) {s z r : Nat} {q : Nat → Nat} (hs : s < 2) (hr : r < 6) (hq : ps_six A.W s q) (hz : ∀ k, k < 6 → I z k = nI (q k)) (hz2 : z ≠ 6 + 4 * s ∧ z ≠ 7 + 4 * s)
    (h0 : I (6 + 4 * s) r = 0) (h1 : I (7 + 4 * s) r = 0) (k2 : Nat → Nat → Nat → Int32 → hp_T → Option hp_T) :
    ∃ J, (J (6 + 4 * s) r = nI (ps_fs A.W s q r 6) ∧ J (7 + 4 * s) r = nI (ps_rs A.W s q r 6) ∧ ∀ a k, ¬ ((a = 6 + 4 * s ∨ a = 7 + 4 * s) ∧ k = r) → J a k = I a k) ∧
      fX2_weigh_39 k2 fx_N (4 + 4 * s) (ps_T t + 6 * s + 1) z (nI r) 1 (I, L, px_R t v w) = k2 (4 + 4 * s) (ps_T t + 6 * s + 1) z (nI (r + 1)) (J, L, px_R t v w) := by
  have hz12 := w1.size s hs
  have hT := ps_T_le t
  refine pf_loop (S := Nat → Nat → Int32) (fun n i J => fX2_weigh_39 k2 n (4 + 4 * s) (ps_T t + 6 * s + 1) z (nI r) (nI (i + 1)) (J, L, px_R t v w))
    (fun J => k2 (4 + 4 * s) (ps_T t + 6 * s + 1) z (nI (r + 1)) (J, L, px_R t v w))
    (fun i J => J (6 + 4 * s) r = nI (ps_fs A.W s q r i) ∧ J (7 + 4 * s) r = nI (ps_rs A.W s q r i) ∧ ∀ a k, ¬ ((a = 6 + 4 * s ∨ a = 7 + 4 * s) ∧ k = r) → J a k = I a k) 6 ?_ ?_ 6 0 fx_N I (by omega) (by unfold fx_N; omega) ⟨h0, h1, fun _ _ _ => rfl⟩
  · intro n J _
    show fX2_weigh_39 k2 (n + 1) _ _ _ _ (nI 7) _ = _
    rw [fX2_weigh_39]
    rw [if_pos (by decide), pl_let, nI_1]
  · rintro n i J hi ⟨p1, p2, p3⟩
    show ∃ s', _ ∧ fX2_weigh_39 k2 (n + 1) _ _ _ _ (nI (i + 1)) _ = _
    rw [fX2_weigh_39]
    unfold fX2_weigh_102
    have hm : (i + r) % 6 < 6 := Nat.mod_lt _ (by omega)
    have hqq := hq _ hm
    have zz : J z ((i + r) % 6) = nI (q ((i + r) % 6)) := by
      rw [p3 _ _ (by omega)]; exact hz _ hm
    rw [if_neg (show ¬ (6 : Int32) < nI (i + 1) from nI_nlt (a := 6) (by omega) (by omega)), nI_pred, nI_add, nI_rem6 (by omega), pg_pos (pi_in hm (by omega)), pl_let, cx_frn hi, pb_2]
    rw [pi_ix (n := (i + r) % 6) (by omega), show (J, L, px_R t v w).1 z ((i + r) % 6) = nI (q ((i + r) % 6)) from zz]
    have er2 : px_R t v w (4 + 4 * s) 2 = 7 + 4 * s := by rw [pr_f0 t v w s hs 2 (by omega)]; omega
    have er1 : px_R t v w (4 + 4 * s) 1 = 6 + 4 * s := by rw [pr_f0 t v w s hs 1 (by omega)]; omega
    have es3 : px_R t v w (ps_T t + 6 * s + 1) 3 = ps_T t + 6 * s + 5 := pr_q hs (by omega)
    have es2 : px_R t v w (ps_T t + 6 * s + 1) 2 = ps_T t + 6 * s + 4 := pr_q hs (by omega)
    have k1 : J (ps_T t + 6 * s + 4) (q ((i + r) % 6)) = nI (A.W.sk s (q ((i + r) % 6)) 1) := by
      rw [p3 _ _ (by omega)]; exact hW.sk s hs 1 (by omega) _ hqq
    have k3 : J (ps_T t + 6 * s + 5) (q ((i + r) % 6)) = nI (A.W.sk s (q ((i + r) % 6)) 2) := by
      rw [p3 _ _ (by omega)]; exact hW.sk s hs 2 (by omega) _ hqq
    by_cases c : 1 ≤ i ∧ i ≤ 3
    · rw [if_pos c, if_neg (by decide)]
      rw [pg_pos (pi_in hr (by omega)), pg_pos (pi_in (n := q ((i + r) % 6)) (by omega) (by omega)), pg_pos (pi_in hr (by omega)), pl_let, pi_ix (by omega), pi_ix (by omega), pl_let, nI_1]
      refine ⟨hp_u J (6 + 4 * s) r (nI (ps_fs A.W s q r (i + 1))), ⟨pu_eq, ?_, ?_⟩, ?_⟩
      · rw [pu_ne (by omega), p2, ps_rs, if_pos c, Nat.add_zero]
      · intro a k hak; rw [pu_ne (by omega)]; exact p3 a k hak
      · show fX2_weigh_39 k2 n _ _ _ _ _ (hp_u J (px_R t v w (4 + 4 * s) 1) r (J (px_R t v w (4 + 4 * s) 1) r + J (px_R t v w (ps_T t + 6 * s + 1) 2) (q ((i + r) % 6))), L, px_R t v w) = _
        rw [er1, es2, k1, p1, nI_add, show ps_fs A.W s q r (i + 1) = ps_fs A.W s q r i + A.W.sk s (q ((i + r) % 6)) 1 by rw [ps_fs, if_pos c]]
    · rw [if_neg c, if_pos rfl]
      rw [pg_pos (pi_in hr (by omega)), pg_pos (pi_in (n := q ((i + r) % 6)) (by omega) (by omega)), pg_pos (pi_in hr (by omega)), pl_let, pi_ix (by omega), pi_ix (by omega), pl_let, nI_1]
      refine ⟨hp_u J (7 + 4 * s) r (nI (ps_rs A.W s q r (i + 1))), ⟨?_, pu_eq, ?_⟩, ?_⟩
      · rw [pu_ne (by omega), p1, ps_fs, if_neg c, Nat.add_zero]
      · intro a k hak; rw [pu_ne (by omega)]; exact p3 a k hak
      · show fX2_weigh_39 k2 n _ _ _ _ _ (hp_u J (px_R t v w (4 + 4 * s) 2) r (J (px_R t v w (4 + 4 * s) 2) r + J (px_R t v w (ps_T t + 6 * s + 1) 3) (q ((i + r) % 6))), L, px_R t v w) = _
        rw [er2, es3, k3, p2, nI_add, show ps_rs A.W s q r (i + 1) = ps_rs A.W s q r i + A.W.sk s (q ((i + r) % 6)) 2 by rw [ps_rs, if_neg c]]
end PSF6
