/-! ===== bestSwap of the reference ===== -/
section PSF27
variable {t v w : Bool} {A : ps_A} {I : Nat → Nat → Int32} {L : Nat → Nat → Int64}
theorem ps_ans_b0 {b : Option (Int32 × Int32 × Int32)} {a e : Int32} {d : Int32 × Int32 × Int32} (h : b = some d) : ps_ans b a = if a = 0 then (ps_a3 e b).1 else if a = 1 then (ps_a3 e b).2.1 else (ps_a3 e b).2.2 := by
  subst h; rfl
theorem cm_bestSwap (h0 : ps_wf A) (hM : ps_MX A I) (a b : Int32) : ∃ J, ps_fm (hp_u I 290 0 0) J ∧ fX10_bestSwap 290 a b (I, L, px_R t v w) = some (sp_bestSwap A a b, (J, L, px_R t v w)) := by
  unfold fX10_bestSwap sp_bestSwap
  rw [pl_let]
  have hM := hM.flag (z := 0)
  show ∃ J, _ ∧ fx_b2 (fX10_isSide 290 a (hp_u I 290 0 0, L, px_R t v w)) _ = _
  generalize hp_u I 290 0 0 = I at hM ⊢
  rw [cm_side hM, pb_2]
  cases e : ps_sd A a with
  | false => exact ⟨I, ps_fm.refl I, rfl⟩
  | true =>
    rw [if_neg (by decide), ps_02_if]
    cases e1 : ps_02 b with
    | false => exact ⟨I, ps_fm.refl I, rfl⟩
    | true =>
      obtain ⟨ho, s, hs, rfl⟩ := ps_sd_of e
      rw [if_pos rfl, nI_clamp (n := s) (by omega), if_pos (show (true && true) = true from rfl)]
      have inner : ∀ (i : Nat), i < 6 → ∀ (bb : Option (Int32 × Int32 × Int32)) (J0 : Nat → Nat → Int32), (∀ c, bb = some c → c.1 ≠ 0) → ps_fm I J0 → ∀ (k35 : Nat → Int32 → Int32 → Int32 → Int32 → Int32 → Int32 → hp_T → Option (Int32 × hp_T)),
          ∃ J : Nat → Nat → Int32, ps_fm I J ∧ fX10_bestSwap_48 k35 fx_N 290 (nI s) b (ps_a3 0 bb).1 (ps_a3 0 bb).2.1 (ps_a3 0 bb).2.2 (nI (i + 1)) (nI (i + 1 + 0 + 1)) (J0, L, px_R t v w) = k35 290 (nI s) b (ps_a3 0 (ps_swr A s i bb (5 - i))).1 (ps_a3 0 (ps_swr A s i bb (5 - i))).2.1 (ps_a3 0 (ps_swr A s i bb (5 - i))).2.2 (nI (i + 1 + 1)) (J, L, px_R t v w) := by
        intro i hi bb J0 hbb hJ0 k35
        obtain ⟨⟨x, J⟩, ⟨hx, hJ⟩, e⟩ := pf_loop (S := (Int32 × Int32 × Int32) × (Nat → Nat → Int32)) (fun n m x => fX10_bestSwap_48 k35 n 290 (nI s) b x.1.1 x.1.2.1 x.1.2.2 (nI (i + 1)) (nI (i + 1 + m + 1)) (x.2, L, px_R t v w)) (fun x => k35 290 (nI s) b x.1.1 x.1.2.1 x.1.2.2 (nI (i + 1 + 1)) (x.2, L, px_R t v w))
          (fun m x => x.1 = ps_a3 0 (ps_swr A s i bb m) ∧ ps_fm I x.2) (5 - i) (by
            rintro n ⟨x, J⟩ ⟨hx, hJ⟩
            show fX10_bestSwap_48 k35 (n + 1) _ _ _ _ _ _ _ (nI (i + 1 + (5 - i) + 1)) _ = _
            rw [fX10_bestSwap_48, if_pos (show (6 : Int32) < nI (i + 1 + (5 - i) + 1) from nI_lt (a := 6) (by omega) (by omega)), pl_let, nI_1]) (by
            rintro n m ⟨x, J⟩ hm ⟨hx, hJ⟩
            dsimp only at hx hJ
            subst hx
            have hMJ := hM.fm hJ
            show ∃ s', _ ∧ fX10_bestSwap_48 k35 (n + 1) _ _ _ _ _ _ _ (nI (i + 1 + m + 1)) _ = fX10_bestSwap_48 k35 n _ _ _ _ _ _ _ (nI (i + 1 + m + 1 + 1)) _
            obtain ⟨H, k1, k2⟩ := cm_swapped (I := J) (L := L) (t := t) (v := v) (w := w) h0 ho hMJ hs (show i < 6 by omega) (show i + 1 + m < 6 by omega) (by omega)
            rw [fX10_bestSwap_48, if_neg (show ¬ (6 : Int32) < nI (i + 1 + m + 1) from nI_nlt (a := 6) (by omega) (by omega)), k2, pb_2]
            unfold fX10_bestSwap_91 fX10_bestSwap_95 fX10_bestSwap_96 fX10_bestSwap_117
            refine ⟨(ps_a3 0 (ps_bo (ps_swr A s i bb m) (nI (i + 1)) (nI (i + 1 + m + 1)) (ps_wv A s i (i + 1 + m)) (decide (s = 0))), H), ⟨by rw [ps_swr], hJ.trans k1⟩, ?_⟩
            dsimp only
            rw [ps_a3_bo (fun c h => ps_swr_ne (by omega) hbb m c h)]
            simp only [pl_let, nI_1]
            generalize ps_a3 0 (ps_swr A s i bb m) = x
            generalize ps_wv A s i (i + 1 + m) = y
            simp only [if_neg (show ¬ (1 : Int32) = 0 by decide), if_true]
            by_cases d0 : x.1 = 0
            · rw [if_pos d0, if_pos d0]
            · rw [if_neg d0, if_neg d0]
              rcases (show s = 0 ∨ s = 1 by omega) with rfl | rfl
              · rw [if_pos (show nI 0 = 0 from rfl), if_pos (show decide (0 = 0) = true from rfl)]
                by_cases d2 : y ≤ x.2.2
                · rw [if_pos d2, if_pos d2]
                · rw [if_neg d2, if_neg d2]
              · rw [if_neg (show ¬ nI 1 = 0 by decide), if_neg (show ¬ decide (1 = 0) = true by decide)]
                by_cases d2 : x.2.2 ≤ y
                · rw [if_pos d2, if_pos d2]
                · rw [if_neg d2, if_neg d2]) (5 - i) 0 fx_N (ps_a3 0 bb, J0) (by omega) (by unfold fx_N; omega) ⟨rfl, hJ0⟩
        dsimp only at hx hJ
        subst hx
        exact ⟨J, hJ, e⟩
      obtain ⟨⟨x, J⟩, ⟨hx, hJ⟩, e⟩ := pf_loop (S := (Int32 × Int32 × Int32) × (Nat → Nat → Int32)) (fun n i x => fX10_bestSwap_35 n 290 (nI s) b x.1.1 x.1.2.1 x.1.2.2 (nI (i + 1)) (x.2, L, px_R t v w)) (fun x => some (if b = 0 then x.1.1 else if b = 1 then x.1.2.1 else x.1.2.2, (x.2, L, px_R t v w)))
        (fun i x => x.1 = ps_a3 0 (ps_sws A s i) ∧ ps_fm I x.2) 6 (by
          rintro n ⟨x, J⟩ ⟨hx, hJ⟩
          show fX10_bestSwap_35 (n + 1) _ _ _ _ _ _ (nI 7) _ = _
          rw [fX10_bestSwap_35, if_pos (by decide)]
          exact pq_if rfl (pq_if rfl rfl)) (by
          rintro n i ⟨x, J⟩ hi ⟨hx, hJ⟩
          dsimp only at hx hJ
          subst hx
          show ∃ s', _ ∧ fX10_bestSwap_35 (n + 1) _ _ _ _ _ _ (nI (i + 1)) _ = fX10_bestSwap_35 n _ _ _ _ _ _ (nI (i + 1 + 1)) _
          rw [fX10_bestSwap_35, if_neg (show ¬ (6 : Int32) < nI (i + 1) from nI_nlt (a := 6) (by omega) (by omega)), pl_let, nI_1]
          obtain ⟨H, k1, k2⟩ := inner i hi (ps_sws A s i) J (fun c h => ps_sws_ne i (by omega) c h) hJ (fX10_bestSwap_35 n)
          exact ⟨(ps_a3 0 (ps_swr A s i (ps_sws A s i) (5 - i)), H), ⟨by rw [ps_sws], k1⟩, k2⟩) 6 0 fx_N ((0, 0, 0), I) (by omega) (by unfold fx_N; omega) ⟨rfl, ps_fm.refl I⟩
      dsimp only at hx hJ
      refine ⟨J, hJ, ?_⟩
      have e' : fX10_bestSwap_35 fx_N 290 (nI s) b 0 0 0 1 (I, L, px_R t v w) = some (if b = 0 then x.1 else if b = 1 then x.2.1 else x.2.2, (J, L, px_R t v w)) := e
      have e6 : ps_sws A s 6 = ps_sws A s 5 := by rw [show (6 : Nat) = 5 + 1 from rfl, ps_sws, ps_swr]
      obtain ⟨d, hd⟩ := ps_sws_some (A := A) (s := s) 4
      rw [show 4 + 1 = 5 from rfl] at hd
      rw [e', hx, e6, ps_ans_b0 (e := 0) hd]
end PSF27
