/-! ===== what class and reference both stand for ===== -/
def ps_e1 : Option Nat → Int32
  | none => -1
  | some p => nI p
def ps_e2 : Option Nat → Int32
  | none => -2
  | some p => nI p
def ps_W : Type := Nat × Nat × Nat × Nat × Nat × (Nat → Nat) × (Nat → Option Nat) × (Nat → Nat → Nat) × (Nat → Nat → Nat → Nat) × (Nat → Nat → Int32)
def ps_W.pts (z : ps_W) : Nat := z.1
def ps_W.sbs (z : ps_W) : Nat := z.2.1
def ps_W.edg (z : ps_W) : Nat := z.2.2.1
def ps_W.fst (z : ps_W) : Nat := z.2.2.2.1
def ps_W.lns (z : ps_W) : Nat := z.2.2.2.2.1
def ps_W.size (z : ps_W) : Nat → Nat := z.2.2.2.2.2.1
def ps_W.free (z : ps_W) : Nat → Option Nat := z.2.2.2.2.2.2.1
def ps_W.start (z : ps_W) : Nat → Nat → Nat := z.2.2.2.2.2.2.2.1
def ps_W.sk (z : ps_W) : Nat → Nat → Nat → Nat := z.2.2.2.2.2.2.2.2.1
def ps_W.nm (z : ps_W) : Nat → Nat → Int32 := z.2.2.2.2.2.2.2.2.2
def ps_W.mk (pts : Nat) (sbs : Nat) (edg : Nat) (fst : Nat) (lns : Nat) (size : Nat → Nat) (free : Nat → Option Nat) (start : Nat → Nat → Nat) (sk : Nat → Nat → Nat → Nat) (nm : Nat → Nat → Int32) : ps_W := (pts, sbs, edg, fst, lns, size, free, start, sk, nm)
def ps_C : Type := (Nat → Nat → Nat) × (Nat → Nat → Option Nat) × (Nat → Nat → Nat) × (Nat → Nat → Nat) × (Nat → Nat) × (Nat → Nat) × (Nat → Nat) × (Nat → Nat) × (Nat → Nat) × Nat × Nat
def ps_C.six (z : ps_C) : Nat → Nat → Nat := z.1
def ps_C.mate (z : ps_C) : Nat → Nat → Option Nat := z.2.1
def ps_C.x (z : ps_C) : Nat → Nat → Nat := z.2.2.1
def ps_C.y (z : ps_C) : Nat → Nat → Nat := z.2.2.2.1
def ps_C.fs (z : ps_C) : Nat → Nat := z.2.2.2.2.1
def ps_C.mv (z : ps_C) : Nat → Nat := z.2.2.2.2.2.1
def ps_C.lf (z : ps_C) : Nat → Nat := z.2.2.2.2.2.2.1
def ps_C.tn (z : ps_C) : Nat → Nat := z.2.2.2.2.2.2.2.1
def ps_C.sc (z : ps_C) : Nat → Nat := z.2.2.2.2.2.2.2.2.1
def ps_C.sv (z : ps_C) : Nat := z.2.2.2.2.2.2.2.2.2.1
def ps_C.pl (z : ps_C) : Nat := z.2.2.2.2.2.2.2.2.2.2
def ps_C.mk (six : Nat → Nat → Nat) (mate : Nat → Nat → Option Nat) (x : Nat → Nat → Nat) (y : Nat → Nat → Nat) (fs : Nat → Nat) (mv : Nat → Nat) (lf : Nat → Nat) (tn : Nat → Nat) (sc : Nat → Nat) (sv : Nat) (pl : Nat) : ps_C := (six, mate, x, y, fs, mv, lf, tn, sc, sv, pl)
def ps_A : Type := Nat × (Nat → Nat) × Nat × Int32 × Bool × ps_W × ps_C × Nat × (Nat → ps_C) × (Nat → Nat) × (Nat → Nat) × (Nat → Nat)
def ps_A.tz (z : ps_A) : Nat := z.1
def ps_A.tb (z : ps_A) : Nat → Nat := z.2.1
def ps_A.fk (z : ps_A) : Nat := z.2.2.1
def ps_A.fp (z : ps_A) : Int32 := z.2.2.2.1
def ps_A.on (z : ps_A) : Bool := z.2.2.2.2.1
def ps_A.W (z : ps_A) : ps_W := z.2.2.2.2.2.1
def ps_A.C (z : ps_A) : ps_C := z.2.2.2.2.2.2.1
def ps_A.u (z : ps_A) : Nat := z.2.2.2.2.2.2.2.1
def ps_A.P (z : ps_A) : Nat → ps_C := z.2.2.2.2.2.2.2.2.1
def ps_A.had (z : ps_A) : Nat → Nat := z.2.2.2.2.2.2.2.2.2.1
def ps_A.svd (z : ps_A) : Nat → Nat := z.2.2.2.2.2.2.2.2.2.2.1
def ps_A.svr (z : ps_A) : Nat → Nat := z.2.2.2.2.2.2.2.2.2.2.2
def ps_A.mk (tz : Nat) (tb : Nat → Nat) (fk : Nat) (fp : Int32) (on : Bool) (W : ps_W) (C : ps_C) (u : Nat) (P : Nat → ps_C) (had : Nat → Nat) (svd : Nat → Nat) (svr : Nat → Nat) : ps_A := (tz, tb, fk, fp, on, W, C, u, P, had, svd, svr)
def ps_st (W : ps_W) (s p : Nat) : Bool := (List.range 6).any fun k => W.start s k == p
def ps_in (C : ps_C) (s p : Nat) : Bool := (List.range 6).any fun k => C.six s k == p
def ps_wfW (W : ps_W) : Prop :=
  (3 ≤ W.pts) ∧
  (W.pts ≤ 25) ∧
  (W.sbs ≤ 12) ∧
  (W.edg ≤ 300) ∧
  (W.fst < 2) ∧
  (W.lns ≤ 900) ∧
  (∀ s, s < 2 → W.size s ≤ 12) ∧
  (∀ s, s < 2 → ∀ p, W.free s = some p → p < W.size s) ∧
  (∀ s, s < 2 → ∀ k, k < 6 → W.start s k < W.size s) ∧
  (∀ s, s < 2 → ∀ i j, i < 6 → j < 6 → W.start s i = W.start s j → i = j) ∧
  (∀ s, s < 2 → ∀ k, k < 6 → W.free s ≠ some (W.start s k)) ∧
  (∀ s, s < 2 → ∀ p, p < W.size s → ∀ w, w < 3 → W.sk s p w ≤ 99)
theorem ps_wfW.p3 {W : ps_W} (h : ps_wfW W) : 3 ≤ W.pts := h.1
theorem ps_wfW.p25 {W : ps_W} (h : ps_wfW W) : W.pts ≤ 25 := h.2.1
theorem ps_wfW.sbs {W : ps_W} (h : ps_wfW W) : W.sbs ≤ 12 := h.2.2.1
theorem ps_wfW.edg {W : ps_W} (h : ps_wfW W) : W.edg ≤ 300 := h.2.2.2.1
theorem ps_wfW.fst {W : ps_W} (h : ps_wfW W) : W.fst < 2 := h.2.2.2.2.1
theorem ps_wfW.lns {W : ps_W} (h : ps_wfW W) : W.lns ≤ 900 := h.2.2.2.2.2.1
theorem ps_wfW.size {W : ps_W} (h : ps_wfW W) : ∀ s, s < 2 → W.size s ≤ 12 := h.2.2.2.2.2.2.1
theorem ps_wfW.free {W : ps_W} (h : ps_wfW W) : ∀ s, s < 2 → ∀ p, W.free s = some p → p < W.size s := h.2.2.2.2.2.2.2.1
theorem ps_wfW.st {W : ps_W} (h : ps_wfW W) : ∀ s, s < 2 → ∀ k, k < 6 → W.start s k < W.size s := h.2.2.2.2.2.2.2.2.1
theorem ps_wfW.inj {W : ps_W} (h : ps_wfW W) : ∀ s, s < 2 → ∀ i j, i < 6 → j < 6 → W.start s i = W.start s j → i = j := h.2.2.2.2.2.2.2.2.2.1
theorem ps_wfW.stf {W : ps_W} (h : ps_wfW W) : ∀ s, s < 2 → ∀ k, k < 6 → W.free s ≠ some (W.start s k) := h.2.2.2.2.2.2.2.2.2.2.1
theorem ps_wfW.sk {W : ps_W} (h : ps_wfW W) : ∀ s, s < 2 → ∀ p, p < W.size s → ∀ w, w < 3 → W.sk s p w ≤ 99 := h.2.2.2.2.2.2.2.2.2.2.2
def ps_wfC (W : ps_W) (C : ps_C) : Prop :=
  (∀ s, s < 2 → ∀ k, k < 6 → C.six s k < W.size s) ∧
  (∀ s, s < 2 → ∀ k, k < 6 → W.free s ≠ some (C.six s k)) ∧
  (∀ s, s < 2 → ∀ i j, i < 6 → j < 6 → C.six s i = C.six s j → i = j) ∧
  (∀ s, s < 2 → C.fs s = 0 ∨ ((C.fs s = 1 ∨ C.fs s = 5 ∨ C.fs s = 6) ∧ W.free s ≠ none)) ∧
  (∀ s, s < 2 → C.mv s ≤ 1) ∧
  (∀ s, s < 2 → C.lf s ≤ 12) ∧
  (∀ s, s < 2 → C.tn s < 6) ∧
  (∀ s, s < 2 → C.sc s ≤ W.pts) ∧
  (C.sc 0 < W.pts ∨ C.sc 1 < W.pts) ∧
  (C.sv < 2) ∧
  (C.pl = C.sc 0 + C.sc 1) ∧
  (∀ s, s < 2 → ∀ k, k < 6 → C.x s k ≤ 90) ∧
  (∀ s, s < 2 → ∀ k, k < 6 → C.y s k ≤ 90) ∧
  (∀ s, s < 2 → ∀ p q, C.mate s p = some q → p < W.size s ∧ q < W.size s ∧ C.mate s q = some p ∧ W.free s ≠ some p) ∧
  (∀ s, s < 2 → ∀ p q, C.mate s p = some q → ps_st W s p = true → ps_st W s q = false ∧ ps_in C s p = !ps_in C s q) ∧
  (∀ s, s < 2 → ∀ p q, C.mate s p = some q → ps_st W s p = false → ps_st W s q = true) ∧
  (∀ s, s < 2 → ∀ p, p < W.size s → C.mate s p = none → ps_st W s p = ps_in C s p)
theorem ps_wfC.six {W : ps_W} {C : ps_C} (h : ps_wfC W C) : ∀ s, s < 2 → ∀ k, k < 6 → C.six s k < W.size s := h.1
theorem ps_wfC.sixf {W : ps_W} {C : ps_C} (h : ps_wfC W C) : ∀ s, s < 2 → ∀ k, k < 6 → W.free s ≠ some (C.six s k) := h.2.1
theorem ps_wfC.inj {W : ps_W} {C : ps_C} (h : ps_wfC W C) : ∀ s, s < 2 → ∀ i j, i < 6 → j < 6 → C.six s i = C.six s j → i = j := h.2.2.1
theorem ps_wfC.fs {W : ps_W} {C : ps_C} (h : ps_wfC W C) : ∀ s, s < 2 → C.fs s = 0 ∨ ((C.fs s = 1 ∨ C.fs s = 5 ∨ C.fs s = 6) ∧ W.free s ≠ none) := h.2.2.2.1
theorem ps_wfC.mv {W : ps_W} {C : ps_C} (h : ps_wfC W C) : ∀ s, s < 2 → C.mv s ≤ 1 := h.2.2.2.2.1
theorem ps_wfC.lf {W : ps_W} {C : ps_C} (h : ps_wfC W C) : ∀ s, s < 2 → C.lf s ≤ 12 := h.2.2.2.2.2.1
theorem ps_wfC.tn {W : ps_W} {C : ps_C} (h : ps_wfC W C) : ∀ s, s < 2 → C.tn s < 6 := h.2.2.2.2.2.2.1
theorem ps_wfC.sc {W : ps_W} {C : ps_C} (h : ps_wfC W C) : ∀ s, s < 2 → C.sc s ≤ W.pts := h.2.2.2.2.2.2.2.1
theorem ps_wfC.sc2 {W : ps_W} {C : ps_C} (h : ps_wfC W C) : C.sc 0 < W.pts ∨ C.sc 1 < W.pts := h.2.2.2.2.2.2.2.2.1
theorem ps_wfC.sv {W : ps_W} {C : ps_C} (h : ps_wfC W C) : C.sv < 2 := h.2.2.2.2.2.2.2.2.2.1
theorem ps_wfC.pl {W : ps_W} {C : ps_C} (h : ps_wfC W C) : C.pl = C.sc 0 + C.sc 1 := h.2.2.2.2.2.2.2.2.2.2.1
theorem ps_wfC.x {W : ps_W} {C : ps_C} (h : ps_wfC W C) : ∀ s, s < 2 → ∀ k, k < 6 → C.x s k ≤ 90 := h.2.2.2.2.2.2.2.2.2.2.2.1
theorem ps_wfC.y {W : ps_W} {C : ps_C} (h : ps_wfC W C) : ∀ s, s < 2 → ∀ k, k < 6 → C.y s k ≤ 90 := h.2.2.2.2.2.2.2.2.2.2.2.2.1
theorem ps_wfC.mate {W : ps_W} {C : ps_C} (h : ps_wfC W C) : ∀ s, s < 2 → ∀ p q, C.mate s p = some q → p < W.size s ∧ q < W.size s ∧ C.mate s q = some p ∧ W.free s ≠ some p := h.2.2.2.2.2.2.2.2.2.2.2.2.2.1
theorem ps_wfC.role {W : ps_W} {C : ps_C} (h : ps_wfC W C) : ∀ s, s < 2 → ∀ p q, C.mate s p = some q → ps_st W s p = true → ps_st W s q = false ∧ ps_in C s p = !ps_in C s q := h.2.2.2.2.2.2.2.2.2.2.2.2.2.2.1
theorem ps_wfC.role2 {W : ps_W} {C : ps_C} (h : ps_wfC W C) : ∀ s, s < 2 → ∀ p q, C.mate s p = some q → ps_st W s p = false → ps_st W s q = true := h.2.2.2.2.2.2.2.2.2.2.2.2.2.2.2.1
theorem ps_wfC.nomate {W : ps_W} {C : ps_C} (h : ps_wfC W C) : ∀ s, s < 2 → ∀ p, p < W.size s → C.mate s p = none → ps_st W s p = ps_in C s p := h.2.2.2.2.2.2.2.2.2.2.2.2.2.2.2.2
/-- the cells of a court -/
def ps_RC (I : Nat → Nat → Int32) (c : Nat) (C : ps_C) : Prop :=
  (∀ s, s < 2 → ∀ k, k < 6 → I (c + 5 * s + 2) k = nI (C.six s k)) ∧
  (∀ s, s < 2 → ∀ p, p < 12 → I (c + 5 * s + 3) p = ps_e1 (C.mate s p)) ∧
  (∀ s, s < 2 → ∀ k, k < 6 → I (c + 5 * s + 4) k = nI (C.x s k)) ∧
  (∀ s, s < 2 → ∀ k, k < 6 → I (c + 5 * s + 5) k = nI (C.y s k)) ∧
  (∀ s, s < 2 → I (c + 5 * s + 1) 4 = nI (C.fs s)) ∧
  (∀ s, s < 2 → I (c + 5 * s + 1) 5 = nI (C.mv s)) ∧
  (∀ s, s < 2 → I (c + 5 * s + 1) 6 = nI (C.lf s)) ∧
  (∀ s, s < 2 → I (c + 5 * s + 1) 7 = nI (C.tn s)) ∧
  (∀ s, s < 2 → I (c + 5 * s + 1) 8 = nI (C.sc s)) ∧
  (I c 2 = nI C.sv) ∧
  (I c 3 = nI C.pl)
theorem ps_RC.six {I : Nat → Nat → Int32} {c : Nat} {C : ps_C} (h : ps_RC I c C) : ∀ s, s < 2 → ∀ k, k < 6 → I (c + 5 * s + 2) k = nI (C.six s k) := h.1
theorem ps_RC.mate {I : Nat → Nat → Int32} {c : Nat} {C : ps_C} (h : ps_RC I c C) : ∀ s, s < 2 → ∀ p, p < 12 → I (c + 5 * s + 3) p = ps_e1 (C.mate s p) := h.2.1
theorem ps_RC.x {I : Nat → Nat → Int32} {c : Nat} {C : ps_C} (h : ps_RC I c C) : ∀ s, s < 2 → ∀ k, k < 6 → I (c + 5 * s + 4) k = nI (C.x s k) := h.2.2.1
theorem ps_RC.y {I : Nat → Nat → Int32} {c : Nat} {C : ps_C} (h : ps_RC I c C) : ∀ s, s < 2 → ∀ k, k < 6 → I (c + 5 * s + 5) k = nI (C.y s k) := h.2.2.2.1
theorem ps_RC.fs {I : Nat → Nat → Int32} {c : Nat} {C : ps_C} (h : ps_RC I c C) : ∀ s, s < 2 → I (c + 5 * s + 1) 4 = nI (C.fs s) := h.2.2.2.2.1
theorem ps_RC.mv {I : Nat → Nat → Int32} {c : Nat} {C : ps_C} (h : ps_RC I c C) : ∀ s, s < 2 → I (c + 5 * s + 1) 5 = nI (C.mv s) := h.2.2.2.2.2.1
theorem ps_RC.lf {I : Nat → Nat → Int32} {c : Nat} {C : ps_C} (h : ps_RC I c C) : ∀ s, s < 2 → I (c + 5 * s + 1) 6 = nI (C.lf s) := h.2.2.2.2.2.2.1
theorem ps_RC.tn {I : Nat → Nat → Int32} {c : Nat} {C : ps_C} (h : ps_RC I c C) : ∀ s, s < 2 → I (c + 5 * s + 1) 7 = nI (C.tn s) := h.2.2.2.2.2.2.2.1
theorem ps_RC.sc {I : Nat → Nat → Int32} {c : Nat} {C : ps_C} (h : ps_RC I c C) : ∀ s, s < 2 → I (c + 5 * s + 1) 8 = nI (C.sc s) := h.2.2.2.2.2.2.2.2.1
theorem ps_RC.sv {I : Nat → Nat → Int32} {c : Nat} {C : ps_C} (h : ps_RC I c C) : I c 2 = nI C.sv := h.2.2.2.2.2.2.2.2.2.1
theorem ps_RC.pl {I : Nat → Nat → Int32} {c : Nat} {C : ps_C} (h : ps_RC I c C) : I c 3 = nI C.pl := h.2.2.2.2.2.2.2.2.2.2
def ps_RW (I : Nat → Nat → Int32) (T : Nat) (W : ps_W) : Prop :=
  (I T 2 = nI W.pts) ∧
  (I T 3 = nI W.sbs) ∧
  (I T 4 = nI W.edg) ∧
  (I T 5 = nI W.fst) ∧
  (I T 6 = nI W.lns) ∧
  (∀ s, s < 2 → I (T + 6 * s + 1) 5 = nI (W.size s)) ∧
  (∀ s, s < 2 → I (T + 6 * s + 1) 6 = nI 6) ∧
  (∀ s, s < 2 → I (T + 6 * s + 1) 7 = ps_e1 (W.free s)) ∧
  (∀ s, s < 2 → ∀ p, p < W.size s → I (T + 6 * s + 2) p = W.nm s p) ∧
  (∀ s, s < 2 → ∀ w, w < 3 → ∀ p, p < W.size s → I (T + 6 * s + 3 + w) p = nI (W.sk s p w)) ∧
  (∀ s, s < 2 → ∀ k, k < 6 → I (T + 6 * s + 6) k = nI (W.start s k))
theorem ps_RW.pts {I : Nat → Nat → Int32} {T : Nat} {W : ps_W} (h : ps_RW I T W) : I T 2 = nI W.pts := h.1
theorem ps_RW.sbs {I : Nat → Nat → Int32} {T : Nat} {W : ps_W} (h : ps_RW I T W) : I T 3 = nI W.sbs := h.2.1
theorem ps_RW.edg {I : Nat → Nat → Int32} {T : Nat} {W : ps_W} (h : ps_RW I T W) : I T 4 = nI W.edg := h.2.2.1
theorem ps_RW.fst {I : Nat → Nat → Int32} {T : Nat} {W : ps_W} (h : ps_RW I T W) : I T 5 = nI W.fst := h.2.2.2.1
theorem ps_RW.lns {I : Nat → Nat → Int32} {T : Nat} {W : ps_W} (h : ps_RW I T W) : I T 6 = nI W.lns := h.2.2.2.2.1
theorem ps_RW.size {I : Nat → Nat → Int32} {T : Nat} {W : ps_W} (h : ps_RW I T W) : ∀ s, s < 2 → I (T + 6 * s + 1) 5 = nI (W.size s) := h.2.2.2.2.2.1
theorem ps_RW.plc {I : Nat → Nat → Int32} {T : Nat} {W : ps_W} (h : ps_RW I T W) : ∀ s, s < 2 → I (T + 6 * s + 1) 6 = nI 6 := h.2.2.2.2.2.2.1
theorem ps_RW.free {I : Nat → Nat → Int32} {T : Nat} {W : ps_W} (h : ps_RW I T W) : ∀ s, s < 2 → I (T + 6 * s + 1) 7 = ps_e1 (W.free s) := h.2.2.2.2.2.2.2.1
theorem ps_RW.nm {I : Nat → Nat → Int32} {T : Nat} {W : ps_W} (h : ps_RW I T W) : ∀ s, s < 2 → ∀ p, p < W.size s → I (T + 6 * s + 2) p = W.nm s p := h.2.2.2.2.2.2.2.2.1
theorem ps_RW.sk {I : Nat → Nat → Int32} {T : Nat} {W : ps_W} (h : ps_RW I T W) : ∀ s, s < 2 → ∀ w, w < 3 → ∀ p, p < W.size s → I (T + 6 * s + 3 + w) p = nI (W.sk s p w) := h.2.2.2.2.2.2.2.2.2.1
theorem ps_RW.st {I : Nat → Nat → Int32} {T : Nat} {W : ps_W} (h : ps_RW I T W) : ∀ s, s < 2 → ∀ k, k < 6 → I (T + 6 * s + 6) k = nI (W.start s k) := h.2.2.2.2.2.2.2.2.2.2
def ps_T (t : Bool) : Nat := if t then 53 else 40
/-- the class's cells -/
def ps_RX (t : Bool) (A : ps_A) (I : Nat → Nat → Int32) : Prop :=
  (I 1 1 = nI A.tz) ∧
  (∀ k, k < A.tz → I 2 k = nI (A.tb k)) ∧
  (I 1 2 = nI A.fk) ∧
  (I 1 3 = A.fp) ∧
  (I 0 13 = if A.on then 1 else 0) ∧
  (A.on = true → ps_RW I (ps_T t) A.W) ∧
  (A.on = true → ps_RC I 22 A.C) ∧
  (A.on = true → ∀ k, k < A.C.pl → I 19 k = nI (A.had k)) ∧
  (A.on = true → ∀ k, k < A.C.pl → I 20 k = nI (A.svd k)) ∧
  (A.on = true → ∀ k, k < A.C.pl → I 21 k = nI (A.svr k)) ∧
  (I 0 15 = nI A.u) ∧
  (A.on = true → ∃ np, np < 20 ∧ I 0 16 = nI np ∧ ∀ i, i < A.u → ps_RC I (66 + 11 * ((np + 20 - A.u + i) % 20)) (A.P i))
theorem ps_RX.tz {t : Bool} {A : ps_A} {I : Nat → Nat → Int32} (h : ps_RX t A I) : I 1 1 = nI A.tz := h.1
theorem ps_RX.tb {t : Bool} {A : ps_A} {I : Nat → Nat → Int32} (h : ps_RX t A I) : ∀ k, k < A.tz → I 2 k = nI (A.tb k) := h.2.1
theorem ps_RX.fk {t : Bool} {A : ps_A} {I : Nat → Nat → Int32} (h : ps_RX t A I) : I 1 2 = nI A.fk := h.2.2.1
theorem ps_RX.fp {t : Bool} {A : ps_A} {I : Nat → Nat → Int32} (h : ps_RX t A I) : I 1 3 = A.fp := h.2.2.2.1
theorem ps_RX.on {t : Bool} {A : ps_A} {I : Nat → Nat → Int32} (h : ps_RX t A I) : I 0 13 = if A.on then 1 else 0 := h.2.2.2.2.1
theorem ps_RX.W {t : Bool} {A : ps_A} {I : Nat → Nat → Int32} (h : ps_RX t A I) : A.on = true → ps_RW I (ps_T t) A.W := h.2.2.2.2.2.1
theorem ps_RX.C {t : Bool} {A : ps_A} {I : Nat → Nat → Int32} (h : ps_RX t A I) : A.on = true → ps_RC I 22 A.C := h.2.2.2.2.2.2.1
theorem ps_RX.had {t : Bool} {A : ps_A} {I : Nat → Nat → Int32} (h : ps_RX t A I) : A.on = true → ∀ k, k < A.C.pl → I 19 k = nI (A.had k) := h.2.2.2.2.2.2.2.1
theorem ps_RX.svd {t : Bool} {A : ps_A} {I : Nat → Nat → Int32} (h : ps_RX t A I) : A.on = true → ∀ k, k < A.C.pl → I 20 k = nI (A.svd k) := h.2.2.2.2.2.2.2.2.1
theorem ps_RX.svr {t : Bool} {A : ps_A} {I : Nat → Nat → Int32} (h : ps_RX t A I) : A.on = true → ∀ k, k < A.C.pl → I 21 k = nI (A.svr k) := h.2.2.2.2.2.2.2.2.2.1
theorem ps_RX.u {t : Bool} {A : ps_A} {I : Nat → Nat → Int32} (h : ps_RX t A I) : I 0 15 = nI A.u := h.2.2.2.2.2.2.2.2.2.2.1
theorem ps_RX.P {t : Bool} {A : ps_A} {I : Nat → Nat → Int32} (h : ps_RX t A I) : A.on = true → ∃ np, np < 20 ∧ I 0 16 = nI np ∧ ∀ i, i < A.u → ps_RC I (66 + 11 * ((np + 20 - A.u + i) % 20)) (A.P i) := h.2.2.2.2.2.2.2.2.2.2.2
/-- who is on a place -/
def ps_on (W : ps_W) (C : ps_C) (s k : Nat) : Int32 := if C.fs s = k + 1 then ps_e1 (W.free s) else nI (C.six s k)
def ps_for (C : ps_C) (s : Nat) : Int32 := if C.fs s = 0 then -1 else nI (C.six s (C.fs s - 1))

def ps_gone (W : ps_W) (C : ps_C) (s p : Nat) : Nat := if ps_st W s p = true ∧ C.mate s p ≠ none then (if ps_in C s p then 2 else 1) else 0
def ps_cnt (A : ps_A) (s p : Nat) : Nat → Nat
  | 0 => 0
  | n + 1 => ps_cnt A s p n + (if A.had n = s ∧ A.svd n = s ∧ A.svr n = p then 1 else 0)
/-- the reference's row of a court -/
def ps_MR (A : ps_A) (C : ps_C) (r : Nat → Int32) : Prop :=
  (∀ s, s < 2 → r s = nI (C.sc s)) ∧
  (r 2 = nI C.sv) ∧
  (∀ s, s < 2 → r (3 + s) = nI (C.tn s)) ∧
  (∀ s, s < 2 → r (5 + s) = nI (C.lf s)) ∧
  (∀ s, s < 2 → r (7 + s) = ps_for C s) ∧
  (∀ s, s < 2 → r (9 + s) = nI (C.mv s)) ∧
  (∀ s, s < 2 → ∀ k, k < 6 → r (11 + 6 * s + k) = ps_on A.W C s k) ∧
  (∀ s, s < 2 → ∀ p, p < 12 → r (23 + 12 * s + p) = ps_e2 (C.mate s p)) ∧
  (∀ s, s < 2 → ∀ p, p < 12 → r (47 + 12 * s + p) = nI (ps_gone A.W C s p)) ∧
  (∀ s, s < 2 → ∀ k, k < 6 → r (71 + 12 * s + 2 * k) = nI (C.x s k)) ∧
  (∀ s, s < 2 → ∀ k, k < 6 → r (72 + 12 * s + 2 * k) = nI (C.y s k)) ∧
  (∀ s, s < 2 → ∀ p, p < 12 → r (95 + 12 * s + p) = nI (ps_cnt A s p C.pl)) ∧
  (r 119 = nI C.pl)
theorem ps_MR.sc {A : ps_A} {C : ps_C} {r : Nat → Int32} (h : ps_MR A C r) : ∀ s, s < 2 → r s = nI (C.sc s) := h.1
theorem ps_MR.sv {A : ps_A} {C : ps_C} {r : Nat → Int32} (h : ps_MR A C r) : r 2 = nI C.sv := h.2.1
theorem ps_MR.tn {A : ps_A} {C : ps_C} {r : Nat → Int32} (h : ps_MR A C r) : ∀ s, s < 2 → r (3 + s) = nI (C.tn s) := h.2.2.1
theorem ps_MR.lf {A : ps_A} {C : ps_C} {r : Nat → Int32} (h : ps_MR A C r) : ∀ s, s < 2 → r (5 + s) = nI (C.lf s) := h.2.2.2.1
theorem ps_MR.fr {A : ps_A} {C : ps_C} {r : Nat → Int32} (h : ps_MR A C r) : ∀ s, s < 2 → r (7 + s) = ps_for C s := h.2.2.2.2.1
theorem ps_MR.mv {A : ps_A} {C : ps_C} {r : Nat → Int32} (h : ps_MR A C r) : ∀ s, s < 2 → r (9 + s) = nI (C.mv s) := h.2.2.2.2.2.1
theorem ps_MR.on {A : ps_A} {C : ps_C} {r : Nat → Int32} (h : ps_MR A C r) : ∀ s, s < 2 → ∀ k, k < 6 → r (11 + 6 * s + k) = ps_on A.W C s k := h.2.2.2.2.2.2.1
theorem ps_MR.mate {A : ps_A} {C : ps_C} {r : Nat → Int32} (h : ps_MR A C r) : ∀ s, s < 2 → ∀ p, p < 12 → r (23 + 12 * s + p) = ps_e2 (C.mate s p) := h.2.2.2.2.2.2.2.1
theorem ps_MR.gone {A : ps_A} {C : ps_C} {r : Nat → Int32} (h : ps_MR A C r) : ∀ s, s < 2 → ∀ p, p < 12 → r (47 + 12 * s + p) = nI (ps_gone A.W C s p) := h.2.2.2.2.2.2.2.2.1
theorem ps_MR.x {A : ps_A} {C : ps_C} {r : Nat → Int32} (h : ps_MR A C r) : ∀ s, s < 2 → ∀ k, k < 6 → r (71 + 12 * s + 2 * k) = nI (C.x s k) := h.2.2.2.2.2.2.2.2.2.1
theorem ps_MR.y {A : ps_A} {C : ps_C} {r : Nat → Int32} (h : ps_MR A C r) : ∀ s, s < 2 → ∀ k, k < 6 → r (72 + 12 * s + 2 * k) = nI (C.y s k) := h.2.2.2.2.2.2.2.2.2.2.1
theorem ps_MR.svd {A : ps_A} {C : ps_C} {r : Nat → Int32} (h : ps_MR A C r) : ∀ s, s < 2 → ∀ p, p < 12 → r (95 + 12 * s + p) = nI (ps_cnt A s p C.pl) := h.2.2.2.2.2.2.2.2.2.2.2.1
theorem ps_MR.pl {A : ps_A} {C : ps_C} {r : Nat → Int32} (h : ps_MR A C r) : r 119 = nI C.pl := h.2.2.2.2.2.2.2.2.2.2.2.2
def ps_MW (I : Nat → Nat → Int32) (W : ps_W) : Prop :=
  (I 292 0 = nI W.pts) ∧
  (I 292 1 = nI W.sbs) ∧
  (I 292 2 = nI W.edg) ∧
  (I 292 3 = nI W.fst) ∧
  (I 292 4 = nI W.lns) ∧
  (∀ s, s < 2 → I 292 (5 + s) = nI (W.size s)) ∧
  (∀ s, s < 2 → I 292 (7 + s) = ps_e1 (W.free s)) ∧
  (∀ s, s < 2 → ∀ k, k < 6 → I 292 (9 + 6 * s + k) = nI (W.start s k)) ∧
  (∀ s, s < 2 → ∀ w, w < 3 → ∀ p, p < W.size s → I 292 (21 + 48 * s + 4 * p + w) = nI (W.sk s p w)) ∧
  (∀ s, s < 2 → ∀ p, p < W.size s → I 295 (12 * s + p) = W.nm s p)
theorem ps_MW.pts {I : Nat → Nat → Int32} {W : ps_W} (h : ps_MW I W) : I 292 0 = nI W.pts := h.1
theorem ps_MW.sbs {I : Nat → Nat → Int32} {W : ps_W} (h : ps_MW I W) : I 292 1 = nI W.sbs := h.2.1
theorem ps_MW.edg {I : Nat → Nat → Int32} {W : ps_W} (h : ps_MW I W) : I 292 2 = nI W.edg := h.2.2.1
theorem ps_MW.fst {I : Nat → Nat → Int32} {W : ps_W} (h : ps_MW I W) : I 292 3 = nI W.fst := h.2.2.2.1
theorem ps_MW.lns {I : Nat → Nat → Int32} {W : ps_W} (h : ps_MW I W) : I 292 4 = nI W.lns := h.2.2.2.2.1
theorem ps_MW.size {I : Nat → Nat → Int32} {W : ps_W} (h : ps_MW I W) : ∀ s, s < 2 → I 292 (5 + s) = nI (W.size s) := h.2.2.2.2.2.1
theorem ps_MW.free {I : Nat → Nat → Int32} {W : ps_W} (h : ps_MW I W) : ∀ s, s < 2 → I 292 (7 + s) = ps_e1 (W.free s) := h.2.2.2.2.2.2.1
theorem ps_MW.st {I : Nat → Nat → Int32} {W : ps_W} (h : ps_MW I W) : ∀ s, s < 2 → ∀ k, k < 6 → I 292 (9 + 6 * s + k) = nI (W.start s k) := h.2.2.2.2.2.2.2.1
theorem ps_MW.sk {I : Nat → Nat → Int32} {W : ps_W} (h : ps_MW I W) : ∀ s, s < 2 → ∀ w, w < 3 → ∀ p, p < W.size s → I 292 (21 + 48 * s + 4 * p + w) = nI (W.sk s p w) := h.2.2.2.2.2.2.2.2.1
theorem ps_MW.nm {I : Nat → Nat → Int32} {W : ps_W} (h : ps_MW I W) : ∀ s, s < 2 → ∀ p, p < W.size s → I 295 (12 * s + p) = W.nm s p := h.2.2.2.2.2.2.2.2.2
/-- the reference's cells -/
def ps_MX (A : ps_A) (I : Nat → Nat → Int32) : Prop :=
  (I 290 2 = nI A.tz) ∧
  (∀ k, k < A.tz → I 291 k = nI (A.tb k)) ∧
  (I 290 16 = nI A.fk) ∧
  (I 290 17 = A.fp) ∧
  (I 290 7 = if A.on then 1 else 0) ∧
  (I 290 22 = nI A.u) ∧
  (A.on = true → ps_MW I A.W) ∧
  (A.on = true → ps_MR A A.C (I 298)) ∧
  (A.on = true → ∀ i, i < A.u → ps_MR A (A.P i) (fun j => I 299 (120 * i + j))) ∧
  (A.on = true → ∀ k, k < A.C.pl → I 300 (3 * k) = nI (A.had k)) ∧
  (A.on = true → ∀ k, k < A.C.pl → I 300 (3 * k + 1) = nI (A.svd k)) ∧
  (A.on = true → ∀ k, k < A.C.pl → I 300 (3 * k + 2) = nI (A.svr k))
theorem ps_MX.tz {A : ps_A} {I : Nat → Nat → Int32} (h : ps_MX A I) : I 290 2 = nI A.tz := h.1
theorem ps_MX.tb {A : ps_A} {I : Nat → Nat → Int32} (h : ps_MX A I) : ∀ k, k < A.tz → I 291 k = nI (A.tb k) := h.2.1
theorem ps_MX.fk {A : ps_A} {I : Nat → Nat → Int32} (h : ps_MX A I) : I 290 16 = nI A.fk := h.2.2.1
theorem ps_MX.fp {A : ps_A} {I : Nat → Nat → Int32} (h : ps_MX A I) : I 290 17 = A.fp := h.2.2.2.1
theorem ps_MX.on {A : ps_A} {I : Nat → Nat → Int32} (h : ps_MX A I) : I 290 7 = if A.on then 1 else 0 := h.2.2.2.2.1
theorem ps_MX.u {A : ps_A} {I : Nat → Nat → Int32} (h : ps_MX A I) : I 290 22 = nI A.u := h.2.2.2.2.2.1
theorem ps_MX.W {A : ps_A} {I : Nat → Nat → Int32} (h : ps_MX A I) : A.on = true → ps_MW I A.W := h.2.2.2.2.2.2.1
theorem ps_MX.C {A : ps_A} {I : Nat → Nat → Int32} (h : ps_MX A I) : A.on = true → ps_MR A A.C (I 298) := h.2.2.2.2.2.2.2.1
theorem ps_MX.P {A : ps_A} {I : Nat → Nat → Int32} (h : ps_MX A I) : A.on = true → ∀ i, i < A.u → ps_MR A (A.P i) (fun j => I 299 (120 * i + j)) := h.2.2.2.2.2.2.2.2.1
theorem ps_MX.had {A : ps_A} {I : Nat → Nat → Int32} (h : ps_MX A I) : A.on = true → ∀ k, k < A.C.pl → I 300 (3 * k) = nI (A.had k) := h.2.2.2.2.2.2.2.2.2.1
theorem ps_MX.svd {A : ps_A} {I : Nat → Nat → Int32} (h : ps_MX A I) : A.on = true → ∀ k, k < A.C.pl → I 300 (3 * k + 1) = nI (A.svd k) := h.2.2.2.2.2.2.2.2.2.2.1
theorem ps_MX.svr {A : ps_A} {I : Nat → Nat → Int32} (h : ps_MX A I) : A.on = true → ∀ k, k < A.C.pl → I 300 (3 * k + 2) = nI (A.svr k) := h.2.2.2.2.2.2.2.2.2.2.2
def ps_wf (A : ps_A) : Prop :=
  (A.tz ≤ 900) ∧
  (∀ k, A.tb k < 256) ∧
  (A.fk ≤ 4) ∧
  (A.u ≤ 20) ∧
  (A.on = false → A.u = 0) ∧
  (A.on = true → ps_wfW A.W) ∧
  (A.on = true → ps_wfC A.W A.C) ∧
  (A.on = true → ∀ i, i < A.u → ps_wfC A.W (A.P i) ∧ (A.P i).pl ≤ A.C.pl) ∧
  (A.on = true → ∀ i j, i ≤ j → j < A.u → (A.P i).pl ≤ (A.P j).pl) ∧
  (A.on = true → ∀ k, k < A.C.pl → A.had k < 2) ∧
  (A.on = true → ∀ k, k < A.C.pl → A.svd k < 2) ∧
  (A.on = true → ∀ k, k < A.C.pl → A.svr k < 12)
theorem ps_wf.tz {A : ps_A} (h : ps_wf A) : A.tz ≤ 900 := h.1
theorem ps_wf.tb {A : ps_A} (h : ps_wf A) : ∀ k, A.tb k < 256 := h.2.1
theorem ps_wf.fk {A : ps_A} (h : ps_wf A) : A.fk ≤ 4 := h.2.2.1
theorem ps_wf.u {A : ps_A} (h : ps_wf A) : A.u ≤ 20 := h.2.2.2.1
theorem ps_wf.off {A : ps_A} (h : ps_wf A) : A.on = false → A.u = 0 := h.2.2.2.2.1
theorem ps_wf.W {A : ps_A} (h : ps_wf A) : A.on = true → ps_wfW A.W := h.2.2.2.2.2.1
theorem ps_wf.C {A : ps_A} (h : ps_wf A) : A.on = true → ps_wfC A.W A.C := h.2.2.2.2.2.2.1
theorem ps_wf.P {A : ps_A} (h : ps_wf A) : A.on = true → ∀ i, i < A.u → ps_wfC A.W (A.P i) ∧ (A.P i).pl ≤ A.C.pl := h.2.2.2.2.2.2.2.1
theorem ps_wf.mono {A : ps_A} (h : ps_wf A) : A.on = true → ∀ i j, i ≤ j → j < A.u → (A.P i).pl ≤ (A.P j).pl := h.2.2.2.2.2.2.2.2.1
theorem ps_wf.had {A : ps_A} (h : ps_wf A) : A.on = true → ∀ k, k < A.C.pl → A.had k < 2 := h.2.2.2.2.2.2.2.2.2.1
theorem ps_wf.svd {A : ps_A} (h : ps_wf A) : A.on = true → ∀ k, k < A.C.pl → A.svd k < 2 := h.2.2.2.2.2.2.2.2.2.2.1
theorem ps_wf.svr {A : ps_A} (h : ps_wf A) : A.on = true → ∀ k, k < A.C.pl → A.svr k < 12 := h.2.2.2.2.2.2.2.2.2.2.2
/-! ===== the fixed references at their places ===== -/
section PSR
variable {t v w : Bool}
theorem pr_0_0 : px_R t v w 0 0 = 1 := rfl
theorem pr_0_1 : px_R t v w 0 1 = 3 := rfl
theorem pr_0_2 : px_R t v w 0 2 = 18 := rfl
theorem pr_0_3 : px_R t v w 0 3 = 22 := rfl
theorem pr_0_4 : px_R t v w 0 4 = 33 := rfl
theorem pr_0_5 : px_R t v w 0 5 = 34 := rfl
theorem pr_0_6 : px_R t v w 0 6 = 35 := rfl
theorem pr_0_7 : px_R t v w 0 7 = 36 := rfl
theorem pr_0_8 : px_R t v w 0 8 = 37 := rfl
theorem pr_0_9 : px_R t v w 0 9 = 38 := rfl
theorem pr_0_10 : px_R t v w 0 10 = 39 := rfl
theorem pr_0_11 : px_R t v w 0 11 = ps_T t := rfl
theorem pr_1_0 : px_R t v w 1 0 = 2 := rfl
theorem pr_18_0 : px_R t v w 18 0 = 19 := rfl
theorem pr_18_1 : px_R t v w 18 1 = 20 := rfl
theorem pr_18_2 : px_R t v w 18 2 = 21 := rfl
theorem pr_22_0 : px_R t v w 22 0 = 23 := rfl
theorem pr_22_1 : px_R t v w 22 1 = 28 := rfl
theorem pr_23_0 : px_R t v w 23 0 = 24 := rfl
theorem pr_23_1 : px_R t v w 23 1 = 25 := rfl
theorem pr_23_2 : px_R t v w 23 2 = 26 := rfl
theorem pr_23_3 : px_R t v w 23 3 = 27 := rfl
theorem pr_28_0 : px_R t v w 28 0 = 29 := rfl
theorem pr_28_1 : px_R t v w 28 1 = 30 := rfl
theorem pr_28_2 : px_R t v w 28 2 = 31 := rfl
theorem pr_28_3 : px_R t v w 28 3 = 32 := rfl
theorem pr_T_0 : px_R t v w (ps_T t) 0 = ps_T t + 1 := by cases t <;> rfl
theorem pr_T_1 : px_R t v w (ps_T t) 1 = ps_T t + 7 := by cases t <;> rfl
theorem pr_T1 {k : Nat} (h : k < 5) : px_R t v w (ps_T t + 1) k = ps_T t + 2 + k := by
  rcases (show k = 0 ∨ k = 1 ∨ k = 2 ∨ k = 3 ∨ k = 4 by omega) with rfl | rfl | rfl | rfl | rfl <;> cases t <;> rfl
theorem pr_T7 {k : Nat} (h : k < 5) : px_R t v w (ps_T t + 7) k = ps_T t + 8 + k := by
  rcases (show k = 0 ∨ k = 1 ∨ k = 2 ∨ k = 3 ∨ k = 4 by omega) with rfl | rfl | rfl | rfl | rfl <;> cases t <;> rfl
theorem pr_290_1 : px_R t v w 290 1 = 291 := rfl
theorem pr_290_3 : px_R t v w 290 3 = 292 := rfl
theorem pr_290_4 : px_R t v w 290 4 = 293 := rfl
theorem pr_290_5 : px_R t v w 290 5 = 294 := rfl
theorem pr_290_6 : px_R t v w 290 6 = 295 := rfl
theorem pr_290_18 : px_R t v w 290 18 = 296 := rfl
theorem pr_290_19 : px_R t v w 290 19 = 297 := rfl
theorem pr_290_20 : px_R t v w 290 20 = 298 := rfl
theorem pr_290_21 : px_R t v w 290 21 = 299 := rfl
theorem pr_290_23 : px_R t v w 290 23 = 300 := rfl
theorem pr_290_24 : px_R t v w 290 24 = 301 := rfl
theorem pr_290_25 : px_R t v w 290 25 = 302 := rfl
theorem pr_290_26 : px_R t v w 290 26 = 303 := rfl
theorem pr_290_27 : px_R t v w 290 27 = 304 := rfl
end PSR
/-! ===== reading what was written ===== -/
theorem pu_ne {α : Type} {f : Nat → Nat → α} {a k x j : Nat} {v : α} (h : ¬ (x = a ∧ j = k)) : hp_u f a k v x j = f x j := if_neg h
theorem pu_eq {α : Type} {f : Nat → Nat → α} {a k : Nat} {v : α} : hp_u f a k v a k = v := if_pos ⟨rfl, rfl⟩
theorem pu_cell {α : Type} {f : Nat → Nat → α} {a k x : Nat} {v : α} (h : ¬ x = a) : hp_u f a k v x = f x := funext fun j => if_neg (fun c => h c.1)
theorem pu_place {α : Type} {f : Nat → Nat → α} {a k x j : Nat} {v : α} (h : ¬ j = k) : hp_u f a k v x j = f x j := if_neg (fun c => h c.2)
theorem pg_pos {β : Type} {c : Prop} [Decidable c] {x : Option β} (h : c) : fx_g c x = x := if_pos h
theorem pb_2 {α β γ : Type} {a : α} {b : β} {f : α → β → Option γ} : fx_b2 (some (a, b)) f = f a b := rfl
theorem pb_1 {β γ : Type} {b : β} {f : β → Option γ} : fx_b1 (some b) f = f b := rfl
theorem pl_let {α β : Type} {v : α} {f : α → Option β} : fx_let v f = f v := rfl
/-- the reference's cells but for its flag -/
theorem ps_MX.flag {A : ps_A} {I : Nat → Nat → Int32} {z : Int32} (h : ps_MX A I) : ps_MX A (hp_u I 290 0 z) := by
  have e : ∀ a k, ¬ (a = 290 ∧ k = 0) → hp_u I 290 0 z a k = I a k := fun a k q => if_neg q
  have e2 : ∀ a, ¬ a = 290 → hp_u I 290 0 z a = I a := fun a q => pu_cell q
  refine ⟨?_, ?_, ?_, ?_, ?_, ?_, ?_, ?_, ?_, ?_, ?_, ?_⟩
  · rw [e _ _ (by decide)]; exact h.tz
  · intro k hk; rw [e2 _ (by decide)]; exact h.tb k hk
  · rw [e _ _ (by decide)]; exact h.fk
  · rw [e _ _ (by decide)]; exact h.fp
  · rw [e _ _ (by decide)]; exact h.on
  · rw [e _ _ (by decide)]; exact h.u
  · intro q
    have h9 := h.W q
    unfold ps_MW at h9 ⊢
    rw [e2 292 (by decide), e2 295 (by decide)]
    exact h9
  · intro q; rw [e2 _ (by decide)]; exact h.C q
  · intro q; rw [e2 _ (by decide)]; exact h.P q
  · intro q; rw [e2 _ (by decide)]; exact h.had q
  · intro q; rw [e2 _ (by decide)]; exact h.svd q
  · intro q; rw [e2 _ (by decide)]; exact h.svr q
/-! ===== fault ===== -/
def sp_fault (A : ps_A) (a : Int32) : Int32 := if a = 0 then nI A.fk else if a = 1 then A.fp else -1
theorem cx_fault {t v w : Bool} {A : ps_A} {I : Nat → Nat → Int32} {L : Nat → Nat → Int64} (hX : ps_RX t A I) (a : Int32) : fX9_fault 0 a (I, L, px_R t v w) = some (sp_fault A a, (I, L, px_R t v w)) := by
  unfold fX9_fault sp_fault
  simp only [pr_0_0, hX.fk, hX.fp]
  split
  · rfl
  · split <;> rfl
theorem cm_fault {t v w : Bool} {A : ps_A} {I : Nat → Nat → Int32} {L : Nat → Nat → Int64} (hM : ps_MX A I) (a : Int32) : fX10_fault 290 a (I, L, px_R t v w) = some (sp_fault A a, (hp_u I 290 0 0, L, px_R t v w)) := by
  have hM := hM.flag (z := 0)
  unfold fX10_fault sp_fault
  simp only [pl_let, hp_sI, hM.fk, hM.fp]
  split
  · rfl
  · split <;> rfl
