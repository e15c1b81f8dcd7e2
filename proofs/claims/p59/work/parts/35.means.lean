/-! doubles and floats: the mean volume, the share of the expired -/

theorem J.i2d {γ : Gm} {μ : Mu} {R : Room} {Q : Fin_} {k n pc : Nat} {L : List (Option Value)} {rest : List Value} {P : Heap → Prop} {x : Int32} (d : decode μ.2.1 pc = .ok (.i2d, 1)) (kk : J γ μ R Q k n (pc + 1) L (.double (FP.i2d x) :: rest) P) : J γ μ R Q k n pc L (.int x :: rest) P :=
  fun p l e s m args below meth c B H locs ls hL hP hS => lv_i2d B.1 B.2.1 d (kk p l e s m args below meth c B H locs ls hL hP hS)

theorem J.i2f {γ : Gm} {μ : Mu} {R : Room} {Q : Fin_} {k n pc : Nat} {L : List (Option Value)} {rest : List Value} {P : Heap → Prop} {x : Int32} (d : decode μ.2.1 pc = .ok (.i2f, 1)) (kk : J γ μ R Q k n (pc + 1) L (.float (FP.i2f x) :: rest) P) : J γ μ R Q k n pc L (.int x :: rest) P :=
  fun p l e s m args below meth c B H locs ls hL hP hS => lv_i2f B.1 B.2.1 d (kk p l e s m args below meth c B H locs ls hL hP hS)

theorem J.ddiv {γ : Gm} {μ : Mu} {R : Room} {Q : Fin_} {k n pc : Nat} {L : List (Option Value)} {rest : List Value} {P : Heap → Prop} {x y : UInt64} (d : decode μ.2.1 pc = .ok (.ddiv, 1)) (hne : vf_n64 (FP.ddiv x y)) (kk : J γ μ R Q k n (pc + 1) L (.double (FP.ddiv x y) :: rest) P) : J γ μ R Q k n pc L (.double y :: .double x :: rest) P :=
  fun p l e s m args below meth c B H locs ls hL hP hS => lv_ddiv B.1 B.2.1 d hne (kk p l e s m args below meth c B H locs ls hL hP hS)

theorem J.fdiv {γ : Gm} {μ : Mu} {R : Room} {Q : Fin_} {k n pc : Nat} {L : List (Option Value)} {rest : List Value} {P : Heap → Prop} {x y : UInt32} (d : decode μ.2.1 pc = .ok (.fdiv, 1)) (hne : vf_n32 (FP.fdiv x y)) (kk : J γ μ R Q k n (pc + 1) L (.float (FP.fdiv x y) :: rest) P) : J γ μ R Q k n pc L (.float y :: .float x :: rest) P :=
  fun p l e s m args below meth c B H locs ls hL hP hS => lv_fdiv B.1 B.2.1 d hne (kk p l e s m args below meth c B H locs ls hL hP hS)

theorem J.dcmp {γ : Gm} {μ : Mu} {R : Room} {Q : Fin_} {k n pc : Nat} {L : List (Option Value)} {rest : List Value} {P : Heap → Prop} {x y : UInt64} {op : CmpOp} (d : decode μ.2.1 pc = .ok (.dcmp op, 1)) (kk : J γ μ R Q k n (pc + 1) L (.int (Op.cmpValue (FP.dcmp x y) op) :: rest) P) : J γ μ R Q k n pc L (.double y :: .double x :: rest) P :=
  fun p l e s m args below meth c B H locs ls hL hP hS => lv_dcmp B.1 B.2.1 d (kk p l e s m args below meth c B H locs ls hL hP hS)

theorem J.fcmp {γ : Gm} {μ : Mu} {R : Room} {Q : Fin_} {k n pc : Nat} {L : List (Option Value)} {rest : List Value} {P : Heap → Prop} {x y : UInt32} {op : CmpOp} (d : decode μ.2.1 pc = .ok (.fcmp op, 1)) (kk : J γ μ R Q k n (pc + 1) L (.int (Op.cmpValue (FP.fcmp x y) op) :: rest) P) : J γ μ R Q k n pc L (.float y :: .float x :: rest) P :=
  fun p l e s m args below meth c B H locs ls hL hP hS => lv_fcmp B.1 B.2.1 d (kk p l e s m args below meth c B H locs ls hL hP hS)

theorem J.ldcf {γ : Gm} {μ : Mu} {R : Room} {Q : Fin_} {k n pc : Nat} {L : List (Option Value)} {rest : List Value} {P : Heap → Prop} {own : String} {index : Nat} {v : UInt32} (hown : μ.1 = own) (w : Cond.constantFloat own index v ∈ WSA) (d : decode μ.2.1 pc = .ok (.ldc index, 2)) (kk : J γ μ R Q k n (pc + 2) L (.float v :: rest) P) : J γ μ R Q k n pc L (rest) P :=
  fun p l e s m args below meth c B H locs ls hL hP hS => lv_ldcf B.1 B.2.1 (hown ▸ B.2.2.2.2.2.1) (B.2.2.2.2.2.2.1 _ w) d (kk p l e s m args below meth c B H locs ls hL hP hS)

theorem J.ldc2d {γ : Gm} {μ : Mu} {R : Room} {Q : Fin_} {k n pc : Nat} {L : List (Option Value)} {rest : List Value} {P : Heap → Prop} {own : String} {index : Nat} {v : UInt64} (hown : μ.1 = own) (w : Cond.constantDouble own index v ∈ WSA) (d : decode μ.2.1 pc = .ok (.ldc2_w index, 3)) (kk : J γ μ R Q k n (pc + 3) L (.double v :: rest) P) : J γ μ R Q k n pc L (rest) P :=
  fun p l e s m args below meth c B H locs ls hL hP hS => lv_ldc2d B.1 B.2.1 (hown ▸ B.2.2.2.2.2.1) (B.2.2.2.2.2.2.1 _ w) d (kk p l e s m args below meth c B H locs ls hL hP hS)

theorem J.dret {γ : Gm} {μ : Mu} {R : Room} {k n pc : Nat} {L : List (Option Value)} {P : Heap → Prop} {k0 n0 : Nat} {x : UInt64} {Po : Option Value → Heap → Prop} (d : decode μ.2.1 pc = .ok (.dreturn, 1)) (hr : μ.2.2.2.1 = some .double) (hk : k ≤ k0) (hn : n ≤ n0) (h : ∀ H, P H → Po (some (.double x)) H) : J γ μ R (fEv γ k0 n0 Po) k n pc L [.double x] P :=
  fun p l e s m args below meth c B H locs ls hL hP hS => W.widen hk hn (W.dret B.1 B.2.1 (B.2.2.2.1.trans hr) (fun t ht hW => ⟨_, rfl, by rw [ht]; exact h H hP, hS.F ht⟩) hS.2.2 d B.2.2.2.2.1)

theorem J.fret {γ : Gm} {μ : Mu} {R : Room} {k n pc : Nat} {L : List (Option Value)} {P : Heap → Prop} {k0 n0 : Nat} {x : UInt32} {Po : Option Value → Heap → Prop} (d : decode μ.2.1 pc = .ok (.freturn, 1)) (hr : μ.2.2.2.1 = some .float) (hk : k ≤ k0) (hn : n ≤ n0) (h : ∀ H, P H → Po (some (.float x)) H) : J γ μ R (fEv γ k0 n0 Po) k n pc L [.float x] P :=
  fun p l e s m args below meth c B H locs ls hL hP hS => W.widen hk hn (W.fret B.1 B.2.1 (B.2.2.2.1.trans hr) (fun t ht hW => ⟨_, rfl, by rw [ht]; exact h H hP, hS.F ht⟩) hS.2.2 d B.2.2.2.2.1)

/-- a mean of at most eight lots, at most 320 volumes: a number, and the same as itself -/
def okD (a b : Nat) : Bool := decide (FP.ddiv (FP.i2d (nI a)) (FP.i2d (nI b)) &&& 0x7fffffffffffffff ≤ 0x7ff0000000000000) && decide (FP.dcmp (FP.ddiv (FP.i2d (nI a)) (FP.i2d (nI b))) (FP.ddiv (FP.i2d (nI a)) (FP.i2d (nI b))) = some .eq)
def okF (a b : Nat) : Bool := decide (FP.fdiv (FP.i2f (nI a)) (FP.i2f (nI b)) &&& 0x7fffffff ≤ 0x7f800000) && decide (FP.fcmp (FP.fdiv (FP.i2f (nI a)) (FP.i2f (nI b))) (FP.fdiv (FP.i2f (nI a)) (FP.i2f (nI b))) = some .eq)
theorem okF_all : ∀ b, b < 8 → ∀ a, a < 9 → okF a (b + 1) = true := by decide +kernel
theorem okD_all : ∀ b, b < 8 → ∀ a, a < 321 → okD a (b + 1) = true := by decide +kernel
theorem okD_n {a b : Nat} (ha : a ≤ 320) (h0 : b ≠ 0) (h8 : b ≤ 8) : vf_n64 (FP.ddiv (FP.i2d (nI a)) (FP.i2d (nI b))) ∧ FP.dcmp (FP.ddiv (FP.i2d (nI a)) (FP.i2d (nI b))) (FP.ddiv (FP.i2d (nI a)) (FP.i2d (nI b))) = some .eq := by
  have h := okD_all (b - 1) (by omega) a (by omega)
  rw [show b - 1 + 1 = b by omega, okD, Bool.and_eq_true, decide_eq_true_iff, decide_eq_true_iff] at h
  exact h
theorem okF_n {a b : Nat} (ha : a ≤ 8) (h0 : b ≠ 0) (h8 : b ≤ 8) : vf_n32 (FP.fdiv (FP.i2f (nI a)) (FP.i2f (nI b))) ∧ FP.fcmp (FP.fdiv (FP.i2f (nI a)) (FP.i2f (nI b))) (FP.fdiv (FP.i2f (nI a)) (FP.i2f (nI b))) = some .eq := by
  have h := okF_all (b - 1) (by omega) a (by omega)
  rw [show b - 1 + 1 = b by omega, okF, Bool.and_eq_true, decide_eq_true_iff, decide_eq_true_iff] at h
  exact h
theorem okM : FP.dcmp 13830554455654793216 13830554455654793216 = some .eq ∧ FP.fcmp 3212836864 3212836864 = some .eq := by decide +kernel

theorem s_X11_meanVolume {γ : Gm} {v : Vs} {N : Nat} (hN : v (1 + 8) 7 = nI N) (h20 : N ≤ 20) {S : Nat} (hS : sm (fun i => decide (0 ≤ gPl v 1 (nI i))) (fun i => gVo v 1 (nI i)) N = nI S) (h320 : S ≤ 320) (hc8 : cn (fun i => decide (0 ≤ gPl v 1 (nI i))) N ≤ 8) : Xm γ mX11_meanVolume yX11_meanVolume 30 [.ref (gz γ + 0)] v (fun w H => cn (fun i => decide (0 ≤ gPl v 1 (nI i))) N ≠ 0 ∧ w = some (.double (FP.ddiv (FP.i2d (sm (fun i => decide (0 ≤ gPl v 1 (nI i))) (fun i => gVo v 1 (nI i)) N)) (FP.i2d (nI (cn (fun i => decide (0 ≤ gPl v 1 (nI i))) N))))) ∧ Rp γ v H) (fun E H => cn (fun i => decide (0 ≤ gPl v 1 (nI i))) N = 0 ∧ E = arE ∧ Rp γ v H) := by
  refine Ex.ofJ (by decide) rfl (fun h => by cases h) (Nat.le_of_ble_eq_true rfl) ?_
  refine J.aload_n (μ := mX11_meanVolume) (pc := 0) dX11_meanVolume_0 rfl ?_
  refine J.gr (μ := mX11_meanVolume) (pc := 1) (T := TX11) (ci := 14) (fks := _) rfl rfl in_X11 0 (by decide) wf_X11_10 dX11_meanVolume_1 sh0 rfl ?_
  refine J.gr (μ := mX11_meanVolume) (pc := 4) (T := TX9) (ci := 12) (fks := _) rfl rfl in_X9 1 (by decide) wf_X11_109 dX11_meanVolume_4 (st1 0 (by decide)) rfl ?_
  refine J.cV (μ := mX11_meanVolume) (pc := 7) (s_X5_shelvedCount st1 hN h20) rfl wm_X11_222 mi_X5_shelvedCount rfl dX11_meanVolume_7 (Rp.isa (T := TX5) rfl (st1 8 (by decide))) rfl rfl ⟨(Nat.le_of_ble_eq_true rfl), (Nat.le_of_ble_eq_true rfl)⟩ ⟨(Nat.le_of_ble_eq_true rfl), (Nat.le_of_ble_eq_true rfl)⟩ (Nat.le_of_ble_eq_true rfl) ?_
  refine J.istore_n (μ := mX11_meanVolume) (pc := 10) dX11_meanVolume_10 (Nat.le_of_ble_eq_true rfl) rfl ?_
  refine J.iload_n (μ := mX11_meanVolume) (pc := 11) dX11_meanVolume_11 rfl ?_
  refine J.if_ne (μ := mX11_meanVolume) (pc := 12) 25 dX11_meanVolume_12 (by decide) (fun h1 => ?_) (fun h1 => ?_)
  · have h2 : cn (fun i => decide (0 ≤ gPl v 1 (nI i))) N ≠ 0 := fun q => h1 (by rw [q]; rfl)
    refine J.toX ?_
    refine J.aload_n (μ := mX11_meanVolume) (pc := 25) dX11_meanVolume_25 rfl ?_
    refine J.gr (μ := mX11_meanVolume) (pc := 26) (T := TX11) (ci := 14) (fks := _) rfl rfl in_X11 0 (by decide) wf_X11_10 dX11_meanVolume_26 sh0 rfl ?_
    refine J.gr (μ := mX11_meanVolume) (pc := 29) (T := TX9) (ci := 12) (fks := _) rfl rfl in_X9 1 (by decide) wf_X11_109 dX11_meanVolume_29 (st1 0 (by decide)) rfl ?_
    refine J.cV (μ := mX11_meanVolume) (pc := 32) (s_X5_shelvedVolume st1 hN h20) rfl wm_X11_210 mi_X5_shelvedVolume rfl dX11_meanVolume_32 (Rp.isa (T := TX5) rfl (st1 8 (by decide))) rfl rfl ⟨(Nat.le_of_ble_eq_true rfl), (Nat.le_of_ble_eq_true rfl)⟩ ⟨(Nat.le_of_ble_eq_true rfl), (Nat.le_of_ble_eq_true rfl)⟩ (Nat.le_of_ble_eq_true rfl) ?_
    refine J.i2d (μ := mX11_meanVolume) (pc := 35) dX11_meanVolume_35 ?_
    refine J.iload_n (μ := mX11_meanVolume) (pc := 36) dX11_meanVolume_36 rfl ?_
    refine J.i2d (μ := mX11_meanVolume) (pc := 37) dX11_meanVolume_37 ?_
    refine J.ddiv (μ := mX11_meanVolume) (pc := 38) dX11_meanVolume_38 (by rw [hS]; exact (okD_n h320 h2 hc8).1) ?_
    exact J.dret (μ := mX11_meanVolume) (pc := 39) dX11_meanVolume_39 rfl (Nat.le_of_ble_eq_true rfl) (Nat.le_of_ble_eq_true rfl) (fun H h => ⟨h2, rfl, h⟩)
  · have h2 : cn (fun i => decide (0 ≤ gPl v 1 (nI i))) N = 0 := by
      have hc : cn (fun i => decide (0 ≤ gPl v 1 (nI i))) N ≤ 20 := Nat.le_trans (cn_le _ _) h20
      exact (nI_clamp (by omega)).symm.trans ((congrArg Int32.toNatClampNeg h1).trans (by decide))
    exact J.throwS (μ := mX11_meanVolume) (pc := 15) (names := nmE) (cls := arE) (si := 26) rfl (by decide) (by decide) wk_X11_225 wn_java_lang_ArithmeticException rfl tw_ar.1 tw_ar.2 dX11_meanVolume_15 dX11_meanVolume_18 dX11_meanVolume_19 dX11_meanVolume_21 dX11_meanVolume_24 rfl (Nat.le_of_ble_eq_true rfl) (Nat.le_of_ble_eq_true rfl) (Nat.le_of_ble_eq_true rfl) (Nat.le_of_ble_eq_true rfl) (Nat.le_of_ble_eq_true rfl) (Nat.le_of_ble_eq_true rfl) (fun H H' h hz hq => by have h := Rp.ext h hq; exact ⟨h2, rfl, h⟩)

theorem s_X11_expiredShare {γ : Gm} {v : Vs} {N : Nat} (hN : v (1 + 8) 7 = nI N) (h20 : N ≤ 20) (hx8 : cn (fun i => decide (0 ≤ gPl v 1 (nI i) ∧ gEp v 1 (nI i) < v 1 3)) N ≤ 8) (hc8 : cn (fun i => decide (0 ≤ gPl v 1 (nI i))) N ≤ 8) : Xm γ mX11_expiredShare yX11_expiredShare 30 [.ref (gz γ + 0)] v (fun w H => cn (fun i => decide (0 ≤ gPl v 1 (nI i))) N ≠ 0 ∧ w = some (.float (FP.fdiv (FP.i2f (nI (cn (fun i => decide (0 ≤ gPl v 1 (nI i) ∧ gEp v 1 (nI i) < v 1 3)) N))) (FP.i2f (nI (cn (fun i => decide (0 ≤ gPl v 1 (nI i))) N))))) ∧ Rp γ v H) (fun E H => cn (fun i => decide (0 ≤ gPl v 1 (nI i))) N = 0 ∧ E = arE ∧ Rp γ v H) := by
  refine Ex.ofJ (by decide) rfl (fun h => by cases h) (Nat.le_of_ble_eq_true rfl) ?_
  refine J.aload_n (μ := mX11_expiredShare) (pc := 0) dX11_expiredShare_0 rfl ?_
  refine J.gr (μ := mX11_expiredShare) (pc := 1) (T := TX11) (ci := 14) (fks := _) rfl rfl in_X11 0 (by decide) wf_X11_10 dX11_expiredShare_1 sh0 rfl ?_
  refine J.gr (μ := mX11_expiredShare) (pc := 4) (T := TX9) (ci := 12) (fks := _) rfl rfl in_X9 1 (by decide) wf_X11_109 dX11_expiredShare_4 (st1 0 (by decide)) rfl ?_
  refine J.cV (μ := mX11_expiredShare) (pc := 7) (s_X5_shelvedCount st1 hN h20) rfl wm_X11_222 mi_X5_shelvedCount rfl dX11_expiredShare_7 (Rp.isa (T := TX5) rfl (st1 8 (by decide))) rfl rfl ⟨(Nat.le_of_ble_eq_true rfl), (Nat.le_of_ble_eq_true rfl)⟩ ⟨(Nat.le_of_ble_eq_true rfl), (Nat.le_of_ble_eq_true rfl)⟩ (Nat.le_of_ble_eq_true rfl) ?_
  refine J.istore_n (μ := mX11_expiredShare) (pc := 10) dX11_expiredShare_10 (Nat.le_of_ble_eq_true rfl) rfl ?_
  refine J.iload_n (μ := mX11_expiredShare) (pc := 11) dX11_expiredShare_11 rfl ?_
  refine J.if_ne (μ := mX11_expiredShare) (pc := 12) 25 dX11_expiredShare_12 (by decide) (fun h1 => ?_) (fun h1 => ?_)
  · have h2 : cn (fun i => decide (0 ≤ gPl v 1 (nI i))) N ≠ 0 := fun q => h1 (by rw [q]; rfl)
    refine J.toX ?_
    refine J.aload_n (μ := mX11_expiredShare) (pc := 25) dX11_expiredShare_25 rfl ?_
    refine J.gr (μ := mX11_expiredShare) (pc := 26) (T := TX11) (ci := 14) (fks := _) rfl rfl in_X11 0 (by decide) wf_X11_10 dX11_expiredShare_26 sh0 rfl ?_
    refine J.cV (μ := mX11_expiredShare) (pc := 29) (s_X9_expiredCount st1 hN h20) rfl wm_X11_232 mi_X9_expiredCount rfl dX11_expiredShare_29 (Rp.isa (T := TX9) rfl (st1 0 (by decide))) rfl rfl ⟨(Nat.le_of_ble_eq_true rfl), (Nat.le_of_ble_eq_true rfl)⟩ ⟨(Nat.le_of_ble_eq_true rfl), (Nat.le_of_ble_eq_true rfl)⟩ (Nat.le_of_ble_eq_true rfl) ?_
    refine J.i2f (μ := mX11_expiredShare) (pc := 32) dX11_expiredShare_32 ?_
    refine J.iload_n (μ := mX11_expiredShare) (pc := 33) dX11_expiredShare_33 rfl ?_
    refine J.i2f (μ := mX11_expiredShare) (pc := 34) dX11_expiredShare_34 ?_
    refine J.fdiv (μ := mX11_expiredShare) (pc := 35) dX11_expiredShare_35 (okF_n hx8 h2 hc8).1 ?_
    exact J.fret (μ := mX11_expiredShare) (pc := 36) dX11_expiredShare_36 rfl (Nat.le_of_ble_eq_true rfl) (Nat.le_of_ble_eq_true rfl) (fun H h => ⟨h2, rfl, h⟩)
  · have h2 : cn (fun i => decide (0 ≤ gPl v 1 (nI i))) N = 0 := by
      have hc : cn (fun i => decide (0 ≤ gPl v 1 (nI i))) N ≤ 20 := Nat.le_trans (cn_le _ _) h20
      exact (nI_clamp (by omega)).symm.trans ((congrArg Int32.toNatClampNeg h1).trans (by decide))
    exact J.throwS (μ := mX11_expiredShare) (pc := 15) (names := nmE) (cls := arE) (si := 26) rfl (by decide) (by decide) wk_X11_225 wn_java_lang_ArithmeticException rfl tw_ar.1 tw_ar.2 dX11_expiredShare_15 dX11_expiredShare_18 dX11_expiredShare_19 dX11_expiredShare_21 dX11_expiredShare_24 rfl (Nat.le_of_ble_eq_true rfl) (Nat.le_of_ble_eq_true rfl) (Nat.le_of_ble_eq_true rfl) (Nat.le_of_ble_eq_true rfl) (Nat.le_of_ble_eq_true rfl) (Nat.le_of_ble_eq_true rfl) (fun H H' h hz hq => by have h := Rp.ext h hq; exact ⟨h2, rfl, h⟩)
