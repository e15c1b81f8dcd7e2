/-! the gate: what it says of a command, and the detail that it keeps -/
theorem J.iretP {γ : Gm} {μ : Mu} {R : Room} {k n pc : Nat} {L : List (Option Value)} {k0 n0 : Nat} {x : Int32} {w : Vs} {D : Int32 × Vs} (d : decode μ.2.1 pc = .ok (.ireturn, 1)) (hr : μ.2.2.2.1 = some .int) (hk : k ≤ k0) (hn : n ≤ n0) (e : D = (x, w)) : J γ μ R (fEv γ k0 n0 (fun r H => r = some (.int D.1) ∧ Rp γ D.2 H)) k n pc L [.int x] (Rp γ w) :=
  J.iret d hr hk hn (fun H h => by rw [e]; exact ⟨rfl, h⟩)
abbrev hasL (v : Vs) (o : Nat) (x : Int32) : Prop := 0 ≤ x ∧ x < v (o + 8) 7
abbrev hasS (v : Vs) (o : Nat) (x : Int32) : Prop := 0 ≤ x ∧ x < v (o + 1) 3
abbrev expd (v : Vs) (o : Nat) (x : Int32) : Prop := gEp v o x < v o 3
/-- the detail of a denial -/
def dt (v : Vs) (x : Int32) : Vs := up2 v 289 0 x
/-- how many lots are on shelves -/
def shN (v : Vs) (o N : Nat) : Nat := cn (fun i => decide (0 ≤ gPl v o (nI i))) N
def vdShelf (v : Vs) (o : Nat) (z c : Int32) : Int32 × Vs := if 0 ≤ z ∧ z ≤ 2 then if 1 ≤ c ∧ c ≤ 40 then if v (o + 1) 3 < 8 then (0, v) else (1, dt v 8) else (-3, v) else (-3, v)
def vdLim (v : Vs) (o : Nat) : Int32 × Vs := if v (o + 8) 7 < 20 then (0, v) else (1, dt v 20)
def vdBoth (v : Vs) (o N : Nat) : Int32 × Vs := if v (o + 8) 7 < 20 then if nI (shN v o N) < 8 then (0, v) else (1, dt v 8) else (1, dt v 20)
def vdRecv (v : Vs) (o N M : Nat) (k w z d : Int32) : Int32 × Vs := if 0 ≤ k ∧ k ≤ 5 then if 1 ≤ w ∧ w ≤ 40 then if 0 ≤ z ∧ z ≤ 2 then if 0 ≤ d ∧ d ≤ 99 then if v (o + 8) 7 < 20 then if nI (shN v o N) < 8 then if (pfs v o N z w (-1) (-1) M).1 = -1 then (2, dt v w) else (0, v) else (1, dt v 8) else (1, dt v 20) else (-3, v) else (-3, v) else (-3, v) else (-3, v)
def vdSplit (v : Vs) (o N : Nat) (x w : Int32) : Int32 × Vs := if hasL v o x then if 1 ≤ w ∧ w ≤ 40 then if 0 ≤ gPl v o x then if expd v o x then (3, dt v x) else if w < gVo v o x then if v (o + 8) 7 < 20 then if nI (shN v o N) < 8 then (0, v) else (1, dt v 8) else (1, dt v 20) else (6, dt v (gVo v o x)) else (5, dt v x) else (-3, v) else (-1, v)
def vdMix (v : Vs) (o N M : Nat) (x y : Int32) : Int32 × Vs := if hasL v o x then if hasL v o y then if x = y then (-3, v) else if 0 ≤ gPl v o x then if 0 ≤ gPl v o y then if expd v o x then (3, dt v x) else if expd v o y then (3, dt v y) else if gLz v o x = gLz v o y then if gKi v o x = gKi v o y then if v (o + 8) 7 < 20 then if (pfs v o N (gLz v o y) (gVo v o x + gVo v o y) x y M).1 = -1 then (2, dt v (gVo v o x + gVo v o y)) else (0, v) else (1, dt v 20) else (4, dt v (gLz v o y)) else (4, dt v (gLz v o y)) else (5, dt v y) else (5, dt v x) else (-1, v) else (-1, v)
def vdMove (v : Vs) (o N : Nat) (x y : Int32) : Int32 × Vs := if hasL v o x then if hasS v o y then if 0 ≤ gPl v o x then if expd v o x then (3, dt v x) else if gLz v o x = gZn v o y then if gVo v o x ≤ roomW v o N y x (-1) then (0, v) else (2, dt v (gVo v o x)) else (4, dt v (gZn v o y)) else (5, dt v x) else (-2, v) else (-1, v)
/-- the volume of a kind that can be shipped -/
def shpV (v : Vs) (o N : Nat) (k : Int32) : Int32 := sm (fun i => decide (shipP v o (nI i) k)) (fun i => gVo v o (nI i)) N
def vdShip (v : Vs) (o N : Nat) (k w : Int32) : Int32 × Vs := if 0 ≤ k ∧ k ≤ 5 then if 1 ≤ w ∧ w ≤ 99 then if w ≤ shpV v o N k then (0, v) else (6, dt v (shpV v o N k)) else (-3, v) else (-3, v)
def vdOf (v : Vs) (o N M : Nat) (c a b e f : Int32) : Int32 × Vs :=
  if c = 0 then vdShelf v o a b else if c = 1 then vdRecv v o N M a b e f else if c = 2 then vdSplit v o N a b else if c = 3 then vdMix v o N M a b else if c = 4 then vdMove v o N a b else if c = 5 then vdShip v o N a b
  else if c = 6 then (if hasL v o a then (0, v) else (-1, v)) else if c = 7 then (if 0 < v (o + 23) 1 then (0, v) else (7, dt v (nI (shN v o N)))) else if c = 8 then (if hasS v o a then (0, v) else (-2, v)) else (if 1 ≤ a ∧ a ≤ 99 then (0, v) else (-3, v))

theorem s_X3_deny {γ : Gm} {v : Vs} (x y : Int32) : Ew γ mX3_deny yX3_deny 0 [.ref (gz γ + 289), .int x, .int y] v (some (.int x)) (dt v y) := by
  refine Ev.ofJ (by decide) rfl (fun h => by cases h) (Nat.le_of_ble_eq_true rfl) ?_
  refine J.aload_n (μ := mX3_deny) (pc := 0) dX3_deny_0 rfl ?_
  refine J.iload_n (μ := mX3_deny) (pc := 1) dX3_deny_1 rfl ?_
  refine J.pi (μ := mX3_deny) (pc := 2) (T := TX3) (ci := 6) (ty0 := tyX3) (fks := _) rfl rfl in_X3 tyX3_ok nmX3 0 (by decide) wf_X3_9 dX3_deny_2 rfl rfl rfl sh289 rfl ?_
  refine J.iload_n (μ := mX3_deny) (pc := 5) dX3_deny_5 rfl ?_
  exact J.iret (μ := mX3_deny) (pc := 6) dX3_deny_6 rfl (Nat.le_of_ble_eq_true rfl) (Nat.le_of_ble_eq_true rfl) (fun H h => ⟨rfl, h⟩)
theorem s_X3_isWithin {γ : Gm} {v : Vs} (x y z : Int32) : Er γ mX3_isWithin yX3_isWithin 0 [.int x, .int y, .int z] v (.int (bi (decide (y ≤ x ∧ x ≤ z)))) := by
  refine Ev.ofJ (by decide) rfl (fun h => by cases h) (Nat.le_of_ble_eq_true rfl) ?_
  refine J.iload_n (μ := mX3_isWithin) (pc := 0) dX3_isWithin_0 rfl ?_
  refine J.iload_n (μ := mX3_isWithin) (pc := 1) dX3_isWithin_1 rfl ?_
  refine J.icmp_lt (μ := mX3_isWithin) (pc := 2) 14 dX3_isWithin_2 (by decide) (fun c3 => ?_) (fun c3 => ?_)
  · refine J.iconst (μ := mX3_isWithin) (pc := 14) (v := 0) dX3_isWithin_14 (by decide) ?_
    exact J.zret (μ := mX3_isWithin) (pc := 15) dX3_isWithin_15 rfl (by first | rfl | decide) (Nat.le_of_ble_eq_true rfl) (Nat.le_of_ble_eq_true rfl) (fun H h => ⟨congrArg some (congrArg Value.int (by first | (simp [bi, *]; done) | (simp [bi, nlt_of_le, nle_of_lt, *]; done) | (simp_all [bi, Int32.le_iff_toInt_le, Int32.lt_iff_toInt_lt]; omega))), h⟩)
  · refine J.iload_n (μ := mX3_isWithin) (pc := 5) dX3_isWithin_5 rfl ?_
    refine J.iload_n (μ := mX3_isWithin) (pc := 6) dX3_isWithin_6 rfl ?_
    refine J.icmp_gt (μ := mX3_isWithin) (pc := 7) 14 dX3_isWithin_7 (by decide) (fun c7 => ?_) (fun c7 => ?_)
    · refine J.iconst (μ := mX3_isWithin) (pc := 14) (v := 0) dX3_isWithin_14 (by decide) ?_
      exact J.zret (μ := mX3_isWithin) (pc := 15) dX3_isWithin_15 rfl (by first | rfl | decide) (Nat.le_of_ble_eq_true rfl) (Nat.le_of_ble_eq_true rfl) (fun H h => ⟨congrArg some (congrArg Value.int (by first | (simp [bi, *]; done) | (simp [bi, nlt_of_le, nle_of_lt, *]; done) | (simp_all [bi, Int32.le_iff_toInt_le, Int32.lt_iff_toInt_lt]; omega))), h⟩)
    · refine J.iconst (μ := mX3_isWithin) (pc := 10) (v := 1) dX3_isWithin_10 (by decide) ?_
      refine J.goto (μ := mX3_isWithin) (pc := 11) 15 dX3_isWithin_11 (by decide) ?_
      exact J.zret (μ := mX3_isWithin) (pc := 15) dX3_isWithin_15 rfl (by first | rfl | decide) (Nat.le_of_ble_eq_true rfl) (Nat.le_of_ble_eq_true rfl) (fun H h => ⟨congrArg some (congrArg Value.int (by first | (simp [bi, *]; done) | (simp [bi, nlt_of_le, nle_of_lt, *]; done) | (simp_all [bi, Int32.le_iff_toInt_le, Int32.lt_iff_toInt_lt]; omega))), h⟩)

theorem s_X3_onAddShelf {γ : Gm} {v : Vs} {o : Nat} (ho : IsStk o) (z c : Int32) : Ew γ mX3_onAddShelf yX3_onAddShelf 1 [.ref (gz γ + 289), .ref (gz γ + o), .int z, .int c] v (some (.int (vdShelf v o z c).1)) (vdShelf v o z c).2 := by
  refine Ev.ofJ (by decide) rfl (fun h => by cases h) (Nat.le_of_ble_eq_true rfl) ?_
  refine J.iload_n (μ := mX3_onAddShelf) (pc := 0) dX3_onAddShelf_0 rfl ?_
  refine J.iconst (μ := mX3_onAddShelf) (pc := 1) (v := 0) dX3_onAddShelf_1 (by decide) ?_
  refine J.iconst (μ := mX3_onAddShelf) (pc := 2) (v := 2) dX3_onAddShelf_2 (by decide) ?_
  refine J.cS (μ := mX3_onAddShelf) (pc := 3) (s_X3_isWithin _ _ _) rfl wm_X3_71 mi_X3_isWithin rfl dX3_onAddShelf_3 rfl rfl ⟨(Nat.le_of_ble_eq_true rfl), (Nat.le_of_ble_eq_true rfl)⟩ ⟨(Nat.le_of_ble_eq_true rfl), (Nat.le_of_ble_eq_true rfl)⟩ (Nat.le_of_ble_eq_true rfl) ?_
  refine J.ifB_eq (μ := mX3_onAddShelf) (pc := 6) 19 dX3_onAddShelf_6 (by decide) (fun c5 => ?_) (fun c5 => ?_)
  · refine J.bipush (μ := mX3_onAddShelf) (pc := 19) (v := -3) dX3_onAddShelf_19 (by decide) ?_
    exact J.iretP (μ := mX3_onAddShelf) (pc := 21) dX3_onAddShelf_21 rfl (Nat.le_of_ble_eq_true rfl) (Nat.le_of_ble_eq_true rfl) (by unfold vdShelf; (try clear hN); (try clear hM); first | rfl | (simp [hasL, hasS, expd, nlt_of_le, nle_of_lt, *]; done) | (simp_all [hasL, hasS, expd, nlt_of_le, nle_of_lt]; done))
  · refine J.iload_n (μ := mX3_onAddShelf) (pc := 9) dX3_onAddShelf_9 rfl ?_
    refine J.iconst (μ := mX3_onAddShelf) (pc := 10) (v := 1) dX3_onAddShelf_10 (by decide) ?_
    refine J.bipush (μ := mX3_onAddShelf) (pc := 11) (v := 40) dX3_onAddShelf_11 (by decide) ?_
    refine J.cS (μ := mX3_onAddShelf) (pc := 13) (s_X3_isWithin _ _ _) rfl wm_X3_71 mi_X3_isWithin rfl dX3_onAddShelf_13 rfl rfl ⟨(Nat.le_of_ble_eq_true rfl), (Nat.le_of_ble_eq_true rfl)⟩ ⟨(Nat.le_of_ble_eq_true rfl), (Nat.le_of_ble_eq_true rfl)⟩ (Nat.le_of_ble_eq_true rfl) ?_
    refine J.ifB_ne (μ := mX3_onAddShelf) (pc := 16) 22 dX3_onAddShelf_16 (by decide) (fun c11 => ?_) (fun c11 => ?_)
    · refine J.aload_n (μ := mX3_onAddShelf) (pc := 22) dX3_onAddShelf_22 rfl ?_
      refine J.gr (μ := mX3_onAddShelf) (pc := 23) (T := TX9) (ci := 12) (fks := _) rfl rfl in_X9 0 (by decide) wf_X3_64 dX3_onAddShelf_23 (ho 0 (by decide)) rfl ?_
      refine J.gi (μ := mX3_onAddShelf) (pc := 26) (T := TX8) (ci := 11) (fks := _) rfl rfl in_X8 3 (by decide) wf_X3_75 dX3_onAddShelf_26 (ho 1 (by decide)) rfl ?_
      refine J.bipush (μ := mX3_onAddShelf) (pc := 29) (v := 8) dX3_onAddShelf_29 (by decide) ?_
      refine J.icmp_ge (μ := mX3_onAddShelf) (pc := 31) 38 dX3_onAddShelf_31 (by decide) (fun c16 => ?_) (fun c16 => ?_)
      · refine J.aload_n (μ := mX3_onAddShelf) (pc := 38) dX3_onAddShelf_38 rfl ?_
        refine J.iconst (μ := mX3_onAddShelf) (pc := 39) (v := 1) dX3_onAddShelf_39 (by decide) ?_
        refine J.bipush (μ := mX3_onAddShelf) (pc := 40) (v := 8) dX3_onAddShelf_40 (by decide) ?_
        refine J.cV (μ := mX3_onAddShelf) (pc := 42) (s_X3_deny _ _) rfl wm_X3_60 mi_X3_deny rfl dX3_onAddShelf_42 (Rp.isa (T := TX3) rfl sh289) rfl rfl ⟨(Nat.le_of_ble_eq_true rfl), (Nat.le_of_ble_eq_true rfl)⟩ ⟨(Nat.le_of_ble_eq_true rfl), (Nat.le_of_ble_eq_true rfl)⟩ (Nat.le_of_ble_eq_true rfl) ?_
        exact J.iretP (μ := mX3_onAddShelf) (pc := 45) dX3_onAddShelf_45 rfl (Nat.le_of_ble_eq_true rfl) (Nat.le_of_ble_eq_true rfl) (by unfold vdShelf; (try clear hN); (try clear hM); first | rfl | (simp [hasL, hasS, expd, nlt_of_le, nle_of_lt, *]; done) | (simp_all [hasL, hasS, expd, nlt_of_le, nle_of_lt]; done))
      · refine J.iconst (μ := mX3_onAddShelf) (pc := 34) (v := 0) dX3_onAddShelf_34 (by decide) ?_
        refine J.goto (μ := mX3_onAddShelf) (pc := 35) 45 dX3_onAddShelf_35 (by decide) ?_
        exact J.iretP (μ := mX3_onAddShelf) (pc := 45) dX3_onAddShelf_45 rfl (Nat.le_of_ble_eq_true rfl) (Nat.le_of_ble_eq_true rfl) (by unfold vdShelf; (try clear hN); (try clear hM); first | rfl | (simp [hasL, hasS, expd, nlt_of_le, nle_of_lt, *]; done) | (simp_all [hasL, hasS, expd, nlt_of_le, nle_of_lt]; done))
    · refine J.bipush (μ := mX3_onAddShelf) (pc := 19) (v := -3) dX3_onAddShelf_19 (by decide) ?_
      exact J.iretP (μ := mX3_onAddShelf) (pc := 21) dX3_onAddShelf_21 rfl (Nat.le_of_ble_eq_true rfl) (Nat.le_of_ble_eq_true rfl) (by unfold vdShelf; (try clear hN); (try clear hM); first | rfl | (simp [hasL, hasS, expd, nlt_of_le, nle_of_lt, *]; done) | (simp_all [hasL, hasS, expd, nlt_of_le, nle_of_lt]; done))

theorem s_X3_onLotLimit {γ : Gm} {v : Vs} {o : Nat} (ho : IsStk o) : Ew γ mX3_onLotLimit yX3_onLotLimit 1 [.ref (gz γ + 289), .ref (gz γ + o)] v (some (.int (vdLim v o).1)) (vdLim v o).2 := by
  refine Ev.ofJ (by decide) rfl (fun h => by cases h) (Nat.le_of_ble_eq_true rfl) ?_
  refine J.aload_n (μ := mX3_onLotLimit) (pc := 0) dX3_onLotLimit_0 rfl ?_
  refine J.gr (μ := mX3_onLotLimit) (pc := 1) (T := TX9) (ci := 12) (fks := _) rfl rfl in_X9 1 (by decide) wf_X3_35 dX3_onLotLimit_1 (ho 0 (by decide)) rfl ?_
  refine J.gi (μ := mX3_onLotLimit) (pc := 4) (T := TX5) (ci := 8) (fks := _) rfl rfl in_X5 7 (by decide) wf_X3_84 dX3_onLotLimit_4 (ho 8 (by decide)) rfl ?_
  refine J.bipush (μ := mX3_onLotLimit) (pc := 7) (v := 20) dX3_onLotLimit_7 (by decide) ?_
  refine J.icmp_ge (μ := mX3_onLotLimit) (pc := 9) 16 dX3_onLotLimit_9 (by decide) (fun c5 => ?_) (fun c5 => ?_)
  · refine J.aload_n (μ := mX3_onLotLimit) (pc := 16) dX3_onLotLimit_16 rfl ?_
    refine J.iconst (μ := mX3_onLotLimit) (pc := 17) (v := 1) dX3_onLotLimit_17 (by decide) ?_
    refine J.bipush (μ := mX3_onLotLimit) (pc := 18) (v := 20) dX3_onLotLimit_18 (by decide) ?_
    refine J.cV (μ := mX3_onLotLimit) (pc := 20) (s_X3_deny _ _) rfl wm_X3_60 mi_X3_deny rfl dX3_onLotLimit_20 (Rp.isa (T := TX3) rfl sh289) rfl rfl ⟨(Nat.le_of_ble_eq_true rfl), (Nat.le_of_ble_eq_true rfl)⟩ ⟨(Nat.le_of_ble_eq_true rfl), (Nat.le_of_ble_eq_true rfl)⟩ (Nat.le_of_ble_eq_true rfl) ?_
    exact J.iretP (μ := mX3_onLotLimit) (pc := 23) dX3_onLotLimit_23 rfl (Nat.le_of_ble_eq_true rfl) (Nat.le_of_ble_eq_true rfl) (by unfold vdLim; (try clear hN); (try clear hM); first | rfl | (simp [hasL, hasS, expd, nlt_of_le, nle_of_lt, *]; done) | (simp_all [hasL, hasS, expd, nlt_of_le, nle_of_lt]; done))
  · refine J.iconst (μ := mX3_onLotLimit) (pc := 12) (v := 0) dX3_onLotLimit_12 (by decide) ?_
    refine J.goto (μ := mX3_onLotLimit) (pc := 13) 23 dX3_onLotLimit_13 (by decide) ?_
    exact J.iretP (μ := mX3_onLotLimit) (pc := 23) dX3_onLotLimit_23 rfl (Nat.le_of_ble_eq_true rfl) (Nat.le_of_ble_eq_true rfl) (by unfold vdLim; (try clear hN); (try clear hM); first | rfl | (simp [hasL, hasS, expd, nlt_of_le, nle_of_lt, *]; done) | (simp_all [hasL, hasS, expd, nlt_of_le, nle_of_lt]; done))

theorem s_X3_onLotLimit0 {γ : Gm} {v : Vs} {o : Nat} (ho : IsStk o) (h : v (o + 8) 7 < 20) : Ew γ mX3_onLotLimit yX3_onLotLimit 1 [.ref (gz γ + 289), .ref (gz γ + o)] v (some (.int 0)) v := by
  have := s_X3_onLotLimit (γ := γ) (v := v) ho
  rw [show vdLim v o = (0, v) from if_pos h] at this
  exact this
theorem s_X3_onLotLimit1 {γ : Gm} {v : Vs} {o : Nat} (ho : IsStk o) (h : ¬ v (o + 8) 7 < 20) : Ew γ mX3_onLotLimit yX3_onLotLimit 1 [.ref (gz γ + 289), .ref (gz γ + o)] v (some (.int 1)) (dt v 20) := by
  have := s_X3_onLotLimit (γ := γ) (v := v) ho
  rw [show vdLim v o = (1, dt v 20) from if_neg h] at this
  exact this
theorem s_X3_onBothLimits {γ : Gm} {v : Vs} {o : Nat} (ho : IsStk o) {N : Nat} (hN : v (o + 8) 7 = nI N) (h20 : N ≤ 20) : Ew γ mX3_onBothLimits yX3_onBothLimits 3 [.ref (gz γ + 289), .ref (gz γ + o)] v (some (.int (vdBoth v o N).1)) (vdBoth v o N).2 := by
  refine Ev.ofJ (by decide) rfl (fun h => by cases h) (Nat.le_of_ble_eq_true rfl) ?_
  by_cases hl : v (o + 8) 7 < 20
  · refine J.aload_n (μ := mX3_onBothLimits) (pc := 0) dX3_onBothLimits_0 rfl ?_
    refine J.aload_n (μ := mX3_onBothLimits) (pc := 1) dX3_onBothLimits_1 rfl ?_
    refine J.cV (μ := mX3_onBothLimits) (pc := 2) (s_X3_onLotLimit0 ho hl) rfl wm_X3_85 mi_X3_onLotLimit rfl dX3_onBothLimits_2 (Rp.isa (T := TX3) rfl sh289) rfl rfl ⟨(Nat.le_of_ble_eq_true rfl), (Nat.le_of_ble_eq_true rfl)⟩ ⟨(Nat.le_of_ble_eq_true rfl), (Nat.le_of_ble_eq_true rfl)⟩ (Nat.le_of_ble_eq_true rfl) ?_
    refine J.if_eq (μ := mX3_onBothLimits) (pc := 5) 10 dX3_onBothLimits_5 (by decide) (fun c2 => ?_) (fun c2 => absurd c2 (by decide))
    refine J.aload_n (μ := mX3_onBothLimits) (pc := 10) dX3_onBothLimits_10 rfl ?_
    refine J.gr (μ := mX3_onBothLimits) (pc := 11) (T := TX9) (ci := 12) (fks := _) rfl rfl in_X9 1 (by decide) wf_X3_35 dX3_onBothLimits_11 (ho 0 (by decide)) rfl ?_
    refine J.cV (μ := mX3_onBothLimits) (pc := 14) (s_X5_shelvedCount ho hN h20) rfl wm_X3_56 mi_X5_shelvedCount rfl dX3_onBothLimits_14 (Rp.isa (T := TX5) rfl (ho 8 (by decide))) rfl rfl ⟨(Nat.le_of_ble_eq_true rfl), (Nat.le_of_ble_eq_true rfl)⟩ ⟨(Nat.le_of_ble_eq_true rfl), (Nat.le_of_ble_eq_true rfl)⟩ (Nat.le_of_ble_eq_true rfl) ?_
    refine J.bipush (μ := mX3_onBothLimits) (pc := 17) (v := 8) dX3_onBothLimits_17 (by decide) ?_
    refine J.icmp_ge (μ := mX3_onBothLimits) (pc := 19) 26 dX3_onBothLimits_19 (by decide) (fun c7 => ?_) (fun c7 => ?_)
    · refine J.aload_n (μ := mX3_onBothLimits) (pc := 26) dX3_onBothLimits_26 rfl ?_
      refine J.iconst (μ := mX3_onBothLimits) (pc := 27) (v := 1) dX3_onBothLimits_27 (by decide) ?_
      refine J.bipush (μ := mX3_onBothLimits) (pc := 28) (v := 8) dX3_onBothLimits_28 (by decide) ?_
      refine J.cV (μ := mX3_onBothLimits) (pc := 30) (s_X3_deny _ _) rfl wm_X3_60 mi_X3_deny rfl dX3_onBothLimits_30 (Rp.isa (T := TX3) rfl sh289) rfl rfl ⟨(Nat.le_of_ble_eq_true rfl), (Nat.le_of_ble_eq_true rfl)⟩ ⟨(Nat.le_of_ble_eq_true rfl), (Nat.le_of_ble_eq_true rfl)⟩ (Nat.le_of_ble_eq_true rfl) ?_
      exact J.iretP (μ := mX3_onBothLimits) (pc := 33) dX3_onBothLimits_33 rfl (Nat.le_of_ble_eq_true rfl) (Nat.le_of_ble_eq_true rfl) (by unfold vdBoth shN; (try clear hN); (try clear hM); first | rfl | (simp [hasL, hasS, expd, nlt_of_le, nle_of_lt, *]; done) | (simp_all [hasL, hasS, expd, nlt_of_le, nle_of_lt]; done))
    · refine J.iconst (μ := mX3_onBothLimits) (pc := 22) (v := 0) dX3_onBothLimits_22 (by decide) ?_
      refine J.goto (μ := mX3_onBothLimits) (pc := 23) 33 dX3_onBothLimits_23 (by decide) ?_
      exact J.iretP (μ := mX3_onBothLimits) (pc := 33) dX3_onBothLimits_33 rfl (Nat.le_of_ble_eq_true rfl) (Nat.le_of_ble_eq_true rfl) (by unfold vdBoth shN; (try clear hN); (try clear hM); first | rfl | (simp [hasL, hasS, expd, nlt_of_le, nle_of_lt, *]; done) | (simp_all [hasL, hasS, expd, nlt_of_le, nle_of_lt]; done))
  · refine J.aload_n (μ := mX3_onBothLimits) (pc := 0) dX3_onBothLimits_0 rfl ?_
    refine J.aload_n (μ := mX3_onBothLimits) (pc := 1) dX3_onBothLimits_1 rfl ?_
    refine J.cV (μ := mX3_onBothLimits) (pc := 2) (s_X3_onLotLimit1 ho hl) rfl wm_X3_85 mi_X3_onLotLimit rfl dX3_onBothLimits_2 (Rp.isa (T := TX3) rfl sh289) rfl rfl ⟨(Nat.le_of_ble_eq_true rfl), (Nat.le_of_ble_eq_true rfl)⟩ ⟨(Nat.le_of_ble_eq_true rfl), (Nat.le_of_ble_eq_true rfl)⟩ (Nat.le_of_ble_eq_true rfl) ?_
    refine J.if_eq (μ := mX3_onBothLimits) (pc := 5) 10 dX3_onBothLimits_5 (by decide) (fun c2 => absurd c2 (by decide)) (fun c2 => ?_)
    refine J.iconst (μ := mX3_onBothLimits) (pc := 8) (v := 1) dX3_onBothLimits_8 (by decide) ?_
    exact J.iretP (μ := mX3_onBothLimits) (pc := 9) dX3_onBothLimits_9 rfl (Nat.le_of_ble_eq_true rfl) (Nat.le_of_ble_eq_true rfl) (by unfold vdBoth shN; (try clear hN); (try clear hM); first | rfl | (simp [hasL, hasS, expd, nlt_of_le, nle_of_lt, *]; done) | (simp_all [hasL, hasS, expd, nlt_of_le, nle_of_lt]; done))
theorem s_X3_onBoth0 {γ : Gm} {v : Vs} {o : Nat} (ho : IsStk o) {N : Nat} (hN : v (o + 8) 7 = nI N) (h20 : N ≤ 20) (hl : v (o + 8) 7 < 20) (h : nI (shN v o N) < 8) : Ew γ mX3_onBothLimits yX3_onBothLimits 3 [.ref (gz γ + 289), .ref (gz γ + o)] v (some (.int 0)) v := by
  have := s_X3_onBothLimits (γ := γ) (v := v) ho hN h20
  rw [show vdBoth v o N = (0, v) by unfold vdBoth; rw [if_pos hl, if_pos h]] at this
  exact this
theorem s_X3_onBoth1 {γ : Gm} {v : Vs} {o : Nat} (ho : IsStk o) {N : Nat} (hN : v (o + 8) 7 = nI N) (h20 : N ≤ 20) (hl : v (o + 8) 7 < 20) (h : ¬ nI (shN v o N) < 8) : Ew γ mX3_onBothLimits yX3_onBothLimits 3 [.ref (gz γ + 289), .ref (gz γ + o)] v (some (.int 1)) (dt v 8) := by
  have := s_X3_onBothLimits (γ := γ) (v := v) ho hN h20
  rw [show vdBoth v o N = (1, dt v 8) by unfold vdBoth; rw [if_pos hl, if_neg h]] at this
  exact this
theorem s_X3_onBoth2 {γ : Gm} {v : Vs} {o : Nat} (ho : IsStk o) {N : Nat} (hN : v (o + 8) 7 = nI N) (h20 : N ≤ 20) (hl : ¬ v (o + 8) 7 < 20) : Ew γ mX3_onBothLimits yX3_onBothLimits 3 [.ref (gz γ + 289), .ref (gz γ + o)] v (some (.int 1)) (dt v 20) := by
  have := s_X3_onBothLimits (γ := γ) (v := v) ho hN h20
  rw [show vdBoth v o N = (1, dt v 20) by unfold vdBoth; rw [if_neg hl]] at this
  exact this

theorem s_X3_onReceive {γ : Gm} {v : Vs} {o : Nat} (ho : IsStk o) {N M : Nat} (hN : v (o + 8) 7 = nI N) (h20 : N ≤ 20) (hM : v (o + 1) 3 = nI M) (h8 : M ≤ 8) (k w z d : Int32) : Ew γ mX3_onReceive yX3_onReceive 4 [.ref (gz γ + 289), .ref (gz γ + o), .int k, .int w, .int z, .int d] v (some (.int (vdRecv v o N M k w z d).1)) (vdRecv v o N M k w z d).2 := by
  refine Ev.ofJ (by decide) rfl (fun h => by cases h) (Nat.le_of_ble_eq_true rfl) ?_
  by_cases hl : v (o + 8) 7 < 20
  · by_cases hs : nI (shN v o N) < 8
    · refine J.iload_n (μ := mX3_onReceive) (pc := 0) dX3_onReceive_0 rfl ?_
      refine J.iconst (μ := mX3_onReceive) (pc := 1) (v := 0) dX3_onReceive_1 (by decide) ?_
      refine J.iconst (μ := mX3_onReceive) (pc := 2) (v := 5) dX3_onReceive_2 (by decide) ?_
      refine J.cS (μ := mX3_onReceive) (pc := 3) (s_X3_isWithin _ _ _) rfl wm_X3_71 mi_X3_isWithin rfl dX3_onReceive_3 rfl rfl ⟨(Nat.le_of_ble_eq_true rfl), (Nat.le_of_ble_eq_true rfl)⟩ ⟨(Nat.le_of_ble_eq_true rfl), (Nat.le_of_ble_eq_true rfl)⟩ (Nat.le_of_ble_eq_true rfl) ?_
      refine J.ifB_eq (μ := mX3_onReceive) (pc := 6) 40 dX3_onReceive_6 (by decide) (fun c5 => ?_) (fun c5 => ?_)
      · refine J.bipush (μ := mX3_onReceive) (pc := 40) (v := -3) dX3_onReceive_40 (by decide) ?_
        exact J.iretP (μ := mX3_onReceive) (pc := 42) dX3_onReceive_42 rfl (Nat.le_of_ble_eq_true rfl) (Nat.le_of_ble_eq_true rfl) (by unfold vdRecv; (try clear hN); (try clear hM); first | rfl | (simp [hasL, hasS, expd, nlt_of_le, nle_of_lt, *]; done) | (simp_all [hasL, hasS, expd, nlt_of_le, nle_of_lt]; done))
      · refine J.iload_n (μ := mX3_onReceive) (pc := 9) dX3_onReceive_9 rfl ?_
        refine J.iconst (μ := mX3_onReceive) (pc := 10) (v := 1) dX3_onReceive_10 (by decide) ?_
        refine J.bipush (μ := mX3_onReceive) (pc := 11) (v := 40) dX3_onReceive_11 (by decide) ?_
        refine J.cS (μ := mX3_onReceive) (pc := 13) (s_X3_isWithin _ _ _) rfl wm_X3_71 mi_X3_isWithin rfl dX3_onReceive_13 rfl rfl ⟨(Nat.le_of_ble_eq_true rfl), (Nat.le_of_ble_eq_true rfl)⟩ ⟨(Nat.le_of_ble_eq_true rfl), (Nat.le_of_ble_eq_true rfl)⟩ (Nat.le_of_ble_eq_true rfl) ?_
        refine J.ifB_eq (μ := mX3_onReceive) (pc := 16) 40 dX3_onReceive_16 (by decide) (fun c11 => ?_) (fun c11 => ?_)
        · refine J.bipush (μ := mX3_onReceive) (pc := 40) (v := -3) dX3_onReceive_40 (by decide) ?_
          exact J.iretP (μ := mX3_onReceive) (pc := 42) dX3_onReceive_42 rfl (Nat.le_of_ble_eq_true rfl) (Nat.le_of_ble_eq_true rfl) (by unfold vdRecv; (try clear hN); (try clear hM); first | rfl | (simp [hasL, hasS, expd, nlt_of_le, nle_of_lt, *]; done) | (simp_all [hasL, hasS, expd, nlt_of_le, nle_of_lt]; done))
        · refine J.iload (μ := mX3_onReceive) (pc := 19) dX3_onReceive_19 rfl ?_
          refine J.iconst (μ := mX3_onReceive) (pc := 21) (v := 0) dX3_onReceive_21 (by decide) ?_
          refine J.iconst (μ := mX3_onReceive) (pc := 22) (v := 2) dX3_onReceive_22 (by decide) ?_
          refine J.cS (μ := mX3_onReceive) (pc := 23) (s_X3_isWithin _ _ _) rfl wm_X3_71 mi_X3_isWithin rfl dX3_onReceive_23 rfl rfl ⟨(Nat.le_of_ble_eq_true rfl), (Nat.le_of_ble_eq_true rfl)⟩ ⟨(Nat.le_of_ble_eq_true rfl), (Nat.le_of_ble_eq_true rfl)⟩ (Nat.le_of_ble_eq_true rfl) ?_
          refine J.ifB_eq (μ := mX3_onReceive) (pc := 26) 40 dX3_onReceive_26 (by decide) (fun c17 => ?_) (fun c17 => ?_)
          · refine J.bipush (μ := mX3_onReceive) (pc := 40) (v := -3) dX3_onReceive_40 (by decide) ?_
            exact J.iretP (μ := mX3_onReceive) (pc := 42) dX3_onReceive_42 rfl (Nat.le_of_ble_eq_true rfl) (Nat.le_of_ble_eq_true rfl) (by unfold vdRecv; (try clear hN); (try clear hM); first | rfl | (simp [hasL, hasS, expd, nlt_of_le, nle_of_lt, *]; done) | (simp_all [hasL, hasS, expd, nlt_of_le, nle_of_lt]; done))
          · refine J.iload (μ := mX3_onReceive) (pc := 29) dX3_onReceive_29 rfl ?_
            refine J.iconst (μ := mX3_onReceive) (pc := 31) (v := 0) dX3_onReceive_31 (by decide) ?_
            refine J.bipush (μ := mX3_onReceive) (pc := 32) (v := 99) dX3_onReceive_32 (by decide) ?_
            refine J.cS (μ := mX3_onReceive) (pc := 34) (s_X3_isWithin _ _ _) rfl wm_X3_71 mi_X3_isWithin rfl dX3_onReceive_34 rfl rfl ⟨(Nat.le_of_ble_eq_true rfl), (Nat.le_of_ble_eq_true rfl)⟩ ⟨(Nat.le_of_ble_eq_true rfl), (Nat.le_of_ble_eq_true rfl)⟩ (Nat.le_of_ble_eq_true rfl) ?_
            refine J.ifB_ne (μ := mX3_onReceive) (pc := 37) 43 dX3_onReceive_37 (by decide) (fun c23 => ?_) (fun c23 => ?_)
            · refine J.aload_n (μ := mX3_onReceive) (pc := 43) dX3_onReceive_43 rfl ?_
              refine J.aload_n (μ := mX3_onReceive) (pc := 44) dX3_onReceive_44 rfl ?_
              refine J.cV (μ := mX3_onReceive) (pc := 45) (s_X3_onBoth0 ho hN h20 hl hs) rfl wm_X3_76 mi_X3_onBothLimits rfl dX3_onReceive_45 (Rp.isa (T := TX3) rfl sh289) rfl rfl ⟨(Nat.le_of_ble_eq_true rfl), (Nat.le_of_ble_eq_true rfl)⟩ ⟨(Nat.le_of_ble_eq_true rfl), (Nat.le_of_ble_eq_true rfl)⟩ (Nat.le_of_ble_eq_true rfl) ?_
              refine J.istore (μ := mX3_onReceive) (pc := 48) dX3_onReceive_48 (Nat.le_of_ble_eq_true rfl) rfl ?_
              refine J.iload (μ := mX3_onReceive) (pc := 50) dX3_onReceive_50 rfl ?_
              refine J.if_eq (μ := mX3_onReceive) (pc := 52) 58 dX3_onReceive_52 (by decide) (fun c29 => ?_) (fun c29 => absurd c29 (by decide))
              refine J.aload_n (μ := mX3_onReceive) (pc := 58) dX3_onReceive_58 rfl ?_
              refine J.iload (μ := mX3_onReceive) (pc := 59) dX3_onReceive_59 rfl ?_
              refine J.iload_n (μ := mX3_onReceive) (pc := 61) dX3_onReceive_61 rfl ?_
              refine J.iconst (μ := mX3_onReceive) (pc := 62) (v := -1) dX3_onReceive_62 (by decide) ?_
              refine J.iconst (μ := mX3_onReceive) (pc := 63) (v := -1) dX3_onReceive_63 (by decide) ?_
              refine J.cV (μ := mX3_onReceive) (pc := 64) (s_X9_placeFor ho hN h20 hM h8 _ _ _ _) rfl wm_X3_80 mi_X9_placeFor rfl dX3_onReceive_64 (Rp.isa (T := TX9) rfl (ho 0 (by decide))) rfl rfl ⟨(Nat.le_of_ble_eq_true rfl), (Nat.le_of_ble_eq_true rfl)⟩ ⟨(Nat.le_of_ble_eq_true rfl), (Nat.le_of_ble_eq_true rfl)⟩ (Nat.le_of_ble_eq_true rfl) ?_
              refine J.iconst (μ := mX3_onReceive) (pc := 67) (v := -1) dX3_onReceive_67 (by decide) ?_
              refine J.icmp_eq (μ := mX3_onReceive) (pc := 68) 75 dX3_onReceive_68 (by decide) (fun c37 => ?_) (fun c37 => ?_)
              · refine J.aload_n (μ := mX3_onReceive) (pc := 75) dX3_onReceive_75 rfl ?_
                refine J.iconst (μ := mX3_onReceive) (pc := 76) (v := 2) dX3_onReceive_76 (by decide) ?_
                refine J.iload_n (μ := mX3_onReceive) (pc := 77) dX3_onReceive_77 rfl ?_
                refine J.cV (μ := mX3_onReceive) (pc := 78) (s_X3_deny _ _) rfl wm_X3_60 mi_X3_deny rfl dX3_onReceive_78 (Rp.isa (T := TX3) rfl sh289) rfl rfl ⟨(Nat.le_of_ble_eq_true rfl), (Nat.le_of_ble_eq_true rfl)⟩ ⟨(Nat.le_of_ble_eq_true rfl), (Nat.le_of_ble_eq_true rfl)⟩ (Nat.le_of_ble_eq_true rfl) ?_
                exact J.iretP (μ := mX3_onReceive) (pc := 81) dX3_onReceive_81 rfl (Nat.le_of_ble_eq_true rfl) (Nat.le_of_ble_eq_true rfl) (by unfold vdRecv; (try clear hN); (try clear hM); first | rfl | (simp [hasL, hasS, expd, nlt_of_le, nle_of_lt, *]; done) | (simp_all [hasL, hasS, expd, nlt_of_le, nle_of_lt]; done))
              · refine J.iconst (μ := mX3_onReceive) (pc := 71) (v := 0) dX3_onReceive_71 (by decide) ?_
                refine J.goto (μ := mX3_onReceive) (pc := 72) 81 dX3_onReceive_72 (by decide) ?_
                exact J.iretP (μ := mX3_onReceive) (pc := 81) dX3_onReceive_81 rfl (Nat.le_of_ble_eq_true rfl) (Nat.le_of_ble_eq_true rfl) (by unfold vdRecv; (try clear hN); (try clear hM); first | rfl | (simp [hasL, hasS, expd, nlt_of_le, nle_of_lt, *]; done) | (simp_all [hasL, hasS, expd, nlt_of_le, nle_of_lt]; done))
            · refine J.bipush (μ := mX3_onReceive) (pc := 40) (v := -3) dX3_onReceive_40 (by decide) ?_
              exact J.iretP (μ := mX3_onReceive) (pc := 42) dX3_onReceive_42 rfl (Nat.le_of_ble_eq_true rfl) (Nat.le_of_ble_eq_true rfl) (by unfold vdRecv; (try clear hN); (try clear hM); first | rfl | (simp [hasL, hasS, expd, nlt_of_le, nle_of_lt, *]; done) | (simp_all [hasL, hasS, expd, nlt_of_le, nle_of_lt]; done))
    · refine J.iload_n (μ := mX3_onReceive) (pc := 0) dX3_onReceive_0 rfl ?_
      refine J.iconst (μ := mX3_onReceive) (pc := 1) (v := 0) dX3_onReceive_1 (by decide) ?_
      refine J.iconst (μ := mX3_onReceive) (pc := 2) (v := 5) dX3_onReceive_2 (by decide) ?_
      refine J.cS (μ := mX3_onReceive) (pc := 3) (s_X3_isWithin _ _ _) rfl wm_X3_71 mi_X3_isWithin rfl dX3_onReceive_3 rfl rfl ⟨(Nat.le_of_ble_eq_true rfl), (Nat.le_of_ble_eq_true rfl)⟩ ⟨(Nat.le_of_ble_eq_true rfl), (Nat.le_of_ble_eq_true rfl)⟩ (Nat.le_of_ble_eq_true rfl) ?_
      refine J.ifB_eq (μ := mX3_onReceive) (pc := 6) 40 dX3_onReceive_6 (by decide) (fun c5 => ?_) (fun c5 => ?_)
      · refine J.bipush (μ := mX3_onReceive) (pc := 40) (v := -3) dX3_onReceive_40 (by decide) ?_
        exact J.iretP (μ := mX3_onReceive) (pc := 42) dX3_onReceive_42 rfl (Nat.le_of_ble_eq_true rfl) (Nat.le_of_ble_eq_true rfl) (by unfold vdRecv; (try clear hN); (try clear hM); first | rfl | (simp [hasL, hasS, expd, nlt_of_le, nle_of_lt, *]; done) | (simp_all [hasL, hasS, expd, nlt_of_le, nle_of_lt]; done))
      · refine J.iload_n (μ := mX3_onReceive) (pc := 9) dX3_onReceive_9 rfl ?_
        refine J.iconst (μ := mX3_onReceive) (pc := 10) (v := 1) dX3_onReceive_10 (by decide) ?_
        refine J.bipush (μ := mX3_onReceive) (pc := 11) (v := 40) dX3_onReceive_11 (by decide) ?_
        refine J.cS (μ := mX3_onReceive) (pc := 13) (s_X3_isWithin _ _ _) rfl wm_X3_71 mi_X3_isWithin rfl dX3_onReceive_13 rfl rfl ⟨(Nat.le_of_ble_eq_true rfl), (Nat.le_of_ble_eq_true rfl)⟩ ⟨(Nat.le_of_ble_eq_true rfl), (Nat.le_of_ble_eq_true rfl)⟩ (Nat.le_of_ble_eq_true rfl) ?_
        refine J.ifB_eq (μ := mX3_onReceive) (pc := 16) 40 dX3_onReceive_16 (by decide) (fun c11 => ?_) (fun c11 => ?_)
        · refine J.bipush (μ := mX3_onReceive) (pc := 40) (v := -3) dX3_onReceive_40 (by decide) ?_
          exact J.iretP (μ := mX3_onReceive) (pc := 42) dX3_onReceive_42 rfl (Nat.le_of_ble_eq_true rfl) (Nat.le_of_ble_eq_true rfl) (by unfold vdRecv; (try clear hN); (try clear hM); first | rfl | (simp [hasL, hasS, expd, nlt_of_le, nle_of_lt, *]; done) | (simp_all [hasL, hasS, expd, nlt_of_le, nle_of_lt]; done))
        · refine J.iload (μ := mX3_onReceive) (pc := 19) dX3_onReceive_19 rfl ?_
          refine J.iconst (μ := mX3_onReceive) (pc := 21) (v := 0) dX3_onReceive_21 (by decide) ?_
          refine J.iconst (μ := mX3_onReceive) (pc := 22) (v := 2) dX3_onReceive_22 (by decide) ?_
          refine J.cS (μ := mX3_onReceive) (pc := 23) (s_X3_isWithin _ _ _) rfl wm_X3_71 mi_X3_isWithin rfl dX3_onReceive_23 rfl rfl ⟨(Nat.le_of_ble_eq_true rfl), (Nat.le_of_ble_eq_true rfl)⟩ ⟨(Nat.le_of_ble_eq_true rfl), (Nat.le_of_ble_eq_true rfl)⟩ (Nat.le_of_ble_eq_true rfl) ?_
          refine J.ifB_eq (μ := mX3_onReceive) (pc := 26) 40 dX3_onReceive_26 (by decide) (fun c17 => ?_) (fun c17 => ?_)
          · refine J.bipush (μ := mX3_onReceive) (pc := 40) (v := -3) dX3_onReceive_40 (by decide) ?_
            exact J.iretP (μ := mX3_onReceive) (pc := 42) dX3_onReceive_42 rfl (Nat.le_of_ble_eq_true rfl) (Nat.le_of_ble_eq_true rfl) (by unfold vdRecv; (try clear hN); (try clear hM); first | rfl | (simp [hasL, hasS, expd, nlt_of_le, nle_of_lt, *]; done) | (simp_all [hasL, hasS, expd, nlt_of_le, nle_of_lt]; done))
          · refine J.iload (μ := mX3_onReceive) (pc := 29) dX3_onReceive_29 rfl ?_
            refine J.iconst (μ := mX3_onReceive) (pc := 31) (v := 0) dX3_onReceive_31 (by decide) ?_
            refine J.bipush (μ := mX3_onReceive) (pc := 32) (v := 99) dX3_onReceive_32 (by decide) ?_
            refine J.cS (μ := mX3_onReceive) (pc := 34) (s_X3_isWithin _ _ _) rfl wm_X3_71 mi_X3_isWithin rfl dX3_onReceive_34 rfl rfl ⟨(Nat.le_of_ble_eq_true rfl), (Nat.le_of_ble_eq_true rfl)⟩ ⟨(Nat.le_of_ble_eq_true rfl), (Nat.le_of_ble_eq_true rfl)⟩ (Nat.le_of_ble_eq_true rfl) ?_
            refine J.ifB_ne (μ := mX3_onReceive) (pc := 37) 43 dX3_onReceive_37 (by decide) (fun c23 => ?_) (fun c23 => ?_)
            · refine J.aload_n (μ := mX3_onReceive) (pc := 43) dX3_onReceive_43 rfl ?_
              refine J.aload_n (μ := mX3_onReceive) (pc := 44) dX3_onReceive_44 rfl ?_
              refine J.cV (μ := mX3_onReceive) (pc := 45) (s_X3_onBoth1 ho hN h20 hl hs) rfl wm_X3_76 mi_X3_onBothLimits rfl dX3_onReceive_45 (Rp.isa (T := TX3) rfl sh289) rfl rfl ⟨(Nat.le_of_ble_eq_true rfl), (Nat.le_of_ble_eq_true rfl)⟩ ⟨(Nat.le_of_ble_eq_true rfl), (Nat.le_of_ble_eq_true rfl)⟩ (Nat.le_of_ble_eq_true rfl) ?_
              refine J.istore (μ := mX3_onReceive) (pc := 48) dX3_onReceive_48 (Nat.le_of_ble_eq_true rfl) rfl ?_
              refine J.iload (μ := mX3_onReceive) (pc := 50) dX3_onReceive_50 rfl ?_
              refine J.if_eq (μ := mX3_onReceive) (pc := 52) 58 dX3_onReceive_52 (by decide) (fun c29 => absurd c29 (by decide)) (fun c29 => ?_)
              refine J.iload (μ := mX3_onReceive) (pc := 55) dX3_onReceive_55 rfl ?_
              exact J.iretP (μ := mX3_onReceive) (pc := 57) dX3_onReceive_57 rfl (Nat.le_of_ble_eq_true rfl) (Nat.le_of_ble_eq_true rfl) (by unfold vdRecv; (try clear hN); (try clear hM); first | rfl | (simp [hasL, hasS, expd, nlt_of_le, nle_of_lt, *]; done) | (simp_all [hasL, hasS, expd, nlt_of_le, nle_of_lt]; done))
            · refine J.bipush (μ := mX3_onReceive) (pc := 40) (v := -3) dX3_onReceive_40 (by decide) ?_
              exact J.iretP (μ := mX3_onReceive) (pc := 42) dX3_onReceive_42 rfl (Nat.le_of_ble_eq_true rfl) (Nat.le_of_ble_eq_true rfl) (by unfold vdRecv; (try clear hN); (try clear hM); first | rfl | (simp [hasL, hasS, expd, nlt_of_le, nle_of_lt, *]; done) | (simp_all [hasL, hasS, expd, nlt_of_le, nle_of_lt]; done))
  · refine J.iload_n (μ := mX3_onReceive) (pc := 0) dX3_onReceive_0 rfl ?_
    refine J.iconst (μ := mX3_onReceive) (pc := 1) (v := 0) dX3_onReceive_1 (by decide) ?_
    refine J.iconst (μ := mX3_onReceive) (pc := 2) (v := 5) dX3_onReceive_2 (by decide) ?_
    refine J.cS (μ := mX3_onReceive) (pc := 3) (s_X3_isWithin _ _ _) rfl wm_X3_71 mi_X3_isWithin rfl dX3_onReceive_3 rfl rfl ⟨(Nat.le_of_ble_eq_true rfl), (Nat.le_of_ble_eq_true rfl)⟩ ⟨(Nat.le_of_ble_eq_true rfl), (Nat.le_of_ble_eq_true rfl)⟩ (Nat.le_of_ble_eq_true rfl) ?_
    refine J.ifB_eq (μ := mX3_onReceive) (pc := 6) 40 dX3_onReceive_6 (by decide) (fun c5 => ?_) (fun c5 => ?_)
    · refine J.bipush (μ := mX3_onReceive) (pc := 40) (v := -3) dX3_onReceive_40 (by decide) ?_
      exact J.iretP (μ := mX3_onReceive) (pc := 42) dX3_onReceive_42 rfl (Nat.le_of_ble_eq_true rfl) (Nat.le_of_ble_eq_true rfl) (by unfold vdRecv; (try clear hN); (try clear hM); first | rfl | (simp [hasL, hasS, expd, nlt_of_le, nle_of_lt, *]; done) | (simp_all [hasL, hasS, expd, nlt_of_le, nle_of_lt]; done))
    · refine J.iload_n (μ := mX3_onReceive) (pc := 9) dX3_onReceive_9 rfl ?_
      refine J.iconst (μ := mX3_onReceive) (pc := 10) (v := 1) dX3_onReceive_10 (by decide) ?_
      refine J.bipush (μ := mX3_onReceive) (pc := 11) (v := 40) dX3_onReceive_11 (by decide) ?_
      refine J.cS (μ := mX3_onReceive) (pc := 13) (s_X3_isWithin _ _ _) rfl wm_X3_71 mi_X3_isWithin rfl dX3_onReceive_13 rfl rfl ⟨(Nat.le_of_ble_eq_true rfl), (Nat.le_of_ble_eq_true rfl)⟩ ⟨(Nat.le_of_ble_eq_true rfl), (Nat.le_of_ble_eq_true rfl)⟩ (Nat.le_of_ble_eq_true rfl) ?_
      refine J.ifB_eq (μ := mX3_onReceive) (pc := 16) 40 dX3_onReceive_16 (by decide) (fun c11 => ?_) (fun c11 => ?_)
      · refine J.bipush (μ := mX3_onReceive) (pc := 40) (v := -3) dX3_onReceive_40 (by decide) ?_
        exact J.iretP (μ := mX3_onReceive) (pc := 42) dX3_onReceive_42 rfl (Nat.le_of_ble_eq_true rfl) (Nat.le_of_ble_eq_true rfl) (by unfold vdRecv; (try clear hN); (try clear hM); first | rfl | (simp [hasL, hasS, expd, nlt_of_le, nle_of_lt, *]; done) | (simp_all [hasL, hasS, expd, nlt_of_le, nle_of_lt]; done))
      · refine J.iload (μ := mX3_onReceive) (pc := 19) dX3_onReceive_19 rfl ?_
        refine J.iconst (μ := mX3_onReceive) (pc := 21) (v := 0) dX3_onReceive_21 (by decide) ?_
        refine J.iconst (μ := mX3_onReceive) (pc := 22) (v := 2) dX3_onReceive_22 (by decide) ?_
        refine J.cS (μ := mX3_onReceive) (pc := 23) (s_X3_isWithin _ _ _) rfl wm_X3_71 mi_X3_isWithin rfl dX3_onReceive_23 rfl rfl ⟨(Nat.le_of_ble_eq_true rfl), (Nat.le_of_ble_eq_true rfl)⟩ ⟨(Nat.le_of_ble_eq_true rfl), (Nat.le_of_ble_eq_true rfl)⟩ (Nat.le_of_ble_eq_true rfl) ?_
        refine J.ifB_eq (μ := mX3_onReceive) (pc := 26) 40 dX3_onReceive_26 (by decide) (fun c17 => ?_) (fun c17 => ?_)
        · refine J.bipush (μ := mX3_onReceive) (pc := 40) (v := -3) dX3_onReceive_40 (by decide) ?_
          exact J.iretP (μ := mX3_onReceive) (pc := 42) dX3_onReceive_42 rfl (Nat.le_of_ble_eq_true rfl) (Nat.le_of_ble_eq_true rfl) (by unfold vdRecv; (try clear hN); (try clear hM); first | rfl | (simp [hasL, hasS, expd, nlt_of_le, nle_of_lt, *]; done) | (simp_all [hasL, hasS, expd, nlt_of_le, nle_of_lt]; done))
        · refine J.iload (μ := mX3_onReceive) (pc := 29) dX3_onReceive_29 rfl ?_
          refine J.iconst (μ := mX3_onReceive) (pc := 31) (v := 0) dX3_onReceive_31 (by decide) ?_
          refine J.bipush (μ := mX3_onReceive) (pc := 32) (v := 99) dX3_onReceive_32 (by decide) ?_
          refine J.cS (μ := mX3_onReceive) (pc := 34) (s_X3_isWithin _ _ _) rfl wm_X3_71 mi_X3_isWithin rfl dX3_onReceive_34 rfl rfl ⟨(Nat.le_of_ble_eq_true rfl), (Nat.le_of_ble_eq_true rfl)⟩ ⟨(Nat.le_of_ble_eq_true rfl), (Nat.le_of_ble_eq_true rfl)⟩ (Nat.le_of_ble_eq_true rfl) ?_
          refine J.ifB_ne (μ := mX3_onReceive) (pc := 37) 43 dX3_onReceive_37 (by decide) (fun c23 => ?_) (fun c23 => ?_)
          · refine J.aload_n (μ := mX3_onReceive) (pc := 43) dX3_onReceive_43 rfl ?_
            refine J.aload_n (μ := mX3_onReceive) (pc := 44) dX3_onReceive_44 rfl ?_
            refine J.cV (μ := mX3_onReceive) (pc := 45) (s_X3_onBoth2 ho hN h20 hl) rfl wm_X3_76 mi_X3_onBothLimits rfl dX3_onReceive_45 (Rp.isa (T := TX3) rfl sh289) rfl rfl ⟨(Nat.le_of_ble_eq_true rfl), (Nat.le_of_ble_eq_true rfl)⟩ ⟨(Nat.le_of_ble_eq_true rfl), (Nat.le_of_ble_eq_true rfl)⟩ (Nat.le_of_ble_eq_true rfl) ?_
            refine J.istore (μ := mX3_onReceive) (pc := 48) dX3_onReceive_48 (Nat.le_of_ble_eq_true rfl) rfl ?_
            refine J.iload (μ := mX3_onReceive) (pc := 50) dX3_onReceive_50 rfl ?_
            refine J.if_eq (μ := mX3_onReceive) (pc := 52) 58 dX3_onReceive_52 (by decide) (fun c29 => absurd c29 (by decide)) (fun c29 => ?_)
            refine J.iload (μ := mX3_onReceive) (pc := 55) dX3_onReceive_55 rfl ?_
            exact J.iretP (μ := mX3_onReceive) (pc := 57) dX3_onReceive_57 rfl (Nat.le_of_ble_eq_true rfl) (Nat.le_of_ble_eq_true rfl) (by unfold vdRecv; (try clear hN); (try clear hM); first | rfl | (simp [hasL, hasS, expd, nlt_of_le, nle_of_lt, *]; done) | (simp_all [hasL, hasS, expd, nlt_of_le, nle_of_lt]; done))
          · refine J.bipush (μ := mX3_onReceive) (pc := 40) (v := -3) dX3_onReceive_40 (by decide) ?_
            exact J.iretP (μ := mX3_onReceive) (pc := 42) dX3_onReceive_42 rfl (Nat.le_of_ble_eq_true rfl) (Nat.le_of_ble_eq_true rfl) (by unfold vdRecv; (try clear hN); (try clear hM); first | rfl | (simp [hasL, hasS, expd, nlt_of_le, nle_of_lt, *]; done) | (simp_all [hasL, hasS, expd, nlt_of_le, nle_of_lt]; done))

theorem s_X3_onSplit {γ : Gm} {v : Vs} {o : Nat} (ho : IsStk o) {N : Nat} (hN : v (o + 8) 7 = nI N) (h20 : N ≤ 20) (x w : Int32) : Ew γ mX3_onSplit yX3_onSplit 4 [.ref (gz γ + 289), .ref (gz γ + o), .int x, .int w] v (some (.int (vdSplit v o N x w).1)) (vdSplit v o N x w).2 := by
  refine Ev.ofJ (by decide) rfl (fun h => by cases h) (Nat.le_of_ble_eq_true rfl) ?_
  by_cases hl : v (o + 8) 7 < 20
  · by_cases hs : nI (shN v o N) < 8
    · refine J.aload_n (μ := mX3_onSplit) (pc := 0) dX3_onSplit_0 rfl ?_
      refine J.gr (μ := mX3_onSplit) (pc := 1) (T := TX9) (ci := 12) (fks := _) rfl rfl in_X9 1 (by decide) wf_X3_35 dX3_onSplit_1 (ho 0 (by decide)) rfl ?_
      refine J.iload_n (μ := mX3_onSplit) (pc := 4) dX3_onSplit_4 rfl ?_
      refine J.cV (μ := mX3_onSplit) (pc := 5) (s_X5_has ho  _) rfl wm_X3_41 mi_X5_has rfl dX3_onSplit_5 (Rp.isa (T := TX5) rfl (ho 8 (by decide))) rfl rfl ⟨(Nat.le_of_ble_eq_true rfl), (Nat.le_of_ble_eq_true rfl)⟩ ⟨(Nat.le_of_ble_eq_true rfl), (Nat.le_of_ble_eq_true rfl)⟩ (Nat.le_of_ble_eq_true rfl) ?_
      refine J.ifB_ne (μ := mX3_onSplit) (pc := 8) 13 dX3_onSplit_8 (by decide) (fun c5 => ?_) (fun c5 => ?_)
      · refine J.iload_n (μ := mX3_onSplit) (pc := 13) dX3_onSplit_13 rfl ?_
        refine J.iconst (μ := mX3_onSplit) (pc := 14) (v := 1) dX3_onSplit_14 (by decide) ?_
        refine J.bipush (μ := mX3_onSplit) (pc := 15) (v := 40) dX3_onSplit_15 (by decide) ?_
        refine J.cS (μ := mX3_onSplit) (pc := 17) (s_X3_isWithin _ _ _) rfl wm_X3_71 mi_X3_isWithin rfl dX3_onSplit_17 rfl rfl ⟨(Nat.le_of_ble_eq_true rfl), (Nat.le_of_ble_eq_true rfl)⟩ ⟨(Nat.le_of_ble_eq_true rfl), (Nat.le_of_ble_eq_true rfl)⟩ (Nat.le_of_ble_eq_true rfl) ?_
        refine J.ifB_ne (μ := mX3_onSplit) (pc := 20) 26 dX3_onSplit_20 (by decide) (fun c10 => ?_) (fun c10 => ?_)
        · refine J.aload_n (μ := mX3_onSplit) (pc := 26) dX3_onSplit_26 rfl ?_
          refine J.gr (μ := mX3_onSplit) (pc := 27) (T := TX9) (ci := 12) (fks := _) rfl rfl in_X9 1 (by decide) wf_X3_35 dX3_onSplit_27 (ho 0 (by decide)) rfl ?_
          refine J.iload_n (μ := mX3_onSplit) (pc := 30) dX3_onSplit_30 rfl ?_
          refine J.cV (μ := mX3_onSplit) (pc := 31) (s_X5_isShelved ho  _) rfl wm_X3_88 mi_X5_isShelved rfl dX3_onSplit_31 (Rp.isa (T := TX5) rfl (ho 8 (by decide))) rfl rfl ⟨(Nat.le_of_ble_eq_true rfl), (Nat.le_of_ble_eq_true rfl)⟩ ⟨(Nat.le_of_ble_eq_true rfl), (Nat.le_of_ble_eq_true rfl)⟩ (Nat.le_of_ble_eq_true rfl) ?_
          refine J.ifB_ne (μ := mX3_onSplit) (pc := 34) 44 dX3_onSplit_34 (by decide) (fun c15 => ?_) (fun c15 => ?_)
          · refine J.aload_n (μ := mX3_onSplit) (pc := 44) dX3_onSplit_44 rfl ?_
            refine J.iload_n (μ := mX3_onSplit) (pc := 45) dX3_onSplit_45 rfl ?_
            refine J.cV (μ := mX3_onSplit) (pc := 46) (s_X9_hasExpired ho  _) rfl wm_X3_91 mi_X9_hasExpired rfl dX3_onSplit_46 (Rp.isa (T := TX9) rfl (ho 0 (by decide))) rfl rfl ⟨(Nat.le_of_ble_eq_true rfl), (Nat.le_of_ble_eq_true rfl)⟩ ⟨(Nat.le_of_ble_eq_true rfl), (Nat.le_of_ble_eq_true rfl)⟩ (Nat.le_of_ble_eq_true rfl) ?_
            refine J.ifB_eq (μ := mX3_onSplit) (pc := 49) 59 dX3_onSplit_49 (by decide) (fun c19 => ?_) (fun c19 => ?_)
            · refine J.aload_n (μ := mX3_onSplit) (pc := 59) dX3_onSplit_59 rfl ?_
              refine J.gr (μ := mX3_onSplit) (pc := 60) (T := TX9) (ci := 12) (fks := _) rfl rfl in_X9 1 (by decide) wf_X3_35 dX3_onSplit_60 (ho 0 (by decide)) rfl ?_
              refine J.gr (μ := mX3_onSplit) (pc := 63) (T := TX5) (ci := 8) (fks := _) rfl rfl in_X5 2 (by decide) wf_X3_94 dX3_onSplit_63 (ho 8 (by decide)) rfl ?_
              refine J.iload_n (μ := mX3_onSplit) (pc := 66) dX3_onSplit_66 rfl ?_
              refine J.cV (μ := mX3_onSplit) (pc := 67) (g_vo ho _) rfl wm_X3_98 mi_X7_get rfl dX3_onSplit_67 (Rp.isa (T := TX7) rfl (ho 13 (by decide))) rfl rfl ⟨(Nat.le_of_ble_eq_true rfl), (Nat.le_of_ble_eq_true rfl)⟩ ⟨(Nat.le_of_ble_eq_true rfl), (Nat.le_of_ble_eq_true rfl)⟩ (Nat.le_of_ble_eq_true rfl) ?_
              refine J.istore (μ := mX3_onSplit) (pc := 70) dX3_onSplit_70 (Nat.le_of_ble_eq_true rfl) rfl ?_
              refine J.iload (μ := mX3_onSplit) (pc := 72) dX3_onSplit_72 rfl ?_
              refine J.iload_n (μ := mX3_onSplit) (pc := 74) dX3_onSplit_74 rfl ?_
              refine J.icmp_le (μ := mX3_onSplit) (pc := 75) 86 dX3_onSplit_75 (by decide) (fun c28 => ?_) (fun c28 => ?_)
              · refine J.aload_n (μ := mX3_onSplit) (pc := 86) dX3_onSplit_86 rfl ?_
                refine J.bipush (μ := mX3_onSplit) (pc := 87) (v := 6) dX3_onSplit_87 (by decide) ?_
                refine J.iload (μ := mX3_onSplit) (pc := 89) dX3_onSplit_89 rfl ?_
                refine J.cV (μ := mX3_onSplit) (pc := 91) (s_X3_deny _ _) rfl wm_X3_60 mi_X3_deny rfl dX3_onSplit_91 (Rp.isa (T := TX3) rfl sh289) rfl rfl ⟨(Nat.le_of_ble_eq_true rfl), (Nat.le_of_ble_eq_true rfl)⟩ ⟨(Nat.le_of_ble_eq_true rfl), (Nat.le_of_ble_eq_true rfl)⟩ (Nat.le_of_ble_eq_true rfl) ?_
                exact J.iretP (μ := mX3_onSplit) (pc := 94) dX3_onSplit_94 rfl (Nat.le_of_ble_eq_true rfl) (Nat.le_of_ble_eq_true rfl) (by unfold vdSplit; (try clear hN); (try clear hM); first | rfl | (simp [hasL, hasS, expd, nlt_of_le, nle_of_lt, *]; done) | (simp_all [hasL, hasS, expd, nlt_of_le, nle_of_lt]; done))
              · refine J.aload_n (μ := mX3_onSplit) (pc := 78) dX3_onSplit_78 rfl ?_
                refine J.aload_n (μ := mX3_onSplit) (pc := 79) dX3_onSplit_79 rfl ?_
                refine J.cV (μ := mX3_onSplit) (pc := 80) (s_X3_onBoth0 ho hN h20 hl hs) rfl wm_X3_76 mi_X3_onBothLimits rfl dX3_onSplit_80 (Rp.isa (T := TX3) rfl sh289) rfl rfl ⟨(Nat.le_of_ble_eq_true rfl), (Nat.le_of_ble_eq_true rfl)⟩ ⟨(Nat.le_of_ble_eq_true rfl), (Nat.le_of_ble_eq_true rfl)⟩ (Nat.le_of_ble_eq_true rfl) ?_
                refine J.goto (μ := mX3_onSplit) (pc := 83) 94 dX3_onSplit_83 (by decide) ?_
                exact J.iretP (μ := mX3_onSplit) (pc := 94) dX3_onSplit_94 rfl (Nat.le_of_ble_eq_true rfl) (Nat.le_of_ble_eq_true rfl) (by unfold vdSplit; (try clear hN); (try clear hM); first | rfl | (simp [hasL, hasS, expd, nlt_of_le, nle_of_lt, *]; done) | (simp_all [hasL, hasS, expd, nlt_of_le, nle_of_lt]; done))
            · refine J.aload_n (μ := mX3_onSplit) (pc := 52) dX3_onSplit_52 rfl ?_
              refine J.iconst (μ := mX3_onSplit) (pc := 53) (v := 3) dX3_onSplit_53 (by decide) ?_
              refine J.iload_n (μ := mX3_onSplit) (pc := 54) dX3_onSplit_54 rfl ?_
              refine J.cV (μ := mX3_onSplit) (pc := 55) (s_X3_deny _ _) rfl wm_X3_60 mi_X3_deny rfl dX3_onSplit_55 (Rp.isa (T := TX3) rfl sh289) rfl rfl ⟨(Nat.le_of_ble_eq_true rfl), (Nat.le_of_ble_eq_true rfl)⟩ ⟨(Nat.le_of_ble_eq_true rfl), (Nat.le_of_ble_eq_true rfl)⟩ (Nat.le_of_ble_eq_true rfl) ?_
              exact J.iretP (μ := mX3_onSplit) (pc := 58) dX3_onSplit_58 rfl (Nat.le_of_ble_eq_true rfl) (Nat.le_of_ble_eq_true rfl) (by unfold vdSplit; (try clear hN); (try clear hM); first | rfl | (simp [hasL, hasS, expd, nlt_of_le, nle_of_lt, *]; done) | (simp_all [hasL, hasS, expd, nlt_of_le, nle_of_lt]; done))
          · refine J.aload_n (μ := mX3_onSplit) (pc := 37) dX3_onSplit_37 rfl ?_
            refine J.iconst (μ := mX3_onSplit) (pc := 38) (v := 5) dX3_onSplit_38 (by decide) ?_
            refine J.iload_n (μ := mX3_onSplit) (pc := 39) dX3_onSplit_39 rfl ?_
            refine J.cV (μ := mX3_onSplit) (pc := 40) (s_X3_deny _ _) rfl wm_X3_60 mi_X3_deny rfl dX3_onSplit_40 (Rp.isa (T := TX3) rfl sh289) rfl rfl ⟨(Nat.le_of_ble_eq_true rfl), (Nat.le_of_ble_eq_true rfl)⟩ ⟨(Nat.le_of_ble_eq_true rfl), (Nat.le_of_ble_eq_true rfl)⟩ (Nat.le_of_ble_eq_true rfl) ?_
            exact J.iretP (μ := mX3_onSplit) (pc := 43) dX3_onSplit_43 rfl (Nat.le_of_ble_eq_true rfl) (Nat.le_of_ble_eq_true rfl) (by unfold vdSplit; (try clear hN); (try clear hM); first | rfl | (simp [hasL, hasS, expd, nlt_of_le, nle_of_lt, *]; done) | (simp_all [hasL, hasS, expd, nlt_of_le, nle_of_lt]; done))
        · refine J.bipush (μ := mX3_onSplit) (pc := 23) (v := -3) dX3_onSplit_23 (by decide) ?_
          exact J.iretP (μ := mX3_onSplit) (pc := 25) dX3_onSplit_25 rfl (Nat.le_of_ble_eq_true rfl) (Nat.le_of_ble_eq_true rfl) (by unfold vdSplit; (try clear hN); (try clear hM); first | rfl | (simp [hasL, hasS, expd, nlt_of_le, nle_of_lt, *]; done) | (simp_all [hasL, hasS, expd, nlt_of_le, nle_of_lt]; done))
      · refine J.iconst (μ := mX3_onSplit) (pc := 11) (v := -1) dX3_onSplit_11 (by decide) ?_
        exact J.iretP (μ := mX3_onSplit) (pc := 12) dX3_onSplit_12 rfl (Nat.le_of_ble_eq_true rfl) (Nat.le_of_ble_eq_true rfl) (by unfold vdSplit; (try clear hN); (try clear hM); first | rfl | (simp [hasL, hasS, expd, nlt_of_le, nle_of_lt, *]; done) | (simp_all [hasL, hasS, expd, nlt_of_le, nle_of_lt]; done))
    · refine J.aload_n (μ := mX3_onSplit) (pc := 0) dX3_onSplit_0 rfl ?_
      refine J.gr (μ := mX3_onSplit) (pc := 1) (T := TX9) (ci := 12) (fks := _) rfl rfl in_X9 1 (by decide) wf_X3_35 dX3_onSplit_1 (ho 0 (by decide)) rfl ?_
      refine J.iload_n (μ := mX3_onSplit) (pc := 4) dX3_onSplit_4 rfl ?_
      refine J.cV (μ := mX3_onSplit) (pc := 5) (s_X5_has ho  _) rfl wm_X3_41 mi_X5_has rfl dX3_onSplit_5 (Rp.isa (T := TX5) rfl (ho 8 (by decide))) rfl rfl ⟨(Nat.le_of_ble_eq_true rfl), (Nat.le_of_ble_eq_true rfl)⟩ ⟨(Nat.le_of_ble_eq_true rfl), (Nat.le_of_ble_eq_true rfl)⟩ (Nat.le_of_ble_eq_true rfl) ?_
      refine J.ifB_ne (μ := mX3_onSplit) (pc := 8) 13 dX3_onSplit_8 (by decide) (fun c5 => ?_) (fun c5 => ?_)
      · refine J.iload_n (μ := mX3_onSplit) (pc := 13) dX3_onSplit_13 rfl ?_
        refine J.iconst (μ := mX3_onSplit) (pc := 14) (v := 1) dX3_onSplit_14 (by decide) ?_
        refine J.bipush (μ := mX3_onSplit) (pc := 15) (v := 40) dX3_onSplit_15 (by decide) ?_
        refine J.cS (μ := mX3_onSplit) (pc := 17) (s_X3_isWithin _ _ _) rfl wm_X3_71 mi_X3_isWithin rfl dX3_onSplit_17 rfl rfl ⟨(Nat.le_of_ble_eq_true rfl), (Nat.le_of_ble_eq_true rfl)⟩ ⟨(Nat.le_of_ble_eq_true rfl), (Nat.le_of_ble_eq_true rfl)⟩ (Nat.le_of_ble_eq_true rfl) ?_
        refine J.ifB_ne (μ := mX3_onSplit) (pc := 20) 26 dX3_onSplit_20 (by decide) (fun c10 => ?_) (fun c10 => ?_)
        · refine J.aload_n (μ := mX3_onSplit) (pc := 26) dX3_onSplit_26 rfl ?_
          refine J.gr (μ := mX3_onSplit) (pc := 27) (T := TX9) (ci := 12) (fks := _) rfl rfl in_X9 1 (by decide) wf_X3_35 dX3_onSplit_27 (ho 0 (by decide)) rfl ?_
          refine J.iload_n (μ := mX3_onSplit) (pc := 30) dX3_onSplit_30 rfl ?_
          refine J.cV (μ := mX3_onSplit) (pc := 31) (s_X5_isShelved ho  _) rfl wm_X3_88 mi_X5_isShelved rfl dX3_onSplit_31 (Rp.isa (T := TX5) rfl (ho 8 (by decide))) rfl rfl ⟨(Nat.le_of_ble_eq_true rfl), (Nat.le_of_ble_eq_true rfl)⟩ ⟨(Nat.le_of_ble_eq_true rfl), (Nat.le_of_ble_eq_true rfl)⟩ (Nat.le_of_ble_eq_true rfl) ?_
          refine J.ifB_ne (μ := mX3_onSplit) (pc := 34) 44 dX3_onSplit_34 (by decide) (fun c15 => ?_) (fun c15 => ?_)
          · refine J.aload_n (μ := mX3_onSplit) (pc := 44) dX3_onSplit_44 rfl ?_
            refine J.iload_n (μ := mX3_onSplit) (pc := 45) dX3_onSplit_45 rfl ?_
            refine J.cV (μ := mX3_onSplit) (pc := 46) (s_X9_hasExpired ho  _) rfl wm_X3_91 mi_X9_hasExpired rfl dX3_onSplit_46 (Rp.isa (T := TX9) rfl (ho 0 (by decide))) rfl rfl ⟨(Nat.le_of_ble_eq_true rfl), (Nat.le_of_ble_eq_true rfl)⟩ ⟨(Nat.le_of_ble_eq_true rfl), (Nat.le_of_ble_eq_true rfl)⟩ (Nat.le_of_ble_eq_true rfl) ?_
            refine J.ifB_eq (μ := mX3_onSplit) (pc := 49) 59 dX3_onSplit_49 (by decide) (fun c19 => ?_) (fun c19 => ?_)
            · refine J.aload_n (μ := mX3_onSplit) (pc := 59) dX3_onSplit_59 rfl ?_
              refine J.gr (μ := mX3_onSplit) (pc := 60) (T := TX9) (ci := 12) (fks := _) rfl rfl in_X9 1 (by decide) wf_X3_35 dX3_onSplit_60 (ho 0 (by decide)) rfl ?_
              refine J.gr (μ := mX3_onSplit) (pc := 63) (T := TX5) (ci := 8) (fks := _) rfl rfl in_X5 2 (by decide) wf_X3_94 dX3_onSplit_63 (ho 8 (by decide)) rfl ?_
              refine J.iload_n (μ := mX3_onSplit) (pc := 66) dX3_onSplit_66 rfl ?_
              refine J.cV (μ := mX3_onSplit) (pc := 67) (g_vo ho _) rfl wm_X3_98 mi_X7_get rfl dX3_onSplit_67 (Rp.isa (T := TX7) rfl (ho 13 (by decide))) rfl rfl ⟨(Nat.le_of_ble_eq_true rfl), (Nat.le_of_ble_eq_true rfl)⟩ ⟨(Nat.le_of_ble_eq_true rfl), (Nat.le_of_ble_eq_true rfl)⟩ (Nat.le_of_ble_eq_true rfl) ?_
              refine J.istore (μ := mX3_onSplit) (pc := 70) dX3_onSplit_70 (Nat.le_of_ble_eq_true rfl) rfl ?_
              refine J.iload (μ := mX3_onSplit) (pc := 72) dX3_onSplit_72 rfl ?_
              refine J.iload_n (μ := mX3_onSplit) (pc := 74) dX3_onSplit_74 rfl ?_
              refine J.icmp_le (μ := mX3_onSplit) (pc := 75) 86 dX3_onSplit_75 (by decide) (fun c28 => ?_) (fun c28 => ?_)
              · refine J.aload_n (μ := mX3_onSplit) (pc := 86) dX3_onSplit_86 rfl ?_
                refine J.bipush (μ := mX3_onSplit) (pc := 87) (v := 6) dX3_onSplit_87 (by decide) ?_
                refine J.iload (μ := mX3_onSplit) (pc := 89) dX3_onSplit_89 rfl ?_
                refine J.cV (μ := mX3_onSplit) (pc := 91) (s_X3_deny _ _) rfl wm_X3_60 mi_X3_deny rfl dX3_onSplit_91 (Rp.isa (T := TX3) rfl sh289) rfl rfl ⟨(Nat.le_of_ble_eq_true rfl), (Nat.le_of_ble_eq_true rfl)⟩ ⟨(Nat.le_of_ble_eq_true rfl), (Nat.le_of_ble_eq_true rfl)⟩ (Nat.le_of_ble_eq_true rfl) ?_
                exact J.iretP (μ := mX3_onSplit) (pc := 94) dX3_onSplit_94 rfl (Nat.le_of_ble_eq_true rfl) (Nat.le_of_ble_eq_true rfl) (by unfold vdSplit; (try clear hN); (try clear hM); first | rfl | (simp [hasL, hasS, expd, nlt_of_le, nle_of_lt, *]; done) | (simp_all [hasL, hasS, expd, nlt_of_le, nle_of_lt]; done))
              · refine J.aload_n (μ := mX3_onSplit) (pc := 78) dX3_onSplit_78 rfl ?_
                refine J.aload_n (μ := mX3_onSplit) (pc := 79) dX3_onSplit_79 rfl ?_
                refine J.cV (μ := mX3_onSplit) (pc := 80) (s_X3_onBoth1 ho hN h20 hl hs) rfl wm_X3_76 mi_X3_onBothLimits rfl dX3_onSplit_80 (Rp.isa (T := TX3) rfl sh289) rfl rfl ⟨(Nat.le_of_ble_eq_true rfl), (Nat.le_of_ble_eq_true rfl)⟩ ⟨(Nat.le_of_ble_eq_true rfl), (Nat.le_of_ble_eq_true rfl)⟩ (Nat.le_of_ble_eq_true rfl) ?_
                refine J.goto (μ := mX3_onSplit) (pc := 83) 94 dX3_onSplit_83 (by decide) ?_
                exact J.iretP (μ := mX3_onSplit) (pc := 94) dX3_onSplit_94 rfl (Nat.le_of_ble_eq_true rfl) (Nat.le_of_ble_eq_true rfl) (by unfold vdSplit; (try clear hN); (try clear hM); first | rfl | (simp [hasL, hasS, expd, nlt_of_le, nle_of_lt, *]; done) | (simp_all [hasL, hasS, expd, nlt_of_le, nle_of_lt]; done))
            · refine J.aload_n (μ := mX3_onSplit) (pc := 52) dX3_onSplit_52 rfl ?_
              refine J.iconst (μ := mX3_onSplit) (pc := 53) (v := 3) dX3_onSplit_53 (by decide) ?_
              refine J.iload_n (μ := mX3_onSplit) (pc := 54) dX3_onSplit_54 rfl ?_
              refine J.cV (μ := mX3_onSplit) (pc := 55) (s_X3_deny _ _) rfl wm_X3_60 mi_X3_deny rfl dX3_onSplit_55 (Rp.isa (T := TX3) rfl sh289) rfl rfl ⟨(Nat.le_of_ble_eq_true rfl), (Nat.le_of_ble_eq_true rfl)⟩ ⟨(Nat.le_of_ble_eq_true rfl), (Nat.le_of_ble_eq_true rfl)⟩ (Nat.le_of_ble_eq_true rfl) ?_
              exact J.iretP (μ := mX3_onSplit) (pc := 58) dX3_onSplit_58 rfl (Nat.le_of_ble_eq_true rfl) (Nat.le_of_ble_eq_true rfl) (by unfold vdSplit; (try clear hN); (try clear hM); first | rfl | (simp [hasL, hasS, expd, nlt_of_le, nle_of_lt, *]; done) | (simp_all [hasL, hasS, expd, nlt_of_le, nle_of_lt]; done))
          · refine J.aload_n (μ := mX3_onSplit) (pc := 37) dX3_onSplit_37 rfl ?_
            refine J.iconst (μ := mX3_onSplit) (pc := 38) (v := 5) dX3_onSplit_38 (by decide) ?_
            refine J.iload_n (μ := mX3_onSplit) (pc := 39) dX3_onSplit_39 rfl ?_
            refine J.cV (μ := mX3_onSplit) (pc := 40) (s_X3_deny _ _) rfl wm_X3_60 mi_X3_deny rfl dX3_onSplit_40 (Rp.isa (T := TX3) rfl sh289) rfl rfl ⟨(Nat.le_of_ble_eq_true rfl), (Nat.le_of_ble_eq_true rfl)⟩ ⟨(Nat.le_of_ble_eq_true rfl), (Nat.le_of_ble_eq_true rfl)⟩ (Nat.le_of_ble_eq_true rfl) ?_
            exact J.iretP (μ := mX3_onSplit) (pc := 43) dX3_onSplit_43 rfl (Nat.le_of_ble_eq_true rfl) (Nat.le_of_ble_eq_true rfl) (by unfold vdSplit; (try clear hN); (try clear hM); first | rfl | (simp [hasL, hasS, expd, nlt_of_le, nle_of_lt, *]; done) | (simp_all [hasL, hasS, expd, nlt_of_le, nle_of_lt]; done))
        · refine J.bipush (μ := mX3_onSplit) (pc := 23) (v := -3) dX3_onSplit_23 (by decide) ?_
          exact J.iretP (μ := mX3_onSplit) (pc := 25) dX3_onSplit_25 rfl (Nat.le_of_ble_eq_true rfl) (Nat.le_of_ble_eq_true rfl) (by unfold vdSplit; (try clear hN); (try clear hM); first | rfl | (simp [hasL, hasS, expd, nlt_of_le, nle_of_lt, *]; done) | (simp_all [hasL, hasS, expd, nlt_of_le, nle_of_lt]; done))
      · refine J.iconst (μ := mX3_onSplit) (pc := 11) (v := -1) dX3_onSplit_11 (by decide) ?_
        exact J.iretP (μ := mX3_onSplit) (pc := 12) dX3_onSplit_12 rfl (Nat.le_of_ble_eq_true rfl) (Nat.le_of_ble_eq_true rfl) (by unfold vdSplit; (try clear hN); (try clear hM); first | rfl | (simp [hasL, hasS, expd, nlt_of_le, nle_of_lt, *]; done) | (simp_all [hasL, hasS, expd, nlt_of_le, nle_of_lt]; done))
  · refine J.aload_n (μ := mX3_onSplit) (pc := 0) dX3_onSplit_0 rfl ?_
    refine J.gr (μ := mX3_onSplit) (pc := 1) (T := TX9) (ci := 12) (fks := _) rfl rfl in_X9 1 (by decide) wf_X3_35 dX3_onSplit_1 (ho 0 (by decide)) rfl ?_
    refine J.iload_n (μ := mX3_onSplit) (pc := 4) dX3_onSplit_4 rfl ?_
    refine J.cV (μ := mX3_onSplit) (pc := 5) (s_X5_has ho  _) rfl wm_X3_41 mi_X5_has rfl dX3_onSplit_5 (Rp.isa (T := TX5) rfl (ho 8 (by decide))) rfl rfl ⟨(Nat.le_of_ble_eq_true rfl), (Nat.le_of_ble_eq_true rfl)⟩ ⟨(Nat.le_of_ble_eq_true rfl), (Nat.le_of_ble_eq_true rfl)⟩ (Nat.le_of_ble_eq_true rfl) ?_
    refine J.ifB_ne (μ := mX3_onSplit) (pc := 8) 13 dX3_onSplit_8 (by decide) (fun c5 => ?_) (fun c5 => ?_)
    · refine J.iload_n (μ := mX3_onSplit) (pc := 13) dX3_onSplit_13 rfl ?_
      refine J.iconst (μ := mX3_onSplit) (pc := 14) (v := 1) dX3_onSplit_14 (by decide) ?_
      refine J.bipush (μ := mX3_onSplit) (pc := 15) (v := 40) dX3_onSplit_15 (by decide) ?_
      refine J.cS (μ := mX3_onSplit) (pc := 17) (s_X3_isWithin _ _ _) rfl wm_X3_71 mi_X3_isWithin rfl dX3_onSplit_17 rfl rfl ⟨(Nat.le_of_ble_eq_true rfl), (Nat.le_of_ble_eq_true rfl)⟩ ⟨(Nat.le_of_ble_eq_true rfl), (Nat.le_of_ble_eq_true rfl)⟩ (Nat.le_of_ble_eq_true rfl) ?_
      refine J.ifB_ne (μ := mX3_onSplit) (pc := 20) 26 dX3_onSplit_20 (by decide) (fun c10 => ?_) (fun c10 => ?_)
      · refine J.aload_n (μ := mX3_onSplit) (pc := 26) dX3_onSplit_26 rfl ?_
        refine J.gr (μ := mX3_onSplit) (pc := 27) (T := TX9) (ci := 12) (fks := _) rfl rfl in_X9 1 (by decide) wf_X3_35 dX3_onSplit_27 (ho 0 (by decide)) rfl ?_
        refine J.iload_n (μ := mX3_onSplit) (pc := 30) dX3_onSplit_30 rfl ?_
        refine J.cV (μ := mX3_onSplit) (pc := 31) (s_X5_isShelved ho  _) rfl wm_X3_88 mi_X5_isShelved rfl dX3_onSplit_31 (Rp.isa (T := TX5) rfl (ho 8 (by decide))) rfl rfl ⟨(Nat.le_of_ble_eq_true rfl), (Nat.le_of_ble_eq_true rfl)⟩ ⟨(Nat.le_of_ble_eq_true rfl), (Nat.le_of_ble_eq_true rfl)⟩ (Nat.le_of_ble_eq_true rfl) ?_
        refine J.ifB_ne (μ := mX3_onSplit) (pc := 34) 44 dX3_onSplit_34 (by decide) (fun c15 => ?_) (fun c15 => ?_)
        · refine J.aload_n (μ := mX3_onSplit) (pc := 44) dX3_onSplit_44 rfl ?_
          refine J.iload_n (μ := mX3_onSplit) (pc := 45) dX3_onSplit_45 rfl ?_
          refine J.cV (μ := mX3_onSplit) (pc := 46) (s_X9_hasExpired ho  _) rfl wm_X3_91 mi_X9_hasExpired rfl dX3_onSplit_46 (Rp.isa (T := TX9) rfl (ho 0 (by decide))) rfl rfl ⟨(Nat.le_of_ble_eq_true rfl), (Nat.le_of_ble_eq_true rfl)⟩ ⟨(Nat.le_of_ble_eq_true rfl), (Nat.le_of_ble_eq_true rfl)⟩ (Nat.le_of_ble_eq_true rfl) ?_
          refine J.ifB_eq (μ := mX3_onSplit) (pc := 49) 59 dX3_onSplit_49 (by decide) (fun c19 => ?_) (fun c19 => ?_)
          · refine J.aload_n (μ := mX3_onSplit) (pc := 59) dX3_onSplit_59 rfl ?_
            refine J.gr (μ := mX3_onSplit) (pc := 60) (T := TX9) (ci := 12) (fks := _) rfl rfl in_X9 1 (by decide) wf_X3_35 dX3_onSplit_60 (ho 0 (by decide)) rfl ?_
            refine J.gr (μ := mX3_onSplit) (pc := 63) (T := TX5) (ci := 8) (fks := _) rfl rfl in_X5 2 (by decide) wf_X3_94 dX3_onSplit_63 (ho 8 (by decide)) rfl ?_
            refine J.iload_n (μ := mX3_onSplit) (pc := 66) dX3_onSplit_66 rfl ?_
            refine J.cV (μ := mX3_onSplit) (pc := 67) (g_vo ho _) rfl wm_X3_98 mi_X7_get rfl dX3_onSplit_67 (Rp.isa (T := TX7) rfl (ho 13 (by decide))) rfl rfl ⟨(Nat.le_of_ble_eq_true rfl), (Nat.le_of_ble_eq_true rfl)⟩ ⟨(Nat.le_of_ble_eq_true rfl), (Nat.le_of_ble_eq_true rfl)⟩ (Nat.le_of_ble_eq_true rfl) ?_
            refine J.istore (μ := mX3_onSplit) (pc := 70) dX3_onSplit_70 (Nat.le_of_ble_eq_true rfl) rfl ?_
            refine J.iload (μ := mX3_onSplit) (pc := 72) dX3_onSplit_72 rfl ?_
            refine J.iload_n (μ := mX3_onSplit) (pc := 74) dX3_onSplit_74 rfl ?_
            refine J.icmp_le (μ := mX3_onSplit) (pc := 75) 86 dX3_onSplit_75 (by decide) (fun c28 => ?_) (fun c28 => ?_)
            · refine J.aload_n (μ := mX3_onSplit) (pc := 86) dX3_onSplit_86 rfl ?_
              refine J.bipush (μ := mX3_onSplit) (pc := 87) (v := 6) dX3_onSplit_87 (by decide) ?_
              refine J.iload (μ := mX3_onSplit) (pc := 89) dX3_onSplit_89 rfl ?_
              refine J.cV (μ := mX3_onSplit) (pc := 91) (s_X3_deny _ _) rfl wm_X3_60 mi_X3_deny rfl dX3_onSplit_91 (Rp.isa (T := TX3) rfl sh289) rfl rfl ⟨(Nat.le_of_ble_eq_true rfl), (Nat.le_of_ble_eq_true rfl)⟩ ⟨(Nat.le_of_ble_eq_true rfl), (Nat.le_of_ble_eq_true rfl)⟩ (Nat.le_of_ble_eq_true rfl) ?_
              exact J.iretP (μ := mX3_onSplit) (pc := 94) dX3_onSplit_94 rfl (Nat.le_of_ble_eq_true rfl) (Nat.le_of_ble_eq_true rfl) (by unfold vdSplit; (try clear hN); (try clear hM); first | rfl | (simp [hasL, hasS, expd, nlt_of_le, nle_of_lt, *]; done) | (simp_all [hasL, hasS, expd, nlt_of_le, nle_of_lt]; done))
            · refine J.aload_n (μ := mX3_onSplit) (pc := 78) dX3_onSplit_78 rfl ?_
              refine J.aload_n (μ := mX3_onSplit) (pc := 79) dX3_onSplit_79 rfl ?_
              refine J.cV (μ := mX3_onSplit) (pc := 80) (s_X3_onBoth2 ho hN h20 hl) rfl wm_X3_76 mi_X3_onBothLimits rfl dX3_onSplit_80 (Rp.isa (T := TX3) rfl sh289) rfl rfl ⟨(Nat.le_of_ble_eq_true rfl), (Nat.le_of_ble_eq_true rfl)⟩ ⟨(Nat.le_of_ble_eq_true rfl), (Nat.le_of_ble_eq_true rfl)⟩ (Nat.le_of_ble_eq_true rfl) ?_
              refine J.goto (μ := mX3_onSplit) (pc := 83) 94 dX3_onSplit_83 (by decide) ?_
              exact J.iretP (μ := mX3_onSplit) (pc := 94) dX3_onSplit_94 rfl (Nat.le_of_ble_eq_true rfl) (Nat.le_of_ble_eq_true rfl) (by unfold vdSplit; (try clear hN); (try clear hM); first | rfl | (simp [hasL, hasS, expd, nlt_of_le, nle_of_lt, *]; done) | (simp_all [hasL, hasS, expd, nlt_of_le, nle_of_lt]; done))
          · refine J.aload_n (μ := mX3_onSplit) (pc := 52) dX3_onSplit_52 rfl ?_
            refine J.iconst (μ := mX3_onSplit) (pc := 53) (v := 3) dX3_onSplit_53 (by decide) ?_
            refine J.iload_n (μ := mX3_onSplit) (pc := 54) dX3_onSplit_54 rfl ?_
            refine J.cV (μ := mX3_onSplit) (pc := 55) (s_X3_deny _ _) rfl wm_X3_60 mi_X3_deny rfl dX3_onSplit_55 (Rp.isa (T := TX3) rfl sh289) rfl rfl ⟨(Nat.le_of_ble_eq_true rfl), (Nat.le_of_ble_eq_true rfl)⟩ ⟨(Nat.le_of_ble_eq_true rfl), (Nat.le_of_ble_eq_true rfl)⟩ (Nat.le_of_ble_eq_true rfl) ?_
            exact J.iretP (μ := mX3_onSplit) (pc := 58) dX3_onSplit_58 rfl (Nat.le_of_ble_eq_true rfl) (Nat.le_of_ble_eq_true rfl) (by unfold vdSplit; (try clear hN); (try clear hM); first | rfl | (simp [hasL, hasS, expd, nlt_of_le, nle_of_lt, *]; done) | (simp_all [hasL, hasS, expd, nlt_of_le, nle_of_lt]; done))
        · refine J.aload_n (μ := mX3_onSplit) (pc := 37) dX3_onSplit_37 rfl ?_
          refine J.iconst (μ := mX3_onSplit) (pc := 38) (v := 5) dX3_onSplit_38 (by decide) ?_
          refine J.iload_n (μ := mX3_onSplit) (pc := 39) dX3_onSplit_39 rfl ?_
          refine J.cV (μ := mX3_onSplit) (pc := 40) (s_X3_deny _ _) rfl wm_X3_60 mi_X3_deny rfl dX3_onSplit_40 (Rp.isa (T := TX3) rfl sh289) rfl rfl ⟨(Nat.le_of_ble_eq_true rfl), (Nat.le_of_ble_eq_true rfl)⟩ ⟨(Nat.le_of_ble_eq_true rfl), (Nat.le_of_ble_eq_true rfl)⟩ (Nat.le_of_ble_eq_true rfl) ?_
          exact J.iretP (μ := mX3_onSplit) (pc := 43) dX3_onSplit_43 rfl (Nat.le_of_ble_eq_true rfl) (Nat.le_of_ble_eq_true rfl) (by unfold vdSplit; (try clear hN); (try clear hM); first | rfl | (simp [hasL, hasS, expd, nlt_of_le, nle_of_lt, *]; done) | (simp_all [hasL, hasS, expd, nlt_of_le, nle_of_lt]; done))
      · refine J.bipush (μ := mX3_onSplit) (pc := 23) (v := -3) dX3_onSplit_23 (by decide) ?_
        exact J.iretP (μ := mX3_onSplit) (pc := 25) dX3_onSplit_25 rfl (Nat.le_of_ble_eq_true rfl) (Nat.le_of_ble_eq_true rfl) (by unfold vdSplit; (try clear hN); (try clear hM); first | rfl | (simp [hasL, hasS, expd, nlt_of_le, nle_of_lt, *]; done) | (simp_all [hasL, hasS, expd, nlt_of_le, nle_of_lt]; done))
    · refine J.iconst (μ := mX3_onSplit) (pc := 11) (v := -1) dX3_onSplit_11 (by decide) ?_
      exact J.iretP (μ := mX3_onSplit) (pc := 12) dX3_onSplit_12 rfl (Nat.le_of_ble_eq_true rfl) (Nat.le_of_ble_eq_true rfl) (by unfold vdSplit; (try clear hN); (try clear hM); first | rfl | (simp [hasL, hasS, expd, nlt_of_le, nle_of_lt, *]; done) | (simp_all [hasL, hasS, expd, nlt_of_le, nle_of_lt]; done))

theorem s_X3_onMix {γ : Gm} {v : Vs} {o : Nat} (ho : IsStk o) {N M : Nat} (hN : v (o + 8) 7 = nI N) (h20 : N ≤ 20) (hM : v (o + 1) 3 = nI M) (h8 : M ≤ 8) (x y : Int32) : Ew γ mX3_onMix yX3_onMix 3 [.ref (gz γ + 289), .ref (gz γ + o), .int x, .int y] v (some (.int (vdMix v o N M x y).1)) (vdMix v o N M x y).2 := by
  refine Ev.ofJ (by decide) rfl (fun h => by cases h) (Nat.le_of_ble_eq_true rfl) ?_
  by_cases hl : v (o + 8) 7 < 20
  · refine J.aload_n (μ := mX3_onMix) (pc := 0) dX3_onMix_0 rfl ?_
    refine J.gr (μ := mX3_onMix) (pc := 1) (T := TX9) (ci := 12) (fks := _) rfl rfl in_X9 1 (by decide) wf_X3_35 dX3_onMix_1 (ho 0 (by decide)) rfl ?_
    refine J.astore (μ := mX3_onMix) (pc := 4) dX3_onMix_4 (Nat.le_of_ble_eq_true rfl) rfl ?_
    refine J.aload (μ := mX3_onMix) (pc := 6) dX3_onMix_6 rfl ?_
    refine J.iload_n (μ := mX3_onMix) (pc := 8) dX3_onMix_8 rfl ?_
    refine J.cV (μ := mX3_onMix) (pc := 9) (s_X5_has ho  _) rfl wm_X3_41 mi_X5_has rfl dX3_onMix_9 (Rp.isa (T := TX5) rfl (ho 8 (by decide))) rfl rfl ⟨(Nat.le_of_ble_eq_true rfl), (Nat.le_of_ble_eq_true rfl)⟩ ⟨(Nat.le_of_ble_eq_true rfl), (Nat.le_of_ble_eq_true rfl)⟩ (Nat.le_of_ble_eq_true rfl) ?_
    refine J.ifB_eq (μ := mX3_onMix) (pc := 12) 24 dX3_onMix_12 (by decide) (fun c7 => ?_) (fun c7 => ?_)
    · refine J.iconst (μ := mX3_onMix) (pc := 24) (v := -1) dX3_onMix_24 (by decide) ?_
      exact J.iretP (μ := mX3_onMix) (pc := 25) dX3_onMix_25 rfl (Nat.le_of_ble_eq_true rfl) (Nat.le_of_ble_eq_true rfl) (by unfold vdMix; (try clear hN); (try clear hM); first | rfl | (simp [hasL, hasS, expd, nlt_of_le, nle_of_lt, *]; done) | (simp_all [hasL, hasS, expd, nlt_of_le, nle_of_lt]; done))
    · refine J.aload (μ := mX3_onMix) (pc := 15) dX3_onMix_15 rfl ?_
      refine J.iload_n (μ := mX3_onMix) (pc := 17) dX3_onMix_17 rfl ?_
      refine J.cV (μ := mX3_onMix) (pc := 18) (s_X5_has ho  _) rfl wm_X3_41 mi_X5_has rfl dX3_onMix_18 (Rp.isa (T := TX5) rfl (ho 8 (by decide))) rfl rfl ⟨(Nat.le_of_ble_eq_true rfl), (Nat.le_of_ble_eq_true rfl)⟩ ⟨(Nat.le_of_ble_eq_true rfl), (Nat.le_of_ble_eq_true rfl)⟩ (Nat.le_of_ble_eq_true rfl) ?_
      refine J.ifB_ne (μ := mX3_onMix) (pc := 21) 26 dX3_onMix_21 (by decide) (fun c12 => ?_) (fun c12 => ?_)
      · refine J.iload_n (μ := mX3_onMix) (pc := 26) dX3_onMix_26 rfl ?_
        refine J.iload_n (μ := mX3_onMix) (pc := 27) dX3_onMix_27 rfl ?_
        refine J.icmp_ne (μ := mX3_onMix) (pc := 28) 34 dX3_onMix_28 (by decide) (fun c15 => ?_) (fun c15 => ?_)
        · refine J.aload (μ := mX3_onMix) (pc := 34) dX3_onMix_34 rfl ?_
          refine J.iload_n (μ := mX3_onMix) (pc := 36) dX3_onMix_36 rfl ?_
          refine J.cV (μ := mX3_onMix) (pc := 37) (s_X5_isShelved ho  _) rfl wm_X3_88 mi_X5_isShelved rfl dX3_onMix_37 (Rp.isa (T := TX5) rfl (ho 8 (by decide))) rfl rfl ⟨(Nat.le_of_ble_eq_true rfl), (Nat.le_of_ble_eq_true rfl)⟩ ⟨(Nat.le_of_ble_eq_true rfl), (Nat.le_of_ble_eq_true rfl)⟩ (Nat.le_of_ble_eq_true rfl) ?_
          refine J.ifB_eq (μ := mX3_onMix) (pc := 40) 52 dX3_onMix_40 (by decide) (fun c19 => ?_) (fun c19 => ?_)
          · refine J.aload_n (μ := mX3_onMix) (pc := 52) dX3_onMix_52 rfl ?_
            refine J.iconst (μ := mX3_onMix) (pc := 53) (v := 5) dX3_onMix_53 (by decide) ?_
            refine J.aload (μ := mX3_onMix) (pc := 54) dX3_onMix_54 rfl ?_
            refine J.iload_n (μ := mX3_onMix) (pc := 56) dX3_onMix_56 rfl ?_
            refine J.cV (μ := mX3_onMix) (pc := 57) (s_X5_isShelved ho  _) rfl wm_X3_88 mi_X5_isShelved rfl dX3_onMix_57 (Rp.isa (T := TX5) rfl (ho 8 (by decide))) rfl rfl ⟨(Nat.le_of_ble_eq_true rfl), (Nat.le_of_ble_eq_true rfl)⟩ ⟨(Nat.le_of_ble_eq_true rfl), (Nat.le_of_ble_eq_true rfl)⟩ (Nat.le_of_ble_eq_true rfl) ?_
            refine J.ifB_eq (μ := mX3_onMix) (pc := 60) 67 dX3_onMix_60 (by decide) (fun c25 => ?_) (fun c25 => ?_)
            · refine J.iload_n (μ := mX3_onMix) (pc := 67) dX3_onMix_67 rfl ?_
              refine J.cV (μ := mX3_onMix) (pc := 68) (s_X3_deny _ _) rfl wm_X3_60 mi_X3_deny rfl dX3_onMix_68 (Rp.isa (T := TX3) rfl sh289) rfl rfl ⟨(Nat.le_of_ble_eq_true rfl), (Nat.le_of_ble_eq_true rfl)⟩ ⟨(Nat.le_of_ble_eq_true rfl), (Nat.le_of_ble_eq_true rfl)⟩ (Nat.le_of_ble_eq_true rfl) ?_
              exact J.iretP (μ := mX3_onMix) (pc := 71) dX3_onMix_71 rfl (Nat.le_of_ble_eq_true rfl) (Nat.le_of_ble_eq_true rfl) (by unfold vdMix; (try clear hN); (try clear hM); first | rfl | (simp [hasL, hasS, expd, nlt_of_le, nle_of_lt, *]; done) | (simp_all [hasL, hasS, expd, nlt_of_le, nle_of_lt]; done))
            · refine J.iload_n (μ := mX3_onMix) (pc := 63) dX3_onMix_63 rfl ?_
              refine J.goto (μ := mX3_onMix) (pc := 64) 68 dX3_onMix_64 (by decide) ?_
              refine J.cV (μ := mX3_onMix) (pc := 68) (s_X3_deny _ _) rfl wm_X3_60 mi_X3_deny rfl dX3_onMix_68 (Rp.isa (T := TX3) rfl sh289) rfl rfl ⟨(Nat.le_of_ble_eq_true rfl), (Nat.le_of_ble_eq_true rfl)⟩ ⟨(Nat.le_of_ble_eq_true rfl), (Nat.le_of_ble_eq_true rfl)⟩ (Nat.le_of_ble_eq_true rfl) ?_
              exact J.iretP (μ := mX3_onMix) (pc := 71) dX3_onMix_71 rfl (Nat.le_of_ble_eq_true rfl) (Nat.le_of_ble_eq_true rfl) (by unfold vdMix; (try clear hN); (try clear hM); first | rfl | (simp [hasL, hasS, expd, nlt_of_le, nle_of_lt, *]; done) | (simp_all [hasL, hasS, expd, nlt_of_le, nle_of_lt]; done))
          · refine J.aload (μ := mX3_onMix) (pc := 43) dX3_onMix_43 rfl ?_
            refine J.iload_n (μ := mX3_onMix) (pc := 45) dX3_onMix_45 rfl ?_
            refine J.cV (μ := mX3_onMix) (pc := 46) (s_X5_isShelved ho  _) rfl wm_X3_88 mi_X5_isShelved rfl dX3_onMix_46 (Rp.isa (T := TX5) rfl (ho 8 (by decide))) rfl rfl ⟨(Nat.le_of_ble_eq_true rfl), (Nat.le_of_ble_eq_true rfl)⟩ ⟨(Nat.le_of_ble_eq_true rfl), (Nat.le_of_ble_eq_true rfl)⟩ (Nat.le_of_ble_eq_true rfl) ?_
            refine J.ifB_ne (μ := mX3_onMix) (pc := 49) 72 dX3_onMix_49 (by decide) (fun c34 => ?_) (fun c34 => ?_)
            · refine J.aload_n (μ := mX3_onMix) (pc := 72) dX3_onMix_72 rfl ?_
              refine J.iload_n (μ := mX3_onMix) (pc := 73) dX3_onMix_73 rfl ?_
              refine J.cV (μ := mX3_onMix) (pc := 74) (s_X9_hasExpired ho  _) rfl wm_X3_91 mi_X9_hasExpired rfl dX3_onMix_74 (Rp.isa (T := TX9) rfl (ho 0 (by decide))) rfl rfl ⟨(Nat.le_of_ble_eq_true rfl), (Nat.le_of_ble_eq_true rfl)⟩ ⟨(Nat.le_of_ble_eq_true rfl), (Nat.le_of_ble_eq_true rfl)⟩ (Nat.le_of_ble_eq_true rfl) ?_
              refine J.ifB_ne (μ := mX3_onMix) (pc := 77) 88 dX3_onMix_77 (by decide) (fun c38 => ?_) (fun c38 => ?_)
              · refine J.aload_n (μ := mX3_onMix) (pc := 88) dX3_onMix_88 rfl ?_
                refine J.iconst (μ := mX3_onMix) (pc := 89) (v := 3) dX3_onMix_89 (by decide) ?_
                refine J.aload_n (μ := mX3_onMix) (pc := 90) dX3_onMix_90 rfl ?_
                refine J.iload_n (μ := mX3_onMix) (pc := 91) dX3_onMix_91 rfl ?_
                refine J.cV (μ := mX3_onMix) (pc := 92) (s_X9_hasExpired ho  _) rfl wm_X3_91 mi_X9_hasExpired rfl dX3_onMix_92 (Rp.isa (T := TX9) rfl (ho 0 (by decide))) rfl rfl ⟨(Nat.le_of_ble_eq_true rfl), (Nat.le_of_ble_eq_true rfl)⟩ ⟨(Nat.le_of_ble_eq_true rfl), (Nat.le_of_ble_eq_true rfl)⟩ (Nat.le_of_ble_eq_true rfl) ?_
                refine J.ifB_eq (μ := mX3_onMix) (pc := 95) 102 dX3_onMix_95 (by decide) (fun c44 => ?_) (fun c44 => ?_)
                · refine J.iload_n (μ := mX3_onMix) (pc := 102) dX3_onMix_102 rfl ?_
                  refine J.cV (μ := mX3_onMix) (pc := 103) (s_X3_deny _ _) rfl wm_X3_60 mi_X3_deny rfl dX3_onMix_103 (Rp.isa (T := TX3) rfl sh289) rfl rfl ⟨(Nat.le_of_ble_eq_true rfl), (Nat.le_of_ble_eq_true rfl)⟩ ⟨(Nat.le_of_ble_eq_true rfl), (Nat.le_of_ble_eq_true rfl)⟩ (Nat.le_of_ble_eq_true rfl) ?_
                  exact J.iretP (μ := mX3_onMix) (pc := 106) dX3_onMix_106 rfl (Nat.le_of_ble_eq_true rfl) (Nat.le_of_ble_eq_true rfl) (by unfold vdMix; (try clear hN); (try clear hM); first | rfl | (simp [hasL, hasS, expd, nlt_of_le, nle_of_lt, *]; done) | (simp_all [hasL, hasS, expd, nlt_of_le, nle_of_lt]; done))
                · refine J.iload_n (μ := mX3_onMix) (pc := 98) dX3_onMix_98 rfl ?_
                  refine J.goto (μ := mX3_onMix) (pc := 99) 103 dX3_onMix_99 (by decide) ?_
                  refine J.cV (μ := mX3_onMix) (pc := 103) (s_X3_deny _ _) rfl wm_X3_60 mi_X3_deny rfl dX3_onMix_103 (Rp.isa (T := TX3) rfl sh289) rfl rfl ⟨(Nat.le_of_ble_eq_true rfl), (Nat.le_of_ble_eq_true rfl)⟩ ⟨(Nat.le_of_ble_eq_true rfl), (Nat.le_of_ble_eq_true rfl)⟩ (Nat.le_of_ble_eq_true rfl) ?_
                  exact J.iretP (μ := mX3_onMix) (pc := 106) dX3_onMix_106 rfl (Nat.le_of_ble_eq_true rfl) (Nat.le_of_ble_eq_true rfl) (by unfold vdMix; (try clear hN); (try clear hM); first | rfl | (simp [hasL, hasS, expd, nlt_of_le, nle_of_lt, *]; done) | (simp_all [hasL, hasS, expd, nlt_of_le, nle_of_lt]; done))
              · refine J.aload_n (μ := mX3_onMix) (pc := 80) dX3_onMix_80 rfl ?_
                refine J.iload_n (μ := mX3_onMix) (pc := 81) dX3_onMix_81 rfl ?_
                refine J.cV (μ := mX3_onMix) (pc := 82) (s_X9_hasExpired ho  _) rfl wm_X3_91 mi_X9_hasExpired rfl dX3_onMix_82 (Rp.isa (T := TX9) rfl (ho 0 (by decide))) rfl rfl ⟨(Nat.le_of_ble_eq_true rfl), (Nat.le_of_ble_eq_true rfl)⟩ ⟨(Nat.le_of_ble_eq_true rfl), (Nat.le_of_ble_eq_true rfl)⟩ (Nat.le_of_ble_eq_true rfl) ?_
                refine J.ifB_eq (μ := mX3_onMix) (pc := 85) 107 dX3_onMix_85 (by decide) (fun c53 => ?_) (fun c53 => ?_)
                · refine J.aload (μ := mX3_onMix) (pc := 107) dX3_onMix_107 rfl ?_
                  refine J.gr (μ := mX3_onMix) (pc := 109) (T := TX5) (ci := 8) (fks := _) rfl rfl in_X5 1 (by decide) wf_X3_104 dX3_onMix_109 (ho 8 (by decide)) rfl ?_
                  refine J.iload_n (μ := mX3_onMix) (pc := 112) dX3_onMix_112 rfl ?_
                  refine J.cV (μ := mX3_onMix) (pc := 113) (g_lz ho _) rfl wm_X3_98 mi_X7_get rfl dX3_onMix_113 (Rp.isa (T := TX7) rfl (ho 11 (by decide))) rfl rfl ⟨(Nat.le_of_ble_eq_true rfl), (Nat.le_of_ble_eq_true rfl)⟩ ⟨(Nat.le_of_ble_eq_true rfl), (Nat.le_of_ble_eq_true rfl)⟩ (Nat.le_of_ble_eq_true rfl) ?_
                  refine J.istore (μ := mX3_onMix) (pc := 116) dX3_onMix_116 (Nat.le_of_ble_eq_true rfl) rfl ?_
                  refine J.aload (μ := mX3_onMix) (pc := 118) dX3_onMix_118 rfl ?_
                  refine J.gr (μ := mX3_onMix) (pc := 120) (T := TX5) (ci := 8) (fks := _) rfl rfl in_X5 1 (by decide) wf_X3_104 dX3_onMix_120 (ho 8 (by decide)) rfl ?_
                  refine J.iload_n (μ := mX3_onMix) (pc := 123) dX3_onMix_123 rfl ?_
                  refine J.cV (μ := mX3_onMix) (pc := 124) (g_lz ho _) rfl wm_X3_98 mi_X7_get rfl dX3_onMix_124 (Rp.isa (T := TX7) rfl (ho 11 (by decide))) rfl rfl ⟨(Nat.le_of_ble_eq_true rfl), (Nat.le_of_ble_eq_true rfl)⟩ ⟨(Nat.le_of_ble_eq_true rfl), (Nat.le_of_ble_eq_true rfl)⟩ (Nat.le_of_ble_eq_true rfl) ?_
                  refine J.iload (μ := mX3_onMix) (pc := 127) dX3_onMix_127 rfl ?_
                  refine J.icmp_ne (μ := mX3_onMix) (pc := 129) 153 dX3_onMix_129 (by decide) (fun c64 => ?_) (fun c64 => ?_)
                  · refine J.aload_n (μ := mX3_onMix) (pc := 153) dX3_onMix_153 rfl ?_
                    refine J.iconst (μ := mX3_onMix) (pc := 154) (v := 4) dX3_onMix_154 (by decide) ?_
                    refine J.iload (μ := mX3_onMix) (pc := 155) dX3_onMix_155 rfl ?_
                    refine J.cV (μ := mX3_onMix) (pc := 157) (s_X3_deny _ _) rfl wm_X3_60 mi_X3_deny rfl dX3_onMix_157 (Rp.isa (T := TX3) rfl sh289) rfl rfl ⟨(Nat.le_of_ble_eq_true rfl), (Nat.le_of_ble_eq_true rfl)⟩ ⟨(Nat.le_of_ble_eq_true rfl), (Nat.le_of_ble_eq_true rfl)⟩ (Nat.le_of_ble_eq_true rfl) ?_
                    exact J.iretP (μ := mX3_onMix) (pc := 160) dX3_onMix_160 rfl (Nat.le_of_ble_eq_true rfl) (Nat.le_of_ble_eq_true rfl) (by unfold vdMix; (try clear hN); (try clear hM); first | rfl | (simp [hasL, hasS, expd, nlt_of_le, nle_of_lt, *]; done) | (simp_all [hasL, hasS, expd, nlt_of_le, nle_of_lt]; done))
                  · refine J.aload (μ := mX3_onMix) (pc := 132) dX3_onMix_132 rfl ?_
                    refine J.gr (μ := mX3_onMix) (pc := 134) (T := TX5) (ci := 8) (fks := _) rfl rfl in_X5 0 (by decide) wf_X3_107 dX3_onMix_134 (ho 8 (by decide)) rfl ?_
                    refine J.iload_n (μ := mX3_onMix) (pc := 137) dX3_onMix_137 rfl ?_
                    refine J.cV (μ := mX3_onMix) (pc := 138) (g_ki ho _) rfl wm_X3_98 mi_X7_get rfl dX3_onMix_138 (Rp.isa (T := TX7) rfl (ho 9 (by decide))) rfl rfl ⟨(Nat.le_of_ble_eq_true rfl), (Nat.le_of_ble_eq_true rfl)⟩ ⟨(Nat.le_of_ble_eq_true rfl), (Nat.le_of_ble_eq_true rfl)⟩ (Nat.le_of_ble_eq_true rfl) ?_
                    refine J.aload (μ := mX3_onMix) (pc := 141) dX3_onMix_141 rfl ?_
                    refine J.gr (μ := mX3_onMix) (pc := 143) (T := TX5) (ci := 8) (fks := _) rfl rfl in_X5 0 (by decide) wf_X3_107 dX3_onMix_143 (ho 8 (by decide)) rfl ?_
                    refine J.iload_n (μ := mX3_onMix) (pc := 146) dX3_onMix_146 rfl ?_
                    refine J.cV (μ := mX3_onMix) (pc := 147) (g_ki ho _) rfl wm_X3_98 mi_X7_get rfl dX3_onMix_147 (Rp.isa (T := TX7) rfl (ho 9 (by decide))) rfl rfl ⟨(Nat.le_of_ble_eq_true rfl), (Nat.le_of_ble_eq_true rfl)⟩ ⟨(Nat.le_of_ble_eq_true rfl), (Nat.le_of_ble_eq_true rfl)⟩ (Nat.le_of_ble_eq_true rfl) ?_
                    refine J.icmp_eq (μ := mX3_onMix) (pc := 150) 161 dX3_onMix_150 (by decide) (fun c77 => ?_) (fun c77 => ?_)
                    · refine J.aload_n (μ := mX3_onMix) (pc := 161) dX3_onMix_161 rfl ?_
                      refine J.aload_n (μ := mX3_onMix) (pc := 162) dX3_onMix_162 rfl ?_
                      refine J.cV (μ := mX3_onMix) (pc := 163) (s_X3_onLotLimit0 ho hl) rfl wm_X3_85 mi_X3_onLotLimit rfl dX3_onMix_163 (Rp.isa (T := TX3) rfl sh289) rfl rfl ⟨(Nat.le_of_ble_eq_true rfl), (Nat.le_of_ble_eq_true rfl)⟩ ⟨(Nat.le_of_ble_eq_true rfl), (Nat.le_of_ble_eq_true rfl)⟩ (Nat.le_of_ble_eq_true rfl) ?_
                      refine J.if_eq (μ := mX3_onMix) (pc := 166) 171 dX3_onMix_166 (by decide) (fun c81 => ?_) (fun c81 => absurd c81 (by decide))
                      refine J.aload (μ := mX3_onMix) (pc := 171) dX3_onMix_171 rfl ?_
                      refine J.gr (μ := mX3_onMix) (pc := 173) (T := TX5) (ci := 8) (fks := _) rfl rfl in_X5 2 (by decide) wf_X3_94 dX3_onMix_173 (ho 8 (by decide)) rfl ?_
                      refine J.iload_n (μ := mX3_onMix) (pc := 176) dX3_onMix_176 rfl ?_
                      refine J.cV (μ := mX3_onMix) (pc := 177) (g_vo ho _) rfl wm_X3_98 mi_X7_get rfl dX3_onMix_177 (Rp.isa (T := TX7) rfl (ho 13 (by decide))) rfl rfl ⟨(Nat.le_of_ble_eq_true rfl), (Nat.le_of_ble_eq_true rfl)⟩ ⟨(Nat.le_of_ble_eq_true rfl), (Nat.le_of_ble_eq_true rfl)⟩ (Nat.le_of_ble_eq_true rfl) ?_
                      refine J.aload (μ := mX3_onMix) (pc := 180) dX3_onMix_180 rfl ?_
                      refine J.gr (μ := mX3_onMix) (pc := 182) (T := TX5) (ci := 8) (fks := _) rfl rfl in_X5 2 (by decide) wf_X3_94 dX3_onMix_182 (ho 8 (by decide)) rfl ?_
                      refine J.iload_n (μ := mX3_onMix) (pc := 185) dX3_onMix_185 rfl ?_
                      refine J.cV (μ := mX3_onMix) (pc := 186) (g_vo ho _) rfl wm_X3_98 mi_X7_get rfl dX3_onMix_186 (Rp.isa (T := TX7) rfl (ho 13 (by decide))) rfl rfl ⟨(Nat.le_of_ble_eq_true rfl), (Nat.le_of_ble_eq_true rfl)⟩ ⟨(Nat.le_of_ble_eq_true rfl), (Nat.le_of_ble_eq_true rfl)⟩ (Nat.le_of_ble_eq_true rfl) ?_
                      refine J.iadd (μ := mX3_onMix) (pc := 189) dX3_onMix_189 ?_
                      refine J.istore (μ := mX3_onMix) (pc := 190) dX3_onMix_190 (Nat.le_of_ble_eq_true rfl) rfl ?_
                      refine J.aload_n (μ := mX3_onMix) (pc := 192) dX3_onMix_192 rfl ?_
                      refine J.iload (μ := mX3_onMix) (pc := 193) dX3_onMix_193 rfl ?_
                      refine J.iload (μ := mX3_onMix) (pc := 195) dX3_onMix_195 rfl ?_
                      refine J.iload_n (μ := mX3_onMix) (pc := 197) dX3_onMix_197 rfl ?_
                      refine J.iload_n (μ := mX3_onMix) (pc := 198) dX3_onMix_198 rfl ?_
                      refine J.cV (μ := mX3_onMix) (pc := 199) (s_X9_placeFor ho hN h20 hM h8 _ _ _ _) rfl wm_X3_80 mi_X9_placeFor rfl dX3_onMix_199 (Rp.isa (T := TX9) rfl (ho 0 (by decide))) rfl rfl ⟨(Nat.le_of_ble_eq_true rfl), (Nat.le_of_ble_eq_true rfl)⟩ ⟨(Nat.le_of_ble_eq_true rfl), (Nat.le_of_ble_eq_true rfl)⟩ (Nat.le_of_ble_eq_true rfl) ?_
                      refine J.iconst (μ := mX3_onMix) (pc := 202) (v := -1) dX3_onMix_202 (by decide) ?_
                      refine J.icmp_eq (μ := mX3_onMix) (pc := 203) 210 dX3_onMix_203 (by decide) (fun c99 => ?_) (fun c99 => ?_)
                      · refine J.aload_n (μ := mX3_onMix) (pc := 210) dX3_onMix_210 rfl ?_
                        refine J.iconst (μ := mX3_onMix) (pc := 211) (v := 2) dX3_onMix_211 (by decide) ?_
                        refine J.iload (μ := mX3_onMix) (pc := 212) dX3_onMix_212 rfl ?_
                        refine J.cV (μ := mX3_onMix) (pc := 214) (s_X3_deny _ _) rfl wm_X3_60 mi_X3_deny rfl dX3_onMix_214 (Rp.isa (T := TX3) rfl sh289) rfl rfl ⟨(Nat.le_of_ble_eq_true rfl), (Nat.le_of_ble_eq_true rfl)⟩ ⟨(Nat.le_of_ble_eq_true rfl), (Nat.le_of_ble_eq_true rfl)⟩ (Nat.le_of_ble_eq_true rfl) ?_
                        exact J.iretP (μ := mX3_onMix) (pc := 217) dX3_onMix_217 rfl (Nat.le_of_ble_eq_true rfl) (Nat.le_of_ble_eq_true rfl) (by unfold vdMix; (try clear hN); (try clear hM); first | rfl | (simp [hasL, hasS, expd, nlt_of_le, nle_of_lt, *]; done) | (simp_all [hasL, hasS, expd, nlt_of_le, nle_of_lt]; done))
                      · refine J.iconst (μ := mX3_onMix) (pc := 206) (v := 0) dX3_onMix_206 (by decide) ?_
                        refine J.goto (μ := mX3_onMix) (pc := 207) 217 dX3_onMix_207 (by decide) ?_
                        exact J.iretP (μ := mX3_onMix) (pc := 217) dX3_onMix_217 rfl (Nat.le_of_ble_eq_true rfl) (Nat.le_of_ble_eq_true rfl) (by unfold vdMix; (try clear hN); (try clear hM); first | rfl | (simp [hasL, hasS, expd, nlt_of_le, nle_of_lt, *]; done) | (simp_all [hasL, hasS, expd, nlt_of_le, nle_of_lt]; done))
                    · refine J.aload_n (μ := mX3_onMix) (pc := 153) dX3_onMix_153 rfl ?_
                      refine J.iconst (μ := mX3_onMix) (pc := 154) (v := 4) dX3_onMix_154 (by decide) ?_
                      refine J.iload (μ := mX3_onMix) (pc := 155) dX3_onMix_155 rfl ?_
                      refine J.cV (μ := mX3_onMix) (pc := 157) (s_X3_deny _ _) rfl wm_X3_60 mi_X3_deny rfl dX3_onMix_157 (Rp.isa (T := TX3) rfl sh289) rfl rfl ⟨(Nat.le_of_ble_eq_true rfl), (Nat.le_of_ble_eq_true rfl)⟩ ⟨(Nat.le_of_ble_eq_true rfl), (Nat.le_of_ble_eq_true rfl)⟩ (Nat.le_of_ble_eq_true rfl) ?_
                      exact J.iretP (μ := mX3_onMix) (pc := 160) dX3_onMix_160 rfl (Nat.le_of_ble_eq_true rfl) (Nat.le_of_ble_eq_true rfl) (by unfold vdMix; (try clear hN); (try clear hM); first | rfl | (simp [hasL, hasS, expd, nlt_of_le, nle_of_lt, *]; done) | (simp_all [hasL, hasS, expd, nlt_of_le, nle_of_lt]; done))
                · refine J.aload_n (μ := mX3_onMix) (pc := 88) dX3_onMix_88 rfl ?_
                  refine J.iconst (μ := mX3_onMix) (pc := 89) (v := 3) dX3_onMix_89 (by decide) ?_
                  refine J.aload_n (μ := mX3_onMix) (pc := 90) dX3_onMix_90 rfl ?_
                  refine J.iload_n (μ := mX3_onMix) (pc := 91) dX3_onMix_91 rfl ?_
                  refine J.cV (μ := mX3_onMix) (pc := 92) (s_X9_hasExpired ho  _) rfl wm_X3_91 mi_X9_hasExpired rfl dX3_onMix_92 (Rp.isa (T := TX9) rfl (ho 0 (by decide))) rfl rfl ⟨(Nat.le_of_ble_eq_true rfl), (Nat.le_of_ble_eq_true rfl)⟩ ⟨(Nat.le_of_ble_eq_true rfl), (Nat.le_of_ble_eq_true rfl)⟩ (Nat.le_of_ble_eq_true rfl) ?_
                  refine J.ifB_eq (μ := mX3_onMix) (pc := 95) 102 dX3_onMix_95 (by decide) (fun c115 => ?_) (fun c115 => ?_)
                  · refine J.iload_n (μ := mX3_onMix) (pc := 102) dX3_onMix_102 rfl ?_
                    refine J.cV (μ := mX3_onMix) (pc := 103) (s_X3_deny _ _) rfl wm_X3_60 mi_X3_deny rfl dX3_onMix_103 (Rp.isa (T := TX3) rfl sh289) rfl rfl ⟨(Nat.le_of_ble_eq_true rfl), (Nat.le_of_ble_eq_true rfl)⟩ ⟨(Nat.le_of_ble_eq_true rfl), (Nat.le_of_ble_eq_true rfl)⟩ (Nat.le_of_ble_eq_true rfl) ?_
                    exact J.iretP (μ := mX3_onMix) (pc := 106) dX3_onMix_106 rfl (Nat.le_of_ble_eq_true rfl) (Nat.le_of_ble_eq_true rfl) (by unfold vdMix; (try clear hN); (try clear hM); first | rfl | (simp [hasL, hasS, expd, nlt_of_le, nle_of_lt, *]; done) | (simp_all [hasL, hasS, expd, nlt_of_le, nle_of_lt]; done))
                  · refine J.iload_n (μ := mX3_onMix) (pc := 98) dX3_onMix_98 rfl ?_
                    refine J.goto (μ := mX3_onMix) (pc := 99) 103 dX3_onMix_99 (by decide) ?_
                    refine J.cV (μ := mX3_onMix) (pc := 103) (s_X3_deny _ _) rfl wm_X3_60 mi_X3_deny rfl dX3_onMix_103 (Rp.isa (T := TX3) rfl sh289) rfl rfl ⟨(Nat.le_of_ble_eq_true rfl), (Nat.le_of_ble_eq_true rfl)⟩ ⟨(Nat.le_of_ble_eq_true rfl), (Nat.le_of_ble_eq_true rfl)⟩ (Nat.le_of_ble_eq_true rfl) ?_
                    exact J.iretP (μ := mX3_onMix) (pc := 106) dX3_onMix_106 rfl (Nat.le_of_ble_eq_true rfl) (Nat.le_of_ble_eq_true rfl) (by unfold vdMix; (try clear hN); (try clear hM); first | rfl | (simp [hasL, hasS, expd, nlt_of_le, nle_of_lt, *]; done) | (simp_all [hasL, hasS, expd, nlt_of_le, nle_of_lt]; done))
            · refine J.aload_n (μ := mX3_onMix) (pc := 52) dX3_onMix_52 rfl ?_
              refine J.iconst (μ := mX3_onMix) (pc := 53) (v := 5) dX3_onMix_53 (by decide) ?_
              refine J.aload (μ := mX3_onMix) (pc := 54) dX3_onMix_54 rfl ?_
              refine J.iload_n (μ := mX3_onMix) (pc := 56) dX3_onMix_56 rfl ?_
              refine J.cV (μ := mX3_onMix) (pc := 57) (s_X5_isShelved ho  _) rfl wm_X3_88 mi_X5_isShelved rfl dX3_onMix_57 (Rp.isa (T := TX5) rfl (ho 8 (by decide))) rfl rfl ⟨(Nat.le_of_ble_eq_true rfl), (Nat.le_of_ble_eq_true rfl)⟩ ⟨(Nat.le_of_ble_eq_true rfl), (Nat.le_of_ble_eq_true rfl)⟩ (Nat.le_of_ble_eq_true rfl) ?_
              refine J.ifB_eq (μ := mX3_onMix) (pc := 60) 67 dX3_onMix_60 (by decide) (fun c126 => ?_) (fun c126 => ?_)
              · refine J.iload_n (μ := mX3_onMix) (pc := 67) dX3_onMix_67 rfl ?_
                refine J.cV (μ := mX3_onMix) (pc := 68) (s_X3_deny _ _) rfl wm_X3_60 mi_X3_deny rfl dX3_onMix_68 (Rp.isa (T := TX3) rfl sh289) rfl rfl ⟨(Nat.le_of_ble_eq_true rfl), (Nat.le_of_ble_eq_true rfl)⟩ ⟨(Nat.le_of_ble_eq_true rfl), (Nat.le_of_ble_eq_true rfl)⟩ (Nat.le_of_ble_eq_true rfl) ?_
                exact J.iretP (μ := mX3_onMix) (pc := 71) dX3_onMix_71 rfl (Nat.le_of_ble_eq_true rfl) (Nat.le_of_ble_eq_true rfl) (by unfold vdMix; (try clear hN); (try clear hM); first | rfl | (simp [hasL, hasS, expd, nlt_of_le, nle_of_lt, *]; done) | (simp_all [hasL, hasS, expd, nlt_of_le, nle_of_lt]; done))
              · refine J.iload_n (μ := mX3_onMix) (pc := 63) dX3_onMix_63 rfl ?_
                refine J.goto (μ := mX3_onMix) (pc := 64) 68 dX3_onMix_64 (by decide) ?_
                refine J.cV (μ := mX3_onMix) (pc := 68) (s_X3_deny _ _) rfl wm_X3_60 mi_X3_deny rfl dX3_onMix_68 (Rp.isa (T := TX3) rfl sh289) rfl rfl ⟨(Nat.le_of_ble_eq_true rfl), (Nat.le_of_ble_eq_true rfl)⟩ ⟨(Nat.le_of_ble_eq_true rfl), (Nat.le_of_ble_eq_true rfl)⟩ (Nat.le_of_ble_eq_true rfl) ?_
                exact J.iretP (μ := mX3_onMix) (pc := 71) dX3_onMix_71 rfl (Nat.le_of_ble_eq_true rfl) (Nat.le_of_ble_eq_true rfl) (by unfold vdMix; (try clear hN); (try clear hM); first | rfl | (simp [hasL, hasS, expd, nlt_of_le, nle_of_lt, *]; done) | (simp_all [hasL, hasS, expd, nlt_of_le, nle_of_lt]; done))
        · refine J.bipush (μ := mX3_onMix) (pc := 31) (v := -3) dX3_onMix_31 (by decide) ?_
          exact J.iretP (μ := mX3_onMix) (pc := 33) dX3_onMix_33 rfl (Nat.le_of_ble_eq_true rfl) (Nat.le_of_ble_eq_true rfl) (by unfold vdMix; (try clear hN); (try clear hM); first | rfl | (simp [hasL, hasS, expd, nlt_of_le, nle_of_lt, *]; done) | (simp_all [hasL, hasS, expd, nlt_of_le, nle_of_lt]; done))
      · refine J.iconst (μ := mX3_onMix) (pc := 24) (v := -1) dX3_onMix_24 (by decide) ?_
        exact J.iretP (μ := mX3_onMix) (pc := 25) dX3_onMix_25 rfl (Nat.le_of_ble_eq_true rfl) (Nat.le_of_ble_eq_true rfl) (by unfold vdMix; (try clear hN); (try clear hM); first | rfl | (simp [hasL, hasS, expd, nlt_of_le, nle_of_lt, *]; done) | (simp_all [hasL, hasS, expd, nlt_of_le, nle_of_lt]; done))
  · refine J.aload_n (μ := mX3_onMix) (pc := 0) dX3_onMix_0 rfl ?_
    refine J.gr (μ := mX3_onMix) (pc := 1) (T := TX9) (ci := 12) (fks := _) rfl rfl in_X9 1 (by decide) wf_X3_35 dX3_onMix_1 (ho 0 (by decide)) rfl ?_
    refine J.astore (μ := mX3_onMix) (pc := 4) dX3_onMix_4 (Nat.le_of_ble_eq_true rfl) rfl ?_
    refine J.aload (μ := mX3_onMix) (pc := 6) dX3_onMix_6 rfl ?_
    refine J.iload_n (μ := mX3_onMix) (pc := 8) dX3_onMix_8 rfl ?_
    refine J.cV (μ := mX3_onMix) (pc := 9) (s_X5_has ho  _) rfl wm_X3_41 mi_X5_has rfl dX3_onMix_9 (Rp.isa (T := TX5) rfl (ho 8 (by decide))) rfl rfl ⟨(Nat.le_of_ble_eq_true rfl), (Nat.le_of_ble_eq_true rfl)⟩ ⟨(Nat.le_of_ble_eq_true rfl), (Nat.le_of_ble_eq_true rfl)⟩ (Nat.le_of_ble_eq_true rfl) ?_
    refine J.ifB_eq (μ := mX3_onMix) (pc := 12) 24 dX3_onMix_12 (by decide) (fun c7 => ?_) (fun c7 => ?_)
    · refine J.iconst (μ := mX3_onMix) (pc := 24) (v := -1) dX3_onMix_24 (by decide) ?_
      exact J.iretP (μ := mX3_onMix) (pc := 25) dX3_onMix_25 rfl (Nat.le_of_ble_eq_true rfl) (Nat.le_of_ble_eq_true rfl) (by unfold vdMix; (try clear hN); (try clear hM); first | rfl | (simp [hasL, hasS, expd, nlt_of_le, nle_of_lt, *]; done) | (simp_all [hasL, hasS, expd, nlt_of_le, nle_of_lt]; done))
    · refine J.aload (μ := mX3_onMix) (pc := 15) dX3_onMix_15 rfl ?_
      refine J.iload_n (μ := mX3_onMix) (pc := 17) dX3_onMix_17 rfl ?_
      refine J.cV (μ := mX3_onMix) (pc := 18) (s_X5_has ho  _) rfl wm_X3_41 mi_X5_has rfl dX3_onMix_18 (Rp.isa (T := TX5) rfl (ho 8 (by decide))) rfl rfl ⟨(Nat.le_of_ble_eq_true rfl), (Nat.le_of_ble_eq_true rfl)⟩ ⟨(Nat.le_of_ble_eq_true rfl), (Nat.le_of_ble_eq_true rfl)⟩ (Nat.le_of_ble_eq_true rfl) ?_
      refine J.ifB_ne (μ := mX3_onMix) (pc := 21) 26 dX3_onMix_21 (by decide) (fun c12 => ?_) (fun c12 => ?_)
      · refine J.iload_n (μ := mX3_onMix) (pc := 26) dX3_onMix_26 rfl ?_
        refine J.iload_n (μ := mX3_onMix) (pc := 27) dX3_onMix_27 rfl ?_
        refine J.icmp_ne (μ := mX3_onMix) (pc := 28) 34 dX3_onMix_28 (by decide) (fun c15 => ?_) (fun c15 => ?_)
        · refine J.aload (μ := mX3_onMix) (pc := 34) dX3_onMix_34 rfl ?_
          refine J.iload_n (μ := mX3_onMix) (pc := 36) dX3_onMix_36 rfl ?_
          refine J.cV (μ := mX3_onMix) (pc := 37) (s_X5_isShelved ho  _) rfl wm_X3_88 mi_X5_isShelved rfl dX3_onMix_37 (Rp.isa (T := TX5) rfl (ho 8 (by decide))) rfl rfl ⟨(Nat.le_of_ble_eq_true rfl), (Nat.le_of_ble_eq_true rfl)⟩ ⟨(Nat.le_of_ble_eq_true rfl), (Nat.le_of_ble_eq_true rfl)⟩ (Nat.le_of_ble_eq_true rfl) ?_
          refine J.ifB_eq (μ := mX3_onMix) (pc := 40) 52 dX3_onMix_40 (by decide) (fun c19 => ?_) (fun c19 => ?_)
          · refine J.aload_n (μ := mX3_onMix) (pc := 52) dX3_onMix_52 rfl ?_
            refine J.iconst (μ := mX3_onMix) (pc := 53) (v := 5) dX3_onMix_53 (by decide) ?_
            refine J.aload (μ := mX3_onMix) (pc := 54) dX3_onMix_54 rfl ?_
            refine J.iload_n (μ := mX3_onMix) (pc := 56) dX3_onMix_56 rfl ?_
            refine J.cV (μ := mX3_onMix) (pc := 57) (s_X5_isShelved ho  _) rfl wm_X3_88 mi_X5_isShelved rfl dX3_onMix_57 (Rp.isa (T := TX5) rfl (ho 8 (by decide))) rfl rfl ⟨(Nat.le_of_ble_eq_true rfl), (Nat.le_of_ble_eq_true rfl)⟩ ⟨(Nat.le_of_ble_eq_true rfl), (Nat.le_of_ble_eq_true rfl)⟩ (Nat.le_of_ble_eq_true rfl) ?_
            refine J.ifB_eq (μ := mX3_onMix) (pc := 60) 67 dX3_onMix_60 (by decide) (fun c25 => ?_) (fun c25 => ?_)
            · refine J.iload_n (μ := mX3_onMix) (pc := 67) dX3_onMix_67 rfl ?_
              refine J.cV (μ := mX3_onMix) (pc := 68) (s_X3_deny _ _) rfl wm_X3_60 mi_X3_deny rfl dX3_onMix_68 (Rp.isa (T := TX3) rfl sh289) rfl rfl ⟨(Nat.le_of_ble_eq_true rfl), (Nat.le_of_ble_eq_true rfl)⟩ ⟨(Nat.le_of_ble_eq_true rfl), (Nat.le_of_ble_eq_true rfl)⟩ (Nat.le_of_ble_eq_true rfl) ?_
              exact J.iretP (μ := mX3_onMix) (pc := 71) dX3_onMix_71 rfl (Nat.le_of_ble_eq_true rfl) (Nat.le_of_ble_eq_true rfl) (by unfold vdMix; (try clear hN); (try clear hM); first | rfl | (simp [hasL, hasS, expd, nlt_of_le, nle_of_lt, *]; done) | (simp_all [hasL, hasS, expd, nlt_of_le, nle_of_lt]; done))
            · refine J.iload_n (μ := mX3_onMix) (pc := 63) dX3_onMix_63 rfl ?_
              refine J.goto (μ := mX3_onMix) (pc := 64) 68 dX3_onMix_64 (by decide) ?_
              refine J.cV (μ := mX3_onMix) (pc := 68) (s_X3_deny _ _) rfl wm_X3_60 mi_X3_deny rfl dX3_onMix_68 (Rp.isa (T := TX3) rfl sh289) rfl rfl ⟨(Nat.le_of_ble_eq_true rfl), (Nat.le_of_ble_eq_true rfl)⟩ ⟨(Nat.le_of_ble_eq_true rfl), (Nat.le_of_ble_eq_true rfl)⟩ (Nat.le_of_ble_eq_true rfl) ?_
              exact J.iretP (μ := mX3_onMix) (pc := 71) dX3_onMix_71 rfl (Nat.le_of_ble_eq_true rfl) (Nat.le_of_ble_eq_true rfl) (by unfold vdMix; (try clear hN); (try clear hM); first | rfl | (simp [hasL, hasS, expd, nlt_of_le, nle_of_lt, *]; done) | (simp_all [hasL, hasS, expd, nlt_of_le, nle_of_lt]; done))
          · refine J.aload (μ := mX3_onMix) (pc := 43) dX3_onMix_43 rfl ?_
            refine J.iload_n (μ := mX3_onMix) (pc := 45) dX3_onMix_45 rfl ?_
            refine J.cV (μ := mX3_onMix) (pc := 46) (s_X5_isShelved ho  _) rfl wm_X3_88 mi_X5_isShelved rfl dX3_onMix_46 (Rp.isa (T := TX5) rfl (ho 8 (by decide))) rfl rfl ⟨(Nat.le_of_ble_eq_true rfl), (Nat.le_of_ble_eq_true rfl)⟩ ⟨(Nat.le_of_ble_eq_true rfl), (Nat.le_of_ble_eq_true rfl)⟩ (Nat.le_of_ble_eq_true rfl) ?_
            refine J.ifB_ne (μ := mX3_onMix) (pc := 49) 72 dX3_onMix_49 (by decide) (fun c34 => ?_) (fun c34 => ?_)
            · refine J.aload_n (μ := mX3_onMix) (pc := 72) dX3_onMix_72 rfl ?_
              refine J.iload_n (μ := mX3_onMix) (pc := 73) dX3_onMix_73 rfl ?_
              refine J.cV (μ := mX3_onMix) (pc := 74) (s_X9_hasExpired ho  _) rfl wm_X3_91 mi_X9_hasExpired rfl dX3_onMix_74 (Rp.isa (T := TX9) rfl (ho 0 (by decide))) rfl rfl ⟨(Nat.le_of_ble_eq_true rfl), (Nat.le_of_ble_eq_true rfl)⟩ ⟨(Nat.le_of_ble_eq_true rfl), (Nat.le_of_ble_eq_true rfl)⟩ (Nat.le_of_ble_eq_true rfl) ?_
              refine J.ifB_ne (μ := mX3_onMix) (pc := 77) 88 dX3_onMix_77 (by decide) (fun c38 => ?_) (fun c38 => ?_)
              · refine J.aload_n (μ := mX3_onMix) (pc := 88) dX3_onMix_88 rfl ?_
                refine J.iconst (μ := mX3_onMix) (pc := 89) (v := 3) dX3_onMix_89 (by decide) ?_
                refine J.aload_n (μ := mX3_onMix) (pc := 90) dX3_onMix_90 rfl ?_
                refine J.iload_n (μ := mX3_onMix) (pc := 91) dX3_onMix_91 rfl ?_
                refine J.cV (μ := mX3_onMix) (pc := 92) (s_X9_hasExpired ho  _) rfl wm_X3_91 mi_X9_hasExpired rfl dX3_onMix_92 (Rp.isa (T := TX9) rfl (ho 0 (by decide))) rfl rfl ⟨(Nat.le_of_ble_eq_true rfl), (Nat.le_of_ble_eq_true rfl)⟩ ⟨(Nat.le_of_ble_eq_true rfl), (Nat.le_of_ble_eq_true rfl)⟩ (Nat.le_of_ble_eq_true rfl) ?_
                refine J.ifB_eq (μ := mX3_onMix) (pc := 95) 102 dX3_onMix_95 (by decide) (fun c44 => ?_) (fun c44 => ?_)
                · refine J.iload_n (μ := mX3_onMix) (pc := 102) dX3_onMix_102 rfl ?_
                  refine J.cV (μ := mX3_onMix) (pc := 103) (s_X3_deny _ _) rfl wm_X3_60 mi_X3_deny rfl dX3_onMix_103 (Rp.isa (T := TX3) rfl sh289) rfl rfl ⟨(Nat.le_of_ble_eq_true rfl), (Nat.le_of_ble_eq_true rfl)⟩ ⟨(Nat.le_of_ble_eq_true rfl), (Nat.le_of_ble_eq_true rfl)⟩ (Nat.le_of_ble_eq_true rfl) ?_
                  exact J.iretP (μ := mX3_onMix) (pc := 106) dX3_onMix_106 rfl (Nat.le_of_ble_eq_true rfl) (Nat.le_of_ble_eq_true rfl) (by unfold vdMix; (try clear hN); (try clear hM); first | rfl | (simp [hasL, hasS, expd, nlt_of_le, nle_of_lt, *]; done) | (simp_all [hasL, hasS, expd, nlt_of_le, nle_of_lt]; done))
                · refine J.iload_n (μ := mX3_onMix) (pc := 98) dX3_onMix_98 rfl ?_
                  refine J.goto (μ := mX3_onMix) (pc := 99) 103 dX3_onMix_99 (by decide) ?_
                  refine J.cV (μ := mX3_onMix) (pc := 103) (s_X3_deny _ _) rfl wm_X3_60 mi_X3_deny rfl dX3_onMix_103 (Rp.isa (T := TX3) rfl sh289) rfl rfl ⟨(Nat.le_of_ble_eq_true rfl), (Nat.le_of_ble_eq_true rfl)⟩ ⟨(Nat.le_of_ble_eq_true rfl), (Nat.le_of_ble_eq_true rfl)⟩ (Nat.le_of_ble_eq_true rfl) ?_
                  exact J.iretP (μ := mX3_onMix) (pc := 106) dX3_onMix_106 rfl (Nat.le_of_ble_eq_true rfl) (Nat.le_of_ble_eq_true rfl) (by unfold vdMix; (try clear hN); (try clear hM); first | rfl | (simp [hasL, hasS, expd, nlt_of_le, nle_of_lt, *]; done) | (simp_all [hasL, hasS, expd, nlt_of_le, nle_of_lt]; done))
              · refine J.aload_n (μ := mX3_onMix) (pc := 80) dX3_onMix_80 rfl ?_
                refine J.iload_n (μ := mX3_onMix) (pc := 81) dX3_onMix_81 rfl ?_
                refine J.cV (μ := mX3_onMix) (pc := 82) (s_X9_hasExpired ho  _) rfl wm_X3_91 mi_X9_hasExpired rfl dX3_onMix_82 (Rp.isa (T := TX9) rfl (ho 0 (by decide))) rfl rfl ⟨(Nat.le_of_ble_eq_true rfl), (Nat.le_of_ble_eq_true rfl)⟩ ⟨(Nat.le_of_ble_eq_true rfl), (Nat.le_of_ble_eq_true rfl)⟩ (Nat.le_of_ble_eq_true rfl) ?_
                refine J.ifB_eq (μ := mX3_onMix) (pc := 85) 107 dX3_onMix_85 (by decide) (fun c53 => ?_) (fun c53 => ?_)
                · refine J.aload (μ := mX3_onMix) (pc := 107) dX3_onMix_107 rfl ?_
                  refine J.gr (μ := mX3_onMix) (pc := 109) (T := TX5) (ci := 8) (fks := _) rfl rfl in_X5 1 (by decide) wf_X3_104 dX3_onMix_109 (ho 8 (by decide)) rfl ?_
                  refine J.iload_n (μ := mX3_onMix) (pc := 112) dX3_onMix_112 rfl ?_
                  refine J.cV (μ := mX3_onMix) (pc := 113) (g_lz ho _) rfl wm_X3_98 mi_X7_get rfl dX3_onMix_113 (Rp.isa (T := TX7) rfl (ho 11 (by decide))) rfl rfl ⟨(Nat.le_of_ble_eq_true rfl), (Nat.le_of_ble_eq_true rfl)⟩ ⟨(Nat.le_of_ble_eq_true rfl), (Nat.le_of_ble_eq_true rfl)⟩ (Nat.le_of_ble_eq_true rfl) ?_
                  refine J.istore (μ := mX3_onMix) (pc := 116) dX3_onMix_116 (Nat.le_of_ble_eq_true rfl) rfl ?_
                  refine J.aload (μ := mX3_onMix) (pc := 118) dX3_onMix_118 rfl ?_
                  refine J.gr (μ := mX3_onMix) (pc := 120) (T := TX5) (ci := 8) (fks := _) rfl rfl in_X5 1 (by decide) wf_X3_104 dX3_onMix_120 (ho 8 (by decide)) rfl ?_
                  refine J.iload_n (μ := mX3_onMix) (pc := 123) dX3_onMix_123 rfl ?_
                  refine J.cV (μ := mX3_onMix) (pc := 124) (g_lz ho _) rfl wm_X3_98 mi_X7_get rfl dX3_onMix_124 (Rp.isa (T := TX7) rfl (ho 11 (by decide))) rfl rfl ⟨(Nat.le_of_ble_eq_true rfl), (Nat.le_of_ble_eq_true rfl)⟩ ⟨(Nat.le_of_ble_eq_true rfl), (Nat.le_of_ble_eq_true rfl)⟩ (Nat.le_of_ble_eq_true rfl) ?_
                  refine J.iload (μ := mX3_onMix) (pc := 127) dX3_onMix_127 rfl ?_
                  refine J.icmp_ne (μ := mX3_onMix) (pc := 129) 153 dX3_onMix_129 (by decide) (fun c64 => ?_) (fun c64 => ?_)
                  · refine J.aload_n (μ := mX3_onMix) (pc := 153) dX3_onMix_153 rfl ?_
                    refine J.iconst (μ := mX3_onMix) (pc := 154) (v := 4) dX3_onMix_154 (by decide) ?_
                    refine J.iload (μ := mX3_onMix) (pc := 155) dX3_onMix_155 rfl ?_
                    refine J.cV (μ := mX3_onMix) (pc := 157) (s_X3_deny _ _) rfl wm_X3_60 mi_X3_deny rfl dX3_onMix_157 (Rp.isa (T := TX3) rfl sh289) rfl rfl ⟨(Nat.le_of_ble_eq_true rfl), (Nat.le_of_ble_eq_true rfl)⟩ ⟨(Nat.le_of_ble_eq_true rfl), (Nat.le_of_ble_eq_true rfl)⟩ (Nat.le_of_ble_eq_true rfl) ?_
                    exact J.iretP (μ := mX3_onMix) (pc := 160) dX3_onMix_160 rfl (Nat.le_of_ble_eq_true rfl) (Nat.le_of_ble_eq_true rfl) (by unfold vdMix; (try clear hN); (try clear hM); first | rfl | (simp [hasL, hasS, expd, nlt_of_le, nle_of_lt, *]; done) | (simp_all [hasL, hasS, expd, nlt_of_le, nle_of_lt]; done))
                  · refine J.aload (μ := mX3_onMix) (pc := 132) dX3_onMix_132 rfl ?_
                    refine J.gr (μ := mX3_onMix) (pc := 134) (T := TX5) (ci := 8) (fks := _) rfl rfl in_X5 0 (by decide) wf_X3_107 dX3_onMix_134 (ho 8 (by decide)) rfl ?_
                    refine J.iload_n (μ := mX3_onMix) (pc := 137) dX3_onMix_137 rfl ?_
                    refine J.cV (μ := mX3_onMix) (pc := 138) (g_ki ho _) rfl wm_X3_98 mi_X7_get rfl dX3_onMix_138 (Rp.isa (T := TX7) rfl (ho 9 (by decide))) rfl rfl ⟨(Nat.le_of_ble_eq_true rfl), (Nat.le_of_ble_eq_true rfl)⟩ ⟨(Nat.le_of_ble_eq_true rfl), (Nat.le_of_ble_eq_true rfl)⟩ (Nat.le_of_ble_eq_true rfl) ?_
                    refine J.aload (μ := mX3_onMix) (pc := 141) dX3_onMix_141 rfl ?_
                    refine J.gr (μ := mX3_onMix) (pc := 143) (T := TX5) (ci := 8) (fks := _) rfl rfl in_X5 0 (by decide) wf_X3_107 dX3_onMix_143 (ho 8 (by decide)) rfl ?_
                    refine J.iload_n (μ := mX3_onMix) (pc := 146) dX3_onMix_146 rfl ?_
                    refine J.cV (μ := mX3_onMix) (pc := 147) (g_ki ho _) rfl wm_X3_98 mi_X7_get rfl dX3_onMix_147 (Rp.isa (T := TX7) rfl (ho 9 (by decide))) rfl rfl ⟨(Nat.le_of_ble_eq_true rfl), (Nat.le_of_ble_eq_true rfl)⟩ ⟨(Nat.le_of_ble_eq_true rfl), (Nat.le_of_ble_eq_true rfl)⟩ (Nat.le_of_ble_eq_true rfl) ?_
                    refine J.icmp_eq (μ := mX3_onMix) (pc := 150) 161 dX3_onMix_150 (by decide) (fun c77 => ?_) (fun c77 => ?_)
                    · refine J.aload_n (μ := mX3_onMix) (pc := 161) dX3_onMix_161 rfl ?_
                      refine J.aload_n (μ := mX3_onMix) (pc := 162) dX3_onMix_162 rfl ?_
                      refine J.cV (μ := mX3_onMix) (pc := 163) (s_X3_onLotLimit1 ho hl) rfl wm_X3_85 mi_X3_onLotLimit rfl dX3_onMix_163 (Rp.isa (T := TX3) rfl sh289) rfl rfl ⟨(Nat.le_of_ble_eq_true rfl), (Nat.le_of_ble_eq_true rfl)⟩ ⟨(Nat.le_of_ble_eq_true rfl), (Nat.le_of_ble_eq_true rfl)⟩ (Nat.le_of_ble_eq_true rfl) ?_
                      refine J.if_eq (μ := mX3_onMix) (pc := 166) 171 dX3_onMix_166 (by decide) (fun c81 => absurd c81 (by decide)) (fun c81 => ?_)
                      refine J.iconst (μ := mX3_onMix) (pc := 169) (v := 1) dX3_onMix_169 (by decide) ?_
                      exact J.iretP (μ := mX3_onMix) (pc := 170) dX3_onMix_170 rfl (Nat.le_of_ble_eq_true rfl) (Nat.le_of_ble_eq_true rfl) (by unfold vdMix; (try clear hN); (try clear hM); first | rfl | (simp [hasL, hasS, expd, nlt_of_le, nle_of_lt, *]; done) | (simp_all [hasL, hasS, expd, nlt_of_le, nle_of_lt]; done))
                    · refine J.aload_n (μ := mX3_onMix) (pc := 153) dX3_onMix_153 rfl ?_
                      refine J.iconst (μ := mX3_onMix) (pc := 154) (v := 4) dX3_onMix_154 (by decide) ?_
                      refine J.iload (μ := mX3_onMix) (pc := 155) dX3_onMix_155 rfl ?_
                      refine J.cV (μ := mX3_onMix) (pc := 157) (s_X3_deny _ _) rfl wm_X3_60 mi_X3_deny rfl dX3_onMix_157 (Rp.isa (T := TX3) rfl sh289) rfl rfl ⟨(Nat.le_of_ble_eq_true rfl), (Nat.le_of_ble_eq_true rfl)⟩ ⟨(Nat.le_of_ble_eq_true rfl), (Nat.le_of_ble_eq_true rfl)⟩ (Nat.le_of_ble_eq_true rfl) ?_
                      exact J.iretP (μ := mX3_onMix) (pc := 160) dX3_onMix_160 rfl (Nat.le_of_ble_eq_true rfl) (Nat.le_of_ble_eq_true rfl) (by unfold vdMix; (try clear hN); (try clear hM); first | rfl | (simp [hasL, hasS, expd, nlt_of_le, nle_of_lt, *]; done) | (simp_all [hasL, hasS, expd, nlt_of_le, nle_of_lt]; done))
                · refine J.aload_n (μ := mX3_onMix) (pc := 88) dX3_onMix_88 rfl ?_
                  refine J.iconst (μ := mX3_onMix) (pc := 89) (v := 3) dX3_onMix_89 (by decide) ?_
                  refine J.aload_n (μ := mX3_onMix) (pc := 90) dX3_onMix_90 rfl ?_
                  refine J.iload_n (μ := mX3_onMix) (pc := 91) dX3_onMix_91 rfl ?_
                  refine J.cV (μ := mX3_onMix) (pc := 92) (s_X9_hasExpired ho  _) rfl wm_X3_91 mi_X9_hasExpired rfl dX3_onMix_92 (Rp.isa (T := TX9) rfl (ho 0 (by decide))) rfl rfl ⟨(Nat.le_of_ble_eq_true rfl), (Nat.le_of_ble_eq_true rfl)⟩ ⟨(Nat.le_of_ble_eq_true rfl), (Nat.le_of_ble_eq_true rfl)⟩ (Nat.le_of_ble_eq_true rfl) ?_
                  refine J.ifB_eq (μ := mX3_onMix) (pc := 95) 102 dX3_onMix_95 (by decide) (fun c92 => ?_) (fun c92 => ?_)
                  · refine J.iload_n (μ := mX3_onMix) (pc := 102) dX3_onMix_102 rfl ?_
                    refine J.cV (μ := mX3_onMix) (pc := 103) (s_X3_deny _ _) rfl wm_X3_60 mi_X3_deny rfl dX3_onMix_103 (Rp.isa (T := TX3) rfl sh289) rfl rfl ⟨(Nat.le_of_ble_eq_true rfl), (Nat.le_of_ble_eq_true rfl)⟩ ⟨(Nat.le_of_ble_eq_true rfl), (Nat.le_of_ble_eq_true rfl)⟩ (Nat.le_of_ble_eq_true rfl) ?_
                    exact J.iretP (μ := mX3_onMix) (pc := 106) dX3_onMix_106 rfl (Nat.le_of_ble_eq_true rfl) (Nat.le_of_ble_eq_true rfl) (by unfold vdMix; (try clear hN); (try clear hM); first | rfl | (simp [hasL, hasS, expd, nlt_of_le, nle_of_lt, *]; done) | (simp_all [hasL, hasS, expd, nlt_of_le, nle_of_lt]; done))
                  · refine J.iload_n (μ := mX3_onMix) (pc := 98) dX3_onMix_98 rfl ?_
                    refine J.goto (μ := mX3_onMix) (pc := 99) 103 dX3_onMix_99 (by decide) ?_
                    refine J.cV (μ := mX3_onMix) (pc := 103) (s_X3_deny _ _) rfl wm_X3_60 mi_X3_deny rfl dX3_onMix_103 (Rp.isa (T := TX3) rfl sh289) rfl rfl ⟨(Nat.le_of_ble_eq_true rfl), (Nat.le_of_ble_eq_true rfl)⟩ ⟨(Nat.le_of_ble_eq_true rfl), (Nat.le_of_ble_eq_true rfl)⟩ (Nat.le_of_ble_eq_true rfl) ?_
                    exact J.iretP (μ := mX3_onMix) (pc := 106) dX3_onMix_106 rfl (Nat.le_of_ble_eq_true rfl) (Nat.le_of_ble_eq_true rfl) (by unfold vdMix; (try clear hN); (try clear hM); first | rfl | (simp [hasL, hasS, expd, nlt_of_le, nle_of_lt, *]; done) | (simp_all [hasL, hasS, expd, nlt_of_le, nle_of_lt]; done))
            · refine J.aload_n (μ := mX3_onMix) (pc := 52) dX3_onMix_52 rfl ?_
              refine J.iconst (μ := mX3_onMix) (pc := 53) (v := 5) dX3_onMix_53 (by decide) ?_
              refine J.aload (μ := mX3_onMix) (pc := 54) dX3_onMix_54 rfl ?_
              refine J.iload_n (μ := mX3_onMix) (pc := 56) dX3_onMix_56 rfl ?_
              refine J.cV (μ := mX3_onMix) (pc := 57) (s_X5_isShelved ho  _) rfl wm_X3_88 mi_X5_isShelved rfl dX3_onMix_57 (Rp.isa (T := TX5) rfl (ho 8 (by decide))) rfl rfl ⟨(Nat.le_of_ble_eq_true rfl), (Nat.le_of_ble_eq_true rfl)⟩ ⟨(Nat.le_of_ble_eq_true rfl), (Nat.le_of_ble_eq_true rfl)⟩ (Nat.le_of_ble_eq_true rfl) ?_
              refine J.ifB_eq (μ := mX3_onMix) (pc := 60) 67 dX3_onMix_60 (by decide) (fun c103 => ?_) (fun c103 => ?_)
              · refine J.iload_n (μ := mX3_onMix) (pc := 67) dX3_onMix_67 rfl ?_
                refine J.cV (μ := mX3_onMix) (pc := 68) (s_X3_deny _ _) rfl wm_X3_60 mi_X3_deny rfl dX3_onMix_68 (Rp.isa (T := TX3) rfl sh289) rfl rfl ⟨(Nat.le_of_ble_eq_true rfl), (Nat.le_of_ble_eq_true rfl)⟩ ⟨(Nat.le_of_ble_eq_true rfl), (Nat.le_of_ble_eq_true rfl)⟩ (Nat.le_of_ble_eq_true rfl) ?_
                exact J.iretP (μ := mX3_onMix) (pc := 71) dX3_onMix_71 rfl (Nat.le_of_ble_eq_true rfl) (Nat.le_of_ble_eq_true rfl) (by unfold vdMix; (try clear hN); (try clear hM); first | rfl | (simp [hasL, hasS, expd, nlt_of_le, nle_of_lt, *]; done) | (simp_all [hasL, hasS, expd, nlt_of_le, nle_of_lt]; done))
              · refine J.iload_n (μ := mX3_onMix) (pc := 63) dX3_onMix_63 rfl ?_
                refine J.goto (μ := mX3_onMix) (pc := 64) 68 dX3_onMix_64 (by decide) ?_
                refine J.cV (μ := mX3_onMix) (pc := 68) (s_X3_deny _ _) rfl wm_X3_60 mi_X3_deny rfl dX3_onMix_68 (Rp.isa (T := TX3) rfl sh289) rfl rfl ⟨(Nat.le_of_ble_eq_true rfl), (Nat.le_of_ble_eq_true rfl)⟩ ⟨(Nat.le_of_ble_eq_true rfl), (Nat.le_of_ble_eq_true rfl)⟩ (Nat.le_of_ble_eq_true rfl) ?_
                exact J.iretP (μ := mX3_onMix) (pc := 71) dX3_onMix_71 rfl (Nat.le_of_ble_eq_true rfl) (Nat.le_of_ble_eq_true rfl) (by unfold vdMix; (try clear hN); (try clear hM); first | rfl | (simp [hasL, hasS, expd, nlt_of_le, nle_of_lt, *]; done) | (simp_all [hasL, hasS, expd, nlt_of_le, nle_of_lt]; done))
        · refine J.bipush (μ := mX3_onMix) (pc := 31) (v := -3) dX3_onMix_31 (by decide) ?_
          exact J.iretP (μ := mX3_onMix) (pc := 33) dX3_onMix_33 rfl (Nat.le_of_ble_eq_true rfl) (Nat.le_of_ble_eq_true rfl) (by unfold vdMix; (try clear hN); (try clear hM); first | rfl | (simp [hasL, hasS, expd, nlt_of_le, nle_of_lt, *]; done) | (simp_all [hasL, hasS, expd, nlt_of_le, nle_of_lt]; done))
      · refine J.iconst (μ := mX3_onMix) (pc := 24) (v := -1) dX3_onMix_24 (by decide) ?_
        exact J.iretP (μ := mX3_onMix) (pc := 25) dX3_onMix_25 rfl (Nat.le_of_ble_eq_true rfl) (Nat.le_of_ble_eq_true rfl) (by unfold vdMix; (try clear hN); (try clear hM); first | rfl | (simp [hasL, hasS, expd, nlt_of_le, nle_of_lt, *]; done) | (simp_all [hasL, hasS, expd, nlt_of_le, nle_of_lt]; done))

theorem s_X3_onMove {γ : Gm} {v : Vs} {o : Nat} (ho : IsStk o) {N : Nat} (hN : v (o + 8) 7 = nI N) (h20 : N ≤ 20) (x y : Int32) : Ew γ mX3_onMove yX3_onMove 2 [.ref (gz γ + 289), .ref (gz γ + o), .int x, .int y] v (some (.int (vdMove v o N x y).1)) (vdMove v o N x y).2 := by
  refine Ev.ofJ (by decide) rfl (fun h => by cases h) (Nat.le_of_ble_eq_true rfl) ?_
  refine J.aload_n (μ := mX3_onMove) (pc := 0) dX3_onMove_0 rfl ?_
  refine J.gr (μ := mX3_onMove) (pc := 1) (T := TX9) (ci := 12) (fks := _) rfl rfl in_X9 1 (by decide) wf_X3_35 dX3_onMove_1 (ho 0 (by decide)) rfl ?_
  refine J.iload_n (μ := mX3_onMove) (pc := 4) dX3_onMove_4 rfl ?_
  refine J.cV (μ := mX3_onMove) (pc := 5) (s_X5_has ho  _) rfl wm_X3_41 mi_X5_has rfl dX3_onMove_5 (Rp.isa (T := TX5) rfl (ho 8 (by decide))) rfl rfl ⟨(Nat.le_of_ble_eq_true rfl), (Nat.le_of_ble_eq_true rfl)⟩ ⟨(Nat.le_of_ble_eq_true rfl), (Nat.le_of_ble_eq_true rfl)⟩ (Nat.le_of_ble_eq_true rfl) ?_
  refine J.ifB_ne (μ := mX3_onMove) (pc := 8) 13 dX3_onMove_8 (by decide) (fun c5 => ?_) (fun c5 => ?_)
  · refine J.aload_n (μ := mX3_onMove) (pc := 13) dX3_onMove_13 rfl ?_
    refine J.gr (μ := mX3_onMove) (pc := 14) (T := TX9) (ci := 12) (fks := _) rfl rfl in_X9 0 (by decide) wf_X3_64 dX3_onMove_14 (ho 0 (by decide)) rfl ?_
    refine J.iload_n (μ := mX3_onMove) (pc := 17) dX3_onMove_17 rfl ?_
    refine J.cV (μ := mX3_onMove) (pc := 18) (s_X8_has ho  _) rfl wm_X3_68 mi_X8_has rfl dX3_onMove_18 (Rp.isa (T := TX8) rfl (ho 1 (by decide))) rfl rfl ⟨(Nat.le_of_ble_eq_true rfl), (Nat.le_of_ble_eq_true rfl)⟩ ⟨(Nat.le_of_ble_eq_true rfl), (Nat.le_of_ble_eq_true rfl)⟩ (Nat.le_of_ble_eq_true rfl) ?_
    refine J.ifB_ne (μ := mX3_onMove) (pc := 21) 27 dX3_onMove_21 (by decide) (fun c10 => ?_) (fun c10 => ?_)
    · refine J.aload_n (μ := mX3_onMove) (pc := 27) dX3_onMove_27 rfl ?_
      refine J.gr (μ := mX3_onMove) (pc := 28) (T := TX9) (ci := 12) (fks := _) rfl rfl in_X9 1 (by decide) wf_X3_35 dX3_onMove_28 (ho 0 (by decide)) rfl ?_
      refine J.iload_n (μ := mX3_onMove) (pc := 31) dX3_onMove_31 rfl ?_
      refine J.cV (μ := mX3_onMove) (pc := 32) (s_X5_isShelved ho  _) rfl wm_X3_88 mi_X5_isShelved rfl dX3_onMove_32 (Rp.isa (T := TX5) rfl (ho 8 (by decide))) rfl rfl ⟨(Nat.le_of_ble_eq_true rfl), (Nat.le_of_ble_eq_true rfl)⟩ ⟨(Nat.le_of_ble_eq_true rfl), (Nat.le_of_ble_eq_true rfl)⟩ (Nat.le_of_ble_eq_true rfl) ?_
      refine J.ifB_ne (μ := mX3_onMove) (pc := 35) 45 dX3_onMove_35 (by decide) (fun c15 => ?_) (fun c15 => ?_)
      · refine J.aload_n (μ := mX3_onMove) (pc := 45) dX3_onMove_45 rfl ?_
        refine J.iload_n (μ := mX3_onMove) (pc := 46) dX3_onMove_46 rfl ?_
        refine J.cV (μ := mX3_onMove) (pc := 47) (s_X9_hasExpired ho  _) rfl wm_X3_91 mi_X9_hasExpired rfl dX3_onMove_47 (Rp.isa (T := TX9) rfl (ho 0 (by decide))) rfl rfl ⟨(Nat.le_of_ble_eq_true rfl), (Nat.le_of_ble_eq_true rfl)⟩ ⟨(Nat.le_of_ble_eq_true rfl), (Nat.le_of_ble_eq_true rfl)⟩ (Nat.le_of_ble_eq_true rfl) ?_
        refine J.ifB_eq (μ := mX3_onMove) (pc := 50) 60 dX3_onMove_50 (by decide) (fun c19 => ?_) (fun c19 => ?_)
        · refine J.aload_n (μ := mX3_onMove) (pc := 60) dX3_onMove_60 rfl ?_
          refine J.gr (μ := mX3_onMove) (pc := 61) (T := TX9) (ci := 12) (fks := _) rfl rfl in_X9 0 (by decide) wf_X3_64 dX3_onMove_61 (ho 0 (by decide)) rfl ?_
          refine J.gr (μ := mX3_onMove) (pc := 64) (T := TX8) (ci := 11) (fks := _) rfl rfl in_X8 0 (by decide) wf_X3_110 dX3_onMove_64 (ho 1 (by decide)) rfl ?_
          refine J.iload_n (μ := mX3_onMove) (pc := 67) dX3_onMove_67 rfl ?_
          refine J.cV (μ := mX3_onMove) (pc := 68) (g_zn ho _) rfl wm_X3_98 mi_X7_get rfl dX3_onMove_68 (Rp.isa (T := TX7) rfl (ho 2 (by decide))) rfl rfl ⟨(Nat.le_of_ble_eq_true rfl), (Nat.le_of_ble_eq_true rfl)⟩ ⟨(Nat.le_of_ble_eq_true rfl), (Nat.le_of_ble_eq_true rfl)⟩ (Nat.le_of_ble_eq_true rfl) ?_
          refine J.istore (μ := mX3_onMove) (pc := 71) dX3_onMove_71 (Nat.le_of_ble_eq_true rfl) rfl ?_
          refine J.aload_n (μ := mX3_onMove) (pc := 73) dX3_onMove_73 rfl ?_
          refine J.gr (μ := mX3_onMove) (pc := 74) (T := TX9) (ci := 12) (fks := _) rfl rfl in_X9 1 (by decide) wf_X3_35 dX3_onMove_74 (ho 0 (by decide)) rfl ?_
          refine J.gr (μ := mX3_onMove) (pc := 77) (T := TX5) (ci := 8) (fks := _) rfl rfl in_X5 1 (by decide) wf_X3_104 dX3_onMove_77 (ho 8 (by decide)) rfl ?_
          refine J.iload_n (μ := mX3_onMove) (pc := 80) dX3_onMove_80 rfl ?_
          refine J.cV (μ := mX3_onMove) (pc := 81) (g_lz ho _) rfl wm_X3_98 mi_X7_get rfl dX3_onMove_81 (Rp.isa (T := TX7) rfl (ho 11 (by decide))) rfl rfl ⟨(Nat.le_of_ble_eq_true rfl), (Nat.le_of_ble_eq_true rfl)⟩ ⟨(Nat.le_of_ble_eq_true rfl), (Nat.le_of_ble_eq_true rfl)⟩ (Nat.le_of_ble_eq_true rfl) ?_
          refine J.iload (μ := mX3_onMove) (pc := 84) dX3_onMove_84 rfl ?_
          refine J.icmp_eq (μ := mX3_onMove) (pc := 86) 97 dX3_onMove_86 (by decide) (fun c32 => ?_) (fun c32 => ?_)
          · refine J.aload_n (μ := mX3_onMove) (pc := 97) dX3_onMove_97 rfl ?_
            refine J.gr (μ := mX3_onMove) (pc := 98) (T := TX9) (ci := 12) (fks := _) rfl rfl in_X9 1 (by decide) wf_X3_35 dX3_onMove_98 (ho 0 (by decide)) rfl ?_
            refine J.gr (μ := mX3_onMove) (pc := 101) (T := TX5) (ci := 8) (fks := _) rfl rfl in_X5 2 (by decide) wf_X3_94 dX3_onMove_101 (ho 8 (by decide)) rfl ?_
            refine J.iload_n (μ := mX3_onMove) (pc := 104) dX3_onMove_104 rfl ?_
            refine J.cV (μ := mX3_onMove) (pc := 105) (g_vo ho _) rfl wm_X3_98 mi_X7_get rfl dX3_onMove_105 (Rp.isa (T := TX7) rfl (ho 13 (by decide))) rfl rfl ⟨(Nat.le_of_ble_eq_true rfl), (Nat.le_of_ble_eq_true rfl)⟩ ⟨(Nat.le_of_ble_eq_true rfl), (Nat.le_of_ble_eq_true rfl)⟩ (Nat.le_of_ble_eq_true rfl) ?_
            refine J.istore (μ := mX3_onMove) (pc := 108) dX3_onMove_108 (Nat.le_of_ble_eq_true rfl) rfl ?_
            refine J.aload_n (μ := mX3_onMove) (pc := 110) dX3_onMove_110 rfl ?_
            refine J.iload_n (μ := mX3_onMove) (pc := 111) dX3_onMove_111 rfl ?_
            refine J.iload_n (μ := mX3_onMove) (pc := 112) dX3_onMove_112 rfl ?_
            refine J.iconst (μ := mX3_onMove) (pc := 113) (v := -1) dX3_onMove_113 (by decide) ?_
            refine J.cV (μ := mX3_onMove) (pc := 114) (s_X9_roomWithout ho hN h20 _ _ _) rfl wm_X3_111 mi_X9_roomWithout rfl dX3_onMove_114 (Rp.isa (T := TX9) rfl (ho 0 (by decide))) rfl rfl ⟨(Nat.le_of_ble_eq_true rfl), (Nat.le_of_ble_eq_true rfl)⟩ ⟨(Nat.le_of_ble_eq_true rfl), (Nat.le_of_ble_eq_true rfl)⟩ (Nat.le_of_ble_eq_true rfl) ?_
            refine J.iload (μ := mX3_onMove) (pc := 117) dX3_onMove_117 rfl ?_
            refine J.icmp_lt (μ := mX3_onMove) (pc := 119) 126 dX3_onMove_119 (by decide) (fun c45 => ?_) (fun c45 => ?_)
            · refine J.aload_n (μ := mX3_onMove) (pc := 126) dX3_onMove_126 rfl ?_
              refine J.iconst (μ := mX3_onMove) (pc := 127) (v := 2) dX3_onMove_127 (by decide) ?_
              refine J.iload (μ := mX3_onMove) (pc := 128) dX3_onMove_128 rfl ?_
              refine J.cV (μ := mX3_onMove) (pc := 130) (s_X3_deny _ _) rfl wm_X3_60 mi_X3_deny rfl dX3_onMove_130 (Rp.isa (T := TX3) rfl sh289) rfl rfl ⟨(Nat.le_of_ble_eq_true rfl), (Nat.le_of_ble_eq_true rfl)⟩ ⟨(Nat.le_of_ble_eq_true rfl), (Nat.le_of_ble_eq_true rfl)⟩ (Nat.le_of_ble_eq_true rfl) ?_
              exact J.iretP (μ := mX3_onMove) (pc := 133) dX3_onMove_133 rfl (Nat.le_of_ble_eq_true rfl) (Nat.le_of_ble_eq_true rfl) (by unfold vdMove; (try clear hN); (try clear hM); first | rfl | (simp [hasL, hasS, expd, nlt_of_le, nle_of_lt, *]; done) | (simp_all [hasL, hasS, expd, nlt_of_le, nle_of_lt]; done))
            · refine J.iconst (μ := mX3_onMove) (pc := 122) (v := 0) dX3_onMove_122 (by decide) ?_
              refine J.goto (μ := mX3_onMove) (pc := 123) 133 dX3_onMove_123 (by decide) ?_
              exact J.iretP (μ := mX3_onMove) (pc := 133) dX3_onMove_133 rfl (Nat.le_of_ble_eq_true rfl) (Nat.le_of_ble_eq_true rfl) (by unfold vdMove; (try clear hN); (try clear hM); first | rfl | (simp [hasL, hasS, expd, nlt_of_le, nle_of_lt, *]; done) | (simp_all [hasL, hasS, expd, nlt_of_le, nle_of_lt]; done))
          · refine J.aload_n (μ := mX3_onMove) (pc := 89) dX3_onMove_89 rfl ?_
            refine J.iconst (μ := mX3_onMove) (pc := 90) (v := 4) dX3_onMove_90 (by decide) ?_
            refine J.iload (μ := mX3_onMove) (pc := 91) dX3_onMove_91 rfl ?_
            refine J.cV (μ := mX3_onMove) (pc := 93) (s_X3_deny _ _) rfl wm_X3_60 mi_X3_deny rfl dX3_onMove_93 (Rp.isa (T := TX3) rfl sh289) rfl rfl ⟨(Nat.le_of_ble_eq_true rfl), (Nat.le_of_ble_eq_true rfl)⟩ ⟨(Nat.le_of_ble_eq_true rfl), (Nat.le_of_ble_eq_true rfl)⟩ (Nat.le_of_ble_eq_true rfl) ?_
            exact J.iretP (μ := mX3_onMove) (pc := 96) dX3_onMove_96 rfl (Nat.le_of_ble_eq_true rfl) (Nat.le_of_ble_eq_true rfl) (by unfold vdMove; (try clear hN); (try clear hM); first | rfl | (simp [hasL, hasS, expd, nlt_of_le, nle_of_lt, *]; done) | (simp_all [hasL, hasS, expd, nlt_of_le, nle_of_lt]; done))
        · refine J.aload_n (μ := mX3_onMove) (pc := 53) dX3_onMove_53 rfl ?_
          refine J.iconst (μ := mX3_onMove) (pc := 54) (v := 3) dX3_onMove_54 (by decide) ?_
          refine J.iload_n (μ := mX3_onMove) (pc := 55) dX3_onMove_55 rfl ?_
          refine J.cV (μ := mX3_onMove) (pc := 56) (s_X3_deny _ _) rfl wm_X3_60 mi_X3_deny rfl dX3_onMove_56 (Rp.isa (T := TX3) rfl sh289) rfl rfl ⟨(Nat.le_of_ble_eq_true rfl), (Nat.le_of_ble_eq_true rfl)⟩ ⟨(Nat.le_of_ble_eq_true rfl), (Nat.le_of_ble_eq_true rfl)⟩ (Nat.le_of_ble_eq_true rfl) ?_
          exact J.iretP (μ := mX3_onMove) (pc := 59) dX3_onMove_59 rfl (Nat.le_of_ble_eq_true rfl) (Nat.le_of_ble_eq_true rfl) (by unfold vdMove; (try clear hN); (try clear hM); first | rfl | (simp [hasL, hasS, expd, nlt_of_le, nle_of_lt, *]; done) | (simp_all [hasL, hasS, expd, nlt_of_le, nle_of_lt]; done))
      · refine J.aload_n (μ := mX3_onMove) (pc := 38) dX3_onMove_38 rfl ?_
        refine J.iconst (μ := mX3_onMove) (pc := 39) (v := 5) dX3_onMove_39 (by decide) ?_
        refine J.iload_n (μ := mX3_onMove) (pc := 40) dX3_onMove_40 rfl ?_
        refine J.cV (μ := mX3_onMove) (pc := 41) (s_X3_deny _ _) rfl wm_X3_60 mi_X3_deny rfl dX3_onMove_41 (Rp.isa (T := TX3) rfl sh289) rfl rfl ⟨(Nat.le_of_ble_eq_true rfl), (Nat.le_of_ble_eq_true rfl)⟩ ⟨(Nat.le_of_ble_eq_true rfl), (Nat.le_of_ble_eq_true rfl)⟩ (Nat.le_of_ble_eq_true rfl) ?_
        exact J.iretP (μ := mX3_onMove) (pc := 44) dX3_onMove_44 rfl (Nat.le_of_ble_eq_true rfl) (Nat.le_of_ble_eq_true rfl) (by unfold vdMove; (try clear hN); (try clear hM); first | rfl | (simp [hasL, hasS, expd, nlt_of_le, nle_of_lt, *]; done) | (simp_all [hasL, hasS, expd, nlt_of_le, nle_of_lt]; done))
    · refine J.bipush (μ := mX3_onMove) (pc := 24) (v := -2) dX3_onMove_24 (by decide) ?_
      exact J.iretP (μ := mX3_onMove) (pc := 26) dX3_onMove_26 rfl (Nat.le_of_ble_eq_true rfl) (Nat.le_of_ble_eq_true rfl) (by unfold vdMove; (try clear hN); (try clear hM); first | rfl | (simp [hasL, hasS, expd, nlt_of_le, nle_of_lt, *]; done) | (simp_all [hasL, hasS, expd, nlt_of_le, nle_of_lt]; done))
  · refine J.iconst (μ := mX3_onMove) (pc := 11) (v := -1) dX3_onMove_11 (by decide) ?_
    exact J.iretP (μ := mX3_onMove) (pc := 12) dX3_onMove_12 rfl (Nat.le_of_ble_eq_true rfl) (Nat.le_of_ble_eq_true rfl) (by unfold vdMove; (try clear hN); (try clear hM); first | rfl | (simp [hasL, hasS, expd, nlt_of_le, nle_of_lt, *]; done) | (simp_all [hasL, hasS, expd, nlt_of_le, nle_of_lt]; done))

theorem s_X3_onShip {γ : Gm} {v : Vs} {o : Nat} (ho : IsStk o) {N : Nat} (hN : v (o + 8) 7 = nI N) (h20 : N ≤ 20) (x y : Int32) : Ew γ mX3_onShip yX3_onShip 4 [.ref (gz γ + 289), .ref (gz γ + o), .int x, .int y] v (some (.int (vdShip v o N x y).1)) (vdShip v o N x y).2 := by
  refine Ev.ofJ (by decide) rfl (fun h => by cases h) (Nat.le_of_ble_eq_true rfl) ?_
  refine J.iload_n (μ := mX3_onShip) (pc := 0) dX3_onShip_0 rfl ?_
  refine J.iconst (μ := mX3_onShip) (pc := 1) (v := 0) dX3_onShip_1 (by decide) ?_
  refine J.iconst (μ := mX3_onShip) (pc := 2) (v := 5) dX3_onShip_2 (by decide) ?_
  refine J.cS (μ := mX3_onShip) (pc := 3) (s_X3_isWithin _ _ _) rfl wm_X3_71 mi_X3_isWithin rfl dX3_onShip_3 rfl rfl ⟨(Nat.le_of_ble_eq_true rfl), (Nat.le_of_ble_eq_true rfl)⟩ ⟨(Nat.le_of_ble_eq_true rfl), (Nat.le_of_ble_eq_true rfl)⟩ (Nat.le_of_ble_eq_true rfl) ?_
  refine J.ifB_eq (μ := mX3_onShip) (pc := 6) 19 dX3_onShip_6 (by decide) (fun c5 => ?_) (fun c5 => ?_)
  · refine J.bipush (μ := mX3_onShip) (pc := 19) (v := -3) dX3_onShip_19 (by decide) ?_
    exact J.iretP (μ := mX3_onShip) (pc := 21) dX3_onShip_21 rfl (Nat.le_of_ble_eq_true rfl) (Nat.le_of_ble_eq_true rfl) (by unfold vdShip shpV; (try clear hN); (try clear hM); first | rfl | (simp [hasL, hasS, expd, nlt_of_le, nle_of_lt, *]; done) | (simp_all [hasL, hasS, expd, nlt_of_le, nle_of_lt]; done))
  · refine J.iload_n (μ := mX3_onShip) (pc := 9) dX3_onShip_9 rfl ?_
    refine J.iconst (μ := mX3_onShip) (pc := 10) (v := 1) dX3_onShip_10 (by decide) ?_
    refine J.bipush (μ := mX3_onShip) (pc := 11) (v := 99) dX3_onShip_11 (by decide) ?_
    refine J.cS (μ := mX3_onShip) (pc := 13) (s_X3_isWithin _ _ _) rfl wm_X3_71 mi_X3_isWithin rfl dX3_onShip_13 rfl rfl ⟨(Nat.le_of_ble_eq_true rfl), (Nat.le_of_ble_eq_true rfl)⟩ ⟨(Nat.le_of_ble_eq_true rfl), (Nat.le_of_ble_eq_true rfl)⟩ (Nat.le_of_ble_eq_true rfl) ?_
    refine J.ifB_ne (μ := mX3_onShip) (pc := 16) 22 dX3_onShip_16 (by decide) (fun c11 => ?_) (fun c11 => ?_)
    · refine J.aload_n (μ := mX3_onShip) (pc := 22) dX3_onShip_22 rfl ?_
      refine J.iload_n (μ := mX3_onShip) (pc := 23) dX3_onShip_23 rfl ?_
      refine J.cV (μ := mX3_onShip) (pc := 24) (s_X9_shippableVolume ho hN h20 _) rfl wm_X3_115 mi_X9_shippableVolume rfl dX3_onShip_24 (Rp.isa (T := TX9) rfl (ho 0 (by decide))) rfl rfl ⟨(Nat.le_of_ble_eq_true rfl), (Nat.le_of_ble_eq_true rfl)⟩ ⟨(Nat.le_of_ble_eq_true rfl), (Nat.le_of_ble_eq_true rfl)⟩ (Nat.le_of_ble_eq_true rfl) ?_
      refine J.istore (μ := mX3_onShip) (pc := 27) dX3_onShip_27 (Nat.le_of_ble_eq_true rfl) rfl ?_
      refine J.iload (μ := mX3_onShip) (pc := 29) dX3_onShip_29 rfl ?_
      refine J.iload_n (μ := mX3_onShip) (pc := 31) dX3_onShip_31 rfl ?_
      refine J.icmp_lt (μ := mX3_onShip) (pc := 32) 39 dX3_onShip_32 (by decide) (fun c18 => ?_) (fun c18 => ?_)
      · refine J.aload_n (μ := mX3_onShip) (pc := 39) dX3_onShip_39 rfl ?_
        refine J.bipush (μ := mX3_onShip) (pc := 40) (v := 6) dX3_onShip_40 (by decide) ?_
        refine J.iload (μ := mX3_onShip) (pc := 42) dX3_onShip_42 rfl ?_
        refine J.cV (μ := mX3_onShip) (pc := 44) (s_X3_deny _ _) rfl wm_X3_60 mi_X3_deny rfl dX3_onShip_44 (Rp.isa (T := TX3) rfl sh289) rfl rfl ⟨(Nat.le_of_ble_eq_true rfl), (Nat.le_of_ble_eq_true rfl)⟩ ⟨(Nat.le_of_ble_eq_true rfl), (Nat.le_of_ble_eq_true rfl)⟩ (Nat.le_of_ble_eq_true rfl) ?_
        exact J.iretP (μ := mX3_onShip) (pc := 47) dX3_onShip_47 rfl (Nat.le_of_ble_eq_true rfl) (Nat.le_of_ble_eq_true rfl) (by unfold vdShip shpV; (try clear hN); (try clear hM); first | rfl | (simp [hasL, hasS, expd, nlt_of_le, nle_of_lt, *]; done) | (simp_all [hasL, hasS, expd, nlt_of_le, nle_of_lt]; done))
      · refine J.iconst (μ := mX3_onShip) (pc := 35) (v := 0) dX3_onShip_35 (by decide) ?_
        refine J.goto (μ := mX3_onShip) (pc := 36) 47 dX3_onShip_36 (by decide) ?_
        exact J.iretP (μ := mX3_onShip) (pc := 47) dX3_onShip_47 rfl (Nat.le_of_ble_eq_true rfl) (Nat.le_of_ble_eq_true rfl) (by unfold vdShip shpV; (try clear hN); (try clear hM); first | rfl | (simp [hasL, hasS, expd, nlt_of_le, nle_of_lt, *]; done) | (simp_all [hasL, hasS, expd, nlt_of_le, nle_of_lt]; done))
    · refine J.bipush (μ := mX3_onShip) (pc := 19) (v := -3) dX3_onShip_19 (by decide) ?_
      exact J.iretP (μ := mX3_onShip) (pc := 21) dX3_onShip_21 rfl (Nat.le_of_ble_eq_true rfl) (Nat.le_of_ble_eq_true rfl) (by unfold vdShip shpV; (try clear hN); (try clear hM); first | rfl | (simp [hasL, hasS, expd, nlt_of_le, nle_of_lt, *]; done) | (simp_all [hasL, hasS, expd, nlt_of_le, nle_of_lt]; done))

theorem sw_out (n : Nat) (hn : n ≤ 1000) {c : Int32} (h : ∀ k, k ≤ n → c ≠ nI k) : c.toInt < 0 ∨ (n : Int) < c.toInt := by
  rcases Int.lt_or_le c.toInt 0 with h0 | h0
  · exact .inl h0
  · refine .inr (Int.not_le.mp (fun h1 => ?_))
    refine h c.toInt.toNat (by omega) (Int32.toInt_inj.mp ?_)
    rw [nI_toInt (by omega)]
    omega

theorem s_X3_verdict {γ : Gm} {v : Vs} {o : Nat} (ho : IsStk o) {N M : Nat} (hN : v (o + 8) 7 = nI N) (h20 : N ≤ 20) (hM : v (o + 1) 3 = nI M) (h8 : M ≤ 8) (c a b e f : Int32) : Ew γ mX3_verdict yX3_verdict 5 [.ref (gz γ + 289), .ref (gz γ + o), .int c, .int a, .int b, .int e, .int f] v (some (.int (vdOf v o N M c a b e f).1)) (vdOf v o N M c a b e f).2 := by
  refine Ev.ofJ (by decide) rfl (fun h => by cases h) (Nat.le_of_ble_eq_true rfl) ?_
  refine J.iload_n (μ := mX3_verdict) (pc := 0) dX3_verdict_0 rfl ?_
  by_cases h0 : c = 0
  · subst h0
    have he : vdOf v o N M 0 a b e f = vdShelf v o a b := by unfold vdOf; rw [if_pos rfl]
    rw [he]
    refine J.tableIn (μ := mX3_verdict) (pc := 1) 52 dX3_verdict_1 (by decide) (by decide) rfl (by decide) ?_
    refine J.aload_n (μ := mX3_verdict) (pc := 52) dX3_verdict_52 rfl ?_
    refine J.aload_n (μ := mX3_verdict) (pc := 53) dX3_verdict_53 rfl ?_
    refine J.iload_n (μ := mX3_verdict) (pc := 54) dX3_verdict_54 rfl ?_
    refine J.iload (μ := mX3_verdict) (pc := 55) dX3_verdict_55 rfl ?_
    refine J.cV (μ := mX3_verdict) (pc := 57) (s_X3_onAddShelf ho  _ _) rfl wm_X3_15 mi_X3_onAddShelf rfl dX3_verdict_57 (Rp.isa (T := TX3) rfl sh289) rfl rfl ⟨(Nat.le_of_ble_eq_true rfl), (Nat.le_of_ble_eq_true rfl)⟩ ⟨(Nat.le_of_ble_eq_true rfl), (Nat.le_of_ble_eq_true rfl)⟩ (Nat.le_of_ble_eq_true rfl) ?_
    exact J.iret (μ := mX3_verdict) (pc := 60) dX3_verdict_60 rfl (Nat.le_of_ble_eq_true rfl) (Nat.le_of_ble_eq_true rfl) (fun H h => ⟨rfl, h⟩)
  by_cases h1 : c = 1
  · subst h1
    have he : vdOf v o N M 1 a b e f = vdRecv v o N M a b e f := by unfold vdOf; rw [if_neg (by decide), if_pos rfl]
    rw [he]
    refine J.tableIn (μ := mX3_verdict) (pc := 1) 61 dX3_verdict_1 (by decide) (by decide) rfl (by decide) ?_
    refine J.aload_n (μ := mX3_verdict) (pc := 61) dX3_verdict_61 rfl ?_
    refine J.aload_n (μ := mX3_verdict) (pc := 62) dX3_verdict_62 rfl ?_
    refine J.iload_n (μ := mX3_verdict) (pc := 63) dX3_verdict_63 rfl ?_
    refine J.iload (μ := mX3_verdict) (pc := 64) dX3_verdict_64 rfl ?_
    refine J.iload (μ := mX3_verdict) (pc := 66) dX3_verdict_66 rfl ?_
    refine J.iload (μ := mX3_verdict) (pc := 68) dX3_verdict_68 rfl ?_
    refine J.cV (μ := mX3_verdict) (pc := 70) (s_X3_onReceive ho hN h20 hM h8 _ _ _ _) rfl wm_X3_19 mi_X3_onReceive rfl dX3_verdict_70 (Rp.isa (T := TX3) rfl sh289) rfl rfl ⟨(Nat.le_of_ble_eq_true rfl), (Nat.le_of_ble_eq_true rfl)⟩ ⟨(Nat.le_of_ble_eq_true rfl), (Nat.le_of_ble_eq_true rfl)⟩ (Nat.le_of_ble_eq_true rfl) ?_
    exact J.iret (μ := mX3_verdict) (pc := 73) dX3_verdict_73 rfl (Nat.le_of_ble_eq_true rfl) (Nat.le_of_ble_eq_true rfl) (fun H h => ⟨rfl, h⟩)
  by_cases h2 : c = 2
  · subst h2
    have he : vdOf v o N M 2 a b e f = vdSplit v o N a b := by unfold vdOf; rw [if_neg (by decide), if_neg (by decide), if_pos rfl]
    rw [he]
    refine J.tableIn (μ := mX3_verdict) (pc := 1) 74 dX3_verdict_1 (by decide) (by decide) rfl (by decide) ?_
    refine J.aload_n (μ := mX3_verdict) (pc := 74) dX3_verdict_74 rfl ?_
    refine J.aload_n (μ := mX3_verdict) (pc := 75) dX3_verdict_75 rfl ?_
    refine J.iload_n (μ := mX3_verdict) (pc := 76) dX3_verdict_76 rfl ?_
    refine J.iload (μ := mX3_verdict) (pc := 77) dX3_verdict_77 rfl ?_
    refine J.cV (μ := mX3_verdict) (pc := 79) (s_X3_onSplit ho hN h20 _ _) rfl wm_X3_23 mi_X3_onSplit rfl dX3_verdict_79 (Rp.isa (T := TX3) rfl sh289) rfl rfl ⟨(Nat.le_of_ble_eq_true rfl), (Nat.le_of_ble_eq_true rfl)⟩ ⟨(Nat.le_of_ble_eq_true rfl), (Nat.le_of_ble_eq_true rfl)⟩ (Nat.le_of_ble_eq_true rfl) ?_
    exact J.iret (μ := mX3_verdict) (pc := 82) dX3_verdict_82 rfl (Nat.le_of_ble_eq_true rfl) (Nat.le_of_ble_eq_true rfl) (fun H h => ⟨rfl, h⟩)
  by_cases h3 : c = 3
  · subst h3
    have he : vdOf v o N M 3 a b e f = vdMix v o N M a b := by unfold vdOf; rw [if_neg (by decide), if_neg (by decide), if_neg (by decide), if_pos rfl]
    rw [he]
    refine J.tableIn (μ := mX3_verdict) (pc := 1) 83 dX3_verdict_1 (by decide) (by decide) rfl (by decide) ?_
    refine J.aload_n (μ := mX3_verdict) (pc := 83) dX3_verdict_83 rfl ?_
    refine J.aload_n (μ := mX3_verdict) (pc := 84) dX3_verdict_84 rfl ?_
    refine J.iload_n (μ := mX3_verdict) (pc := 85) dX3_verdict_85 rfl ?_
    refine J.iload (μ := mX3_verdict) (pc := 86) dX3_verdict_86 rfl ?_
    refine J.cV (μ := mX3_verdict) (pc := 88) (s_X3_onMix ho hN h20 hM h8 _ _) rfl wm_X3_26 mi_X3_onMix rfl dX3_verdict_88 (Rp.isa (T := TX3) rfl sh289) rfl rfl ⟨(Nat.le_of_ble_eq_true rfl), (Nat.le_of_ble_eq_true rfl)⟩ ⟨(Nat.le_of_ble_eq_true rfl), (Nat.le_of_ble_eq_true rfl)⟩ (Nat.le_of_ble_eq_true rfl) ?_
    exact J.iret (μ := mX3_verdict) (pc := 91) dX3_verdict_91 rfl (Nat.le_of_ble_eq_true rfl) (Nat.le_of_ble_eq_true rfl) (fun H h => ⟨rfl, h⟩)
  by_cases h4 : c = 4
  · subst h4
    have he : vdOf v o N M 4 a b e f = vdMove v o N a b := by unfold vdOf; rw [if_neg (by decide), if_neg (by decide), if_neg (by decide), if_neg (by decide), if_pos rfl]
    rw [he]
    refine J.tableIn (μ := mX3_verdict) (pc := 1) 92 dX3_verdict_1 (by decide) (by decide) rfl (by decide) ?_
    refine J.aload_n (μ := mX3_verdict) (pc := 92) dX3_verdict_92 rfl ?_
    refine J.aload_n (μ := mX3_verdict) (pc := 93) dX3_verdict_93 rfl ?_
    refine J.iload_n (μ := mX3_verdict) (pc := 94) dX3_verdict_94 rfl ?_
    refine J.iload (μ := mX3_verdict) (pc := 95) dX3_verdict_95 rfl ?_
    refine J.cV (μ := mX3_verdict) (pc := 97) (s_X3_onMove ho hN h20 _ _) rfl wm_X3_29 mi_X3_onMove rfl dX3_verdict_97 (Rp.isa (T := TX3) rfl sh289) rfl rfl ⟨(Nat.le_of_ble_eq_true rfl), (Nat.le_of_ble_eq_true rfl)⟩ ⟨(Nat.le_of_ble_eq_true rfl), (Nat.le_of_ble_eq_true rfl)⟩ (Nat.le_of_ble_eq_true rfl) ?_
    exact J.iret (μ := mX3_verdict) (pc := 100) dX3_verdict_100 rfl (Nat.le_of_ble_eq_true rfl) (Nat.le_of_ble_eq_true rfl) (fun H h => ⟨rfl, h⟩)
  by_cases h5 : c = 5
  · subst h5
    have he : vdOf v o N M 5 a b e f = vdShip v o N a b := by unfold vdOf; rw [if_neg (by decide), if_neg (by decide), if_neg (by decide), if_neg (by decide), if_neg (by decide), if_pos rfl]
    rw [he]
    refine J.tableIn (μ := mX3_verdict) (pc := 1) 101 dX3_verdict_1 (by decide) (by decide) rfl (by decide) ?_
    refine J.aload_n (μ := mX3_verdict) (pc := 101) dX3_verdict_101 rfl ?_
    refine J.aload_n (μ := mX3_verdict) (pc := 102) dX3_verdict_102 rfl ?_
    refine J.iload_n (μ := mX3_verdict) (pc := 103) dX3_verdict_103 rfl ?_
    refine J.iload (μ := mX3_verdict) (pc := 104) dX3_verdict_104 rfl ?_
    refine J.cV (μ := mX3_verdict) (pc := 106) (s_X3_onShip ho hN h20 _ _) rfl wm_X3_32 mi_X3_onShip rfl dX3_verdict_106 (Rp.isa (T := TX3) rfl sh289) rfl rfl ⟨(Nat.le_of_ble_eq_true rfl), (Nat.le_of_ble_eq_true rfl)⟩ ⟨(Nat.le_of_ble_eq_true rfl), (Nat.le_of_ble_eq_true rfl)⟩ (Nat.le_of_ble_eq_true rfl) ?_
    exact J.iret (μ := mX3_verdict) (pc := 109) dX3_verdict_109 rfl (Nat.le_of_ble_eq_true rfl) (Nat.le_of_ble_eq_true rfl) (fun H h => ⟨rfl, h⟩)
  by_cases h6 : c = 6
  · subst h6
    refine J.tableIn (μ := mX3_verdict) (pc := 1) 110 dX3_verdict_1 (by decide) (by decide) rfl (by decide) ?_
    refine J.aload_n (μ := mX3_verdict) (pc := 110) dX3_verdict_110 rfl ?_
    refine J.gr (μ := mX3_verdict) (pc := 111) (T := TX9) (ci := 12) (fks := _) rfl rfl in_X9 1 (by decide) wf_X3_35 dX3_verdict_111 (ho 0 (by decide)) rfl ?_
    refine J.iload_n (μ := mX3_verdict) (pc := 114) dX3_verdict_114 rfl ?_
    refine J.cV (μ := mX3_verdict) (pc := 115) (s_X5_has ho  _) rfl wm_X3_41 mi_X5_has rfl dX3_verdict_115 (Rp.isa (T := TX5) rfl (ho 8 (by decide))) rfl rfl ⟨(Nat.le_of_ble_eq_true rfl), (Nat.le_of_ble_eq_true rfl)⟩ ⟨(Nat.le_of_ble_eq_true rfl), (Nat.le_of_ble_eq_true rfl)⟩ (Nat.le_of_ble_eq_true rfl) ?_
    refine J.ifB_eq (μ := mX3_verdict) (pc := 118) 125 dX3_verdict_118 (by decide) (fun c5 => ?_) (fun c5 => ?_)
    · refine J.iconst (μ := mX3_verdict) (pc := 125) (v := -1) dX3_verdict_125 (by decide) ?_
      exact J.iretP (μ := mX3_verdict) (pc := 126) dX3_verdict_126 rfl (Nat.le_of_ble_eq_true rfl) (Nat.le_of_ble_eq_true rfl) (by unfold vdOf; rw [if_neg (by decide), if_neg (by decide), if_neg (by decide), if_neg (by decide), if_neg (by decide), if_neg (by decide), if_pos rfl]; (try unfold shN); (try clear hN); (try clear hM); first | rfl | (simp [hasL, hasS, expd, nlt_of_le, nle_of_lt, *]; done) | (simp_all [hasL, hasS, expd, nlt_of_le, nle_of_lt]; done))
    · refine J.iconst (μ := mX3_verdict) (pc := 121) (v := 0) dX3_verdict_121 (by decide) ?_
      refine J.goto (μ := mX3_verdict) (pc := 122) 126 dX3_verdict_122 (by decide) ?_
      exact J.iretP (μ := mX3_verdict) (pc := 126) dX3_verdict_126 rfl (Nat.le_of_ble_eq_true rfl) (Nat.le_of_ble_eq_true rfl) (by unfold vdOf; rw [if_neg (by decide), if_neg (by decide), if_neg (by decide), if_neg (by decide), if_neg (by decide), if_neg (by decide), if_pos rfl]; (try unfold shN); (try clear hN); (try clear hM); first | rfl | (simp [hasL, hasS, expd, nlt_of_le, nle_of_lt, *]; done) | (simp_all [hasL, hasS, expd, nlt_of_le, nle_of_lt]; done))
  by_cases h7 : c = 7
  · subst h7
    refine J.tableIn (μ := mX3_verdict) (pc := 1) 127 dX3_verdict_1 (by decide) (by decide) rfl (by decide) ?_
    refine J.aload_n (μ := mX3_verdict) (pc := 127) dX3_verdict_127 rfl ?_
    refine J.gr (μ := mX3_verdict) (pc := 128) (T := TX9) (ci := 12) (fks := _) rfl rfl in_X9 2 (by decide) wf_X3_47 dX3_verdict_128 (ho 0 (by decide)) rfl ?_
    refine J.gi (μ := mX3_verdict) (pc := 131) (T := TX1) (ci := 4) (fks := _) rfl rfl in_X1 1 (by decide) wf_X3_51 dX3_verdict_131 (ho 23 (by decide)) rfl ?_
    refine J.if_le (μ := mX3_verdict) (pc := 134) 141 dX3_verdict_134 (by decide) (fun c4 => ?_) (fun c4 => ?_)
    · refine J.aload_n (μ := mX3_verdict) (pc := 141) dX3_verdict_141 rfl ?_
      refine J.bipush (μ := mX3_verdict) (pc := 142) (v := 7) dX3_verdict_142 (by decide) ?_
      refine J.aload_n (μ := mX3_verdict) (pc := 144) dX3_verdict_144 rfl ?_
      refine J.gr (μ := mX3_verdict) (pc := 145) (T := TX9) (ci := 12) (fks := _) rfl rfl in_X9 1 (by decide) wf_X3_35 dX3_verdict_145 (ho 0 (by decide)) rfl ?_
      refine J.cV (μ := mX3_verdict) (pc := 148) (s_X5_shelvedCount ho hN h20) rfl wm_X3_56 mi_X5_shelvedCount rfl dX3_verdict_148 (Rp.isa (T := TX5) rfl (ho 8 (by decide))) rfl rfl ⟨(Nat.le_of_ble_eq_true rfl), (Nat.le_of_ble_eq_true rfl)⟩ ⟨(Nat.le_of_ble_eq_true rfl), (Nat.le_of_ble_eq_true rfl)⟩ (Nat.le_of_ble_eq_true rfl) ?_
      refine J.cV (μ := mX3_verdict) (pc := 151) (s_X3_deny _ _) rfl wm_X3_60 mi_X3_deny rfl dX3_verdict_151 (Rp.isa (T := TX3) rfl sh289) rfl rfl ⟨(Nat.le_of_ble_eq_true rfl), (Nat.le_of_ble_eq_true rfl)⟩ ⟨(Nat.le_of_ble_eq_true rfl), (Nat.le_of_ble_eq_true rfl)⟩ (Nat.le_of_ble_eq_true rfl) ?_
      exact J.iretP (μ := mX3_verdict) (pc := 154) dX3_verdict_154 rfl (Nat.le_of_ble_eq_true rfl) (Nat.le_of_ble_eq_true rfl) (by unfold vdOf; rw [if_neg (by decide), if_neg (by decide), if_neg (by decide), if_neg (by decide), if_neg (by decide), if_neg (by decide), if_neg (by decide), if_pos rfl]; (try unfold shN); (try clear hN); (try clear hM); first | rfl | (simp [hasL, hasS, expd, nlt_of_le, nle_of_lt, *]; done) | (simp_all [hasL, hasS, expd, nlt_of_le, nle_of_lt]; done))
    · refine J.iconst (μ := mX3_verdict) (pc := 137) (v := 0) dX3_verdict_137 (by decide) ?_
      refine J.goto (μ := mX3_verdict) (pc := 138) 154 dX3_verdict_138 (by decide) ?_
      exact J.iretP (μ := mX3_verdict) (pc := 154) dX3_verdict_154 rfl (Nat.le_of_ble_eq_true rfl) (Nat.le_of_ble_eq_true rfl) (by unfold vdOf; rw [if_neg (by decide), if_neg (by decide), if_neg (by decide), if_neg (by decide), if_neg (by decide), if_neg (by decide), if_neg (by decide), if_pos rfl]; (try unfold shN); (try clear hN); (try clear hM); first | rfl | (simp [hasL, hasS, expd, nlt_of_le, nle_of_lt, *]; done) | (simp_all [hasL, hasS, expd, nlt_of_le, nle_of_lt]; done))
  by_cases h8 : c = 8
  · subst h8
    refine J.tableIn (μ := mX3_verdict) (pc := 1) 155 dX3_verdict_1 (by decide) (by decide) rfl (by decide) ?_
    refine J.aload_n (μ := mX3_verdict) (pc := 155) dX3_verdict_155 rfl ?_
    refine J.gr (μ := mX3_verdict) (pc := 156) (T := TX9) (ci := 12) (fks := _) rfl rfl in_X9 0 (by decide) wf_X3_64 dX3_verdict_156 (ho 0 (by decide)) rfl ?_
    refine J.iload_n (μ := mX3_verdict) (pc := 159) dX3_verdict_159 rfl ?_
    refine J.cV (μ := mX3_verdict) (pc := 160) (s_X8_has ho  _) rfl wm_X3_68 mi_X8_has rfl dX3_verdict_160 (Rp.isa (T := TX8) rfl (ho 1 (by decide))) rfl rfl ⟨(Nat.le_of_ble_eq_true rfl), (Nat.le_of_ble_eq_true rfl)⟩ ⟨(Nat.le_of_ble_eq_true rfl), (Nat.le_of_ble_eq_true rfl)⟩ (Nat.le_of_ble_eq_true rfl) ?_
    refine J.ifB_eq (μ := mX3_verdict) (pc := 163) 170 dX3_verdict_163 (by decide) (fun c5 => ?_) (fun c5 => ?_)
    · refine J.bipush (μ := mX3_verdict) (pc := 170) (v := -2) dX3_verdict_170 (by decide) ?_
      exact J.iretP (μ := mX3_verdict) (pc := 172) dX3_verdict_172 rfl (Nat.le_of_ble_eq_true rfl) (Nat.le_of_ble_eq_true rfl) (by unfold vdOf; rw [if_neg (by decide), if_neg (by decide), if_neg (by decide), if_neg (by decide), if_neg (by decide), if_neg (by decide), if_neg (by decide), if_neg (by decide), if_pos rfl]; (try unfold shN); (try clear hN); (try clear hM); first | rfl | (simp [hasL, hasS, expd, nlt_of_le, nle_of_lt, *]; done) | (simp_all [hasL, hasS, expd, nlt_of_le, nle_of_lt]; done))
    · refine J.iconst (μ := mX3_verdict) (pc := 166) (v := 0) dX3_verdict_166 (by decide) ?_
      refine J.goto (μ := mX3_verdict) (pc := 167) 172 dX3_verdict_167 (by decide) ?_
      exact J.iretP (μ := mX3_verdict) (pc := 172) dX3_verdict_172 rfl (Nat.le_of_ble_eq_true rfl) (Nat.le_of_ble_eq_true rfl) (by unfold vdOf; rw [if_neg (by decide), if_neg (by decide), if_neg (by decide), if_neg (by decide), if_neg (by decide), if_neg (by decide), if_neg (by decide), if_neg (by decide), if_pos rfl]; (try unfold shN); (try clear hN); (try clear hM); first | rfl | (simp [hasL, hasS, expd, nlt_of_le, nle_of_lt, *]; done) | (simp_all [hasL, hasS, expd, nlt_of_le, nle_of_lt]; done))
  refine J.tableOut (μ := mX3_verdict) (pc := 1) 173 dX3_verdict_1 (sw_out 8 (by decide) (fun k hk => ?_)) (by decide) ?_
  · rcases (show k = 0 ∨ k = 1 ∨ k = 2 ∨ k = 3 ∨ k = 4 ∨ k = 5 ∨ k = 6 ∨ k = 7 ∨ k = 8 by omega) with rfl | rfl | rfl | rfl | rfl | rfl | rfl | rfl | rfl <;> assumption
  · refine J.iload_n (μ := mX3_verdict) (pc := 173) dX3_verdict_173 rfl ?_
    refine J.iconst (μ := mX3_verdict) (pc := 174) (v := 1) dX3_verdict_174 (by decide) ?_
    refine J.bipush (μ := mX3_verdict) (pc := 175) (v := 99) dX3_verdict_175 (by decide) ?_
    refine J.cS (μ := mX3_verdict) (pc := 177) (s_X3_isWithin _ _ _) rfl wm_X3_71 mi_X3_isWithin rfl dX3_verdict_177 rfl rfl ⟨(Nat.le_of_ble_eq_true rfl), (Nat.le_of_ble_eq_true rfl)⟩ ⟨(Nat.le_of_ble_eq_true rfl), (Nat.le_of_ble_eq_true rfl)⟩ (Nat.le_of_ble_eq_true rfl) ?_
    refine J.ifB_eq (μ := mX3_verdict) (pc := 180) 187 dX3_verdict_180 (by decide) (fun c5 => ?_) (fun c5 => ?_)
    · refine J.bipush (μ := mX3_verdict) (pc := 187) (v := -3) dX3_verdict_187 (by decide) ?_
      exact J.iretP (μ := mX3_verdict) (pc := 189) dX3_verdict_189 rfl (Nat.le_of_ble_eq_true rfl) (Nat.le_of_ble_eq_true rfl) (by unfold vdOf; rw [if_neg h0, if_neg h1, if_neg h2, if_neg h3, if_neg h4, if_neg h5, if_neg h6, if_neg h7, if_neg h8]; (try clear hN); (try clear hM); first | rfl | (simp [hasL, hasS, expd, nlt_of_le, nle_of_lt, *]; done) | (simp_all [hasL, hasS, expd, nlt_of_le, nle_of_lt]; done))
    · refine J.iconst (μ := mX3_verdict) (pc := 183) (v := 0) dX3_verdict_183 (by decide) ?_
      refine J.goto (μ := mX3_verdict) (pc := 184) 189 dX3_verdict_184 (by decide) ?_
      exact J.iretP (μ := mX3_verdict) (pc := 189) dX3_verdict_189 rfl (Nat.le_of_ble_eq_true rfl) (Nat.le_of_ble_eq_true rfl) (by unfold vdOf; rw [if_neg h0, if_neg h1, if_neg h2, if_neg h3, if_neg h4, if_neg h5, if_neg h6, if_neg h7, if_neg h8]; (try clear hN); (try clear hM); first | rfl | (simp [hasL, hasS, expd, nlt_of_le, nle_of_lt, *]; done) | (simp_all [hasL, hasS, expd, nlt_of_le, nle_of_lt]; done))
