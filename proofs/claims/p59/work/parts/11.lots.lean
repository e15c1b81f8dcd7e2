/-! stocks: what their rows answer, and the methods of their lots and shelves that have no loop -/
def bi (b : Bool) : Int32 := if b = true then 1 else 0
def gZn (v : Vs) (o : Nat) (x : Int32) : Int32 := rg (v (o + 3)) 8 x
def sZn (v : Vs) (o : Nat) (x y : Int32) : Vs := rs v (o + 3) 8 x y
theorem g_zn {γ : Gm} {v : Vs} {o : Nat} (ho : IsStk o) (x : Int32) : Er γ mX7_get yX7_get 0 [.ref (gz γ + (o + 2)), .int x] v (.int (gZn v o x)) := s_X7_get ho.zn x
theorem p_zn {γ : Gm} {v : Vs} {o : Nat} (ho : IsStk o) (x y : Int32) : Ew γ mX7_set yX7_set 0 [.ref (gz γ + (o + 2)), .int x, .int y] v none (sZn v o x y) := s_X7_set ho.zn x y
def gCp (v : Vs) (o : Nat) (x : Int32) : Int32 := rg (v (o + 5)) 8 x
def sCp (v : Vs) (o : Nat) (x y : Int32) : Vs := rs v (o + 5) 8 x y
theorem g_cp {γ : Gm} {v : Vs} {o : Nat} (ho : IsStk o) (x : Int32) : Er γ mX7_get yX7_get 0 [.ref (gz γ + (o + 4)), .int x] v (.int (gCp v o x)) := s_X7_get ho.cp x
theorem p_cp {γ : Gm} {v : Vs} {o : Nat} (ho : IsStk o) (x y : Int32) : Ew γ mX7_set yX7_set 0 [.ref (gz γ + (o + 4)), .int x, .int y] v none (sCp v o x y) := s_X7_set ho.cp x y
def gCd (v : Vs) (o : Nat) (x : Int32) : Int32 := rg (v (o + 7)) 8 x
def sCd (v : Vs) (o : Nat) (x y : Int32) : Vs := rs v (o + 7) 8 x y
theorem g_cd {γ : Gm} {v : Vs} {o : Nat} (ho : IsStk o) (x : Int32) : Er γ mX7_get yX7_get 0 [.ref (gz γ + (o + 6)), .int x] v (.int (gCd v o x)) := s_X7_get ho.cd x
theorem p_cd {γ : Gm} {v : Vs} {o : Nat} (ho : IsStk o) (x y : Int32) : Ew γ mX7_set yX7_set 0 [.ref (gz γ + (o + 6)), .int x, .int y] v none (sCd v o x y) := s_X7_set ho.cd x y
def gKi (v : Vs) (o : Nat) (x : Int32) : Int32 := rg (v (o + 10)) 20 x
def sKi (v : Vs) (o : Nat) (x y : Int32) : Vs := rs v (o + 10) 20 x y
theorem g_ki {γ : Gm} {v : Vs} {o : Nat} (ho : IsStk o) (x : Int32) : Er γ mX7_get yX7_get 0 [.ref (gz γ + (o + 9)), .int x] v (.int (gKi v o x)) := s_X7_get ho.ki x
theorem p_ki {γ : Gm} {v : Vs} {o : Nat} (ho : IsStk o) (x y : Int32) : Ew γ mX7_set yX7_set 0 [.ref (gz γ + (o + 9)), .int x, .int y] v none (sKi v o x y) := s_X7_set ho.ki x y
def gLz (v : Vs) (o : Nat) (x : Int32) : Int32 := rg (v (o + 12)) 20 x
def sLz (v : Vs) (o : Nat) (x y : Int32) : Vs := rs v (o + 12) 20 x y
theorem g_lz {γ : Gm} {v : Vs} {o : Nat} (ho : IsStk o) (x : Int32) : Er γ mX7_get yX7_get 0 [.ref (gz γ + (o + 11)), .int x] v (.int (gLz v o x)) := s_X7_get ho.lz x
theorem p_lz {γ : Gm} {v : Vs} {o : Nat} (ho : IsStk o) (x y : Int32) : Ew γ mX7_set yX7_set 0 [.ref (gz γ + (o + 11)), .int x, .int y] v none (sLz v o x y) := s_X7_set ho.lz x y
def gVo (v : Vs) (o : Nat) (x : Int32) : Int32 := rg (v (o + 14)) 20 x
def sVo (v : Vs) (o : Nat) (x y : Int32) : Vs := rs v (o + 14) 20 x y
theorem g_vo {γ : Gm} {v : Vs} {o : Nat} (ho : IsStk o) (x : Int32) : Er γ mX7_get yX7_get 0 [.ref (gz γ + (o + 13)), .int x] v (.int (gVo v o x)) := s_X7_get ho.vo x
theorem p_vo {γ : Gm} {v : Vs} {o : Nat} (ho : IsStk o) (x y : Int32) : Ew γ mX7_set yX7_set 0 [.ref (gz γ + (o + 13)), .int x, .int y] v none (sVo v o x y) := s_X7_set ho.vo x y
def gEp (v : Vs) (o : Nat) (x : Int32) : Int32 := rg (v (o + 16)) 20 x
def sEp (v : Vs) (o : Nat) (x y : Int32) : Vs := rs v (o + 16) 20 x y
theorem g_ep {γ : Gm} {v : Vs} {o : Nat} (ho : IsStk o) (x : Int32) : Er γ mX7_get yX7_get 0 [.ref (gz γ + (o + 15)), .int x] v (.int (gEp v o x)) := s_X7_get ho.ep x
theorem p_ep {γ : Gm} {v : Vs} {o : Nat} (ho : IsStk o) (x y : Int32) : Ew γ mX7_set yX7_set 0 [.ref (gz γ + (o + 15)), .int x, .int y] v none (sEp v o x y) := s_X7_set ho.ep x y
def gPl (v : Vs) (o : Nat) (x : Int32) : Int32 := rg (v (o + 18)) 20 x
def sPl (v : Vs) (o : Nat) (x y : Int32) : Vs := rs v (o + 18) 20 x y
theorem g_pl {γ : Gm} {v : Vs} {o : Nat} (ho : IsStk o) (x : Int32) : Er γ mX7_get yX7_get 0 [.ref (gz γ + (o + 17)), .int x] v (.int (gPl v o x)) := s_X7_get ho.pl x
theorem p_pl {γ : Gm} {v : Vs} {o : Nat} (ho : IsStk o) (x y : Int32) : Ew γ mX7_set yX7_set 0 [.ref (gz γ + (o + 17)), .int x, .int y] v none (sPl v o x y) := s_X7_set ho.pl x y
def gP1 (v : Vs) (o : Nat) (x : Int32) : Int32 := rg (v (o + 20)) 20 x
def sP1 (v : Vs) (o : Nat) (x y : Int32) : Vs := rs v (o + 20) 20 x y
theorem g_p1 {γ : Gm} {v : Vs} {o : Nat} (ho : IsStk o) (x : Int32) : Er γ mX7_get yX7_get 0 [.ref (gz γ + (o + 19)), .int x] v (.int (gP1 v o x)) := s_X7_get ho.p1 x
theorem p_p1 {γ : Gm} {v : Vs} {o : Nat} (ho : IsStk o) (x y : Int32) : Ew γ mX7_set yX7_set 0 [.ref (gz γ + (o + 19)), .int x, .int y] v none (sP1 v o x y) := s_X7_set ho.p1 x y
def gP2 (v : Vs) (o : Nat) (x : Int32) : Int32 := rg (v (o + 22)) 20 x
def sP2 (v : Vs) (o : Nat) (x y : Int32) : Vs := rs v (o + 22) 20 x y
theorem g_p2 {γ : Gm} {v : Vs} {o : Nat} (ho : IsStk o) (x : Int32) : Er γ mX7_get yX7_get 0 [.ref (gz γ + (o + 21)), .int x] v (.int (gP2 v o x)) := s_X7_get ho.p2 x
theorem p_p2 {γ : Gm} {v : Vs} {o : Nat} (ho : IsStk o) (x y : Int32) : Ew γ mX7_set yX7_set 0 [.ref (gz γ + (o + 21)), .int x, .int y] v none (sP2 v o x y) := s_X7_set ho.p2 x y
def gHp (v : Vs) (o : Nat) (x : Int32) : Int32 := rg (v (o + 25)) 20 x
def sHp (v : Vs) (o : Nat) (x y : Int32) : Vs := rs v (o + 25) 20 x y
theorem g_hp {γ : Gm} {v : Vs} {o : Nat} (ho : IsStk o) (x : Int32) : Er γ mX7_get yX7_get 0 [.ref (gz γ + (o + 24)), .int x] v (.int (gHp v o x)) := s_X7_get ho.hp x
theorem p_hp {γ : Gm} {v : Vs} {o : Nat} (ho : IsStk o) (x y : Int32) : Ew γ mX7_set yX7_set 0 [.ref (gz γ + (o + 24)), .int x, .int y] v none (sHp v o x y) := s_X7_set ho.hp x y
theorem s_X5_has {γ : Gm} {v : Vs} {o : Nat} (ho : IsStk o) (x : Int32) : Er γ mX5_has yX5_has 0 [.ref (gz γ + (o + 8)), .int x] v (.int (bi (decide (0 ≤ x ∧ x < v (o + 8) 7)))) := by
  refine Ev.ofJ (by decide) rfl (fun h => by cases h) (Nat.le_of_ble_eq_true rfl) ?_
  refine J.iload_n (μ := mX5_has) (pc := 0) dX5_has_0 rfl ?_
  refine J.if_lt (μ := mX5_has) (pc := 1) 16 dX5_has_1 (by decide) (fun c2 => ?_) (fun c2 => ?_)
  · refine J.iconst (μ := mX5_has) (pc := 16) (v := 0) dX5_has_16 (by decide) ?_
    exact J.zret (μ := mX5_has) (pc := 17) dX5_has_17 rfl (by first | rfl | decide) (Nat.le_of_ble_eq_true rfl) (Nat.le_of_ble_eq_true rfl) (fun H h => ⟨congrArg some (congrArg Value.int (by first | (simp [bi, *]; done) | (simp [bi, Int32.le_iff_toInt_le, Int32.lt_iff_toInt_lt] at *; omega))), h⟩)
  · refine J.iload_n (μ := mX5_has) (pc := 4) dX5_has_4 rfl ?_
    refine J.aload_n (μ := mX5_has) (pc := 5) dX5_has_5 rfl ?_
    refine J.gi (μ := mX5_has) (pc := 6) (T := TX5) (ci := 8) (fks := _) rfl rfl in_X5 7 (by decide) wf_X5_38 dX5_has_6 (ho 8 (by decide)) rfl ?_
    refine J.icmp_ge (μ := mX5_has) (pc := 9) 16 dX5_has_9 (by decide) (fun c7 => ?_) (fun c7 => ?_)
    · refine J.iconst (μ := mX5_has) (pc := 16) (v := 0) dX5_has_16 (by decide) ?_
      exact J.zret (μ := mX5_has) (pc := 17) dX5_has_17 rfl (by first | rfl | decide) (Nat.le_of_ble_eq_true rfl) (Nat.le_of_ble_eq_true rfl) (fun H h => ⟨congrArg some (congrArg Value.int (by first | (simp [bi, *]; done) | (simp [bi, Int32.le_iff_toInt_le, Int32.lt_iff_toInt_lt] at *; omega))), h⟩)
    · refine J.iconst (μ := mX5_has) (pc := 12) (v := 1) dX5_has_12 (by decide) ?_
      refine J.goto (μ := mX5_has) (pc := 13) 17 dX5_has_13 (by decide) ?_
      exact J.zret (μ := mX5_has) (pc := 17) dX5_has_17 rfl (by first | rfl | decide) (Nat.le_of_ble_eq_true rfl) (Nat.le_of_ble_eq_true rfl) (fun H h => ⟨congrArg some (congrArg Value.int (by first | (simp [bi, *]; done) | (simp [bi, Int32.le_iff_toInt_le, Int32.lt_iff_toInt_lt] at *; omega))), h⟩)
theorem s_X5_isShelved {γ : Gm} {v : Vs} {o : Nat} (ho : IsStk o) (x : Int32) : Er γ mX5_isShelved yX5_isShelved 1 [.ref (gz γ + (o + 8)), .int x] v (.int (bi (decide (0 ≤ gPl v o x)))) := by
  refine Ev.ofJ (by decide) rfl (fun h => by cases h) (Nat.le_of_ble_eq_true rfl) ?_
  refine J.aload_n (μ := mX5_isShelved) (pc := 0) dX5_isShelved_0 rfl ?_
  refine J.gr (μ := mX5_isShelved) (pc := 1) (T := TX5) (ci := 8) (fks := _) rfl rfl in_X5 4 (by decide) wf_X5_29 dX5_isShelved_1 (ho 8 (by decide)) rfl ?_
  refine J.iload_n (μ := mX5_isShelved) (pc := 4) dX5_isShelved_4 rfl ?_
  refine J.cV (μ := mX5_isShelved) (pc := 5) (g_pl ho _) rfl wm_X5_50 mi_X7_get rfl dX5_isShelved_5 (Rp.isa (T := TX7) rfl (ho 17 (by decide))) rfl rfl ⟨(Nat.le_of_ble_eq_true rfl), (Nat.le_of_ble_eq_true rfl)⟩ ⟨(Nat.le_of_ble_eq_true rfl), (Nat.le_of_ble_eq_true rfl)⟩ (Nat.le_of_ble_eq_true rfl) ?_
  refine J.if_lt (μ := mX5_isShelved) (pc := 8) 15 dX5_isShelved_8 (by decide) (fun c5 => ?_) (fun c5 => ?_)
  · refine J.iconst (μ := mX5_isShelved) (pc := 15) (v := 0) dX5_isShelved_15 (by decide) ?_
    exact J.zret (μ := mX5_isShelved) (pc := 16) dX5_isShelved_16 rfl (by first | rfl | decide) (Nat.le_of_ble_eq_true rfl) (Nat.le_of_ble_eq_true rfl) (fun H h => ⟨congrArg some (congrArg Value.int (by simp [bi, *])), h⟩)
  · refine J.iconst (μ := mX5_isShelved) (pc := 11) (v := 1) dX5_isShelved_11 (by decide) ?_
    refine J.goto (μ := mX5_isShelved) (pc := 12) 16 dX5_isShelved_12 (by decide) ?_
    exact J.zret (μ := mX5_isShelved) (pc := 16) dX5_isShelved_16 rfl (by first | rfl | decide) (Nat.le_of_ble_eq_true rfl) (Nat.le_of_ble_eq_true rfl) (fun H h => ⟨congrArg some (congrArg Value.int (by simp [bi, *])), h⟩)
theorem s_X5_parentsOf {γ : Gm} {v : Vs} {o : Nat} (ho : IsStk o) (x : Int32) : Er γ mX5_parentsOf yX5_parentsOf 1 [.ref (gz γ + (o + 8)), .int x] v (.int ((if gP1 v o x = -1 then 0 else 1) + (if gP2 v o x = -1 then 0 else 1))) := by
  refine Ev.ofJ (by decide) rfl (fun h => by cases h) (Nat.le_of_ble_eq_true rfl) ?_
  refine J.aload_n (μ := mX5_parentsOf) (pc := 0) dX5_parentsOf_0 rfl ?_
  refine J.gr (μ := mX5_parentsOf) (pc := 1) (T := TX5) (ci := 8) (fks := _) rfl rfl in_X5 5 (by decide) wf_X5_32 dX5_parentsOf_1 (ho 8 (by decide)) rfl ?_
  refine J.iload_n (μ := mX5_parentsOf) (pc := 4) dX5_parentsOf_4 rfl ?_
  refine J.cV (μ := mX5_parentsOf) (pc := 5) (g_p1 ho _) rfl wm_X5_50 mi_X7_get rfl dX5_parentsOf_5 (Rp.isa (T := TX7) rfl (ho 19 (by decide))) rfl rfl ⟨(Nat.le_of_ble_eq_true rfl), (Nat.le_of_ble_eq_true rfl)⟩ ⟨(Nat.le_of_ble_eq_true rfl), (Nat.le_of_ble_eq_true rfl)⟩ (Nat.le_of_ble_eq_true rfl) ?_
  refine J.iconst (μ := mX5_parentsOf) (pc := 8) (v := -1) dX5_parentsOf_8 (by decide) ?_
  refine J.icmp_ne (μ := mX5_parentsOf) (pc := 9) 16 dX5_parentsOf_9 (by decide) (fun c6 => ?_) (fun c6 => ?_)
  · refine J.iconst (μ := mX5_parentsOf) (pc := 16) (v := 1) dX5_parentsOf_16 (by decide) ?_
    refine J.aload_n (μ := mX5_parentsOf) (pc := 17) dX5_parentsOf_17 rfl ?_
    refine J.gr (μ := mX5_parentsOf) (pc := 18) (T := TX5) (ci := 8) (fks := _) rfl rfl in_X5 6 (by decide) wf_X5_35 dX5_parentsOf_18 (ho 8 (by decide)) rfl ?_
    refine J.iload_n (μ := mX5_parentsOf) (pc := 21) dX5_parentsOf_21 rfl ?_
    refine J.cV (μ := mX5_parentsOf) (pc := 22) (g_p2 ho _) rfl wm_X5_50 mi_X7_get rfl dX5_parentsOf_22 (Rp.isa (T := TX7) rfl (ho 21 (by decide))) rfl rfl ⟨(Nat.le_of_ble_eq_true rfl), (Nat.le_of_ble_eq_true rfl)⟩ ⟨(Nat.le_of_ble_eq_true rfl), (Nat.le_of_ble_eq_true rfl)⟩ (Nat.le_of_ble_eq_true rfl) ?_
    refine J.iconst (μ := mX5_parentsOf) (pc := 25) (v := -1) dX5_parentsOf_25 (by decide) ?_
    refine J.icmp_ne (μ := mX5_parentsOf) (pc := 26) 33 dX5_parentsOf_26 (by decide) (fun c13 => ?_) (fun c13 => ?_)
    · refine J.iconst (μ := mX5_parentsOf) (pc := 33) (v := 1) dX5_parentsOf_33 (by decide) ?_
      refine J.iadd (μ := mX5_parentsOf) (pc := 34) dX5_parentsOf_34 ?_
      exact J.iret (μ := mX5_parentsOf) (pc := 35) dX5_parentsOf_35 rfl (Nat.le_of_ble_eq_true rfl) (Nat.le_of_ble_eq_true rfl) (fun H h => ⟨congrArg some (congrArg Value.int (by simp [*])), h⟩)
    · refine J.iconst (μ := mX5_parentsOf) (pc := 29) (v := 0) dX5_parentsOf_29 (by decide) ?_
      refine J.goto (μ := mX5_parentsOf) (pc := 30) 34 dX5_parentsOf_30 (by decide) ?_
      refine J.iadd (μ := mX5_parentsOf) (pc := 34) dX5_parentsOf_34 ?_
      exact J.iret (μ := mX5_parentsOf) (pc := 35) dX5_parentsOf_35 rfl (Nat.le_of_ble_eq_true rfl) (Nat.le_of_ble_eq_true rfl) (fun H h => ⟨congrArg some (congrArg Value.int (by simp [*])), h⟩)
  · refine J.iconst (μ := mX5_parentsOf) (pc := 12) (v := 0) dX5_parentsOf_12 (by decide) ?_
    refine J.goto (μ := mX5_parentsOf) (pc := 13) 17 dX5_parentsOf_13 (by decide) ?_
    refine J.aload_n (μ := mX5_parentsOf) (pc := 17) dX5_parentsOf_17 rfl ?_
    refine J.gr (μ := mX5_parentsOf) (pc := 18) (T := TX5) (ci := 8) (fks := _) rfl rfl in_X5 6 (by decide) wf_X5_35 dX5_parentsOf_18 (ho 8 (by decide)) rfl ?_
    refine J.iload_n (μ := mX5_parentsOf) (pc := 21) dX5_parentsOf_21 rfl ?_
    refine J.cV (μ := mX5_parentsOf) (pc := 22) (g_p2 ho _) rfl wm_X5_50 mi_X7_get rfl dX5_parentsOf_22 (Rp.isa (T := TX7) rfl (ho 21 (by decide))) rfl rfl ⟨(Nat.le_of_ble_eq_true rfl), (Nat.le_of_ble_eq_true rfl)⟩ ⟨(Nat.le_of_ble_eq_true rfl), (Nat.le_of_ble_eq_true rfl)⟩ (Nat.le_of_ble_eq_true rfl) ?_
    refine J.iconst (μ := mX5_parentsOf) (pc := 25) (v := -1) dX5_parentsOf_25 (by decide) ?_
    refine J.icmp_ne (μ := mX5_parentsOf) (pc := 26) 33 dX5_parentsOf_26 (by decide) (fun c26 => ?_) (fun c26 => ?_)
    · refine J.iconst (μ := mX5_parentsOf) (pc := 33) (v := 1) dX5_parentsOf_33 (by decide) ?_
      refine J.iadd (μ := mX5_parentsOf) (pc := 34) dX5_parentsOf_34 ?_
      exact J.iret (μ := mX5_parentsOf) (pc := 35) dX5_parentsOf_35 rfl (Nat.le_of_ble_eq_true rfl) (Nat.le_of_ble_eq_true rfl) (fun H h => ⟨congrArg some (congrArg Value.int (by simp [*])), h⟩)
    · refine J.iconst (μ := mX5_parentsOf) (pc := 29) (v := 0) dX5_parentsOf_29 (by decide) ?_
      refine J.goto (μ := mX5_parentsOf) (pc := 30) 34 dX5_parentsOf_30 (by decide) ?_
      refine J.iadd (μ := mX5_parentsOf) (pc := 34) dX5_parentsOf_34 ?_
      exact J.iret (μ := mX5_parentsOf) (pc := 35) dX5_parentsOf_35 rfl (Nat.le_of_ble_eq_true rfl) (Nat.le_of_ble_eq_true rfl) (fun H h => ⟨congrArg some (congrArg Value.int (by simp [*])), h⟩)
theorem s_X5_isParent {γ : Gm} {v : Vs} {o : Nat} (ho : IsStk o) (x : Int32) (y : Int32) : Er γ mX5_isParent yX5_isParent 1 [.ref (gz γ + (o + 8)), .int x, .int y] v (.int (bi (decide (gP1 v o y = x ∨ gP2 v o y = x)))) := by
  refine Ev.ofJ (by decide) rfl (fun h => by cases h) (Nat.le_of_ble_eq_true rfl) ?_
  refine J.aload_n (μ := mX5_isParent) (pc := 0) dX5_isParent_0 rfl ?_
  refine J.gr (μ := mX5_isParent) (pc := 1) (T := TX5) (ci := 8) (fks := _) rfl rfl in_X5 5 (by decide) wf_X5_32 dX5_isParent_1 (ho 8 (by decide)) rfl ?_
  refine J.iload_n (μ := mX5_isParent) (pc := 4) dX5_isParent_4 rfl ?_
  refine J.cV (μ := mX5_isParent) (pc := 5) (g_p1 ho _) rfl wm_X5_50 mi_X7_get rfl dX5_isParent_5 (Rp.isa (T := TX7) rfl (ho 19 (by decide))) rfl rfl ⟨(Nat.le_of_ble_eq_true rfl), (Nat.le_of_ble_eq_true rfl)⟩ ⟨(Nat.le_of_ble_eq_true rfl), (Nat.le_of_ble_eq_true rfl)⟩ (Nat.le_of_ble_eq_true rfl) ?_
  refine J.iload_n (μ := mX5_isParent) (pc := 8) dX5_isParent_8 rfl ?_
  refine J.icmp_eq (μ := mX5_isParent) (pc := 9) 24 dX5_isParent_9 (by decide) (fun c6 => ?_) (fun c6 => ?_)
  · refine J.iconst (μ := mX5_isParent) (pc := 24) (v := 1) dX5_isParent_24 (by decide) ?_
    refine J.goto (μ := mX5_isParent) (pc := 25) 29 dX5_isParent_25 (by decide) ?_
    exact J.zret (μ := mX5_isParent) (pc := 29) dX5_isParent_29 rfl (by first | rfl | decide) (Nat.le_of_ble_eq_true rfl) (Nat.le_of_ble_eq_true rfl) (fun H h => ⟨congrArg some (congrArg Value.int (by simp [bi, *])), h⟩)
  · refine J.aload_n (μ := mX5_isParent) (pc := 12) dX5_isParent_12 rfl ?_
    refine J.gr (μ := mX5_isParent) (pc := 13) (T := TX5) (ci := 8) (fks := _) rfl rfl in_X5 6 (by decide) wf_X5_35 dX5_isParent_13 (ho 8 (by decide)) rfl ?_
    refine J.iload_n (μ := mX5_isParent) (pc := 16) dX5_isParent_16 rfl ?_
    refine J.cV (μ := mX5_isParent) (pc := 17) (g_p2 ho _) rfl wm_X5_50 mi_X7_get rfl dX5_isParent_17 (Rp.isa (T := TX7) rfl (ho 21 (by decide))) rfl rfl ⟨(Nat.le_of_ble_eq_true rfl), (Nat.le_of_ble_eq_true rfl)⟩ ⟨(Nat.le_of_ble_eq_true rfl), (Nat.le_of_ble_eq_true rfl)⟩ (Nat.le_of_ble_eq_true rfl) ?_
    refine J.iload_n (μ := mX5_isParent) (pc := 20) dX5_isParent_20 rfl ?_
    refine J.icmp_ne (μ := mX5_isParent) (pc := 21) 28 dX5_isParent_21 (by decide) (fun c14 => ?_) (fun c14 => ?_)
    · refine J.iconst (μ := mX5_isParent) (pc := 28) (v := 0) dX5_isParent_28 (by decide) ?_
      exact J.zret (μ := mX5_isParent) (pc := 29) dX5_isParent_29 rfl (by first | rfl | decide) (Nat.le_of_ble_eq_true rfl) (Nat.le_of_ble_eq_true rfl) (fun H h => ⟨congrArg some (congrArg Value.int (by simp [bi, *])), h⟩)
    · refine J.iconst (μ := mX5_isParent) (pc := 24) (v := 1) dX5_isParent_24 (by decide) ?_
      refine J.goto (μ := mX5_isParent) (pc := 25) 29 dX5_isParent_25 (by decide) ?_
      exact J.zret (μ := mX5_isParent) (pc := 29) dX5_isParent_29 rfl (by first | rfl | decide) (Nat.le_of_ble_eq_true rfl) (Nat.le_of_ble_eq_true rfl) (fun H h => ⟨congrArg some (congrArg Value.int (by simp [bi, *])), h⟩)
theorem s_X5_expiresBefore {γ : Gm} {v : Vs} {o : Nat} (ho : IsStk o) (x : Int32) (y : Int32) : Er γ mX5_expiresBefore yX5_expiresBefore 1 [.ref (gz γ + (o + 8)), .int x, .int y] v (.int (bi (decide (gEp v o x < gEp v o y ∨ gEp v o x = gEp v o y ∧ x < y)))) := by
  refine Ev.ofJ (by decide) rfl (fun h => by cases h) (Nat.le_of_ble_eq_true rfl) ?_
  refine J.aload_n (μ := mX5_expiresBefore) (pc := 0) dX5_expiresBefore_0 rfl ?_
  refine J.gr (μ := mX5_expiresBefore) (pc := 1) (T := TX5) (ci := 8) (fks := _) rfl rfl in_X5 3 (by decide) wf_X5_26 dX5_expiresBefore_1 (ho 8 (by decide)) rfl ?_
  refine J.iload_n (μ := mX5_expiresBefore) (pc := 4) dX5_expiresBefore_4 rfl ?_
  refine J.cV (μ := mX5_expiresBefore) (pc := 5) (g_ep ho _) rfl wm_X5_50 mi_X7_get rfl dX5_expiresBefore_5 (Rp.isa (T := TX7) rfl (ho 15 (by decide))) rfl rfl ⟨(Nat.le_of_ble_eq_true rfl), (Nat.le_of_ble_eq_true rfl)⟩ ⟨(Nat.le_of_ble_eq_true rfl), (Nat.le_of_ble_eq_true rfl)⟩ (Nat.le_of_ble_eq_true rfl) ?_
  refine J.istore_n (μ := mX5_expiresBefore) (pc := 8) dX5_expiresBefore_8 (Nat.le_of_ble_eq_true rfl) rfl ?_
  refine J.aload_n (μ := mX5_expiresBefore) (pc := 9) dX5_expiresBefore_9 rfl ?_
  refine J.gr (μ := mX5_expiresBefore) (pc := 10) (T := TX5) (ci := 8) (fks := _) rfl rfl in_X5 3 (by decide) wf_X5_26 dX5_expiresBefore_10 (ho 8 (by decide)) rfl ?_
  refine J.iload_n (μ := mX5_expiresBefore) (pc := 13) dX5_expiresBefore_13 rfl ?_
  refine J.cV (μ := mX5_expiresBefore) (pc := 14) (g_ep ho _) rfl wm_X5_50 mi_X7_get rfl dX5_expiresBefore_14 (Rp.isa (T := TX7) rfl (ho 15 (by decide))) rfl rfl ⟨(Nat.le_of_ble_eq_true rfl), (Nat.le_of_ble_eq_true rfl)⟩ ⟨(Nat.le_of_ble_eq_true rfl), (Nat.le_of_ble_eq_true rfl)⟩ (Nat.le_of_ble_eq_true rfl) ?_
  refine J.istore (μ := mX5_expiresBefore) (pc := 17) dX5_expiresBefore_17 (Nat.le_of_ble_eq_true rfl) rfl ?_
  refine J.iload_n (μ := mX5_expiresBefore) (pc := 19) dX5_expiresBefore_19 rfl ?_
  refine J.iload (μ := mX5_expiresBefore) (pc := 20) dX5_expiresBefore_20 rfl ?_
  refine J.icmp_lt (μ := mX5_expiresBefore) (pc := 22) 36 dX5_expiresBefore_22 (by decide) (fun c13 => ?_) (fun c13 => ?_)
  · refine J.iconst (μ := mX5_expiresBefore) (pc := 36) (v := 1) dX5_expiresBefore_36 (by decide) ?_
    refine J.goto (μ := mX5_expiresBefore) (pc := 37) 41 dX5_expiresBefore_37 (by decide) ?_
    exact J.zret (μ := mX5_expiresBefore) (pc := 41) dX5_expiresBefore_41 rfl (by first | rfl | decide) (Nat.le_of_ble_eq_true rfl) (Nat.le_of_ble_eq_true rfl) (fun H h => ⟨congrArg some (congrArg Value.int (by simp [bi, *])), h⟩)
  · refine J.iload_n (μ := mX5_expiresBefore) (pc := 25) dX5_expiresBefore_25 rfl ?_
    refine J.iload (μ := mX5_expiresBefore) (pc := 26) dX5_expiresBefore_26 rfl ?_
    refine J.icmp_ne (μ := mX5_expiresBefore) (pc := 28) 40 dX5_expiresBefore_28 (by decide) (fun c18 => ?_) (fun c18 => ?_)
    · refine J.iconst (μ := mX5_expiresBefore) (pc := 40) (v := 0) dX5_expiresBefore_40 (by decide) ?_
      exact J.zret (μ := mX5_expiresBefore) (pc := 41) dX5_expiresBefore_41 rfl (by first | rfl | decide) (Nat.le_of_ble_eq_true rfl) (Nat.le_of_ble_eq_true rfl) (fun H h => ⟨congrArg some (congrArg Value.int (by simp [bi, *])), h⟩)
    · refine J.iload_n (μ := mX5_expiresBefore) (pc := 31) dX5_expiresBefore_31 rfl ?_
      refine J.iload_n (μ := mX5_expiresBefore) (pc := 32) dX5_expiresBefore_32 rfl ?_
      refine J.icmp_ge (μ := mX5_expiresBefore) (pc := 33) 40 dX5_expiresBefore_33 (by decide) (fun c22 => ?_) (fun c22 => ?_)
      · refine J.iconst (μ := mX5_expiresBefore) (pc := 40) (v := 0) dX5_expiresBefore_40 (by decide) ?_
        exact J.zret (μ := mX5_expiresBefore) (pc := 41) dX5_expiresBefore_41 rfl (by first | rfl | decide) (Nat.le_of_ble_eq_true rfl) (Nat.le_of_ble_eq_true rfl) (fun H h => ⟨congrArg some (congrArg Value.int (by simp [bi, *])), h⟩)
      · refine J.iconst (μ := mX5_expiresBefore) (pc := 36) (v := 1) dX5_expiresBefore_36 (by decide) ?_
        refine J.goto (μ := mX5_expiresBefore) (pc := 37) 41 dX5_expiresBefore_37 (by decide) ?_
        exact J.zret (μ := mX5_expiresBefore) (pc := 41) dX5_expiresBefore_41 rfl (by first | rfl | decide) (Nat.le_of_ble_eq_true rfl) (Nat.le_of_ble_eq_true rfl) (fun H h => ⟨congrArg some (congrArg Value.int (by simp [bi, *])), h⟩)
theorem s_X5_compostsBefore {γ : Gm} {v : Vs} {o : Nat} (ho : IsStk o) (x : Int32) (y : Int32) : Er γ mX5_compostsBefore yX5_compostsBefore 1 [.ref (gz γ + (o + 8)), .int x, .int y] v (.int (bi (decide (gVo v o y < gVo v o x ∨ gVo v o x = gVo v o y ∧ (gEp v o x < gEp v o y ∨ gEp v o x = gEp v o y ∧ x < y))))) := by
  refine Ev.ofJ (by decide) rfl (fun h => by cases h) (Nat.le_of_ble_eq_true rfl) ?_
  refine J.aload_n (μ := mX5_compostsBefore) (pc := 0) dX5_compostsBefore_0 rfl ?_
  refine J.gr (μ := mX5_compostsBefore) (pc := 1) (T := TX5) (ci := 8) (fks := _) rfl rfl in_X5 2 (by decide) wf_X5_23 dX5_compostsBefore_1 (ho 8 (by decide)) rfl ?_
  refine J.iload_n (μ := mX5_compostsBefore) (pc := 4) dX5_compostsBefore_4 rfl ?_
  refine J.cV (μ := mX5_compostsBefore) (pc := 5) (g_vo ho _) rfl wm_X5_50 mi_X7_get rfl dX5_compostsBefore_5 (Rp.isa (T := TX7) rfl (ho 13 (by decide))) rfl rfl ⟨(Nat.le_of_ble_eq_true rfl), (Nat.le_of_ble_eq_true rfl)⟩ ⟨(Nat.le_of_ble_eq_true rfl), (Nat.le_of_ble_eq_true rfl)⟩ (Nat.le_of_ble_eq_true rfl) ?_
  refine J.istore_n (μ := mX5_compostsBefore) (pc := 8) dX5_compostsBefore_8 (Nat.le_of_ble_eq_true rfl) rfl ?_
  refine J.aload_n (μ := mX5_compostsBefore) (pc := 9) dX5_compostsBefore_9 rfl ?_
  refine J.gr (μ := mX5_compostsBefore) (pc := 10) (T := TX5) (ci := 8) (fks := _) rfl rfl in_X5 2 (by decide) wf_X5_23 dX5_compostsBefore_10 (ho 8 (by decide)) rfl ?_
  refine J.iload_n (μ := mX5_compostsBefore) (pc := 13) dX5_compostsBefore_13 rfl ?_
  refine J.cV (μ := mX5_compostsBefore) (pc := 14) (g_vo ho _) rfl wm_X5_50 mi_X7_get rfl dX5_compostsBefore_14 (Rp.isa (T := TX7) rfl (ho 13 (by decide))) rfl rfl ⟨(Nat.le_of_ble_eq_true rfl), (Nat.le_of_ble_eq_true rfl)⟩ ⟨(Nat.le_of_ble_eq_true rfl), (Nat.le_of_ble_eq_true rfl)⟩ (Nat.le_of_ble_eq_true rfl) ?_
  refine J.istore (μ := mX5_compostsBefore) (pc := 17) dX5_compostsBefore_17 (Nat.le_of_ble_eq_true rfl) rfl ?_
  refine J.iload_n (μ := mX5_compostsBefore) (pc := 19) dX5_compostsBefore_19 rfl ?_
  refine J.iload (μ := mX5_compostsBefore) (pc := 20) dX5_compostsBefore_20 rfl ?_
  refine J.icmp_eq (μ := mX5_compostsBefore) (pc := 22) 37 dX5_compostsBefore_22 (by decide) (fun c13 => ?_) (fun c13 => ?_)
  · refine J.aload_n (μ := mX5_compostsBefore) (pc := 37) dX5_compostsBefore_37 rfl ?_
    refine J.gr (μ := mX5_compostsBefore) (pc := 38) (T := TX5) (ci := 8) (fks := _) rfl rfl in_X5 3 (by decide) wf_X5_26 dX5_compostsBefore_38 (ho 8 (by decide)) rfl ?_
    refine J.iload_n (μ := mX5_compostsBefore) (pc := 41) dX5_compostsBefore_41 rfl ?_
    refine J.cV (μ := mX5_compostsBefore) (pc := 42) (g_ep ho _) rfl wm_X5_50 mi_X7_get rfl dX5_compostsBefore_42 (Rp.isa (T := TX7) rfl (ho 15 (by decide))) rfl rfl ⟨(Nat.le_of_ble_eq_true rfl), (Nat.le_of_ble_eq_true rfl)⟩ ⟨(Nat.le_of_ble_eq_true rfl), (Nat.le_of_ble_eq_true rfl)⟩ (Nat.le_of_ble_eq_true rfl) ?_
    refine J.istore (μ := mX5_compostsBefore) (pc := 45) dX5_compostsBefore_45 (Nat.le_of_ble_eq_true rfl) rfl ?_
    refine J.aload_n (μ := mX5_compostsBefore) (pc := 47) dX5_compostsBefore_47 rfl ?_
    refine J.gr (μ := mX5_compostsBefore) (pc := 48) (T := TX5) (ci := 8) (fks := _) rfl rfl in_X5 3 (by decide) wf_X5_26 dX5_compostsBefore_48 (ho 8 (by decide)) rfl ?_
    refine J.iload_n (μ := mX5_compostsBefore) (pc := 51) dX5_compostsBefore_51 rfl ?_
    refine J.cV (μ := mX5_compostsBefore) (pc := 52) (g_ep ho _) rfl wm_X5_50 mi_X7_get rfl dX5_compostsBefore_52 (Rp.isa (T := TX7) rfl (ho 15 (by decide))) rfl rfl ⟨(Nat.le_of_ble_eq_true rfl), (Nat.le_of_ble_eq_true rfl)⟩ ⟨(Nat.le_of_ble_eq_true rfl), (Nat.le_of_ble_eq_true rfl)⟩ (Nat.le_of_ble_eq_true rfl) ?_
    refine J.istore (μ := mX5_compostsBefore) (pc := 55) dX5_compostsBefore_55 (Nat.le_of_ble_eq_true rfl) rfl ?_
    refine J.iload (μ := mX5_compostsBefore) (pc := 57) dX5_compostsBefore_57 rfl ?_
    refine J.iload (μ := mX5_compostsBefore) (pc := 59) dX5_compostsBefore_59 rfl ?_
    refine J.icmp_lt (μ := mX5_compostsBefore) (pc := 61) 76 dX5_compostsBefore_61 (by decide) (fun c26 => ?_) (fun c26 => ?_)
    · refine J.iconst (μ := mX5_compostsBefore) (pc := 76) (v := 1) dX5_compostsBefore_76 (by decide) ?_
      refine J.goto (μ := mX5_compostsBefore) (pc := 77) 81 dX5_compostsBefore_77 (by decide) ?_
      exact J.zret (μ := mX5_compostsBefore) (pc := 81) dX5_compostsBefore_81 rfl (by first | rfl | decide) (Nat.le_of_ble_eq_true rfl) (Nat.le_of_ble_eq_true rfl) (fun H h => ⟨congrArg some (congrArg Value.int (by simp [bi, *])), h⟩)
    · refine J.iload (μ := mX5_compostsBefore) (pc := 64) dX5_compostsBefore_64 rfl ?_
      refine J.iload (μ := mX5_compostsBefore) (pc := 66) dX5_compostsBefore_66 rfl ?_
      refine J.icmp_ne (μ := mX5_compostsBefore) (pc := 68) 80 dX5_compostsBefore_68 (by decide) (fun c31 => ?_) (fun c31 => ?_)
      · refine J.iconst (μ := mX5_compostsBefore) (pc := 80) (v := 0) dX5_compostsBefore_80 (by decide) ?_
        exact J.zret (μ := mX5_compostsBefore) (pc := 81) dX5_compostsBefore_81 rfl (by first | rfl | decide) (Nat.le_of_ble_eq_true rfl) (Nat.le_of_ble_eq_true rfl) (fun H h => ⟨congrArg some (congrArg Value.int (by simp [bi, *])), h⟩)
      · refine J.iload_n (μ := mX5_compostsBefore) (pc := 71) dX5_compostsBefore_71 rfl ?_
        refine J.iload_n (μ := mX5_compostsBefore) (pc := 72) dX5_compostsBefore_72 rfl ?_
        refine J.icmp_ge (μ := mX5_compostsBefore) (pc := 73) 80 dX5_compostsBefore_73 (by decide) (fun c35 => ?_) (fun c35 => ?_)
        · refine J.iconst (μ := mX5_compostsBefore) (pc := 80) (v := 0) dX5_compostsBefore_80 (by decide) ?_
          exact J.zret (μ := mX5_compostsBefore) (pc := 81) dX5_compostsBefore_81 rfl (by first | rfl | decide) (Nat.le_of_ble_eq_true rfl) (Nat.le_of_ble_eq_true rfl) (fun H h => ⟨congrArg some (congrArg Value.int (by simp [bi, *])), h⟩)
        · refine J.iconst (μ := mX5_compostsBefore) (pc := 76) (v := 1) dX5_compostsBefore_76 (by decide) ?_
          refine J.goto (μ := mX5_compostsBefore) (pc := 77) 81 dX5_compostsBefore_77 (by decide) ?_
          exact J.zret (μ := mX5_compostsBefore) (pc := 81) dX5_compostsBefore_81 rfl (by first | rfl | decide) (Nat.le_of_ble_eq_true rfl) (Nat.le_of_ble_eq_true rfl) (fun H h => ⟨congrArg some (congrArg Value.int (by simp [bi, *])), h⟩)
  · refine J.iload_n (μ := mX5_compostsBefore) (pc := 25) dX5_compostsBefore_25 rfl ?_
    refine J.iload (μ := mX5_compostsBefore) (pc := 26) dX5_compostsBefore_26 rfl ?_
    refine J.icmp_le (μ := mX5_compostsBefore) (pc := 28) 35 dX5_compostsBefore_28 (by decide) (fun c41 => ?_) (fun c41 => ?_)
    · refine J.iconst (μ := mX5_compostsBefore) (pc := 35) (v := 0) dX5_compostsBefore_35 (by decide) ?_
      exact J.zret (μ := mX5_compostsBefore) (pc := 36) dX5_compostsBefore_36 rfl (by first | rfl | decide) (Nat.le_of_ble_eq_true rfl) (Nat.le_of_ble_eq_true rfl) (fun H h => ⟨congrArg some (congrArg Value.int (by simp [bi, *])), h⟩)
    · refine J.iconst (μ := mX5_compostsBefore) (pc := 31) (v := 1) dX5_compostsBefore_31 (by decide) ?_
      refine J.goto (μ := mX5_compostsBefore) (pc := 32) 36 dX5_compostsBefore_32 (by decide) ?_
      exact J.zret (μ := mX5_compostsBefore) (pc := 36) dX5_compostsBefore_36 rfl (by first | rfl | decide) (Nat.le_of_ble_eq_true rfl) (Nat.le_of_ble_eq_true rfl) (fun H h => ⟨congrArg some (congrArg Value.int (by simp [bi, *])), h⟩)
theorem s_X5_setParents {γ : Gm} {v : Vs} {o : Nat} (ho : IsStk o) (x : Int32) (y : Int32) (w : Int32) : Ew γ mX5_setParents yX5_setParents 1 [.ref (gz γ + (o + 8)), .int x, .int y, .int w] v none (sP2 (sP1 v o x y) o x w) := by
  refine Ev.ofJ (by decide) rfl (fun h => by cases h) (Nat.le_of_ble_eq_true rfl) ?_
  refine J.aload_n (μ := mX5_setParents) (pc := 0) dX5_setParents_0 rfl ?_
  refine J.gr (μ := mX5_setParents) (pc := 1) (T := TX5) (ci := 8) (fks := _) rfl rfl in_X5 5 (by decide) wf_X5_32 dX5_setParents_1 (ho 8 (by decide)) rfl ?_
  refine J.iload_n (μ := mX5_setParents) (pc := 4) dX5_setParents_4 rfl ?_
  refine J.iload_n (μ := mX5_setParents) (pc := 5) dX5_setParents_5 rfl ?_
  refine J.cV0 (μ := mX5_setParents) (pc := 6) (p_p1 ho _ _) rfl wm_X5_46 mi_X7_set rfl dX5_setParents_6 (Rp.isa (T := TX7) rfl (ho 19 (by decide))) rfl rfl ⟨(Nat.le_of_ble_eq_true rfl), (Nat.le_of_ble_eq_true rfl)⟩ ⟨(Nat.le_of_ble_eq_true rfl), (Nat.le_of_ble_eq_true rfl)⟩ (Nat.le_of_ble_eq_true rfl) ?_
  refine J.aload_n (μ := mX5_setParents) (pc := 9) dX5_setParents_9 rfl ?_
  refine J.gr (μ := mX5_setParents) (pc := 10) (T := TX5) (ci := 8) (fks := _) rfl rfl in_X5 6 (by decide) wf_X5_35 dX5_setParents_10 (ho 8 (by decide)) rfl ?_
  refine J.iload_n (μ := mX5_setParents) (pc := 13) dX5_setParents_13 rfl ?_
  refine J.iload_n (μ := mX5_setParents) (pc := 14) dX5_setParents_14 rfl ?_
  refine J.cV0 (μ := mX5_setParents) (pc := 15) (p_p2 ho _ _) rfl wm_X5_46 mi_X7_set rfl dX5_setParents_15 (Rp.isa (T := TX7) rfl (ho 21 (by decide))) rfl rfl ⟨(Nat.le_of_ble_eq_true rfl), (Nat.le_of_ble_eq_true rfl)⟩ ⟨(Nat.le_of_ble_eq_true rfl), (Nat.le_of_ble_eq_true rfl)⟩ (Nat.le_of_ble_eq_true rfl) ?_
  exact J.vret (μ := mX5_setParents) (pc := 18) dX5_setParents_18 rfl (Nat.le_of_ble_eq_true rfl) (Nat.le_of_ble_eq_true rfl) (fun H h => ⟨rfl, by exact h⟩)
theorem s_X5_remove {γ : Gm} {v : Vs} {o : Nat} (ho : IsStk o) (x : Int32) : Ew γ mX5_remove yX5_remove 1 [.ref (gz γ + (o + 8)), .int x] v none (sPl (sVo v o x 0) o x (-2)) := by
  refine Ev.ofJ (by decide) rfl (fun h => by cases h) (Nat.le_of_ble_eq_true rfl) ?_
  refine J.aload_n (μ := mX5_remove) (pc := 0) dX5_remove_0 rfl ?_
  refine J.gr (μ := mX5_remove) (pc := 1) (T := TX5) (ci := 8) (fks := _) rfl rfl in_X5 2 (by decide) wf_X5_23 dX5_remove_1 (ho 8 (by decide)) rfl ?_
  refine J.iload_n (μ := mX5_remove) (pc := 4) dX5_remove_4 rfl ?_
  refine J.iconst (μ := mX5_remove) (pc := 5) (v := 0) dX5_remove_5 (by decide) ?_
  refine J.cV0 (μ := mX5_remove) (pc := 6) (p_vo ho _ _) rfl wm_X5_46 mi_X7_set rfl dX5_remove_6 (Rp.isa (T := TX7) rfl (ho 13 (by decide))) rfl rfl ⟨(Nat.le_of_ble_eq_true rfl), (Nat.le_of_ble_eq_true rfl)⟩ ⟨(Nat.le_of_ble_eq_true rfl), (Nat.le_of_ble_eq_true rfl)⟩ (Nat.le_of_ble_eq_true rfl) ?_
  refine J.aload_n (μ := mX5_remove) (pc := 9) dX5_remove_9 rfl ?_
  refine J.gr (μ := mX5_remove) (pc := 10) (T := TX5) (ci := 8) (fks := _) rfl rfl in_X5 4 (by decide) wf_X5_29 dX5_remove_10 (ho 8 (by decide)) rfl ?_
  refine J.iload_n (μ := mX5_remove) (pc := 13) dX5_remove_13 rfl ?_
  refine J.bipush (μ := mX5_remove) (pc := 14) (v := -2) dX5_remove_14 (by decide) ?_
  refine J.cV0 (μ := mX5_remove) (pc := 16) (p_pl ho _ _) rfl wm_X5_46 mi_X7_set rfl dX5_remove_16 (Rp.isa (T := TX7) rfl (ho 17 (by decide))) rfl rfl ⟨(Nat.le_of_ble_eq_true rfl), (Nat.le_of_ble_eq_true rfl)⟩ ⟨(Nat.le_of_ble_eq_true rfl), (Nat.le_of_ble_eq_true rfl)⟩ (Nat.le_of_ble_eq_true rfl) ?_
  exact J.vret (μ := mX5_remove) (pc := 19) dX5_remove_19 rfl (Nat.le_of_ble_eq_true rfl) (Nat.le_of_ble_eq_true rfl) (fun H h => ⟨rfl, by exact h⟩)
/-- what Lots.add makes of the numbers -/
def addL (v : Vs) (o : Nat) (a b c d e : Int32) : Vs :=
  let l := v (o + 8) 7
  let w := sP2 (sP1 (sPl (sEp (sVo (sLz (sKi v o l a) o l b) o l c) o l d) o l e) o l (-1)) o l (-1)
  up2 w (o + 8) 7 (w (o + 8) 7 + 1)
def addS (v : Vs) (o : Nat) (a b : Int32) : Vs :=
  let l := v (o + 1) 3
  let w := sCd (sCp (sZn v o l a) o l b) o l (-1)
  up2 w (o + 1) 3 (w (o + 1) 3 + 1)
theorem s_X5_add {γ : Gm} {v : Vs} {o : Nat} (ho : IsStk o) (a : Int32) (b : Int32) (c : Int32) (e : Int32) (f : Int32) : Ew γ mX5_add yX5_add 1 [.ref (gz γ + (o + 8)), .int a, .int b, .int c, .int e, .int f] v (some (.int (v (o + 8) 7))) (addL v o a b c e f) := by
  refine Ev.ofJ (by decide) rfl (fun h => by cases h) (Nat.le_of_ble_eq_true rfl) ?_
  refine J.aload_n (μ := mX5_add) (pc := 0) dX5_add_0 rfl ?_
  refine J.gi (μ := mX5_add) (pc := 1) (T := TX5) (ci := 8) (fks := _) rfl rfl in_X5 7 (by decide) wf_X5_38 dX5_add_1 (ho 8 (by decide)) rfl ?_
  refine J.istore (μ := mX5_add) (pc := 4) dX5_add_4 (Nat.le_of_ble_eq_true rfl) rfl ?_
  refine J.aload_n (μ := mX5_add) (pc := 6) dX5_add_6 rfl ?_
  refine J.gr (μ := mX5_add) (pc := 7) (T := TX5) (ci := 8) (fks := _) rfl rfl in_X5 0 (by decide) wf_X5_14 dX5_add_7 (ho 8 (by decide)) rfl ?_
  refine J.iload (μ := mX5_add) (pc := 10) dX5_add_10 rfl ?_
  refine J.iload_n (μ := mX5_add) (pc := 12) dX5_add_12 rfl ?_
  refine J.cV0 (μ := mX5_add) (pc := 13) (p_ki ho _ _) rfl wm_X5_46 mi_X7_set rfl dX5_add_13 (Rp.isa (T := TX7) rfl (ho 9 (by decide))) rfl rfl ⟨(Nat.le_of_ble_eq_true rfl), (Nat.le_of_ble_eq_true rfl)⟩ ⟨(Nat.le_of_ble_eq_true rfl), (Nat.le_of_ble_eq_true rfl)⟩ (Nat.le_of_ble_eq_true rfl) ?_
  refine J.aload_n (μ := mX5_add) (pc := 16) dX5_add_16 rfl ?_
  refine J.gr (μ := mX5_add) (pc := 17) (T := TX5) (ci := 8) (fks := _) rfl rfl in_X5 1 (by decide) wf_X5_20 dX5_add_17 (ho 8 (by decide)) rfl ?_
  refine J.iload (μ := mX5_add) (pc := 20) dX5_add_20 rfl ?_
  refine J.iload_n (μ := mX5_add) (pc := 22) dX5_add_22 rfl ?_
  refine J.cV0 (μ := mX5_add) (pc := 23) (p_lz ho _ _) rfl wm_X5_46 mi_X7_set rfl dX5_add_23 (Rp.isa (T := TX7) rfl (ho 11 (by decide))) rfl rfl ⟨(Nat.le_of_ble_eq_true rfl), (Nat.le_of_ble_eq_true rfl)⟩ ⟨(Nat.le_of_ble_eq_true rfl), (Nat.le_of_ble_eq_true rfl)⟩ (Nat.le_of_ble_eq_true rfl) ?_
  refine J.aload_n (μ := mX5_add) (pc := 26) dX5_add_26 rfl ?_
  refine J.gr (μ := mX5_add) (pc := 27) (T := TX5) (ci := 8) (fks := _) rfl rfl in_X5 2 (by decide) wf_X5_23 dX5_add_27 (ho 8 (by decide)) rfl ?_
  refine J.iload (μ := mX5_add) (pc := 30) dX5_add_30 rfl ?_
  refine J.iload_n (μ := mX5_add) (pc := 32) dX5_add_32 rfl ?_
  refine J.cV0 (μ := mX5_add) (pc := 33) (p_vo ho _ _) rfl wm_X5_46 mi_X7_set rfl dX5_add_33 (Rp.isa (T := TX7) rfl (ho 13 (by decide))) rfl rfl ⟨(Nat.le_of_ble_eq_true rfl), (Nat.le_of_ble_eq_true rfl)⟩ ⟨(Nat.le_of_ble_eq_true rfl), (Nat.le_of_ble_eq_true rfl)⟩ (Nat.le_of_ble_eq_true rfl) ?_
  refine J.aload_n (μ := mX5_add) (pc := 36) dX5_add_36 rfl ?_
  refine J.gr (μ := mX5_add) (pc := 37) (T := TX5) (ci := 8) (fks := _) rfl rfl in_X5 3 (by decide) wf_X5_26 dX5_add_37 (ho 8 (by decide)) rfl ?_
  refine J.iload (μ := mX5_add) (pc := 40) dX5_add_40 rfl ?_
  refine J.iload (μ := mX5_add) (pc := 42) dX5_add_42 rfl ?_
  refine J.cV0 (μ := mX5_add) (pc := 44) (p_ep ho _ _) rfl wm_X5_46 mi_X7_set rfl dX5_add_44 (Rp.isa (T := TX7) rfl (ho 15 (by decide))) rfl rfl ⟨(Nat.le_of_ble_eq_true rfl), (Nat.le_of_ble_eq_true rfl)⟩ ⟨(Nat.le_of_ble_eq_true rfl), (Nat.le_of_ble_eq_true rfl)⟩ (Nat.le_of_ble_eq_true rfl) ?_
  refine J.aload_n (μ := mX5_add) (pc := 47) dX5_add_47 rfl ?_
  refine J.gr (μ := mX5_add) (pc := 48) (T := TX5) (ci := 8) (fks := _) rfl rfl in_X5 4 (by decide) wf_X5_29 dX5_add_48 (ho 8 (by decide)) rfl ?_
  refine J.iload (μ := mX5_add) (pc := 51) dX5_add_51 rfl ?_
  refine J.iload (μ := mX5_add) (pc := 53) dX5_add_53 rfl ?_
  refine J.cV0 (μ := mX5_add) (pc := 55) (p_pl ho _ _) rfl wm_X5_46 mi_X7_set rfl dX5_add_55 (Rp.isa (T := TX7) rfl (ho 17 (by decide))) rfl rfl ⟨(Nat.le_of_ble_eq_true rfl), (Nat.le_of_ble_eq_true rfl)⟩ ⟨(Nat.le_of_ble_eq_true rfl), (Nat.le_of_ble_eq_true rfl)⟩ (Nat.le_of_ble_eq_true rfl) ?_
  refine J.aload_n (μ := mX5_add) (pc := 58) dX5_add_58 rfl ?_
  refine J.gr (μ := mX5_add) (pc := 59) (T := TX5) (ci := 8) (fks := _) rfl rfl in_X5 5 (by decide) wf_X5_32 dX5_add_59 (ho 8 (by decide)) rfl ?_
  refine J.iload (μ := mX5_add) (pc := 62) dX5_add_62 rfl ?_
  refine J.iconst (μ := mX5_add) (pc := 64) (v := -1) dX5_add_64 (by decide) ?_
  refine J.cV0 (μ := mX5_add) (pc := 65) (p_p1 ho _ _) rfl wm_X5_46 mi_X7_set rfl dX5_add_65 (Rp.isa (T := TX7) rfl (ho 19 (by decide))) rfl rfl ⟨(Nat.le_of_ble_eq_true rfl), (Nat.le_of_ble_eq_true rfl)⟩ ⟨(Nat.le_of_ble_eq_true rfl), (Nat.le_of_ble_eq_true rfl)⟩ (Nat.le_of_ble_eq_true rfl) ?_
  refine J.aload_n (μ := mX5_add) (pc := 68) dX5_add_68 rfl ?_
  refine J.gr (μ := mX5_add) (pc := 69) (T := TX5) (ci := 8) (fks := _) rfl rfl in_X5 6 (by decide) wf_X5_35 dX5_add_69 (ho 8 (by decide)) rfl ?_
  refine J.iload (μ := mX5_add) (pc := 72) dX5_add_72 rfl ?_
  refine J.iconst (μ := mX5_add) (pc := 74) (v := -1) dX5_add_74 (by decide) ?_
  refine J.cV0 (μ := mX5_add) (pc := 75) (p_p2 ho _ _) rfl wm_X5_46 mi_X7_set rfl dX5_add_75 (Rp.isa (T := TX7) rfl (ho 21 (by decide))) rfl rfl ⟨(Nat.le_of_ble_eq_true rfl), (Nat.le_of_ble_eq_true rfl)⟩ ⟨(Nat.le_of_ble_eq_true rfl), (Nat.le_of_ble_eq_true rfl)⟩ (Nat.le_of_ble_eq_true rfl) ?_
  refine J.aload_n (μ := mX5_add) (pc := 78) dX5_add_78 rfl ?_
  refine J.dup (μ := mX5_add) (pc := 79) dX5_add_79 rfl ?_
  refine J.gi (μ := mX5_add) (pc := 80) (T := TX5) (ci := 8) (fks := _) rfl rfl in_X5 7 (by decide) wf_X5_38 dX5_add_80 (ho 8 (by decide)) rfl ?_
  refine J.iconst (μ := mX5_add) (pc := 83) (v := 1) dX5_add_83 (by decide) ?_
  refine J.iadd (μ := mX5_add) (pc := 84) dX5_add_84 ?_
  refine J.pi (μ := mX5_add) (pc := 85) (T := TX5) (ci := 8) (ty0 := tyX5) (fks := _) rfl rfl in_X5 tyX5_ok nmX5 7 (by decide) wf_X5_38 dX5_add_85 rfl rfl rfl (ho 8 (by decide)) rfl ?_
  refine J.iload (μ := mX5_add) (pc := 88) dX5_add_88 rfl ?_
  exact J.iret (μ := mX5_add) (pc := 90) dX5_add_90 rfl (Nat.le_of_ble_eq_true rfl) (Nat.le_of_ble_eq_true rfl) (fun H h => ⟨congrArg some (congrArg Value.int (by rfl)), h⟩)
theorem s_X8_has {γ : Gm} {v : Vs} {o : Nat} (ho : IsStk o) (x : Int32) : Er γ mX8_has yX8_has 0 [.ref (gz γ + (o + 1)), .int x] v (.int (bi (decide (0 ≤ x ∧ x < v (o + 1) 3)))) := by
  refine Ev.ofJ (by decide) rfl (fun h => by cases h) (Nat.le_of_ble_eq_true rfl) ?_
  refine J.iload_n (μ := mX8_has) (pc := 0) dX8_has_0 rfl ?_
  refine J.if_lt (μ := mX8_has) (pc := 1) 16 dX8_has_1 (by decide) (fun c2 => ?_) (fun c2 => ?_)
  · refine J.iconst (μ := mX8_has) (pc := 16) (v := 0) dX8_has_16 (by decide) ?_
    exact J.zret (μ := mX8_has) (pc := 17) dX8_has_17 rfl (by first | rfl | decide) (Nat.le_of_ble_eq_true rfl) (Nat.le_of_ble_eq_true rfl) (fun H h => ⟨congrArg some (congrArg Value.int (by first | (simp [bi, *]; done) | (simp [bi, Int32.le_iff_toInt_le, Int32.lt_iff_toInt_lt] at *; omega))), h⟩)
  · refine J.iload_n (μ := mX8_has) (pc := 4) dX8_has_4 rfl ?_
    refine J.aload_n (μ := mX8_has) (pc := 5) dX8_has_5 rfl ?_
    refine J.gi (μ := mX8_has) (pc := 6) (T := TX8) (ci := 11) (fks := _) rfl rfl in_X8 3 (by decide) wf_X8_26 dX8_has_6 (ho 1 (by decide)) rfl ?_
    refine J.icmp_ge (μ := mX8_has) (pc := 9) 16 dX8_has_9 (by decide) (fun c7 => ?_) (fun c7 => ?_)
    · refine J.iconst (μ := mX8_has) (pc := 16) (v := 0) dX8_has_16 (by decide) ?_
      exact J.zret (μ := mX8_has) (pc := 17) dX8_has_17 rfl (by first | rfl | decide) (Nat.le_of_ble_eq_true rfl) (Nat.le_of_ble_eq_true rfl) (fun H h => ⟨congrArg some (congrArg Value.int (by first | (simp [bi, *]; done) | (simp [bi, Int32.le_iff_toInt_le, Int32.lt_iff_toInt_lt] at *; omega))), h⟩)
    · refine J.iconst (μ := mX8_has) (pc := 12) (v := 1) dX8_has_12 (by decide) ?_
      refine J.goto (μ := mX8_has) (pc := 13) 17 dX8_has_13 (by decide) ?_
      exact J.zret (μ := mX8_has) (pc := 17) dX8_has_17 rfl (by first | rfl | decide) (Nat.le_of_ble_eq_true rfl) (Nat.le_of_ble_eq_true rfl) (fun H h => ⟨congrArg some (congrArg Value.int (by first | (simp [bi, *]; done) | (simp [bi, Int32.le_iff_toInt_le, Int32.lt_iff_toInt_lt] at *; omega))), h⟩)
theorem s_X8_add {γ : Gm} {v : Vs} {o : Nat} (ho : IsStk o) (a : Int32) (b : Int32) : Ew γ mX8_add yX8_add 1 [.ref (gz γ + (o + 1)), .int a, .int b] v (some (.int (v (o + 1) 3))) (addS v o a b) := by
  refine Ev.ofJ (by decide) rfl (fun h => by cases h) (Nat.le_of_ble_eq_true rfl) ?_
  refine J.aload_n (μ := mX8_add) (pc := 0) dX8_add_0 rfl ?_
  refine J.gi (μ := mX8_add) (pc := 1) (T := TX8) (ci := 11) (fks := _) rfl rfl in_X8 3 (by decide) wf_X8_26 dX8_add_1 (ho 1 (by decide)) rfl ?_
  refine J.istore_n (μ := mX8_add) (pc := 4) dX8_add_4 (Nat.le_of_ble_eq_true rfl) rfl ?_
  refine J.aload_n (μ := mX8_add) (pc := 5) dX8_add_5 rfl ?_
  refine J.gr (μ := mX8_add) (pc := 6) (T := TX8) (ci := 11) (fks := _) rfl rfl in_X8 0 (by decide) wf_X8_14 dX8_add_6 (ho 1 (by decide)) rfl ?_
  refine J.iload_n (μ := mX8_add) (pc := 9) dX8_add_9 rfl ?_
  refine J.iload_n (μ := mX8_add) (pc := 10) dX8_add_10 rfl ?_
  refine J.cV0 (μ := mX8_add) (pc := 11) (p_zn ho _ _) rfl wm_X8_34 mi_X7_set rfl dX8_add_11 (Rp.isa (T := TX7) rfl (ho 2 (by decide))) rfl rfl ⟨(Nat.le_of_ble_eq_true rfl), (Nat.le_of_ble_eq_true rfl)⟩ ⟨(Nat.le_of_ble_eq_true rfl), (Nat.le_of_ble_eq_true rfl)⟩ (Nat.le_of_ble_eq_true rfl) ?_
  refine J.aload_n (μ := mX8_add) (pc := 14) dX8_add_14 rfl ?_
  refine J.gr (μ := mX8_add) (pc := 15) (T := TX8) (ci := 11) (fks := _) rfl rfl in_X8 1 (by decide) wf_X8_20 dX8_add_15 (ho 1 (by decide)) rfl ?_
  refine J.iload_n (μ := mX8_add) (pc := 18) dX8_add_18 rfl ?_
  refine J.iload_n (μ := mX8_add) (pc := 19) dX8_add_19 rfl ?_
  refine J.cV0 (μ := mX8_add) (pc := 20) (p_cp ho _ _) rfl wm_X8_34 mi_X7_set rfl dX8_add_20 (Rp.isa (T := TX7) rfl (ho 4 (by decide))) rfl rfl ⟨(Nat.le_of_ble_eq_true rfl), (Nat.le_of_ble_eq_true rfl)⟩ ⟨(Nat.le_of_ble_eq_true rfl), (Nat.le_of_ble_eq_true rfl)⟩ (Nat.le_of_ble_eq_true rfl) ?_
  refine J.aload_n (μ := mX8_add) (pc := 23) dX8_add_23 rfl ?_
  refine J.gr (μ := mX8_add) (pc := 24) (T := TX8) (ci := 11) (fks := _) rfl rfl in_X8 2 (by decide) wf_X8_23 dX8_add_24 (ho 1 (by decide)) rfl ?_
  refine J.iload_n (μ := mX8_add) (pc := 27) dX8_add_27 rfl ?_
  refine J.iconst (μ := mX8_add) (pc := 28) (v := -1) dX8_add_28 (by decide) ?_
  refine J.cV0 (μ := mX8_add) (pc := 29) (p_cd ho _ _) rfl wm_X8_34 mi_X7_set rfl dX8_add_29 (Rp.isa (T := TX7) rfl (ho 6 (by decide))) rfl rfl ⟨(Nat.le_of_ble_eq_true rfl), (Nat.le_of_ble_eq_true rfl)⟩ ⟨(Nat.le_of_ble_eq_true rfl), (Nat.le_of_ble_eq_true rfl)⟩ (Nat.le_of_ble_eq_true rfl) ?_
  refine J.aload_n (μ := mX8_add) (pc := 32) dX8_add_32 rfl ?_
  refine J.dup (μ := mX8_add) (pc := 33) dX8_add_33 rfl ?_
  refine J.gi (μ := mX8_add) (pc := 34) (T := TX8) (ci := 11) (fks := _) rfl rfl in_X8 3 (by decide) wf_X8_26 dX8_add_34 (ho 1 (by decide)) rfl ?_
  refine J.iconst (μ := mX8_add) (pc := 37) (v := 1) dX8_add_37 (by decide) ?_
  refine J.iadd (μ := mX8_add) (pc := 38) dX8_add_38 ?_
  refine J.pi (μ := mX8_add) (pc := 39) (T := TX8) (ci := 11) (ty0 := tyX8) (fks := _) rfl rfl in_X8 tyX8_ok nmX8 3 (by decide) wf_X8_26 dX8_add_39 rfl rfl rfl (ho 1 (by decide)) rfl ?_
  refine J.iload_n (μ := mX8_add) (pc := 42) dX8_add_42 rfl ?_
  exact J.iret (μ := mX8_add) (pc := 43) dX8_add_43 rfl (Nat.le_of_ble_eq_true rfl) (Nat.le_of_ble_eq_true rfl) (fun H h => ⟨congrArg some (congrArg Value.int (by rfl)), h⟩)
theorem s_X9_hasExpired {γ : Gm} {v : Vs} {o : Nat} (ho : IsStk o) (x : Int32) : Er γ mX9_hasExpired yX9_hasExpired 1 [.ref (gz γ + o), .int x] v (.int (bi (decide (gEp v o x < v o 3)))) := by
  refine Ev.ofJ (by decide) rfl (fun h => by cases h) (Nat.le_of_ble_eq_true rfl) ?_
  refine J.aload_n (μ := mX9_hasExpired) (pc := 0) dX9_hasExpired_0 rfl ?_
  refine J.gi (μ := mX9_hasExpired) (pc := 1) (T := TX9) (ci := 12) (fks := _) rfl rfl in_X9 3 (by decide) wf_X9_32 dX9_hasExpired_1 (ho 0 (by decide)) rfl ?_
  refine J.aload_n (μ := mX9_hasExpired) (pc := 4) dX9_hasExpired_4 rfl ?_
  refine J.gr (μ := mX9_hasExpired) (pc := 5) (T := TX9) (ci := 12) (fks := _) rfl rfl in_X9 1 (by decide) wf_X9_21 dX9_hasExpired_5 (ho 0 (by decide)) rfl ?_
  refine J.gr (μ := mX9_hasExpired) (pc := 8) (T := TX5) (ci := 8) (fks := _) rfl rfl in_X5 3 (by decide) wf_X9_55 dX9_hasExpired_8 (ho 8 (by decide)) rfl ?_
  refine J.iload_n (μ := mX9_hasExpired) (pc := 11) dX9_hasExpired_11 rfl ?_
  refine J.cV (μ := mX9_hasExpired) (pc := 12) (g_ep ho _) rfl wm_X9_59 mi_X7_get rfl dX9_hasExpired_12 (Rp.isa (T := TX7) rfl (ho 15 (by decide))) rfl rfl ⟨(Nat.le_of_ble_eq_true rfl), (Nat.le_of_ble_eq_true rfl)⟩ ⟨(Nat.le_of_ble_eq_true rfl), (Nat.le_of_ble_eq_true rfl)⟩ (Nat.le_of_ble_eq_true rfl) ?_
  refine J.icmp_le (μ := mX9_hasExpired) (pc := 15) 22 dX9_hasExpired_15 (by decide) (fun c8 => ?_) (fun c8 => ?_)
  · refine J.iconst (μ := mX9_hasExpired) (pc := 22) (v := 0) dX9_hasExpired_22 (by decide) ?_
    exact J.zret (μ := mX9_hasExpired) (pc := 23) dX9_hasExpired_23 rfl (by first | rfl | decide) (Nat.le_of_ble_eq_true rfl) (Nat.le_of_ble_eq_true rfl) (fun H h => ⟨congrArg some (congrArg Value.int (by simp [bi, *])), h⟩)
  · refine J.iconst (μ := mX9_hasExpired) (pc := 18) (v := 1) dX9_hasExpired_18 (by decide) ?_
    refine J.goto (μ := mX9_hasExpired) (pc := 19) 23 dX9_hasExpired_19 (by decide) ?_
    exact J.zret (μ := mX9_hasExpired) (pc := 23) dX9_hasExpired_23 rfl (by first | rfl | decide) (Nat.le_of_ble_eq_true rfl) (Nat.le_of_ble_eq_true rfl) (fun H h => ⟨congrArg some (congrArg Value.int (by simp [bi, *])), h⟩)
