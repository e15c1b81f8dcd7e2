/-! the class's own methods that ask: what is required, and each question -/
theorem nar_bi (b : Bool) : narrow .boolean (.int (bi b)) = .int (bi b) := by cases b <;> rfl
def kdV (v : Vs) (a b c : Int32) : Vs := up2 (up2 (up2 v 0 10 a) 0 11 b) 0 12 c
theorem s_X11_keepDenial {γ : Gm} {v : Vs} (a b c : Int32) : Ew γ mX11_keepDenial yX11_keepDenial 0 [.ref (gz γ + 0), .int a, .int b, .int c] v none (kdV v a b c) := by
  refine Ev.ofJ (by decide) rfl (fun h => by cases h) (Nat.le_of_ble_eq_true rfl) ?_
  refine J.aload_n (μ := mX11_keepDenial) (pc := 0) dX11_keepDenial_0 rfl ?_
  refine J.iload_n (μ := mX11_keepDenial) (pc := 1) dX11_keepDenial_1 rfl ?_
  refine J.pi (μ := mX11_keepDenial) (pc := 2) (T := TX11) (ci := 14) (ty0 := tyX11) (fks := _) rfl rfl in_X11 tyX11_ok nmX11 10 (by decide) wf_X11_68 dX11_keepDenial_2 rfl rfl rfl sh0 rfl ?_
  refine J.aload_n (μ := mX11_keepDenial) (pc := 5) dX11_keepDenial_5 rfl ?_
  refine J.iload_n (μ := mX11_keepDenial) (pc := 6) dX11_keepDenial_6 rfl ?_
  refine J.pi (μ := mX11_keepDenial) (pc := 7) (T := TX11) (ci := 14) (ty0 := tyX11) (fks := _) rfl rfl in_X11 tyX11_ok nmX11 11 (by decide) wf_X11_72 dX11_keepDenial_7 rfl rfl rfl sh0 rfl ?_
  refine J.aload_n (μ := mX11_keepDenial) (pc := 10) dX11_keepDenial_10 rfl ?_
  refine J.iload_n (μ := mX11_keepDenial) (pc := 11) dX11_keepDenial_11 rfl ?_
  refine J.pi (μ := mX11_keepDenial) (pc := 12) (T := TX11) (ci := 14) (ty0 := tyX11) (fks := _) rfl rfl in_X11 tyX11_ok nmX11 12 (by decide) wf_X11_75 dX11_keepDenial_12 rfl rfl rfl sh0 rfl ?_
  exact J.vret (μ := mX11_keepDenial) (pc := 15) dX11_keepDenial_15 rfl (Nat.le_of_ble_eq_true rfl) (Nat.le_of_ble_eq_true rfl) (fun H h => ⟨rfl, h⟩)

theorem s_X11_requireShelf0 {γ : Gm} {v : Vs} (x : Int32) (h : hasS v 1 x) : Ew γ mX11_requireShelf yX11_requireShelf 1 [.ref (gz γ + 0), .int x] v none v := by
  refine Ev.ofJ (by decide) rfl (fun h => by cases h) (Nat.le_of_ble_eq_true rfl) ?_
  refine J.aload_n (μ := mX11_requireShelf) (pc := 0) dX11_requireShelf_0 rfl ?_
  refine J.gr (μ := mX11_requireShelf) (pc := 1) (T := TX11) (ci := 14) (fks := _) rfl rfl in_X11 0 (by decide) wf_X11_10 dX11_requireShelf_1 sh0 rfl ?_
  refine J.gr (μ := mX11_requireShelf) (pc := 4) (T := TX9) (ci := 12) (fks := _) rfl rfl in_X9 0 (by decide) wf_X11_82 dX11_requireShelf_4 (st1 0 (by decide)) rfl ?_
  refine J.iload_n (μ := mX11_requireShelf) (pc := 7) dX11_requireShelf_7 rfl ?_
  refine J.cV (μ := mX11_requireShelf) (pc := 8) (s_X8_has st1  _) rfl wm_X11_364 mi_X8_has rfl dX11_requireShelf_8 (Rp.isa (T := TX8) rfl (st1 1 (by decide))) rfl rfl ⟨(Nat.le_of_ble_eq_true rfl), (Nat.le_of_ble_eq_true rfl)⟩ ⟨(Nat.le_of_ble_eq_true rfl), (Nat.le_of_ble_eq_true rfl)⟩ (Nat.le_of_ble_eq_true rfl) ?_
  refine J.ifB_ne (μ := mX11_requireShelf) (pc := 11) 25 dX11_requireShelf_11 (by decide) (fun h1 => ?_) (fun h1 => ?_)
  · exact J.vret (μ := mX11_requireShelf) (pc := 25) dX11_requireShelf_25 rfl (Nat.le_of_ble_eq_true rfl) (Nat.le_of_ble_eq_true rfl) (fun H h => ⟨rfl, h⟩)
  · exact absurd h h1

theorem s_X11_requireLot0 {γ : Gm} {v : Vs} (x : Int32) (h : hasL v 1 x) : Ew γ mX11_requireLot yX11_requireLot 1 [.ref (gz γ + 0), .int x] v none v := by
  refine Ev.ofJ (by decide) rfl (fun h => by cases h) (Nat.le_of_ble_eq_true rfl) ?_
  refine J.aload_n (μ := mX11_requireLot) (pc := 0) dX11_requireLot_0 rfl ?_
  refine J.gr (μ := mX11_requireLot) (pc := 1) (T := TX11) (ci := 14) (fks := _) rfl rfl in_X11 0 (by decide) wf_X11_10 dX11_requireLot_1 sh0 rfl ?_
  refine J.gr (μ := mX11_requireLot) (pc := 4) (T := TX9) (ci := 12) (fks := _) rfl rfl in_X9 1 (by decide) wf_X11_109 dX11_requireLot_4 (st1 0 (by decide)) rfl ?_
  refine J.iload_n (μ := mX11_requireLot) (pc := 7) dX11_requireLot_7 rfl ?_
  refine J.cV (μ := mX11_requireLot) (pc := 8) (s_X5_has st1  _) rfl wm_X11_367 mi_X5_has rfl dX11_requireLot_8 (Rp.isa (T := TX5) rfl (st1 8 (by decide))) rfl rfl ⟨(Nat.le_of_ble_eq_true rfl), (Nat.le_of_ble_eq_true rfl)⟩ ⟨(Nat.le_of_ble_eq_true rfl), (Nat.le_of_ble_eq_true rfl)⟩ (Nat.le_of_ble_eq_true rfl) ?_
  refine J.ifB_ne (μ := mX11_requireLot) (pc := 11) 25 dX11_requireLot_11 (by decide) (fun h1 => ?_) (fun h1 => ?_)
  · exact J.vret (μ := mX11_requireLot) (pc := 25) dX11_requireLot_25 rfl (Nat.le_of_ble_eq_true rfl) (Nat.le_of_ble_eq_true rfl) (fun H h => ⟨rfl, h⟩)
  · exact absurd h h1

theorem s_X11_requireRange0 {γ : Gm} {v : Vs} (x y z : Int32) (h : y ≤ x ∧ x ≤ z) : Ew γ mX11_requireRange yX11_requireRange 1 [.int x, .int y, .int z] v none v := by
  refine Ev.ofJ (by decide) rfl (fun h => by cases h) (Nat.le_of_ble_eq_true rfl) ?_
  refine J.iload_n (μ := mX11_requireRange) (pc := 0) dX11_requireRange_0 rfl ?_
  refine J.iload_n (μ := mX11_requireRange) (pc := 1) dX11_requireRange_1 rfl ?_
  refine J.icmp_lt (μ := mX11_requireRange) (pc := 2) 10 dX11_requireRange_2 (by decide) (fun h1 => ?_) (fun h1 => ?_)
  · exact absurd h.1 (Int32.not_le.mpr h1)
  · refine J.iload_n (μ := mX11_requireRange) (pc := 5) dX11_requireRange_5 rfl ?_
    refine J.iload_n (μ := mX11_requireRange) (pc := 6) dX11_requireRange_6 rfl ?_
    refine J.icmp_le (μ := mX11_requireRange) (pc := 7) 21 dX11_requireRange_7 (by decide) (fun h2 => ?_) (fun h2 => ?_)
    · exact J.vret (μ := mX11_requireRange) (pc := 21) dX11_requireRange_21 rfl (Nat.le_of_ble_eq_true rfl) (Nat.le_of_ble_eq_true rfl) (fun H h => ⟨rfl, h⟩)
    · exact absurd h.2 (Int32.not_le.mpr h2)

theorem s_X11_requireFound {γ : Gm} {v : Vs} (x : Int32) : Xm γ mX11_requireFound yX11_requireFound 6 [.int x] v (fun w H => w = some (.int x) ∧ ¬ x < 0 ∧ Rp γ v H) (fun E H => x < 0 ∧ E = nsC ∧ Rp γ v H) := by
  refine Ex.ofJ (by decide) rfl (fun h => by cases h) (Nat.le_of_ble_eq_true rfl) ?_
  refine J.iload_n (μ := mX11_requireFound) (pc := 0) dX11_requireFound_0 rfl ?_
  refine J.if_ge (μ := mX11_requireFound) (pc := 1) 15 dX11_requireFound_1 (by decide) (fun h1 => ?_) (fun h1 => ?_)
  · refine J.toX ?_
    refine J.iload_n (μ := mX11_requireFound) (pc := 15) dX11_requireFound_15 rfl ?_
    exact J.iret (μ := mX11_requireFound) (pc := 16) dX11_requireFound_16 rfl (Nat.le_of_ble_eq_true rfl) (Nat.le_of_ble_eq_true rfl) (fun H h => ⟨rfl, Int32.not_lt.mpr h1, h⟩)
  · have h2 := h1
    refine J.throwN (μ := mX11_requireFound) (pc := 4) (si := 16) (P' := Rp γ v) rfl wk_X11_335 rfl tw_ns.1 tw_ns.2 dX11_requireFound_4 dX11_requireFound_7 dX11_requireFound_8 dX11_requireFound_11 dX11_requireFound_14 (Nat.le_of_ble_eq_true rfl) (Nat.le_of_ble_eq_true rfl) (Nat.le_of_ble_eq_true rfl) (Nat.le_of_ble_eq_true rfl) (fun H H' h hz hq => h.ext hq) ?_
    exact JX.out rfl (Nat.le_of_ble_eq_true rfl) (Nat.le_of_ble_eq_true rfl) (fun H' h => ⟨h2, rfl, h⟩)


theorem s_X11_shelfCount {γ : Gm} {v : Vs}  : Er γ mX11_shelfCount yX11_shelfCount 30 [.ref (gz γ + 0)] v (.int (v (1 + 1) 3)) := by
  refine Ev.ofJ (by decide) rfl (fun h => by cases h) (Nat.le_of_ble_eq_true rfl) ?_
  refine J.aload_n (μ := mX11_shelfCount) (pc := 0) dX11_shelfCount_0 rfl ?_
  refine J.gr (μ := mX11_shelfCount) (pc := 1) (T := TX11) (ci := 14) (fks := _) rfl rfl in_X11 0 (by decide) wf_X11_10 dX11_shelfCount_1 sh0 rfl ?_
  refine J.gr (μ := mX11_shelfCount) (pc := 4) (T := TX9) (ci := 12) (fks := _) rfl rfl in_X9 0 (by decide) wf_X11_82 dX11_shelfCount_4 (st1 0 (by decide)) rfl ?_
  refine J.gi (μ := mX11_shelfCount) (pc := 7) (T := TX8) (ci := 11) (fks := _) rfl rfl in_X8 3 (by decide) wf_X11_86 dX11_shelfCount_7 (st1 1 (by decide)) rfl ?_
  exact J.iret (μ := mX11_shelfCount) (pc := 10) dX11_shelfCount_10 rfl (Nat.le_of_ble_eq_true rfl) (Nat.le_of_ble_eq_true rfl) (fun H h => ⟨rfl, h⟩)

theorem s_X11_zoneOf {γ : Gm} {v : Vs} {x : Int32} (h : hasS v 1 x) : Er γ mX11_zoneOf yX11_zoneOf 30 [.ref (gz γ + 0), .int x] v (.int (gZn v 1 x)) := by
  refine Ev.ofJ (by decide) rfl (fun h => by cases h) (Nat.le_of_ble_eq_true rfl) ?_
  refine J.aload_n (μ := mX11_zoneOf) (pc := 0) dX11_zoneOf_0 rfl ?_
  refine J.iload_n (μ := mX11_zoneOf) (pc := 1) dX11_zoneOf_1 rfl ?_
  refine J.cV0 (μ := mX11_zoneOf) (pc := 2) (s_X11_requireShelf0 _ h) rfl wm_X11_91 mi_X11_requireShelf rfl dX11_zoneOf_2 (Rp.isa (T := TX11) rfl sh0) rfl rfl ⟨(Nat.le_of_ble_eq_true rfl), (Nat.le_of_ble_eq_true rfl)⟩ ⟨(Nat.le_of_ble_eq_true rfl), (Nat.le_of_ble_eq_true rfl)⟩ (Nat.le_of_ble_eq_true rfl) ?_
  refine J.aload_n (μ := mX11_zoneOf) (pc := 5) dX11_zoneOf_5 rfl ?_
  refine J.gr (μ := mX11_zoneOf) (pc := 6) (T := TX11) (ci := 14) (fks := _) rfl rfl in_X11 0 (by decide) wf_X11_10 dX11_zoneOf_6 sh0 rfl ?_
  refine J.gr (μ := mX11_zoneOf) (pc := 9) (T := TX9) (ci := 12) (fks := _) rfl rfl in_X9 0 (by decide) wf_X11_82 dX11_zoneOf_9 (st1 0 (by decide)) rfl ?_
  refine J.gr (μ := mX11_zoneOf) (pc := 12) (T := TX8) (ci := 11) (fks := _) rfl rfl in_X8 0 (by decide) wf_X11_95 dX11_zoneOf_12 (st1 1 (by decide)) rfl ?_
  refine J.iload_n (μ := mX11_zoneOf) (pc := 15) dX11_zoneOf_15 rfl ?_
  refine J.cV (μ := mX11_zoneOf) (pc := 16) (g_zn st1 _) rfl wm_X11_99 mi_X7_get rfl dX11_zoneOf_16 (Rp.isa (T := TX7) rfl (st1 2 (by decide))) rfl rfl ⟨(Nat.le_of_ble_eq_true rfl), (Nat.le_of_ble_eq_true rfl)⟩ ⟨(Nat.le_of_ble_eq_true rfl), (Nat.le_of_ble_eq_true rfl)⟩ (Nat.le_of_ble_eq_true rfl) ?_
  exact J.iret (μ := mX11_zoneOf) (pc := 19) dX11_zoneOf_19 rfl (Nat.le_of_ble_eq_true rfl) (Nat.le_of_ble_eq_true rfl) (fun H h => ⟨rfl, h⟩)

theorem s_X11_roomOf {γ : Gm} {v : Vs} {N : Nat} (hN : v (1 + 8) 7 = nI N) (h20 : N ≤ 20) {x : Int32} (h : hasS v 1 x) : Er γ mX11_roomOf yX11_roomOf 30 [.ref (gz γ + 0), .int x] v (.int (roomW v 1 N x (-1) (-1))) := by
  refine Ev.ofJ (by decide) rfl (fun h => by cases h) (Nat.le_of_ble_eq_true rfl) ?_
  refine J.aload_n (μ := mX11_roomOf) (pc := 0) dX11_roomOf_0 rfl ?_
  refine J.iload_n (μ := mX11_roomOf) (pc := 1) dX11_roomOf_1 rfl ?_
  refine J.cV0 (μ := mX11_roomOf) (pc := 2) (s_X11_requireShelf0 _ h) rfl wm_X11_91 mi_X11_requireShelf rfl dX11_roomOf_2 (Rp.isa (T := TX11) rfl sh0) rfl rfl ⟨(Nat.le_of_ble_eq_true rfl), (Nat.le_of_ble_eq_true rfl)⟩ ⟨(Nat.le_of_ble_eq_true rfl), (Nat.le_of_ble_eq_true rfl)⟩ (Nat.le_of_ble_eq_true rfl) ?_
  refine J.aload_n (μ := mX11_roomOf) (pc := 5) dX11_roomOf_5 rfl ?_
  refine J.gr (μ := mX11_roomOf) (pc := 6) (T := TX11) (ci := 14) (fks := _) rfl rfl in_X11 0 (by decide) wf_X11_10 dX11_roomOf_6 sh0 rfl ?_
  refine J.iload_n (μ := mX11_roomOf) (pc := 9) dX11_roomOf_9 rfl ?_
  refine J.iconst (μ := mX11_roomOf) (pc := 10) (v := -1) dX11_roomOf_10 (by decide) ?_
  refine J.iconst (μ := mX11_roomOf) (pc := 11) (v := -1) dX11_roomOf_11 (by decide) ?_
  refine J.cV (μ := mX11_roomOf) (pc := 12) (s_X9_roomWithout st1 hN h20 _ _ _) rfl wm_X11_105 mi_X9_roomWithout rfl dX11_roomOf_12 (Rp.isa (T := TX9) rfl (st1 0 (by decide))) rfl rfl ⟨(Nat.le_of_ble_eq_true rfl), (Nat.le_of_ble_eq_true rfl)⟩ ⟨(Nat.le_of_ble_eq_true rfl), (Nat.le_of_ble_eq_true rfl)⟩ (Nat.le_of_ble_eq_true rfl) ?_
  exact J.iret (μ := mX11_roomOf) (pc := 15) dX11_roomOf_15 rfl (Nat.le_of_ble_eq_true rfl) (Nat.le_of_ble_eq_true rfl) (fun H h => ⟨rfl, h⟩)

theorem s_X11_lotsOn {γ : Gm} {v : Vs} {N : Nat} (hN : v (1 + 8) 7 = nI N) (h20 : N ≤ 20) {x : Int32} (h : hasS v 1 x) : Er γ mX11_lotsOn yX11_lotsOn 30 [.ref (gz γ + 0), .int x] v (.int (nI (cn (fun i => decide (gPl v 1 (nI i) = x)) N))) := by
  refine Ev.ofJ (by decide) rfl (fun h => by cases h) (Nat.le_of_ble_eq_true rfl) ?_
  refine J.aload_n (μ := mX11_lotsOn) (pc := 0) dX11_lotsOn_0 rfl ?_
  refine J.iload_n (μ := mX11_lotsOn) (pc := 1) dX11_lotsOn_1 rfl ?_
  refine J.cV0 (μ := mX11_lotsOn) (pc := 2) (s_X11_requireShelf0 _ h) rfl wm_X11_91 mi_X11_requireShelf rfl dX11_lotsOn_2 (Rp.isa (T := TX11) rfl sh0) rfl rfl ⟨(Nat.le_of_ble_eq_true rfl), (Nat.le_of_ble_eq_true rfl)⟩ ⟨(Nat.le_of_ble_eq_true rfl), (Nat.le_of_ble_eq_true rfl)⟩ (Nat.le_of_ble_eq_true rfl) ?_
  refine J.aload_n (μ := mX11_lotsOn) (pc := 5) dX11_lotsOn_5 rfl ?_
  refine J.gr (μ := mX11_lotsOn) (pc := 6) (T := TX11) (ci := 14) (fks := _) rfl rfl in_X11 0 (by decide) wf_X11_10 dX11_lotsOn_6 sh0 rfl ?_
  refine J.gr (μ := mX11_lotsOn) (pc := 9) (T := TX9) (ci := 12) (fks := _) rfl rfl in_X9 1 (by decide) wf_X11_109 dX11_lotsOn_9 (st1 0 (by decide)) rfl ?_
  refine J.iload_n (μ := mX11_lotsOn) (pc := 12) dX11_lotsOn_12 rfl ?_
  refine J.cV (μ := mX11_lotsOn) (pc := 13) (s_X5_countAt st1 hN h20 _) rfl wm_X11_113 mi_X5_countAt rfl dX11_lotsOn_13 (Rp.isa (T := TX5) rfl (st1 8 (by decide))) rfl rfl ⟨(Nat.le_of_ble_eq_true rfl), (Nat.le_of_ble_eq_true rfl)⟩ ⟨(Nat.le_of_ble_eq_true rfl), (Nat.le_of_ble_eq_true rfl)⟩ (Nat.le_of_ble_eq_true rfl) ?_
  exact J.iret (μ := mX11_lotsOn) (pc := 16) dX11_lotsOn_16 rfl (Nat.le_of_ble_eq_true rfl) (Nat.le_of_ble_eq_true rfl) (fun H h => ⟨rfl, h⟩)

theorem s_X11_lotCount {γ : Gm} {v : Vs}  : Er γ mX11_lotCount yX11_lotCount 30 [.ref (gz γ + 0)] v (.int (v (1 + 8) 7)) := by
  refine Ev.ofJ (by decide) rfl (fun h => by cases h) (Nat.le_of_ble_eq_true rfl) ?_
  refine J.aload_n (μ := mX11_lotCount) (pc := 0) dX11_lotCount_0 rfl ?_
  refine J.gr (μ := mX11_lotCount) (pc := 1) (T := TX11) (ci := 14) (fks := _) rfl rfl in_X11 0 (by decide) wf_X11_10 dX11_lotCount_1 sh0 rfl ?_
  refine J.gr (μ := mX11_lotCount) (pc := 4) (T := TX9) (ci := 12) (fks := _) rfl rfl in_X9 1 (by decide) wf_X11_109 dX11_lotCount_4 (st1 0 (by decide)) rfl ?_
  refine J.gi (μ := mX11_lotCount) (pc := 7) (T := TX5) (ci := 8) (fks := _) rfl rfl in_X5 7 (by decide) wf_X11_142 dX11_lotCount_7 (st1 8 (by decide)) rfl ?_
  exact J.iret (μ := mX11_lotCount) (pc := 10) dX11_lotCount_10 rfl (Nat.le_of_ble_eq_true rfl) (Nat.le_of_ble_eq_true rfl) (fun H h => ⟨rfl, h⟩)

theorem s_X11_isOnShelf {γ : Gm} {v : Vs} {x : Int32} (h : hasL v 1 x) : Er γ mX11_isOnShelf yX11_isOnShelf 30 [.ref (gz γ + 0), .int x] v (.int (bi (decide (0 ≤ gPl v 1 x)))) := by
  refine Ev.ofJ (by decide) rfl (fun h => by cases h) (Nat.le_of_ble_eq_true rfl) ?_
  refine J.aload_n (μ := mX11_isOnShelf) (pc := 0) dX11_isOnShelf_0 rfl ?_
  refine J.iload_n (μ := mX11_isOnShelf) (pc := 1) dX11_isOnShelf_1 rfl ?_
  refine J.cV0 (μ := mX11_isOnShelf) (pc := 2) (s_X11_requireLot0 _ h) rfl wm_X11_143 mi_X11_requireLot rfl dX11_isOnShelf_2 (Rp.isa (T := TX11) rfl sh0) rfl rfl ⟨(Nat.le_of_ble_eq_true rfl), (Nat.le_of_ble_eq_true rfl)⟩ ⟨(Nat.le_of_ble_eq_true rfl), (Nat.le_of_ble_eq_true rfl)⟩ (Nat.le_of_ble_eq_true rfl) ?_
  refine J.aload_n (μ := mX11_isOnShelf) (pc := 5) dX11_isOnShelf_5 rfl ?_
  refine J.gr (μ := mX11_isOnShelf) (pc := 6) (T := TX11) (ci := 14) (fks := _) rfl rfl in_X11 0 (by decide) wf_X11_10 dX11_isOnShelf_6 sh0 rfl ?_
  refine J.gr (μ := mX11_isOnShelf) (pc := 9) (T := TX9) (ci := 12) (fks := _) rfl rfl in_X9 1 (by decide) wf_X11_109 dX11_isOnShelf_9 (st1 0 (by decide)) rfl ?_
  refine J.iload_n (μ := mX11_isOnShelf) (pc := 12) dX11_isOnShelf_12 rfl ?_
  refine J.cV (μ := mX11_isOnShelf) (pc := 13) (s_X5_isShelved st1  _) rfl wm_X11_146 mi_X5_isShelved rfl dX11_isOnShelf_13 (Rp.isa (T := TX5) rfl (st1 8 (by decide))) rfl rfl ⟨(Nat.le_of_ble_eq_true rfl), (Nat.le_of_ble_eq_true rfl)⟩ ⟨(Nat.le_of_ble_eq_true rfl), (Nat.le_of_ble_eq_true rfl)⟩ (Nat.le_of_ble_eq_true rfl) ?_
  exact J.zret (μ := mX11_isOnShelf) (pc := 16) dX11_isOnShelf_16 rfl (by first | rfl | decide | exact nar_bi _) (Nat.le_of_ble_eq_true rfl) (Nat.le_of_ble_eq_true rfl) (fun H h => ⟨congrArg some (congrArg Value.int (by rfl)), h⟩)

theorem s_X11_volumeOf {γ : Gm} {v : Vs} {x : Int32} (h : hasL v 1 x) : Er γ mX11_volumeOf yX11_volumeOf 30 [.ref (gz γ + 0), .int x] v (.int (gVo v 1 x)) := by
  refine Ev.ofJ (by decide) rfl (fun h => by cases h) (Nat.le_of_ble_eq_true rfl) ?_
  refine J.aload_n (μ := mX11_volumeOf) (pc := 0) dX11_volumeOf_0 rfl ?_
  refine J.iload_n (μ := mX11_volumeOf) (pc := 1) dX11_volumeOf_1 rfl ?_
  refine J.cV0 (μ := mX11_volumeOf) (pc := 2) (s_X11_requireLot0 _ h) rfl wm_X11_143 mi_X11_requireLot rfl dX11_volumeOf_2 (Rp.isa (T := TX11) rfl sh0) rfl rfl ⟨(Nat.le_of_ble_eq_true rfl), (Nat.le_of_ble_eq_true rfl)⟩ ⟨(Nat.le_of_ble_eq_true rfl), (Nat.le_of_ble_eq_true rfl)⟩ (Nat.le_of_ble_eq_true rfl) ?_
  refine J.aload_n (μ := mX11_volumeOf) (pc := 5) dX11_volumeOf_5 rfl ?_
  refine J.gr (μ := mX11_volumeOf) (pc := 6) (T := TX11) (ci := 14) (fks := _) rfl rfl in_X11 0 (by decide) wf_X11_10 dX11_volumeOf_6 sh0 rfl ?_
  refine J.gr (μ := mX11_volumeOf) (pc := 9) (T := TX9) (ci := 12) (fks := _) rfl rfl in_X9 1 (by decide) wf_X11_109 dX11_volumeOf_9 (st1 0 (by decide)) rfl ?_
  refine J.gr (μ := mX11_volumeOf) (pc := 12) (T := TX5) (ci := 8) (fks := _) rfl rfl in_X5 2 (by decide) wf_X11_153 dX11_volumeOf_12 (st1 8 (by decide)) rfl ?_
  refine J.iload_n (μ := mX11_volumeOf) (pc := 15) dX11_volumeOf_15 rfl ?_
  refine J.cV (μ := mX11_volumeOf) (pc := 16) (g_vo st1 _) rfl wm_X11_99 mi_X7_get rfl dX11_volumeOf_16 (Rp.isa (T := TX7) rfl (st1 13 (by decide))) rfl rfl ⟨(Nat.le_of_ble_eq_true rfl), (Nat.le_of_ble_eq_true rfl)⟩ ⟨(Nat.le_of_ble_eq_true rfl), (Nat.le_of_ble_eq_true rfl)⟩ (Nat.le_of_ble_eq_true rfl) ?_
  exact J.iret (μ := mX11_volumeOf) (pc := 19) dX11_volumeOf_19 rfl (Nat.le_of_ble_eq_true rfl) (Nat.le_of_ble_eq_true rfl) (fun H h => ⟨rfl, h⟩)

theorem s_X11_expiryOf {γ : Gm} {v : Vs} {x : Int32} (h : hasL v 1 x) : Er γ mX11_expiryOf yX11_expiryOf 30 [.ref (gz γ + 0), .int x] v (.int (gEp v 1 x)) := by
  refine Ev.ofJ (by decide) rfl (fun h => by cases h) (Nat.le_of_ble_eq_true rfl) ?_
  refine J.aload_n (μ := mX11_expiryOf) (pc := 0) dX11_expiryOf_0 rfl ?_
  refine J.iload_n (μ := mX11_expiryOf) (pc := 1) dX11_expiryOf_1 rfl ?_
  refine J.cV0 (μ := mX11_expiryOf) (pc := 2) (s_X11_requireLot0 _ h) rfl wm_X11_143 mi_X11_requireLot rfl dX11_expiryOf_2 (Rp.isa (T := TX11) rfl sh0) rfl rfl ⟨(Nat.le_of_ble_eq_true rfl), (Nat.le_of_ble_eq_true rfl)⟩ ⟨(Nat.le_of_ble_eq_true rfl), (Nat.le_of_ble_eq_true rfl)⟩ (Nat.le_of_ble_eq_true rfl) ?_
  refine J.aload_n (μ := mX11_expiryOf) (pc := 5) dX11_expiryOf_5 rfl ?_
  refine J.gr (μ := mX11_expiryOf) (pc := 6) (T := TX11) (ci := 14) (fks := _) rfl rfl in_X11 0 (by decide) wf_X11_10 dX11_expiryOf_6 sh0 rfl ?_
  refine J.gr (μ := mX11_expiryOf) (pc := 9) (T := TX9) (ci := 12) (fks := _) rfl rfl in_X9 1 (by decide) wf_X11_109 dX11_expiryOf_9 (st1 0 (by decide)) rfl ?_
  refine J.gr (μ := mX11_expiryOf) (pc := 12) (T := TX5) (ci := 8) (fks := _) rfl rfl in_X5 3 (by decide) wf_X11_156 dX11_expiryOf_12 (st1 8 (by decide)) rfl ?_
  refine J.iload_n (μ := mX11_expiryOf) (pc := 15) dX11_expiryOf_15 rfl ?_
  refine J.cV (μ := mX11_expiryOf) (pc := 16) (g_ep st1 _) rfl wm_X11_99 mi_X7_get rfl dX11_expiryOf_16 (Rp.isa (T := TX7) rfl (st1 15 (by decide))) rfl rfl ⟨(Nat.le_of_ble_eq_true rfl), (Nat.le_of_ble_eq_true rfl)⟩ ⟨(Nat.le_of_ble_eq_true rfl), (Nat.le_of_ble_eq_true rfl)⟩ (Nat.le_of_ble_eq_true rfl) ?_
  exact J.iret (μ := mX11_expiryOf) (pc := 19) dX11_expiryOf_19 rfl (Nat.le_of_ble_eq_true rfl) (Nat.le_of_ble_eq_true rfl) (fun H h => ⟨rfl, h⟩)

theorem s_X11_isExpired {γ : Gm} {v : Vs} {x : Int32} (h : hasL v 1 x) : Er γ mX11_isExpired yX11_isExpired 30 [.ref (gz γ + 0), .int x] v (.int (bi (decide (gEp v 1 x < v 1 3)))) := by
  refine Ev.ofJ (by decide) rfl (fun h => by cases h) (Nat.le_of_ble_eq_true rfl) ?_
  refine J.aload_n (μ := mX11_isExpired) (pc := 0) dX11_isExpired_0 rfl ?_
  refine J.iload_n (μ := mX11_isExpired) (pc := 1) dX11_isExpired_1 rfl ?_
  refine J.cV0 (μ := mX11_isExpired) (pc := 2) (s_X11_requireLot0 _ h) rfl wm_X11_143 mi_X11_requireLot rfl dX11_isExpired_2 (Rp.isa (T := TX11) rfl sh0) rfl rfl ⟨(Nat.le_of_ble_eq_true rfl), (Nat.le_of_ble_eq_true rfl)⟩ ⟨(Nat.le_of_ble_eq_true rfl), (Nat.le_of_ble_eq_true rfl)⟩ (Nat.le_of_ble_eq_true rfl) ?_
  refine J.aload_n (μ := mX11_isExpired) (pc := 5) dX11_isExpired_5 rfl ?_
  refine J.gr (μ := mX11_isExpired) (pc := 6) (T := TX11) (ci := 14) (fks := _) rfl rfl in_X11 0 (by decide) wf_X11_10 dX11_isExpired_6 sh0 rfl ?_
  refine J.iload_n (μ := mX11_isExpired) (pc := 9) dX11_isExpired_9 rfl ?_
  refine J.cV (μ := mX11_isExpired) (pc := 10) (s_X9_hasExpired st1  _) rfl wm_X11_159 mi_X9_hasExpired rfl dX11_isExpired_10 (Rp.isa (T := TX9) rfl (st1 0 (by decide))) rfl rfl ⟨(Nat.le_of_ble_eq_true rfl), (Nat.le_of_ble_eq_true rfl)⟩ ⟨(Nat.le_of_ble_eq_true rfl), (Nat.le_of_ble_eq_true rfl)⟩ (Nat.le_of_ble_eq_true rfl) ?_
  exact J.zret (μ := mX11_isExpired) (pc := 13) dX11_isExpired_13 rfl (by first | rfl | decide | exact nar_bi _) (Nat.le_of_ble_eq_true rfl) (Nat.le_of_ble_eq_true rfl) (fun H h => ⟨congrArg some (congrArg Value.int (by rfl)), h⟩)

theorem s_X11_parentCount {γ : Gm} {v : Vs} {x : Int32} (h : hasL v 1 x) : Er γ mX11_parentCount yX11_parentCount 30 [.ref (gz γ + 0), .int x] v (.int ((if gP1 v 1 x = -1 then 0 else 1) + (if gP2 v 1 x = -1 then 0 else 1))) := by
  refine Ev.ofJ (by decide) rfl (fun h => by cases h) (Nat.le_of_ble_eq_true rfl) ?_
  refine J.aload_n (μ := mX11_parentCount) (pc := 0) dX11_parentCount_0 rfl ?_
  refine J.iload_n (μ := mX11_parentCount) (pc := 1) dX11_parentCount_1 rfl ?_
  refine J.cV0 (μ := mX11_parentCount) (pc := 2) (s_X11_requireLot0 _ h) rfl wm_X11_143 mi_X11_requireLot rfl dX11_parentCount_2 (Rp.isa (T := TX11) rfl sh0) rfl rfl ⟨(Nat.le_of_ble_eq_true rfl), (Nat.le_of_ble_eq_true rfl)⟩ ⟨(Nat.le_of_ble_eq_true rfl), (Nat.le_of_ble_eq_true rfl)⟩ (Nat.le_of_ble_eq_true rfl) ?_
  refine J.aload_n (μ := mX11_parentCount) (pc := 5) dX11_parentCount_5 rfl ?_
  refine J.gr (μ := mX11_parentCount) (pc := 6) (T := TX11) (ci := 14) (fks := _) rfl rfl in_X11 0 (by decide) wf_X11_10 dX11_parentCount_6 sh0 rfl ?_
  refine J.gr (μ := mX11_parentCount) (pc := 9) (T := TX9) (ci := 12) (fks := _) rfl rfl in_X9 1 (by decide) wf_X11_109 dX11_parentCount_9 (st1 0 (by decide)) rfl ?_
  refine J.iload_n (μ := mX11_parentCount) (pc := 12) dX11_parentCount_12 rfl ?_
  refine J.cV (μ := mX11_parentCount) (pc := 13) (s_X5_parentsOf st1  _) rfl wm_X11_162 mi_X5_parentsOf rfl dX11_parentCount_13 (Rp.isa (T := TX5) rfl (st1 8 (by decide))) rfl rfl ⟨(Nat.le_of_ble_eq_true rfl), (Nat.le_of_ble_eq_true rfl)⟩ ⟨(Nat.le_of_ble_eq_true rfl), (Nat.le_of_ble_eq_true rfl)⟩ (Nat.le_of_ble_eq_true rfl) ?_
  exact J.iret (μ := mX11_parentCount) (pc := 16) dX11_parentCount_16 rfl (Nat.le_of_ble_eq_true rfl) (Nat.le_of_ble_eq_true rfl) (fun H h => ⟨rfl, h⟩)

theorem s_X11_descendants {γ : Gm} {v : Vs} {N : Nat} (hN : v (1 + 8) 7 = nI N) (h20 : N ≤ 20) {a : Nat} (ha : a ≤ 100) (h : hasL v 1 (nI a)) : Er γ mX11_descendants yX11_descendants 30 [.ref (gz γ + 0), .int (nI a)] v (.int (bcJ (fo v 1 N 20 a 0))) := by
  refine Ev.ofJ (by decide) rfl (fun h => by cases h) (Nat.le_of_ble_eq_true rfl) ?_
  refine J.aload_n (μ := mX11_descendants) (pc := 0) dX11_descendants_0 rfl ?_
  refine J.iload_n (μ := mX11_descendants) (pc := 1) dX11_descendants_1 rfl ?_
  refine J.cV0 (μ := mX11_descendants) (pc := 2) (s_X11_requireLot0 _ h) rfl wm_X11_143 mi_X11_requireLot rfl dX11_descendants_2 (Rp.isa (T := TX11) rfl sh0) rfl rfl ⟨(Nat.le_of_ble_eq_true rfl), (Nat.le_of_ble_eq_true rfl)⟩ ⟨(Nat.le_of_ble_eq_true rfl), (Nat.le_of_ble_eq_true rfl)⟩ (Nat.le_of_ble_eq_true rfl) ?_
  refine J.aload_n (μ := mX11_descendants) (pc := 5) dX11_descendants_5 rfl ?_
  refine J.gr (μ := mX11_descendants) (pc := 6) (T := TX11) (ci := 14) (fks := _) rfl rfl in_X11 0 (by decide) wf_X11_10 dX11_descendants_6 sh0 rfl ?_
  refine J.gr (μ := mX11_descendants) (pc := 9) (T := TX9) (ci := 12) (fks := _) rfl rfl in_X9 1 (by decide) wf_X11_109 dX11_descendants_9 (st1 0 (by decide)) rfl ?_
  refine J.iload_n (μ := mX11_descendants) (pc := 12) dX11_descendants_12 rfl ?_
  refine J.cS (μ := mX11_descendants) (pc := 13) (s_X2_setInDepth st1 hN h20 ha) rfl wm_X11_165 mi_X2_setInDepth rfl dX11_descendants_13 rfl rfl ⟨(Nat.le_of_ble_eq_true rfl), (Nat.le_of_ble_eq_true rfl)⟩ ⟨(Nat.le_of_ble_eq_true rfl), (Nat.le_of_ble_eq_true rfl)⟩ (Nat.le_of_ble_eq_true rfl) ?_
  refine J.cS (μ := mX11_descendants) (pc := 16) (s_J6_bitCount _) rfl wm_X11_169 mi_J6_bitCount_0f7a4 rfl dX11_descendants_16 rfl rfl ⟨(Nat.le_of_ble_eq_true rfl), (Nat.le_of_ble_eq_true rfl)⟩ ⟨(Nat.le_of_ble_eq_true rfl), (Nat.le_of_ble_eq_true rfl)⟩ (Nat.le_of_ble_eq_true rfl) ?_
  exact J.iret (μ := mX11_descendants) (pc := 19) dX11_descendants_19 rfl (Nat.le_of_ble_eq_true rfl) (Nat.le_of_ble_eq_true rfl) (fun H h => ⟨rfl, h⟩)

theorem s_X11_recallSize {γ : Gm} {v : Vs} {N : Nat} (hN : v (1 + 8) 7 = nI N) (h20 : N ≤ 20) {a : Nat} (ha : a ≤ 100) (h : hasL v 1 (nI a)) : Er γ mX11_recallSize yX11_recallSize 30 [.ref (gz γ + 0), .int (nI a)] v (.int (bcJ (fam v 1 N a))) := by
  refine Ev.ofJ (by decide) rfl (fun h => by cases h) (Nat.le_of_ble_eq_true rfl) ?_
  refine J.aload_n (μ := mX11_recallSize) (pc := 0) dX11_recallSize_0 rfl ?_
  refine J.iload_n (μ := mX11_recallSize) (pc := 1) dX11_recallSize_1 rfl ?_
  refine J.cV0 (μ := mX11_recallSize) (pc := 2) (s_X11_requireLot0 _ h) rfl wm_X11_143 mi_X11_requireLot rfl dX11_recallSize_2 (Rp.isa (T := TX11) rfl sh0) rfl rfl ⟨(Nat.le_of_ble_eq_true rfl), (Nat.le_of_ble_eq_true rfl)⟩ ⟨(Nat.le_of_ble_eq_true rfl), (Nat.le_of_ble_eq_true rfl)⟩ (Nat.le_of_ble_eq_true rfl) ?_
  refine J.aload_n (μ := mX11_recallSize) (pc := 5) dX11_recallSize_5 rfl ?_
  refine J.gr (μ := mX11_recallSize) (pc := 6) (T := TX11) (ci := 14) (fks := _) rfl rfl in_X11 0 (by decide) wf_X11_10 dX11_recallSize_6 sh0 rfl ?_
  refine J.gr (μ := mX11_recallSize) (pc := 9) (T := TX9) (ci := 12) (fks := _) rfl rfl in_X9 1 (by decide) wf_X11_109 dX11_recallSize_9 (st1 0 (by decide)) rfl ?_
  refine J.iload_n (μ := mX11_recallSize) (pc := 12) dX11_recallSize_12 rfl ?_
  refine J.cS (μ := mX11_recallSize) (pc := 13) (s_X2_shelvedFamily st1 hN h20 ha) rfl wm_X11_177 mi_X2_shelvedFamily rfl dX11_recallSize_13 rfl rfl ⟨(Nat.le_of_ble_eq_true rfl), (Nat.le_of_ble_eq_true rfl)⟩ ⟨(Nat.le_of_ble_eq_true rfl), (Nat.le_of_ble_eq_true rfl)⟩ (Nat.le_of_ble_eq_true rfl) ?_
  refine J.cS (μ := mX11_recallSize) (pc := 16) (s_J6_bitCount _) rfl wm_X11_169 mi_J6_bitCount_0f7a4 rfl dX11_recallSize_16 rfl rfl ⟨(Nat.le_of_ble_eq_true rfl), (Nat.le_of_ble_eq_true rfl)⟩ ⟨(Nat.le_of_ble_eq_true rfl), (Nat.le_of_ble_eq_true rfl)⟩ (Nat.le_of_ble_eq_true rfl) ?_
  exact J.iret (μ := mX11_recallSize) (pc := 19) dX11_recallSize_19 rfl (Nat.le_of_ble_eq_true rfl) (Nat.le_of_ble_eq_true rfl) (fun H h => ⟨rfl, h⟩)

theorem s_X11_available {γ : Gm} {v : Vs} {N : Nat} (hN : v (1 + 8) 7 = nI N) (h20 : N ≤ 20) {x : Int32} (h : 0 ≤ x ∧ x ≤ 5) : Er γ mX11_available yX11_available 30 [.ref (gz γ + 0), .int x] v (.int (shpV v 1 N x)) := by
  refine Ev.ofJ (by decide) rfl (fun h => by cases h) (Nat.le_of_ble_eq_true rfl) ?_
  refine J.iload_n (μ := mX11_available) (pc := 0) dX11_available_0 rfl ?_
  refine J.iconst (μ := mX11_available) (pc := 1) (v := 0) dX11_available_1 (by decide) ?_
  refine J.iconst (μ := mX11_available) (pc := 2) (v := 5) dX11_available_2 (by decide) ?_
  refine J.cS0 (μ := mX11_available) (pc := 3) (s_X11_requireRange0 _ _ _ h) rfl wm_X11_118 mi_X11_requireRange rfl dX11_available_3 rfl rfl ⟨(Nat.le_of_ble_eq_true rfl), (Nat.le_of_ble_eq_true rfl)⟩ ⟨(Nat.le_of_ble_eq_true rfl), (Nat.le_of_ble_eq_true rfl)⟩ (Nat.le_of_ble_eq_true rfl) ?_
  refine J.aload_n (μ := mX11_available) (pc := 6) dX11_available_6 rfl ?_
  refine J.gr (μ := mX11_available) (pc := 7) (T := TX11) (ci := 14) (fks := _) rfl rfl in_X11 0 (by decide) wf_X11_10 dX11_available_7 sh0 rfl ?_
  refine J.iload_n (μ := mX11_available) (pc := 10) dX11_available_10 rfl ?_
  refine J.cV (μ := mX11_available) (pc := 11) (s_X9_shippableVolume st1 hN h20 _) rfl wm_X11_180 mi_X9_shippableVolume rfl dX11_available_11 (Rp.isa (T := TX9) rfl (st1 0 (by decide))) rfl rfl ⟨(Nat.le_of_ble_eq_true rfl), (Nat.le_of_ble_eq_true rfl)⟩ ⟨(Nat.le_of_ble_eq_true rfl), (Nat.le_of_ble_eq_true rfl)⟩ (Nat.le_of_ble_eq_true rfl) ?_
  exact J.iret (μ := mX11_available) (pc := 14) dX11_available_14 rfl (Nat.le_of_ble_eq_true rfl) (Nat.le_of_ble_eq_true rfl) (fun H h => ⟨rfl, h⟩)

theorem s_X11_heapSize {γ : Gm} {v : Vs}  : Er γ mX11_heapSize yX11_heapSize 30 [.ref (gz γ + 0)] v (.int (v (1 + 23) 1)) := by
  refine Ev.ofJ (by decide) rfl (fun h => by cases h) (Nat.le_of_ble_eq_true rfl) ?_
  refine J.aload_n (μ := mX11_heapSize) (pc := 0) dX11_heapSize_0 rfl ?_
  refine J.gr (μ := mX11_heapSize) (pc := 1) (T := TX11) (ci := 14) (fks := _) rfl rfl in_X11 0 (by decide) wf_X11_10 dX11_heapSize_1 sh0 rfl ?_
  refine J.gr (μ := mX11_heapSize) (pc := 4) (T := TX9) (ci := 12) (fks := _) rfl rfl in_X9 2 (by decide) wf_X11_189 dX11_heapSize_4 (st1 0 (by decide)) rfl ?_
  refine J.gi (μ := mX11_heapSize) (pc := 7) (T := TX1) (ci := 4) (fks := _) rfl rfl in_X1 1 (by decide) wf_X11_193 dX11_heapSize_7 (st1 23 (by decide)) rfl ?_
  exact J.iret (μ := mX11_heapSize) (pc := 10) dX11_heapSize_10 rfl (Nat.le_of_ble_eq_true rfl) (Nat.le_of_ble_eq_true rfl) (fun H h => ⟨rfl, h⟩)

theorem s_X11_day {γ : Gm} {v : Vs}  : Er γ mX11_day yX11_day 30 [.ref (gz γ + 0)] v (.int (v 1 3)) := by
  refine Ev.ofJ (by decide) rfl (fun h => by cases h) (Nat.le_of_ble_eq_true rfl) ?_
  refine J.aload_n (μ := mX11_day) (pc := 0) dX11_day_0 rfl ?_
  refine J.gr (μ := mX11_day) (pc := 1) (T := TX11) (ci := 14) (fks := _) rfl rfl in_X11 0 (by decide) wf_X11_10 dX11_day_1 sh0 rfl ?_
  refine J.gi (μ := mX11_day) (pc := 4) (T := TX9) (ci := 12) (fks := _) rfl rfl in_X9 3 (by decide) wf_X11_204 dX11_day_4 (st1 0 (by decide)) rfl ?_
  exact J.iret (μ := mX11_day) (pc := 7) dX11_day_7 rfl (Nat.le_of_ble_eq_true rfl) (Nat.le_of_ble_eq_true rfl) (fun H h => ⟨rfl, h⟩)

theorem s_X11_received {γ : Gm} {v : Vs}  : Er γ mX11_received yX11_received 30 [.ref (gz γ + 0)] v (.int (v 1 4)) := by
  refine Ev.ofJ (by decide) rfl (fun h => by cases h) (Nat.le_of_ble_eq_true rfl) ?_
  refine J.aload_n (μ := mX11_received) (pc := 0) dX11_received_0 rfl ?_
  refine J.gr (μ := mX11_received) (pc := 1) (T := TX11) (ci := 14) (fks := _) rfl rfl in_X11 0 (by decide) wf_X11_10 dX11_received_1 sh0 rfl ?_
  refine J.gi (μ := mX11_received) (pc := 4) (T := TX9) (ci := 12) (fks := _) rfl rfl in_X9 4 (by decide) wf_X11_207 dX11_received_4 (st1 0 (by decide)) rfl ?_
  exact J.iret (μ := mX11_received) (pc := 7) dX11_received_7 rfl (Nat.le_of_ble_eq_true rfl) (Nat.le_of_ble_eq_true rfl) (fun H h => ⟨rfl, h⟩)

theorem s_X11_shipped {γ : Gm} {v : Vs}  : Er γ mX11_shipped yX11_shipped 30 [.ref (gz γ + 0)] v (.int (v 1 5)) := by
  refine Ev.ofJ (by decide) rfl (fun h => by cases h) (Nat.le_of_ble_eq_true rfl) ?_
  refine J.aload_n (μ := mX11_shipped) (pc := 0) dX11_shipped_0 rfl ?_
  refine J.gr (μ := mX11_shipped) (pc := 1) (T := TX11) (ci := 14) (fks := _) rfl rfl in_X11 0 (by decide) wf_X11_10 dX11_shipped_1 sh0 rfl ?_
  refine J.gi (μ := mX11_shipped) (pc := 4) (T := TX9) (ci := 12) (fks := _) rfl rfl in_X9 5 (by decide) wf_X11_216 dX11_shipped_4 (st1 0 (by decide)) rfl ?_
  exact J.iret (μ := mX11_shipped) (pc := 7) dX11_shipped_7 rfl (Nat.le_of_ble_eq_true rfl) (Nat.le_of_ble_eq_true rfl) (fun H h => ⟨rfl, h⟩)

theorem s_X11_composted {γ : Gm} {v : Vs}  : Er γ mX11_composted yX11_composted 30 [.ref (gz γ + 0)] v (.int (v 1 6)) := by
  refine Ev.ofJ (by decide) rfl (fun h => by cases h) (Nat.le_of_ble_eq_true rfl) ?_
  refine J.aload_n (μ := mX11_composted) (pc := 0) dX11_composted_0 rfl ?_
  refine J.gr (μ := mX11_composted) (pc := 1) (T := TX11) (ci := 14) (fks := _) rfl rfl in_X11 0 (by decide) wf_X11_10 dX11_composted_1 sh0 rfl ?_
  refine J.gi (μ := mX11_composted) (pc := 4) (T := TX9) (ci := 12) (fks := _) rfl rfl in_X9 6 (by decide) wf_X11_219 dX11_composted_4 (st1 0 (by decide)) rfl ?_
  exact J.iret (μ := mX11_composted) (pc := 7) dX11_composted_7 rfl (Nat.le_of_ble_eq_true rfl) (Nat.le_of_ble_eq_true rfl) (fun H h => ⟨rfl, h⟩)

theorem s_X11_stored {γ : Gm} {v : Vs} {N : Nat} (hN : v (1 + 8) 7 = nI N) (h20 : N ≤ 20) : Er γ mX11_stored yX11_stored 30 [.ref (gz γ + 0)] v (.int (sm (fun i => decide (0 ≤ gPl v 1 (nI i))) (fun i => gVo v 1 (nI i)) N)) := by
  refine Ev.ofJ (by decide) rfl (fun h => by cases h) (Nat.le_of_ble_eq_true rfl) ?_
  refine J.aload_n (μ := mX11_stored) (pc := 0) dX11_stored_0 rfl ?_
  refine J.gr (μ := mX11_stored) (pc := 1) (T := TX11) (ci := 14) (fks := _) rfl rfl in_X11 0 (by decide) wf_X11_10 dX11_stored_1 sh0 rfl ?_
  refine J.gr (μ := mX11_stored) (pc := 4) (T := TX9) (ci := 12) (fks := _) rfl rfl in_X9 1 (by decide) wf_X11_109 dX11_stored_4 (st1 0 (by decide)) rfl ?_
  refine J.cV (μ := mX11_stored) (pc := 7) (s_X5_shelvedVolume st1 hN h20) rfl wm_X11_210 mi_X5_shelvedVolume rfl dX11_stored_7 (Rp.isa (T := TX5) rfl (st1 8 (by decide))) rfl rfl ⟨(Nat.le_of_ble_eq_true rfl), (Nat.le_of_ble_eq_true rfl)⟩ ⟨(Nat.le_of_ble_eq_true rfl), (Nat.le_of_ble_eq_true rfl)⟩ (Nat.le_of_ble_eq_true rfl) ?_
  exact J.iret (μ := mX11_stored) (pc := 10) dX11_stored_10 rfl (Nat.le_of_ble_eq_true rfl) (Nat.le_of_ble_eq_true rfl) (fun H h => ⟨rfl, h⟩)

theorem s_X11_heaped {γ : Gm} {v : Vs} {N : Nat} (hN : v (1 + 8) 7 = nI N) (h20 : N ≤ 20) : Er γ mX11_heaped yX11_heaped 30 [.ref (gz γ + 0)] v (.int (sm (fun i => decide (gPl v 1 (nI i) = -1)) (fun i => gVo v 1 (nI i)) N)) := by
  refine Ev.ofJ (by decide) rfl (fun h => by cases h) (Nat.le_of_ble_eq_true rfl) ?_
  refine J.aload_n (μ := mX11_heaped) (pc := 0) dX11_heaped_0 rfl ?_
  refine J.gr (μ := mX11_heaped) (pc := 1) (T := TX11) (ci := 14) (fks := _) rfl rfl in_X11 0 (by decide) wf_X11_10 dX11_heaped_1 sh0 rfl ?_
  refine J.gr (μ := mX11_heaped) (pc := 4) (T := TX9) (ci := 12) (fks := _) rfl rfl in_X9 1 (by decide) wf_X11_109 dX11_heaped_4 (st1 0 (by decide)) rfl ?_
  refine J.iconst (μ := mX11_heaped) (pc := 7) (v := -1) dX11_heaped_7 (by decide) ?_
  refine J.cV (μ := mX11_heaped) (pc := 8) (s_X5_volumeAt st1 hN h20 _) rfl wm_X11_213 mi_X5_volumeAt rfl dX11_heaped_8 (Rp.isa (T := TX5) rfl (st1 8 (by decide))) rfl rfl ⟨(Nat.le_of_ble_eq_true rfl), (Nat.le_of_ble_eq_true rfl)⟩ ⟨(Nat.le_of_ble_eq_true rfl), (Nat.le_of_ble_eq_true rfl)⟩ (Nat.le_of_ble_eq_true rfl) ?_
  exact J.iret (μ := mX11_heaped) (pc := 11) dX11_heaped_11 rfl (Nat.le_of_ble_eq_true rfl) (Nat.le_of_ble_eq_true rfl) (fun H h => ⟨rfl, h⟩)

theorem s_X11_undoCount {γ : Gm} {v : Vs}  : Er γ mX11_undoCount yX11_undoCount 30 [.ref (gz γ + 0)] v (.int (v 79 2)) := by
  refine Ev.ofJ (by decide) rfl (fun h => by cases h) (Nat.le_of_ble_eq_true rfl) ?_
  refine J.aload_n (μ := mX11_undoCount) (pc := 0) dX11_undoCount_0 rfl ?_
  refine J.gr (μ := mX11_undoCount) (pc := 1) (T := TX11) (ci := 14) (fks := _) rfl rfl in_X11 3 (by decide) wf_X11_25 dX11_undoCount_1 sh0 rfl ?_
  refine J.gi (μ := mX11_undoCount) (pc := 4) (T := TX4) (ci := 7) (fks := _) rfl rfl in_X4 2 (by decide) wf_X11_312 dX11_undoCount_4 sh79 rfl ?_
  exact J.iret (μ := mX11_undoCount) (pc := 7) dX11_undoCount_7 rfl (Nat.le_of_ble_eq_true rfl) (Nat.le_of_ble_eq_true rfl) (fun H h => ⟨rfl, h⟩)

theorem s_X11_descendsFrom {γ : Gm} {v : Vs} {N : Nat} (hN : v (1 + 8) 7 = nI N) (h20 : N ≤ 20) {a : Nat} (ha : a ≤ 100) {x : Int32} (hx : hasL v 1 x) (h : hasL v 1 (nI a)) : Er γ mX11_descendsFrom yX11_descendsFrom 30 [.ref (gz γ + 0), .int x, .int (nI a)] v (.int (bi (decide ((fo v 1 N 20 a 0 >>> (x &&& 31)) &&& 1 = 1)))) := by
  refine Ev.ofJ (by decide) rfl (fun h => by cases h) (Nat.le_of_ble_eq_true rfl) ?_
  refine J.aload_n (μ := mX11_descendsFrom) (pc := 0) dX11_descendsFrom_0 rfl ?_
  refine J.iload_n (μ := mX11_descendsFrom) (pc := 1) dX11_descendsFrom_1 rfl ?_
  refine J.cV0 (μ := mX11_descendsFrom) (pc := 2) (s_X11_requireLot0 _ hx) rfl wm_X11_143 mi_X11_requireLot rfl dX11_descendsFrom_2 (Rp.isa (T := TX11) rfl sh0) rfl rfl ⟨(Nat.le_of_ble_eq_true rfl), (Nat.le_of_ble_eq_true rfl)⟩ ⟨(Nat.le_of_ble_eq_true rfl), (Nat.le_of_ble_eq_true rfl)⟩ (Nat.le_of_ble_eq_true rfl) ?_
  refine J.aload_n (μ := mX11_descendsFrom) (pc := 5) dX11_descendsFrom_5 rfl ?_
  refine J.iload_n (μ := mX11_descendsFrom) (pc := 6) dX11_descendsFrom_6 rfl ?_
  refine J.cV0 (μ := mX11_descendsFrom) (pc := 7) (s_X11_requireLot0 _ h) rfl wm_X11_143 mi_X11_requireLot rfl dX11_descendsFrom_7 (Rp.isa (T := TX11) rfl sh0) rfl rfl ⟨(Nat.le_of_ble_eq_true rfl), (Nat.le_of_ble_eq_true rfl)⟩ ⟨(Nat.le_of_ble_eq_true rfl), (Nat.le_of_ble_eq_true rfl)⟩ (Nat.le_of_ble_eq_true rfl) ?_
  refine J.aload_n (μ := mX11_descendsFrom) (pc := 10) dX11_descendsFrom_10 rfl ?_
  refine J.gr (μ := mX11_descendsFrom) (pc := 11) (T := TX11) (ci := 14) (fks := _) rfl rfl in_X11 0 (by decide) wf_X11_10 dX11_descendsFrom_11 sh0 rfl ?_
  refine J.gr (μ := mX11_descendsFrom) (pc := 14) (T := TX9) (ci := 12) (fks := _) rfl rfl in_X9 1 (by decide) wf_X11_109 dX11_descendsFrom_14 (st1 0 (by decide)) rfl ?_
  refine J.iload_n (μ := mX11_descendsFrom) (pc := 17) dX11_descendsFrom_17 rfl ?_
  refine J.cS (μ := mX11_descendsFrom) (pc := 18) (s_X2_setInDepth st1 hN h20 ha) rfl wm_X11_165 mi_X2_setInDepth rfl dX11_descendsFrom_18 rfl rfl ⟨(Nat.le_of_ble_eq_true rfl), (Nat.le_of_ble_eq_true rfl)⟩ ⟨(Nat.le_of_ble_eq_true rfl), (Nat.le_of_ble_eq_true rfl)⟩ (Nat.le_of_ble_eq_true rfl) ?_
  refine J.iload_n (μ := mX11_descendsFrom) (pc := 21) dX11_descendsFrom_21 rfl ?_
  refine J.ishr (μ := mX11_descendsFrom) (pc := 22) dX11_descendsFrom_22 ?_
  refine J.iconst (μ := mX11_descendsFrom) (pc := 23) (v := 1) dX11_descendsFrom_23 (by decide) ?_
  refine J.iand (μ := mX11_descendsFrom) (pc := 24) dX11_descendsFrom_24 ?_
  refine J.iconst (μ := mX11_descendsFrom) (pc := 25) (v := 1) dX11_descendsFrom_25 (by decide) ?_
  refine J.icmp_ne (μ := mX11_descendsFrom) (pc := 26) 33 dX11_descendsFrom_26 (by decide) (fun c11 => ?_) (fun c11 => ?_)
  · refine J.iconst (μ := mX11_descendsFrom) (pc := 33) (v := 0) dX11_descendsFrom_33 (by decide) ?_
    exact J.zret (μ := mX11_descendsFrom) (pc := 34) dX11_descendsFrom_34 rfl (by first | rfl | decide | exact nar_bi _) (Nat.le_of_ble_eq_true rfl) (Nat.le_of_ble_eq_true rfl) (fun H h => ⟨congrArg some (congrArg Value.int (by simp [bi, *])), h⟩)
  · refine J.iconst (μ := mX11_descendsFrom) (pc := 29) (v := 1) dX11_descendsFrom_29 (by decide) ?_
    refine J.goto (μ := mX11_descendsFrom) (pc := 30) 34 dX11_descendsFrom_30 (by decide) ?_
    exact J.zret (μ := mX11_descendsFrom) (pc := 34) dX11_descendsFrom_34 rfl (by first | rfl | decide | exact nar_bi _) (Nat.le_of_ble_eq_true rfl) (Nat.le_of_ble_eq_true rfl) (fun H h => ⟨congrArg some (congrArg Value.int (by simp [bi, *])), h⟩)
theorem s_X11_descendantsByTable {γ : Gm} {v : Vs} {N : Nat} (hN : v (1 + 8) 7 = nI N) (h20 : N ≤ 20) {a : Nat} (ha : a < N) (h : hasL v 1 (nI a)) : Ev γ mX11_descendantsByTable yX11_descendantsByTable 30 0 0 [.ref (gz γ + 0), .int (nI a)] (Rp γ v) (fun w H => w = some (.int (nI (cn (fun j => fw (parB v 1) N a j) N))) ∧ ∃ g, Rp γ (upT v g) H) := by
  refine Ev.ofJ (by decide) rfl (fun h => by cases h) (Nat.le_of_ble_eq_true rfl) ?_
  refine J.aload_n (μ := mX11_descendantsByTable) (pc := 0) dX11_descendantsByTable_0 rfl ?_
  refine J.iload_n (μ := mX11_descendantsByTable) (pc := 1) dX11_descendantsByTable_1 rfl ?_
  refine J.cV0 (μ := mX11_descendantsByTable) (pc := 2) (s_X11_requireLot0 _ h) rfl wm_X11_143 mi_X11_requireLot rfl dX11_descendantsByTable_2 (Rp.isa (T := TX11) rfl sh0) rfl rfl ⟨(Nat.le_of_ble_eq_true rfl), (Nat.le_of_ble_eq_true rfl)⟩ ⟨(Nat.le_of_ble_eq_true rfl), (Nat.le_of_ble_eq_true rfl)⟩ (Nat.le_of_ble_eq_true rfl) ?_
  refine J.aload_n (μ := mX11_descendantsByTable) (pc := 5) dX11_descendantsByTable_5 rfl ?_
  refine J.gr (μ := mX11_descendantsByTable) (pc := 6) (T := TX11) (ci := 14) (fks := _) rfl rfl in_X11 5 (by decide) wf_X11_39 dX11_descendantsByTable_6 sh0 rfl ?_
  refine J.aload_n (μ := mX11_descendantsByTable) (pc := 9) dX11_descendantsByTable_9 rfl ?_
  refine J.gr (μ := mX11_descendantsByTable) (pc := 10) (T := TX11) (ci := 14) (fks := _) rfl rfl in_X11 0 (by decide) wf_X11_10 dX11_descendantsByTable_10 sh0 rfl ?_
  refine J.gr (μ := mX11_descendantsByTable) (pc := 13) (T := TX9) (ci := 12) (fks := _) rfl rfl in_X9 1 (by decide) wf_X11_109 dX11_descendantsByTable_13 (st1 0 (by decide)) rfl ?_
  refine J.iload_n (μ := mX11_descendantsByTable) (pc := 16) dX11_descendantsByTable_16 rfl ?_
  refine J.callV (μ := mX11_descendantsByTable) (pc := 17) (s_X2_countByTable st1 hN h20 ha) rfl wm_X11_174 mi_X2_countByTable rfl dX11_descendantsByTable_17 (Rp.isa (T := TX2) rfl sh290) rfl rfl ⟨(Nat.le_of_ble_eq_true rfl), (Nat.le_of_ble_eq_true rfl)⟩ ⟨(Nat.le_of_ble_eq_true rfl), (Nat.le_of_ble_eq_true rfl)⟩ (Nat.le_of_ble_eq_true rfl) (fun w => J.and (fun e => ?_))
  subst e
  exact J.iret (μ := mX11_descendantsByTable) (pc := 20) dX11_descendantsByTable_20 rfl (Nat.le_of_ble_eq_true rfl) (Nat.le_of_ble_eq_true rfl) (fun H h => ⟨rfl, h⟩)
theorem s_X11_fewestShelves {γ : Gm} {v : Vs} {N : Nat} (hN : v (1 + 8) 7 = nI N) (h20 : N ≤ 20) {M : Nat} (hM : v (1 + 1) 3 = nI M) (h8 : M ≤ 8) {z : Int32} (h : 0 ≤ z ∧ z ≤ 2) : Ev γ mX11_fewestShelves yX11_fewestShelves 30 0 0 [.ref (gz γ + 0), .int z] (Rp γ v) (fun w H => ∃ ff, filled (gC v 1 z M).1 (gL v 1 z N).1 ff (gL v 1 z N).2 ∧ w = some (.int (if (gL v 1 z N).2 = 0 then 0 else ff (2 ^ (gL v 1 z N).2 - 1) / 64 + 1)) ∧ Rp γ (pk v (gC v 1 z M).1 (gL v 1 z N).1 (v 299) ff (gC v 1 z M).2 (gL v 1 z N).2) H) := by
  refine Ev.ofJ (by decide) rfl (fun h => by cases h) (Nat.le_of_ble_eq_true rfl) ?_
  refine J.iload_n (μ := mX11_fewestShelves) (pc := 0) dX11_fewestShelves_0 rfl ?_
  refine J.iconst (μ := mX11_fewestShelves) (pc := 1) (v := 0) dX11_fewestShelves_1 (by decide) ?_
  refine J.iconst (μ := mX11_fewestShelves) (pc := 2) (v := 2) dX11_fewestShelves_2 (by decide) ?_
  refine J.cS0 (μ := mX11_fewestShelves) (pc := 3) (s_X11_requireRange0 _ _ _ h) rfl wm_X11_118 mi_X11_requireRange rfl dX11_fewestShelves_3 rfl rfl ⟨(Nat.le_of_ble_eq_true rfl), (Nat.le_of_ble_eq_true rfl)⟩ ⟨(Nat.le_of_ble_eq_true rfl), (Nat.le_of_ble_eq_true rfl)⟩ (Nat.le_of_ble_eq_true rfl) ?_
  refine J.aload_n (μ := mX11_fewestShelves) (pc := 6) dX11_fewestShelves_6 rfl ?_
  refine J.gr (μ := mX11_fewestShelves) (pc := 7) (T := TX11) (ci := 14) (fks := _) rfl rfl in_X11 6 (by decide) wf_X11_46 dX11_fewestShelves_7 sh0 rfl ?_
  refine J.aload_n (μ := mX11_fewestShelves) (pc := 10) dX11_fewestShelves_10 rfl ?_
  refine J.gr (μ := mX11_fewestShelves) (pc := 11) (T := TX11) (ci := 14) (fks := _) rfl rfl in_X11 0 (by decide) wf_X11_10 dX11_fewestShelves_11 sh0 rfl ?_
  refine J.iload_n (μ := mX11_fewestShelves) (pc := 14) dX11_fewestShelves_14 rfl ?_
  refine J.callV (μ := mX11_fewestShelves) (pc := 15) (s_X6_fewestBySets st1 hN h20 hM h8 z) rfl wm_X11_135 mi_X6_fewestBySets rfl dX11_fewestShelves_15 (Rp.isa (T := TX6) rfl sh293) rfl rfl ⟨(Nat.le_of_ble_eq_true rfl), (Nat.le_of_ble_eq_true rfl)⟩ ⟨(Nat.le_of_ble_eq_true rfl), (Nat.le_of_ble_eq_true rfl)⟩ (Nat.le_of_ble_eq_true rfl) (fun w => J.ex fun ff => J.and fun hf => J.and fun e => ?_)
  subst e
  exact J.iret (μ := mX11_fewestShelves) (pc := 18) dX11_fewestShelves_18 rfl (Nat.le_of_ble_eq_true rfl) (Nat.le_of_ble_eq_true rfl) (fun H h => ⟨ff, hf, rfl, h⟩)
theorem s_X11_fewestShelvesBySearch {γ : Gm} {v : Vs} {N : Nat} (hN : v (1 + 8) 7 = nI N) (h20 : N ≤ 20) {M : Nat} (hM : v (1 + 1) 3 = nI M) (h8 : M ≤ 8) {z : Int32} (h : 0 ≤ z ∧ z ≤ 2) : Ev γ mX11_fewestShelvesBySearch yX11_fewestShelvesBySearch 30 0 0 [.ref (gz γ + 0), .int z] (Rp γ v) (fun w H => w = some (.int (nI (fd (fun k => layB (gL v 1 z N).1 (gL v 1 z N).2 k 8 0 (gC v 1 z M).1) (gC v 1 z M).2))) ∧ ∃ fr, Rp γ (pk v (gC v 1 z M).1 (gL v 1 z N).1 fr (v 301) (gC v 1 z M).2 (gL v 1 z N).2) H) := by
  refine Ev.ofJ (by decide) rfl (fun h => by cases h) (Nat.le_of_ble_eq_true rfl) ?_
  refine J.iload_n (μ := mX11_fewestShelvesBySearch) (pc := 0) dX11_fewestShelvesBySearch_0 rfl ?_
  refine J.iconst (μ := mX11_fewestShelvesBySearch) (pc := 1) (v := 0) dX11_fewestShelvesBySearch_1 (by decide) ?_
  refine J.iconst (μ := mX11_fewestShelvesBySearch) (pc := 2) (v := 2) dX11_fewestShelvesBySearch_2 (by decide) ?_
  refine J.cS0 (μ := mX11_fewestShelvesBySearch) (pc := 3) (s_X11_requireRange0 _ _ _ h) rfl wm_X11_118 mi_X11_requireRange rfl dX11_fewestShelvesBySearch_3 rfl rfl ⟨(Nat.le_of_ble_eq_true rfl), (Nat.le_of_ble_eq_true rfl)⟩ ⟨(Nat.le_of_ble_eq_true rfl), (Nat.le_of_ble_eq_true rfl)⟩ (Nat.le_of_ble_eq_true rfl) ?_
  refine J.aload_n (μ := mX11_fewestShelvesBySearch) (pc := 6) dX11_fewestShelvesBySearch_6 rfl ?_
  refine J.gr (μ := mX11_fewestShelvesBySearch) (pc := 7) (T := TX11) (ci := 14) (fks := _) rfl rfl in_X11 6 (by decide) wf_X11_46 dX11_fewestShelvesBySearch_7 sh0 rfl ?_
  refine J.aload_n (μ := mX11_fewestShelvesBySearch) (pc := 10) dX11_fewestShelvesBySearch_10 rfl ?_
  refine J.gr (μ := mX11_fewestShelvesBySearch) (pc := 11) (T := TX11) (ci := 14) (fks := _) rfl rfl in_X11 0 (by decide) wf_X11_10 dX11_fewestShelvesBySearch_11 sh0 rfl ?_
  refine J.iload_n (μ := mX11_fewestShelvesBySearch) (pc := 14) dX11_fewestShelvesBySearch_14 rfl ?_
  refine J.callV (μ := mX11_fewestShelvesBySearch) (pc := 15) (s_X6_fewestBySearch st1 hN h20 hM h8 z) rfl wm_X11_139 mi_X6_fewestBySearch rfl dX11_fewestShelvesBySearch_15 (Rp.isa (T := TX6) rfl sh293) rfl rfl ⟨(Nat.le_of_ble_eq_true rfl), (Nat.le_of_ble_eq_true rfl)⟩ ⟨(Nat.le_of_ble_eq_true rfl), (Nat.le_of_ble_eq_true rfl)⟩ (Nat.le_of_ble_eq_true rfl) (fun w => J.and fun e => ?_)
  subst e
  exact J.iret (μ := mX11_fewestShelvesBySearch) (pc := 18) dX11_fewestShelvesBySearch_18 rfl (Nat.le_of_ble_eq_true rfl) (Nat.le_of_ble_eq_true rfl) (fun H h => ⟨rfl, h⟩)

theorem s_X11_countedDay {γ : Gm} {v : Vs} {x : Int32} (h : hasS v 1 x) : Xm γ mX11_countedDay yX11_countedDay 30 [.ref (gz γ + 0), .int x] v (fun w H => w = some (.int (gCd v 1 x)) ∧ ¬ (gCd v 1 x) < 0 ∧ Rp γ v H) (fun E H => (gCd v 1 x) < 0 ∧ E = nsC ∧ Rp γ v H) := by
  refine Ex.ofJ (by decide) rfl (fun h => by cases h) (Nat.le_of_ble_eq_true rfl) ?_
  refine J.aload_n (μ := mX11_countedDay) (pc := 0) dX11_countedDay_0 rfl ?_
  refine J.iload_n (μ := mX11_countedDay) (pc := 1) dX11_countedDay_1 rfl ?_
  refine J.cV0 (μ := mX11_countedDay) (pc := 2) (s_X11_requireShelf0 _ h) rfl wm_X11_91 mi_X11_requireShelf rfl dX11_countedDay_2 (Rp.isa (T := TX11) rfl sh0) rfl rfl ⟨(Nat.le_of_ble_eq_true rfl), (Nat.le_of_ble_eq_true rfl)⟩ ⟨(Nat.le_of_ble_eq_true rfl), (Nat.le_of_ble_eq_true rfl)⟩ (Nat.le_of_ble_eq_true rfl) ?_
  refine J.aload_n (μ := mX11_countedDay) (pc := 5) dX11_countedDay_5 rfl ?_
  refine J.gr (μ := mX11_countedDay) (pc := 6) (T := TX11) (ci := 14) (fks := _) rfl rfl in_X11 0 (by decide) wf_X11_10 dX11_countedDay_6 sh0 rfl ?_
  refine J.gr (μ := mX11_countedDay) (pc := 9) (T := TX9) (ci := 12) (fks := _) rfl rfl in_X9 0 (by decide) wf_X11_82 dX11_countedDay_9 (st1 0 (by decide)) rfl ?_
  refine J.gr (μ := mX11_countedDay) (pc := 12) (T := TX8) (ci := 11) (fks := _) rfl rfl in_X8 2 (by decide) wf_X11_129 dX11_countedDay_12 (st1 1 (by decide)) rfl ?_
  refine J.iload_n (μ := mX11_countedDay) (pc := 15) dX11_countedDay_15 rfl ?_
  refine J.cV (μ := mX11_countedDay) (pc := 16) (g_cd st1 _) rfl wm_X11_99 mi_X7_get rfl dX11_countedDay_16 (Rp.isa (T := TX7) rfl (st1 6 (by decide))) rfl rfl ⟨(Nat.le_of_ble_eq_true rfl), (Nat.le_of_ble_eq_true rfl)⟩ ⟨(Nat.le_of_ble_eq_true rfl), (Nat.le_of_ble_eq_true rfl)⟩ (Nat.le_of_ble_eq_true rfl) ?_
  refine J.callSx (μ := mX11_countedDay) (pc := 19) (s_X11_requireFound _) rfl wm_X11_126 mi_X11_requireFound rfl dX11_countedDay_19 rfl rfl ⟨(Nat.le_of_ble_eq_true rfl), (Nat.le_of_ble_eq_true rfl)⟩ ⟨(Nat.le_of_ble_eq_true rfl), (Nat.le_of_ble_eq_true rfl)⟩ (Nat.le_of_ble_eq_true rfl) (fun E => JX.out rfl (Nat.le_of_ble_eq_true rfl) (Nat.le_of_ble_eq_true rfl) (fun H h => h)) (fun w => J.and fun e => J.and fun hx => J.toX ?_)
  subst e
  exact J.iret (μ := mX11_countedDay) (pc := 22) dX11_countedDay_22 rfl (Nat.le_of_ble_eq_true rfl) (Nat.le_of_ble_eq_true rfl) (fun H h => ⟨rfl, hx, h⟩)

theorem s_X11_shelfOf {γ : Gm} {v : Vs} {x : Int32} (h : hasL v 1 x) : Xm γ mX11_shelfOf yX11_shelfOf 30 [.ref (gz γ + 0), .int x] v (fun w H => w = some (.int (gPl v 1 x)) ∧ ¬ (gPl v 1 x) < 0 ∧ Rp γ v H) (fun E H => (gPl v 1 x) < 0 ∧ E = nsC ∧ Rp γ v H) := by
  refine Ex.ofJ (by decide) rfl (fun h => by cases h) (Nat.le_of_ble_eq_true rfl) ?_
  refine J.aload_n (μ := mX11_shelfOf) (pc := 0) dX11_shelfOf_0 rfl ?_
  refine J.iload_n (μ := mX11_shelfOf) (pc := 1) dX11_shelfOf_1 rfl ?_
  refine J.cV0 (μ := mX11_shelfOf) (pc := 2) (s_X11_requireLot0 _ h) rfl wm_X11_143 mi_X11_requireLot rfl dX11_shelfOf_2 (Rp.isa (T := TX11) rfl sh0) rfl rfl ⟨(Nat.le_of_ble_eq_true rfl), (Nat.le_of_ble_eq_true rfl)⟩ ⟨(Nat.le_of_ble_eq_true rfl), (Nat.le_of_ble_eq_true rfl)⟩ (Nat.le_of_ble_eq_true rfl) ?_
  refine J.aload_n (μ := mX11_shelfOf) (pc := 5) dX11_shelfOf_5 rfl ?_
  refine J.gr (μ := mX11_shelfOf) (pc := 6) (T := TX11) (ci := 14) (fks := _) rfl rfl in_X11 0 (by decide) wf_X11_10 dX11_shelfOf_6 sh0 rfl ?_
  refine J.gr (μ := mX11_shelfOf) (pc := 9) (T := TX9) (ci := 12) (fks := _) rfl rfl in_X9 1 (by decide) wf_X11_109 dX11_shelfOf_9 (st1 0 (by decide)) rfl ?_
  refine J.gr (μ := mX11_shelfOf) (pc := 12) (T := TX5) (ci := 8) (fks := _) rfl rfl in_X5 4 (by decide) wf_X11_150 dX11_shelfOf_12 (st1 8 (by decide)) rfl ?_
  refine J.iload_n (μ := mX11_shelfOf) (pc := 15) dX11_shelfOf_15 rfl ?_
  refine J.cV (μ := mX11_shelfOf) (pc := 16) (g_pl st1 _) rfl wm_X11_99 mi_X7_get rfl dX11_shelfOf_16 (Rp.isa (T := TX7) rfl (st1 17 (by decide))) rfl rfl ⟨(Nat.le_of_ble_eq_true rfl), (Nat.le_of_ble_eq_true rfl)⟩ ⟨(Nat.le_of_ble_eq_true rfl), (Nat.le_of_ble_eq_true rfl)⟩ (Nat.le_of_ble_eq_true rfl) ?_
  refine J.callSx (μ := mX11_shelfOf) (pc := 19) (s_X11_requireFound _) rfl wm_X11_126 mi_X11_requireFound rfl dX11_shelfOf_19 rfl rfl ⟨(Nat.le_of_ble_eq_true rfl), (Nat.le_of_ble_eq_true rfl)⟩ ⟨(Nat.le_of_ble_eq_true rfl), (Nat.le_of_ble_eq_true rfl)⟩ (Nat.le_of_ble_eq_true rfl) (fun E => JX.out rfl (Nat.le_of_ble_eq_true rfl) (Nat.le_of_ble_eq_true rfl) (fun H h => h)) (fun w => J.and fun e => J.and fun hx => J.toX ?_)
  subst e
  exact J.iret (μ := mX11_shelfOf) (pc := 22) dX11_shelfOf_22 rfl (Nat.le_of_ble_eq_true rfl) (Nat.le_of_ble_eq_true rfl) (fun H h => ⟨rfl, hx, h⟩)

theorem s_X11_shelfToCount {γ : Gm} {v : Vs} {N : Nat} (hN : v (1 + 8) 7 = nI N) (h20 : N ≤ 20) {M : Nat} (hM : v (1 + 1) 3 = nI M) (h8 : M ≤ 8) (x : Int32) : Xm γ mX11_shelfToCount yX11_shelfToCount 30 [.ref (gz γ + 0), .int x] v (fun w H => w = some (.int (fdI (fun i => decide (nI (cn (fun j => decide (dueB v 1 N (nI j) (nI i))) M) = x)) M)) ∧ ¬ (fdI (fun i => decide (nI (cn (fun j => decide (dueB v 1 N (nI j) (nI i))) M) = x)) M) < 0 ∧ Rp γ v H) (fun E H => (fdI (fun i => decide (nI (cn (fun j => decide (dueB v 1 N (nI j) (nI i))) M) = x)) M) < 0 ∧ E = nsC ∧ Rp γ v H) := by
  refine Ex.ofJ (by decide) rfl (fun h => by cases h) (Nat.le_of_ble_eq_true rfl) ?_
  refine J.aload_n (μ := mX11_shelfToCount) (pc := 0) dX11_shelfToCount_0 rfl ?_
  refine J.gr (μ := mX11_shelfToCount) (pc := 1) (T := TX11) (ci := 14) (fks := _) rfl rfl in_X11 0 (by decide) wf_X11_10 dX11_shelfToCount_1 sh0 rfl ?_
  refine J.iload_n (μ := mX11_shelfToCount) (pc := 4) dX11_shelfToCount_4 rfl ?_
  refine J.cV (μ := mX11_shelfToCount) (pc := 5) (s_X9_shelfAtRank st1 hN h20 hM h8 _) rfl wm_X11_132 mi_X9_shelfAtRank rfl dX11_shelfToCount_5 (Rp.isa (T := TX9) rfl (st1 0 (by decide))) rfl rfl ⟨(Nat.le_of_ble_eq_true rfl), (Nat.le_of_ble_eq_true rfl)⟩ ⟨(Nat.le_of_ble_eq_true rfl), (Nat.le_of_ble_eq_true rfl)⟩ (Nat.le_of_ble_eq_true rfl) ?_
  refine J.callSx (μ := mX11_shelfToCount) (pc := 8) (s_X11_requireFound _) rfl wm_X11_126 mi_X11_requireFound rfl dX11_shelfToCount_8 rfl rfl ⟨(Nat.le_of_ble_eq_true rfl), (Nat.le_of_ble_eq_true rfl)⟩ ⟨(Nat.le_of_ble_eq_true rfl), (Nat.le_of_ble_eq_true rfl)⟩ (Nat.le_of_ble_eq_true rfl) (fun E => JX.out rfl (Nat.le_of_ble_eq_true rfl) (Nat.le_of_ble_eq_true rfl) (fun H h => h)) (fun w => J.and fun e => J.and fun hx => J.toX ?_)
  subst e
  exact J.iret (μ := mX11_shelfToCount) (pc := 11) dX11_shelfToCount_11 rfl (Nat.le_of_ble_eq_true rfl) (Nat.le_of_ble_eq_true rfl) (fun H h => ⟨rfl, hx, h⟩)

theorem s_X11_shelfFor {γ : Gm} {v : Vs} {N : Nat} (hN : v (1 + 8) 7 = nI N) (h20 : N ≤ 20) {M : Nat} (hM : v (1 + 1) 3 = nI M) (h8 : M ≤ 8) {z y : Int32} (hz : 0 ≤ z ∧ z ≤ 2) (hw : 1 ≤ y ∧ y ≤ 40) : Xm γ mX11_shelfFor yX11_shelfFor 30 [.ref (gz γ + 0), .int z, .int y] v (fun w H => w = some (.int ((pfs v 1 N z y (-1) (-1) M).1)) ∧ ¬ ((pfs v 1 N z y (-1) (-1) M).1) < 0 ∧ Rp γ v H) (fun E H => ((pfs v 1 N z y (-1) (-1) M).1) < 0 ∧ E = nsC ∧ Rp γ v H) := by
  refine Ex.ofJ (by decide) rfl (fun h => by cases h) (Nat.le_of_ble_eq_true rfl) ?_
  refine J.iload_n (μ := mX11_shelfFor) (pc := 0) dX11_shelfFor_0 rfl ?_
  refine J.iconst (μ := mX11_shelfFor) (pc := 1) (v := 0) dX11_shelfFor_1 (by decide) ?_
  refine J.iconst (μ := mX11_shelfFor) (pc := 2) (v := 2) dX11_shelfFor_2 (by decide) ?_
  refine J.cS0 (μ := mX11_shelfFor) (pc := 3) (s_X11_requireRange0 _ _ _ hz) rfl wm_X11_118 mi_X11_requireRange rfl dX11_shelfFor_3 rfl rfl ⟨(Nat.le_of_ble_eq_true rfl), (Nat.le_of_ble_eq_true rfl)⟩ ⟨(Nat.le_of_ble_eq_true rfl), (Nat.le_of_ble_eq_true rfl)⟩ (Nat.le_of_ble_eq_true rfl) ?_
  refine J.iload_n (μ := mX11_shelfFor) (pc := 6) dX11_shelfFor_6 rfl ?_
  refine J.iconst (μ := mX11_shelfFor) (pc := 7) (v := 1) dX11_shelfFor_7 (by decide) ?_
  refine J.bipush (μ := mX11_shelfFor) (pc := 8) (v := 40) dX11_shelfFor_8 (by decide) ?_
  refine J.cS0 (μ := mX11_shelfFor) (pc := 10) (s_X11_requireRange0 _ _ _ hw) rfl wm_X11_118 mi_X11_requireRange rfl dX11_shelfFor_10 rfl rfl ⟨(Nat.le_of_ble_eq_true rfl), (Nat.le_of_ble_eq_true rfl)⟩ ⟨(Nat.le_of_ble_eq_true rfl), (Nat.le_of_ble_eq_true rfl)⟩ (Nat.le_of_ble_eq_true rfl) ?_
  refine J.aload_n (μ := mX11_shelfFor) (pc := 13) dX11_shelfFor_13 rfl ?_
  refine J.gr (μ := mX11_shelfFor) (pc := 14) (T := TX11) (ci := 14) (fks := _) rfl rfl in_X11 0 (by decide) wf_X11_10 dX11_shelfFor_14 sh0 rfl ?_
  refine J.iload_n (μ := mX11_shelfFor) (pc := 17) dX11_shelfFor_17 rfl ?_
  refine J.iload_n (μ := mX11_shelfFor) (pc := 18) dX11_shelfFor_18 rfl ?_
  refine J.iconst (μ := mX11_shelfFor) (pc := 19) (v := -1) dX11_shelfFor_19 (by decide) ?_
  refine J.iconst (μ := mX11_shelfFor) (pc := 20) (v := -1) dX11_shelfFor_20 (by decide) ?_
  refine J.cV (μ := mX11_shelfFor) (pc := 21) (s_X9_placeFor st1 hN h20 hM h8 _ _ _ _) rfl wm_X11_122 mi_X9_placeFor rfl dX11_shelfFor_21 (Rp.isa (T := TX9) rfl (st1 0 (by decide))) rfl rfl ⟨(Nat.le_of_ble_eq_true rfl), (Nat.le_of_ble_eq_true rfl)⟩ ⟨(Nat.le_of_ble_eq_true rfl), (Nat.le_of_ble_eq_true rfl)⟩ (Nat.le_of_ble_eq_true rfl) ?_
  refine J.callSx (μ := mX11_shelfFor) (pc := 24) (s_X11_requireFound _) rfl wm_X11_126 mi_X11_requireFound rfl dX11_shelfFor_24 rfl rfl ⟨(Nat.le_of_ble_eq_true rfl), (Nat.le_of_ble_eq_true rfl)⟩ ⟨(Nat.le_of_ble_eq_true rfl), (Nat.le_of_ble_eq_true rfl)⟩ (Nat.le_of_ble_eq_true rfl) (fun E => JX.out rfl (Nat.le_of_ble_eq_true rfl) (Nat.le_of_ble_eq_true rfl) (fun H h => h)) (fun w => J.and fun e => J.and fun hx => J.toX ?_)
  subst e
  exact J.iret (μ := mX11_shelfFor) (pc := 27) dX11_shelfFor_27 rfl (Nat.le_of_ble_eq_true rfl) (Nat.le_of_ble_eq_true rfl) (fun H h => ⟨rfl, hx, h⟩)

theorem s_X11_firstToShip {γ : Gm} {v : Vs} {N : Nat} (hN : v (1 + 8) 7 = nI N) (h20 : N ≤ 20) {x : Int32} (h : 0 ≤ x ∧ x ≤ 5) : Xm γ mX11_firstToShip yX11_firstToShip 30 [.ref (gz γ + 0), .int x] v (fun w H => w = some (.int (esh v 1 x N)) ∧ ¬ (esh v 1 x N) < 0 ∧ Rp γ v H) (fun E H => (esh v 1 x N) < 0 ∧ E = nsC ∧ Rp γ v H) := by
  refine Ex.ofJ (by decide) rfl (fun h => by cases h) (Nat.le_of_ble_eq_true rfl) ?_
  refine J.iload_n (μ := mX11_firstToShip) (pc := 0) dX11_firstToShip_0 rfl ?_
  refine J.iconst (μ := mX11_firstToShip) (pc := 1) (v := 0) dX11_firstToShip_1 (by decide) ?_
  refine J.iconst (μ := mX11_firstToShip) (pc := 2) (v := 5) dX11_firstToShip_2 (by decide) ?_
  refine J.cS0 (μ := mX11_firstToShip) (pc := 3) (s_X11_requireRange0 _ _ _ h) rfl wm_X11_118 mi_X11_requireRange rfl dX11_firstToShip_3 rfl rfl ⟨(Nat.le_of_ble_eq_true rfl), (Nat.le_of_ble_eq_true rfl)⟩ ⟨(Nat.le_of_ble_eq_true rfl), (Nat.le_of_ble_eq_true rfl)⟩ (Nat.le_of_ble_eq_true rfl) ?_
  refine J.aload_n (μ := mX11_firstToShip) (pc := 6) dX11_firstToShip_6 rfl ?_
  refine J.gr (μ := mX11_firstToShip) (pc := 7) (T := TX11) (ci := 14) (fks := _) rfl rfl in_X11 0 (by decide) wf_X11_10 dX11_firstToShip_7 sh0 rfl ?_
  refine J.iload_n (μ := mX11_firstToShip) (pc := 10) dX11_firstToShip_10 rfl ?_
  refine J.cV (μ := mX11_firstToShip) (pc := 11) (s_X9_earliestShippable st1 hN h20 _) rfl wm_X11_183 mi_X9_earliestShippable rfl dX11_firstToShip_11 (Rp.isa (T := TX9) rfl (st1 0 (by decide))) rfl rfl ⟨(Nat.le_of_ble_eq_true rfl), (Nat.le_of_ble_eq_true rfl)⟩ ⟨(Nat.le_of_ble_eq_true rfl), (Nat.le_of_ble_eq_true rfl)⟩ (Nat.le_of_ble_eq_true rfl) ?_
  refine J.callSx (μ := mX11_firstToShip) (pc := 14) (s_X11_requireFound _) rfl wm_X11_126 mi_X11_requireFound rfl dX11_firstToShip_14 rfl rfl ⟨(Nat.le_of_ble_eq_true rfl), (Nat.le_of_ble_eq_true rfl)⟩ ⟨(Nat.le_of_ble_eq_true rfl), (Nat.le_of_ble_eq_true rfl)⟩ (Nat.le_of_ble_eq_true rfl) (fun E => JX.out rfl (Nat.le_of_ble_eq_true rfl) (Nat.le_of_ble_eq_true rfl) (fun H h => h)) (fun w => J.and fun e => J.and fun hx => J.toX ?_)
  subst e
  exact J.iret (μ := mX11_firstToShip) (pc := 17) dX11_firstToShip_17 rfl (Nat.le_of_ble_eq_true rfl) (Nat.le_of_ble_eq_true rfl) (fun H h => ⟨rfl, hx, h⟩)

theorem s_X11_lotByExpiry {γ : Gm} {v : Vs} {N : Nat} (hN : v (1 + 8) 7 = nI N) (h20 : N ≤ 20) (x : Int32) : Xm γ mX11_lotByExpiry yX11_lotByExpiry 30 [.ref (gz γ + 0), .int x] v (fun w H => w = some (.int (fdI (fun i => decide (0 ≤ gPl v 1 (nI i) ∧ nI (cn (fun j => decide (0 ≤ gPl v 1 (nI j) ∧ expB v 1 (nI j) (nI i))) N) = x)) N)) ∧ ¬ (fdI (fun i => decide (0 ≤ gPl v 1 (nI i) ∧ nI (cn (fun j => decide (0 ≤ gPl v 1 (nI j) ∧ expB v 1 (nI j) (nI i))) N) = x)) N) < 0 ∧ Rp γ v H) (fun E H => (fdI (fun i => decide (0 ≤ gPl v 1 (nI i) ∧ nI (cn (fun j => decide (0 ≤ gPl v 1 (nI j) ∧ expB v 1 (nI j) (nI i))) N) = x)) N) < 0 ∧ E = nsC ∧ Rp γ v H) := by
  refine Ex.ofJ (by decide) rfl (fun h => by cases h) (Nat.le_of_ble_eq_true rfl) ?_
  refine J.aload_n (μ := mX11_lotByExpiry) (pc := 0) dX11_lotByExpiry_0 rfl ?_
  refine J.gr (μ := mX11_lotByExpiry) (pc := 1) (T := TX11) (ci := 14) (fks := _) rfl rfl in_X11 0 (by decide) wf_X11_10 dX11_lotByExpiry_1 sh0 rfl ?_
  refine J.iload_n (μ := mX11_lotByExpiry) (pc := 4) dX11_lotByExpiry_4 rfl ?_
  refine J.cV (μ := mX11_lotByExpiry) (pc := 5) (s_X9_shelvedAtRank st1 hN h20 _) rfl wm_X11_186 mi_X9_shelvedAtRank rfl dX11_lotByExpiry_5 (Rp.isa (T := TX9) rfl (st1 0 (by decide))) rfl rfl ⟨(Nat.le_of_ble_eq_true rfl), (Nat.le_of_ble_eq_true rfl)⟩ ⟨(Nat.le_of_ble_eq_true rfl), (Nat.le_of_ble_eq_true rfl)⟩ (Nat.le_of_ble_eq_true rfl) ?_
  refine J.callSx (μ := mX11_lotByExpiry) (pc := 8) (s_X11_requireFound _) rfl wm_X11_126 mi_X11_requireFound rfl dX11_lotByExpiry_8 rfl rfl ⟨(Nat.le_of_ble_eq_true rfl), (Nat.le_of_ble_eq_true rfl)⟩ ⟨(Nat.le_of_ble_eq_true rfl), (Nat.le_of_ble_eq_true rfl)⟩ (Nat.le_of_ble_eq_true rfl) (fun E => JX.out rfl (Nat.le_of_ble_eq_true rfl) (Nat.le_of_ble_eq_true rfl) (fun H h => h)) (fun w => J.and fun e => J.and fun hx => J.toX ?_)
  subst e
  exact J.iret (μ := mX11_lotByExpiry) (pc := 11) dX11_lotByExpiry_11 rfl (Nat.le_of_ble_eq_true rfl) (Nat.le_of_ble_eq_true rfl) (fun H h => ⟨rfl, hx, h⟩)

theorem s_X11_nextCompost {γ : Gm} {v : Vs}  : Xm γ mX11_nextCompost yX11_nextCompost 30 [.ref (gz γ + 0)] v (fun w H => w = some (.int (if 0 < v (1 + 23) 1 then gHp v 1 0 else -1)) ∧ ¬ (if 0 < v (1 + 23) 1 then gHp v 1 0 else -1) < 0 ∧ Rp γ v H) (fun E H => (if 0 < v (1 + 23) 1 then gHp v 1 0 else -1) < 0 ∧ E = nsC ∧ Rp γ v H) := by
  refine Ex.ofJ (by decide) rfl (fun h => by cases h) (Nat.le_of_ble_eq_true rfl) ?_
  refine J.aload_n (μ := mX11_nextCompost) (pc := 0) dX11_nextCompost_0 rfl ?_
  refine J.gr (μ := mX11_nextCompost) (pc := 1) (T := TX11) (ci := 14) (fks := _) rfl rfl in_X11 0 (by decide) wf_X11_10 dX11_nextCompost_1 sh0 rfl ?_
  refine J.gr (μ := mX11_nextCompost) (pc := 4) (T := TX9) (ci := 12) (fks := _) rfl rfl in_X9 2 (by decide) wf_X11_189 dX11_nextCompost_4 (st1 0 (by decide)) rfl ?_
  refine J.cV (μ := mX11_nextCompost) (pc := 7) (s_X1_top st1 ) rfl wm_X11_196 mi_X1_top rfl dX11_nextCompost_7 (Rp.isa (T := TX1) rfl (st1 23 (by decide))) rfl rfl ⟨(Nat.le_of_ble_eq_true rfl), (Nat.le_of_ble_eq_true rfl)⟩ ⟨(Nat.le_of_ble_eq_true rfl), (Nat.le_of_ble_eq_true rfl)⟩ (Nat.le_of_ble_eq_true rfl) ?_
  refine J.callSx (μ := mX11_nextCompost) (pc := 10) (s_X11_requireFound _) rfl wm_X11_126 mi_X11_requireFound rfl dX11_nextCompost_10 rfl rfl ⟨(Nat.le_of_ble_eq_true rfl), (Nat.le_of_ble_eq_true rfl)⟩ ⟨(Nat.le_of_ble_eq_true rfl), (Nat.le_of_ble_eq_true rfl)⟩ (Nat.le_of_ble_eq_true rfl) (fun E => JX.out rfl (Nat.le_of_ble_eq_true rfl) (Nat.le_of_ble_eq_true rfl) (fun H h => h)) (fun w => J.and fun e => J.and fun hx => J.toX ?_)
  subst e
  exact J.iret (μ := mX11_nextCompost) (pc := 13) dX11_nextCompost_13 rfl (Nat.le_of_ble_eq_true rfl) (Nat.le_of_ble_eq_true rfl) (fun H h => ⟨rfl, hx, h⟩)

theorem s_X11_nextCompostByScan {γ : Gm} {v : Vs} {N : Nat} (hN : v (1 + 8) 7 = nI N) (h20 : N ≤ 20) : Xm γ mX11_nextCompostByScan yX11_nextCompostByScan 30 [.ref (gz γ + 0)] v (fun w H => w = some (.int (fsc v 1 N)) ∧ ¬ (fsc v 1 N) < 0 ∧ Rp γ v H) (fun E H => (fsc v 1 N) < 0 ∧ E = nsC ∧ Rp γ v H) := by
  refine Ex.ofJ (by decide) rfl (fun h => by cases h) (Nat.le_of_ble_eq_true rfl) ?_
  refine J.aload_n (μ := mX11_nextCompostByScan) (pc := 0) dX11_nextCompostByScan_0 rfl ?_
  refine J.gr (μ := mX11_nextCompostByScan) (pc := 1) (T := TX11) (ci := 14) (fks := _) rfl rfl in_X11 0 (by decide) wf_X11_10 dX11_nextCompostByScan_1 sh0 rfl ?_
  refine J.gr (μ := mX11_nextCompostByScan) (pc := 4) (T := TX9) (ci := 12) (fks := _) rfl rfl in_X9 1 (by decide) wf_X11_109 dX11_nextCompostByScan_4 (st1 0 (by decide)) rfl ?_
  refine J.cS (μ := mX11_nextCompostByScan) (pc := 7) (s_X1_firstByScan st1 hN h20) rfl wm_X11_200 mi_X1_firstByScan rfl dX11_nextCompostByScan_7 rfl rfl ⟨(Nat.le_of_ble_eq_true rfl), (Nat.le_of_ble_eq_true rfl)⟩ ⟨(Nat.le_of_ble_eq_true rfl), (Nat.le_of_ble_eq_true rfl)⟩ (Nat.le_of_ble_eq_true rfl) ?_
  refine J.callSx (μ := mX11_nextCompostByScan) (pc := 10) (s_X11_requireFound _) rfl wm_X11_126 mi_X11_requireFound rfl dX11_nextCompostByScan_10 rfl rfl ⟨(Nat.le_of_ble_eq_true rfl), (Nat.le_of_ble_eq_true rfl)⟩ ⟨(Nat.le_of_ble_eq_true rfl), (Nat.le_of_ble_eq_true rfl)⟩ (Nat.le_of_ble_eq_true rfl) (fun E => JX.out rfl (Nat.le_of_ble_eq_true rfl) (Nat.le_of_ble_eq_true rfl) (fun H h => h)) (fun w => J.and fun e => J.and fun hx => J.toX ?_)
  subst e
  exact J.iret (μ := mX11_nextCompostByScan) (pc := 13) dX11_nextCompostByScan_13 rfl (Nat.le_of_ble_eq_true rfl) (Nat.le_of_ble_eq_true rfl) (fun H h => ⟨rfl, hx, h⟩)

theorem s_X11_denial {γ : Gm} {v : Vs}  : Xm γ mX11_denial yX11_denial 30 [.ref (gz γ + 0)] v (fun w H => w = some (.int (v 0 10)) ∧ ¬ (v 0 10) < 0 ∧ Rp γ v H) (fun E H => (v 0 10) < 0 ∧ E = nsC ∧ Rp γ v H) := by
  refine Ex.ofJ (by decide) rfl (fun h => by cases h) (Nat.le_of_ble_eq_true rfl) ?_
  refine J.aload_n (μ := mX11_denial) (pc := 0) dX11_denial_0 rfl ?_
  refine J.gi (μ := mX11_denial) (pc := 1) (T := TX11) (ci := 14) (fks := _) rfl rfl in_X11 10 (by decide) wf_X11_68 dX11_denial_1 sh0 rfl ?_
  refine J.callSx (μ := mX11_denial) (pc := 4) (s_X11_requireFound _) rfl wm_X11_126 mi_X11_requireFound rfl dX11_denial_4 rfl rfl ⟨(Nat.le_of_ble_eq_true rfl), (Nat.le_of_ble_eq_true rfl)⟩ ⟨(Nat.le_of_ble_eq_true rfl), (Nat.le_of_ble_eq_true rfl)⟩ (Nat.le_of_ble_eq_true rfl) (fun E => JX.out rfl (Nat.le_of_ble_eq_true rfl) (Nat.le_of_ble_eq_true rfl) (fun H h => h)) (fun w => J.and fun e => J.and fun hx => J.toX ?_)
  subst e
  exact J.iret (μ := mX11_denial) (pc := 7) dX11_denial_7 rfl (Nat.le_of_ble_eq_true rfl) (Nat.le_of_ble_eq_true rfl) (fun H h => ⟨rfl, hx, h⟩)

theorem s_X11_denialCause {γ : Gm} {v : Vs}  : Xm γ mX11_denialCause yX11_denialCause 30 [.ref (gz γ + 0)] v (fun w H => w = some (.int (v 0 12)) ∧ ¬ (v 0 12) < 0 ∧ Rp γ v H) (fun E H => (v 0 12) < 0 ∧ E = nsC ∧ Rp γ v H) := by
  refine Ex.ofJ (by decide) rfl (fun h => by cases h) (Nat.le_of_ble_eq_true rfl) ?_
  refine J.aload_n (μ := mX11_denialCause) (pc := 0) dX11_denialCause_0 rfl ?_
  refine J.gi (μ := mX11_denialCause) (pc := 1) (T := TX11) (ci := 14) (fks := _) rfl rfl in_X11 12 (by decide) wf_X11_75 dX11_denialCause_1 sh0 rfl ?_
  refine J.callSx (μ := mX11_denialCause) (pc := 4) (s_X11_requireFound _) rfl wm_X11_126 mi_X11_requireFound rfl dX11_denialCause_4 rfl rfl ⟨(Nat.le_of_ble_eq_true rfl), (Nat.le_of_ble_eq_true rfl)⟩ ⟨(Nat.le_of_ble_eq_true rfl), (Nat.le_of_ble_eq_true rfl)⟩ (Nat.le_of_ble_eq_true rfl) (fun E => JX.out rfl (Nat.le_of_ble_eq_true rfl) (Nat.le_of_ble_eq_true rfl) (fun H h => h)) (fun w => J.and fun e => J.and fun hx => J.toX ?_)
  subst e
  exact J.iret (μ := mX11_denialCause) (pc := 7) dX11_denialCause_7 rfl (Nat.le_of_ble_eq_true rfl) (Nat.le_of_ble_eq_true rfl) (fun H h => ⟨rfl, hx, h⟩)
