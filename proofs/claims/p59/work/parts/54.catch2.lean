/-! the law asks, and catches that there is none -/
def nz (x : Int32) : Int32 := if x < 0 then -1000 else x
theorem nz_n {x : Int32} (h : x < 0) : nz x = -1000 := if_pos h
theorem nz_p {x : Int32} (h : ¬ x < 0) : nz x = x := if_neg h
theorem JX.ex {γ : Gm} {μ : Mu} {R : Room} {Q : Fin_} {k n pc : Nat} {L : List (Option Value)} {E : String} {α : Sort _} {F : α → Heap → Prop} (kk : ∀ a, JX γ μ R Q k n pc L E (F a)) : JX γ μ R Q k n pc L E (fun H => ∃ a, F a H) :=
  fun p l e s m args below meth c B H locs ls rest q ce hL hP hS => by
    obtain ⟨a, ha⟩ := hP
    exact kk a p l e s m args below meth c B H locs ls rest q ce hL ha hS
theorem l_countedDay {γ : Gm} {v : Vs} {x : Int32} (h : hasS v 1 x) : Ev γ mL_countedDay yL_countedDay 32 1 6 [.ref (gz γ + 0), .int x] (Rp γ v) (fun w K => w = some (.int (nz (gCd v 1 x))) ∧ Rp γ v K) := by
  refine Ev.ofJ (by decide) rfl (fun h => by cases h) (Nat.le_of_ble_eq_true rfl) ?_
  refine J.sipush (μ := mL_countedDay) (pc := 0) (v := -1000) dL_countedDay_0 (by decide) ?_
  refine J.istore_n (μ := mL_countedDay) (pc := 3) dL_countedDay_3 (Nat.le_of_ble_eq_true rfl) rfl ?_
  refine J.aload_n (μ := mL_countedDay) (pc := 4) dL_countedDay_4 rfl ?_
  refine J.iload_n (μ := mL_countedDay) (pc := 5) dL_countedDay_5 rfl ?_
  refine J.callVx (μ := mL_countedDay) (pc := 6) (s_X11_countedDay h) rfl wm_L_32 mi_X11_countedDay rfl dL_countedDay_6 (Rp.isa (T := TX11) rfl sh0) rfl rfl ⟨(Nat.le_of_ble_eq_true rfl), (Nat.le_of_ble_eq_true rfl)⟩ ⟨(Nat.le_of_ble_eq_true rfl), (Nat.le_of_ble_eq_true rfl)⟩ (Nat.le_of_ble_eq_true rfl) (fun E => JX.and fun h1 => JX.and fun h2 => ?_) (fun w => J.and fun e9 => J.and fun h1 => ?_)
  · subst h2
    rw [nz_n h1]
    refine JX.catch (μ := mL_countedDay) (pc := 6) (own := RL) (name := nsC) [⟨4, 10, 13, 25⟩] ⟨4, 10, 18, 30⟩ [] rfl rfl (List.forall_mem_cons.mpr ⟨.inr ⟨by decide, _, wk_L_25, nc_ns_io⟩, fun _ h => absurd h List.not_mem_nil⟩) rfl (by decide) wk_L_30 cs_ns (fun q => ?_)
    refine J.astore_n (μ := mL_countedDay) (pc := 18) dL_countedDay_18 (Nat.le_of_ble_eq_true rfl) rfl ?_
    refine J.sipush (μ := mL_countedDay) (pc := 19) (v := -1000) dL_countedDay_19 (by decide) ?_
    exact J.iret (μ := mL_countedDay) (pc := 22) dL_countedDay_22 rfl (Nat.le_of_ble_eq_true rfl) (Nat.le_of_ble_eq_true rfl) (fun H h => ⟨rfl, h⟩)
  · subst e9
    rw [nz_p h1]
    refine J.istore_n (μ := mL_countedDay) (pc := 9) dL_countedDay_9 (Nat.le_of_ble_eq_true rfl) rfl ?_
    refine J.goto (μ := mL_countedDay) (pc := 10) 23 dL_countedDay_10 (by decide) ?_
    refine J.iload_n (μ := mL_countedDay) (pc := 23) dL_countedDay_23 rfl ?_
    exact J.iret (μ := mL_countedDay) (pc := 24) dL_countedDay_24 rfl (Nat.le_of_ble_eq_true rfl) (Nat.le_of_ble_eq_true rfl) (fun H h => ⟨rfl, h⟩)

theorem l_shelfToCount {γ : Gm} {v : Vs} {N : Nat} (hN : v (1 + 8) 7 = nI N) (h20 : N ≤ 20) {M : Nat} (hM : v (1 + 1) 3 = nI M) (h8 : M ≤ 8) (x : Int32) : Ev γ mL_shelfToCount yL_shelfToCount 32 1 6 [.ref (gz γ + 0), .int x] (Rp γ v) (fun w K => w = some (.int (nz (fdI (fun i => decide (nI (cn (fun j => decide (dueB v 1 N (nI j) (nI i))) M) = x)) M))) ∧ Rp γ v K) := by
  refine Ev.ofJ (by decide) rfl (fun h => by cases h) (Nat.le_of_ble_eq_true rfl) ?_
  refine J.sipush (μ := mL_shelfToCount) (pc := 0) (v := -1000) dL_shelfToCount_0 (by decide) ?_
  refine J.istore_n (μ := mL_shelfToCount) (pc := 3) dL_shelfToCount_3 (Nat.le_of_ble_eq_true rfl) rfl ?_
  refine J.aload_n (μ := mL_shelfToCount) (pc := 4) dL_shelfToCount_4 rfl ?_
  refine J.iload_n (μ := mL_shelfToCount) (pc := 5) dL_shelfToCount_5 rfl ?_
  refine J.callVx (μ := mL_shelfToCount) (pc := 6) (s_X11_shelfToCount hN h20 hM h8 _) rfl wm_L_35 mi_X11_shelfToCount rfl dL_shelfToCount_6 (Rp.isa (T := TX11) rfl sh0) rfl rfl ⟨(Nat.le_of_ble_eq_true rfl), (Nat.le_of_ble_eq_true rfl)⟩ ⟨(Nat.le_of_ble_eq_true rfl), (Nat.le_of_ble_eq_true rfl)⟩ (Nat.le_of_ble_eq_true rfl) (fun E => JX.and fun h1 => JX.and fun h2 => ?_) (fun w => J.and fun e9 => J.and fun h1 => ?_)
  · subst h2
    rw [nz_n h1]
    refine JX.catch (μ := mL_shelfToCount) (pc := 6) (own := RL) (name := nsC) [] ⟨4, 10, 13, 30⟩ [] rfl rfl (fun _ h => absurd h List.not_mem_nil) rfl (by decide) wk_L_30 cs_ns (fun q => ?_)
    refine J.astore_n (μ := mL_shelfToCount) (pc := 13) dL_shelfToCount_13 (Nat.le_of_ble_eq_true rfl) rfl ?_
    refine J.sipush (μ := mL_shelfToCount) (pc := 14) (v := -1000) dL_shelfToCount_14 (by decide) ?_
    exact J.iret (μ := mL_shelfToCount) (pc := 17) dL_shelfToCount_17 rfl (Nat.le_of_ble_eq_true rfl) (Nat.le_of_ble_eq_true rfl) (fun H h => ⟨rfl, h⟩)
  · subst e9
    rw [nz_p h1]
    refine J.istore_n (μ := mL_shelfToCount) (pc := 9) dL_shelfToCount_9 (Nat.le_of_ble_eq_true rfl) rfl ?_
    refine J.goto (μ := mL_shelfToCount) (pc := 10) 18 dL_shelfToCount_10 (by decide) ?_
    refine J.iload_n (μ := mL_shelfToCount) (pc := 18) dL_shelfToCount_18 rfl ?_
    exact J.iret (μ := mL_shelfToCount) (pc := 19) dL_shelfToCount_19 rfl (Nat.le_of_ble_eq_true rfl) (Nat.le_of_ble_eq_true rfl) (fun H h => ⟨rfl, h⟩)

theorem l_shelfFor {γ : Gm} {v : Vs} {N : Nat} (hN : v (1 + 8) 7 = nI N) (h20 : N ≤ 20) {M : Nat} (hM : v (1 + 1) 3 = nI M) (h8 : M ≤ 8) {z y : Int32} (hz : 0 ≤ z ∧ z ≤ 2) (hw : 1 ≤ y ∧ y ≤ 40) : Ev γ mL_shelfFor yL_shelfFor 32 1 6 [.ref (gz γ + 0), .int z, .int y] (Rp γ v) (fun w K => w = some (.int (nz ((pfs v 1 N z y (-1) (-1) M).1))) ∧ Rp γ v K) := by
  refine Ev.ofJ (by decide) rfl (fun h => by cases h) (Nat.le_of_ble_eq_true rfl) ?_
  refine J.sipush (μ := mL_shelfFor) (pc := 0) (v := -1000) dL_shelfFor_0 (by decide) ?_
  refine J.istore_n (μ := mL_shelfFor) (pc := 3) dL_shelfFor_3 (Nat.le_of_ble_eq_true rfl) rfl ?_
  refine J.aload_n (μ := mL_shelfFor) (pc := 4) dL_shelfFor_4 rfl ?_
  refine J.iload_n (μ := mL_shelfFor) (pc := 5) dL_shelfFor_5 rfl ?_
  refine J.iload_n (μ := mL_shelfFor) (pc := 6) dL_shelfFor_6 rfl ?_
  refine J.callVx (μ := mL_shelfFor) (pc := 7) (s_X11_shelfFor hN h20 hM h8 hz hw) rfl wm_L_27 mi_X11_shelfFor rfl dL_shelfFor_7 (Rp.isa (T := TX11) rfl sh0) rfl rfl ⟨(Nat.le_of_ble_eq_true rfl), (Nat.le_of_ble_eq_true rfl)⟩ ⟨(Nat.le_of_ble_eq_true rfl), (Nat.le_of_ble_eq_true rfl)⟩ (Nat.le_of_ble_eq_true rfl) (fun E => JX.and fun h1 => JX.and fun h2 => ?_) (fun w => J.and fun e9 => J.and fun h1 => ?_)
  · subst h2
    rw [nz_n h1]
    refine JX.catch (μ := mL_shelfFor) (pc := 7) (own := RL) (name := nsC) [⟨4, 11, 14, 17⟩] ⟨4, 11, 20, 30⟩ [] rfl rfl (List.forall_mem_cons.mpr ⟨.inr ⟨by decide, _, wk_L_17, nc_ns_ia⟩, fun _ h => absurd h List.not_mem_nil⟩) rfl (by decide) wk_L_30 cs_ns (fun q => ?_)
    refine J.astore (μ := mL_shelfFor) (pc := 20) dL_shelfFor_20 (Nat.le_of_ble_eq_true rfl) rfl ?_
    refine J.sipush (μ := mL_shelfFor) (pc := 22) (v := -1000) dL_shelfFor_22 (by decide) ?_
    exact J.iret (μ := mL_shelfFor) (pc := 25) dL_shelfFor_25 rfl (Nat.le_of_ble_eq_true rfl) (Nat.le_of_ble_eq_true rfl) (fun H h => ⟨rfl, h⟩)
  · subst e9
    rw [nz_p h1]
    refine J.istore_n (μ := mL_shelfFor) (pc := 10) dL_shelfFor_10 (Nat.le_of_ble_eq_true rfl) rfl ?_
    refine J.goto (μ := mL_shelfFor) (pc := 11) 26 dL_shelfFor_11 (by decide) ?_
    refine J.iload_n (μ := mL_shelfFor) (pc := 26) dL_shelfFor_26 rfl ?_
    exact J.iret (μ := mL_shelfFor) (pc := 27) dL_shelfFor_27 rfl (Nat.le_of_ble_eq_true rfl) (Nat.le_of_ble_eq_true rfl) (fun H h => ⟨rfl, h⟩)

theorem l_shelfOf {γ : Gm} {v : Vs} {x : Int32} (h : hasL v 1 x) : Ev γ mL_shelfOf yL_shelfOf 32 1 6 [.ref (gz γ + 0), .int x] (Rp γ v) (fun w K => w = some (.int (nz (gPl v 1 x))) ∧ Rp γ v K) := by
  refine Ev.ofJ (by decide) rfl (fun h => by cases h) (Nat.le_of_ble_eq_true rfl) ?_
  refine J.sipush (μ := mL_shelfOf) (pc := 0) (v := -1000) dL_shelfOf_0 (by decide) ?_
  refine J.istore_n (μ := mL_shelfOf) (pc := 3) dL_shelfOf_3 (Nat.le_of_ble_eq_true rfl) rfl ?_
  refine J.aload_n (μ := mL_shelfOf) (pc := 4) dL_shelfOf_4 rfl ?_
  refine J.iload_n (μ := mL_shelfOf) (pc := 5) dL_shelfOf_5 rfl ?_
  refine J.callVx (μ := mL_shelfOf) (pc := 6) (s_X11_shelfOf h) rfl wm_L_57 mi_X11_shelfOf rfl dL_shelfOf_6 (Rp.isa (T := TX11) rfl sh0) rfl rfl ⟨(Nat.le_of_ble_eq_true rfl), (Nat.le_of_ble_eq_true rfl)⟩ ⟨(Nat.le_of_ble_eq_true rfl), (Nat.le_of_ble_eq_true rfl)⟩ (Nat.le_of_ble_eq_true rfl) (fun E => JX.and fun h1 => JX.and fun h2 => ?_) (fun w => J.and fun e9 => J.and fun h1 => ?_)
  · subst h2
    rw [nz_n h1]
    refine JX.catch (μ := mL_shelfOf) (pc := 6) (own := RL) (name := nsC) [] ⟨4, 10, 13, 30⟩ [] rfl rfl (fun _ h => absurd h List.not_mem_nil) rfl (by decide) wk_L_30 cs_ns (fun q => ?_)
    refine J.astore_n (μ := mL_shelfOf) (pc := 13) dL_shelfOf_13 (Nat.le_of_ble_eq_true rfl) rfl ?_
    refine J.sipush (μ := mL_shelfOf) (pc := 14) (v := -1000) dL_shelfOf_14 (by decide) ?_
    exact J.iret (μ := mL_shelfOf) (pc := 17) dL_shelfOf_17 rfl (Nat.le_of_ble_eq_true rfl) (Nat.le_of_ble_eq_true rfl) (fun H h => ⟨rfl, h⟩)
  · subst e9
    rw [nz_p h1]
    refine J.istore_n (μ := mL_shelfOf) (pc := 9) dL_shelfOf_9 (Nat.le_of_ble_eq_true rfl) rfl ?_
    refine J.goto (μ := mL_shelfOf) (pc := 10) 18 dL_shelfOf_10 (by decide) ?_
    refine J.iload_n (μ := mL_shelfOf) (pc := 18) dL_shelfOf_18 rfl ?_
    exact J.iret (μ := mL_shelfOf) (pc := 19) dL_shelfOf_19 rfl (Nat.le_of_ble_eq_true rfl) (Nat.le_of_ble_eq_true rfl) (fun H h => ⟨rfl, h⟩)

theorem l_firstToShip {γ : Gm} {v : Vs} {N : Nat} (hN : v (1 + 8) 7 = nI N) (h20 : N ≤ 20) {x : Int32} (h : 0 ≤ x ∧ x ≤ 5) : Ev γ mL_firstToShip yL_firstToShip 32 1 6 [.ref (gz γ + 0), .int x] (Rp γ v) (fun w K => w = some (.int (nz (esh v 1 x N))) ∧ Rp γ v K) := by
  refine Ev.ofJ (by decide) rfl (fun h => by cases h) (Nat.le_of_ble_eq_true rfl) ?_
  refine J.sipush (μ := mL_firstToShip) (pc := 0) (v := -1000) dL_firstToShip_0 (by decide) ?_
  refine J.istore_n (μ := mL_firstToShip) (pc := 3) dL_firstToShip_3 (Nat.le_of_ble_eq_true rfl) rfl ?_
  refine J.aload_n (μ := mL_firstToShip) (pc := 4) dL_firstToShip_4 rfl ?_
  refine J.iload_n (μ := mL_firstToShip) (pc := 5) dL_firstToShip_5 rfl ?_
  refine J.callVx (μ := mL_firstToShip) (pc := 6) (s_X11_firstToShip hN h20 h) rfl wm_L_60 mi_X11_firstToShip rfl dL_firstToShip_6 (Rp.isa (T := TX11) rfl sh0) rfl rfl ⟨(Nat.le_of_ble_eq_true rfl), (Nat.le_of_ble_eq_true rfl)⟩ ⟨(Nat.le_of_ble_eq_true rfl), (Nat.le_of_ble_eq_true rfl)⟩ (Nat.le_of_ble_eq_true rfl) (fun E => JX.and fun h1 => JX.and fun h2 => ?_) (fun w => J.and fun e9 => J.and fun h1 => ?_)
  · subst h2
    rw [nz_n h1]
    refine JX.catch (μ := mL_firstToShip) (pc := 6) (own := RL) (name := nsC) [⟨4, 10, 13, 17⟩] ⟨4, 10, 18, 30⟩ [] rfl rfl (List.forall_mem_cons.mpr ⟨.inr ⟨by decide, _, wk_L_17, nc_ns_ia⟩, fun _ h => absurd h List.not_mem_nil⟩) rfl (by decide) wk_L_30 cs_ns (fun q => ?_)
    refine J.astore_n (μ := mL_firstToShip) (pc := 18) dL_firstToShip_18 (Nat.le_of_ble_eq_true rfl) rfl ?_
    refine J.sipush (μ := mL_firstToShip) (pc := 19) (v := -1000) dL_firstToShip_19 (by decide) ?_
    exact J.iret (μ := mL_firstToShip) (pc := 22) dL_firstToShip_22 rfl (Nat.le_of_ble_eq_true rfl) (Nat.le_of_ble_eq_true rfl) (fun H h => ⟨rfl, h⟩)
  · subst e9
    rw [nz_p h1]
    refine J.istore_n (μ := mL_firstToShip) (pc := 9) dL_firstToShip_9 (Nat.le_of_ble_eq_true rfl) rfl ?_
    refine J.goto (μ := mL_firstToShip) (pc := 10) 23 dL_firstToShip_10 (by decide) ?_
    refine J.iload_n (μ := mL_firstToShip) (pc := 23) dL_firstToShip_23 rfl ?_
    exact J.iret (μ := mL_firstToShip) (pc := 24) dL_firstToShip_24 rfl (Nat.le_of_ble_eq_true rfl) (Nat.le_of_ble_eq_true rfl) (fun H h => ⟨rfl, h⟩)

theorem l_lotByExpiry {γ : Gm} {v : Vs} {N : Nat} (hN : v (1 + 8) 7 = nI N) (h20 : N ≤ 20) (x : Int32) : Ev γ mL_lotByExpiry yL_lotByExpiry 32 1 6 [.ref (gz γ + 0), .int x] (Rp γ v) (fun w K => w = some (.int (nz (fdI (fun i => decide (0 ≤ gPl v 1 (nI i) ∧ nI (cn (fun j => decide (0 ≤ gPl v 1 (nI j) ∧ expB v 1 (nI j) (nI i))) N) = x)) N))) ∧ Rp γ v K) := by
  refine Ev.ofJ (by decide) rfl (fun h => by cases h) (Nat.le_of_ble_eq_true rfl) ?_
  refine J.sipush (μ := mL_lotByExpiry) (pc := 0) (v := -1000) dL_lotByExpiry_0 (by decide) ?_
  refine J.istore_n (μ := mL_lotByExpiry) (pc := 3) dL_lotByExpiry_3 (Nat.le_of_ble_eq_true rfl) rfl ?_
  refine J.aload_n (μ := mL_lotByExpiry) (pc := 4) dL_lotByExpiry_4 rfl ?_
  refine J.iload_n (μ := mL_lotByExpiry) (pc := 5) dL_lotByExpiry_5 rfl ?_
  refine J.callVx (μ := mL_lotByExpiry) (pc := 6) (s_X11_lotByExpiry hN h20 _) rfl wm_L_63 mi_X11_lotByExpiry rfl dL_lotByExpiry_6 (Rp.isa (T := TX11) rfl sh0) rfl rfl ⟨(Nat.le_of_ble_eq_true rfl), (Nat.le_of_ble_eq_true rfl)⟩ ⟨(Nat.le_of_ble_eq_true rfl), (Nat.le_of_ble_eq_true rfl)⟩ (Nat.le_of_ble_eq_true rfl) (fun E => JX.and fun h1 => JX.and fun h2 => ?_) (fun w => J.and fun e9 => J.and fun h1 => ?_)
  · subst h2
    rw [nz_n h1]
    refine JX.catch (μ := mL_lotByExpiry) (pc := 6) (own := RL) (name := nsC) [] ⟨4, 10, 13, 30⟩ [] rfl rfl (fun _ h => absurd h List.not_mem_nil) rfl (by decide) wk_L_30 cs_ns (fun q => ?_)
    refine J.astore_n (μ := mL_lotByExpiry) (pc := 13) dL_lotByExpiry_13 (Nat.le_of_ble_eq_true rfl) rfl ?_
    refine J.sipush (μ := mL_lotByExpiry) (pc := 14) (v := -1000) dL_lotByExpiry_14 (by decide) ?_
    exact J.iret (μ := mL_lotByExpiry) (pc := 17) dL_lotByExpiry_17 rfl (Nat.le_of_ble_eq_true rfl) (Nat.le_of_ble_eq_true rfl) (fun H h => ⟨rfl, h⟩)
  · subst e9
    rw [nz_p h1]
    refine J.istore_n (μ := mL_lotByExpiry) (pc := 9) dL_lotByExpiry_9 (Nat.le_of_ble_eq_true rfl) rfl ?_
    refine J.goto (μ := mL_lotByExpiry) (pc := 10) 18 dL_lotByExpiry_10 (by decide) ?_
    refine J.iload_n (μ := mL_lotByExpiry) (pc := 18) dL_lotByExpiry_18 rfl ?_
    exact J.iret (μ := mL_lotByExpiry) (pc := 19) dL_lotByExpiry_19 rfl (Nat.le_of_ble_eq_true rfl) (Nat.le_of_ble_eq_true rfl) (fun H h => ⟨rfl, h⟩)

theorem l_nextCompost {γ : Gm} {v : Vs}  : Ev γ mL_nextCompost yL_nextCompost 32 1 6 [.ref (gz γ + 0)] (Rp γ v) (fun w K => w = some (.int (nz (if 0 < v (1 + 23) 1 then gHp v 1 0 else -1))) ∧ Rp γ v K) := by
  refine Ev.ofJ (by decide) rfl (fun h => by cases h) (Nat.le_of_ble_eq_true rfl) ?_
  refine J.sipush (μ := mL_nextCompost) (pc := 0) (v := -1000) dL_nextCompost_0 (by decide) ?_
  refine J.istore_n (μ := mL_nextCompost) (pc := 3) dL_nextCompost_3 (Nat.le_of_ble_eq_true rfl) rfl ?_
  refine J.aload_n (μ := mL_nextCompost) (pc := 4) dL_nextCompost_4 rfl ?_
  refine J.callVx (μ := mL_nextCompost) (pc := 5) (s_X11_nextCompost) rfl wm_L_70 mi_X11_nextCompost rfl dL_nextCompost_5 (Rp.isa (T := TX11) rfl sh0) rfl rfl ⟨(Nat.le_of_ble_eq_true rfl), (Nat.le_of_ble_eq_true rfl)⟩ ⟨(Nat.le_of_ble_eq_true rfl), (Nat.le_of_ble_eq_true rfl)⟩ (Nat.le_of_ble_eq_true rfl) (fun E => JX.and fun h1 => JX.and fun h2 => ?_) (fun w => J.and fun e9 => J.and fun h1 => ?_)
  · subst h2
    rw [nz_n h1]
    refine JX.catch (μ := mL_nextCompost) (pc := 5) (own := RL) (name := nsC) [] ⟨4, 9, 12, 30⟩ [] rfl rfl (fun _ h => absurd h List.not_mem_nil) rfl (by decide) wk_L_30 cs_ns (fun q => ?_)
    refine J.astore_n (μ := mL_nextCompost) (pc := 12) dL_nextCompost_12 (Nat.le_of_ble_eq_true rfl) rfl ?_
    refine J.sipush (μ := mL_nextCompost) (pc := 13) (v := -1000) dL_nextCompost_13 (by decide) ?_
    exact J.iret (μ := mL_nextCompost) (pc := 16) dL_nextCompost_16 rfl (Nat.le_of_ble_eq_true rfl) (Nat.le_of_ble_eq_true rfl) (fun H h => ⟨rfl, h⟩)
  · subst e9
    rw [nz_p h1]
    refine J.istore_n (μ := mL_nextCompost) (pc := 8) dL_nextCompost_8 (Nat.le_of_ble_eq_true rfl) rfl ?_
    refine J.goto (μ := mL_nextCompost) (pc := 9) 17 dL_nextCompost_9 (by decide) ?_
    refine J.iload_n (μ := mL_nextCompost) (pc := 17) dL_nextCompost_17 rfl ?_
    exact J.iret (μ := mL_nextCompost) (pc := 18) dL_nextCompost_18 rfl (Nat.le_of_ble_eq_true rfl) (Nat.le_of_ble_eq_true rfl) (fun H h => ⟨rfl, h⟩)

theorem l_nextCompostByScan {γ : Gm} {v : Vs} {N : Nat} (hN : v (1 + 8) 7 = nI N) (h20 : N ≤ 20) : Ev γ mL_nextCompostByScan yL_nextCompostByScan 32 1 6 [.ref (gz γ + 0)] (Rp γ v) (fun w K => w = some (.int (nz (fsc v 1 N))) ∧ Rp γ v K) := by
  refine Ev.ofJ (by decide) rfl (fun h => by cases h) (Nat.le_of_ble_eq_true rfl) ?_
  refine J.sipush (μ := mL_nextCompostByScan) (pc := 0) (v := -1000) dL_nextCompostByScan_0 (by decide) ?_
  refine J.istore_n (μ := mL_nextCompostByScan) (pc := 3) dL_nextCompostByScan_3 (Nat.le_of_ble_eq_true rfl) rfl ?_
  refine J.aload_n (μ := mL_nextCompostByScan) (pc := 4) dL_nextCompostByScan_4 rfl ?_
  refine J.callVx (μ := mL_nextCompostByScan) (pc := 5) (s_X11_nextCompostByScan hN h20) rfl wm_L_73 mi_X11_nextCompostByScan rfl dL_nextCompostByScan_5 (Rp.isa (T := TX11) rfl sh0) rfl rfl ⟨(Nat.le_of_ble_eq_true rfl), (Nat.le_of_ble_eq_true rfl)⟩ ⟨(Nat.le_of_ble_eq_true rfl), (Nat.le_of_ble_eq_true rfl)⟩ (Nat.le_of_ble_eq_true rfl) (fun E => JX.and fun h1 => JX.and fun h2 => ?_) (fun w => J.and fun e9 => J.and fun h1 => ?_)
  · subst h2
    rw [nz_n h1]
    refine JX.catch (μ := mL_nextCompostByScan) (pc := 5) (own := RL) (name := nsC) [] ⟨4, 9, 12, 30⟩ [] rfl rfl (fun _ h => absurd h List.not_mem_nil) rfl (by decide) wk_L_30 cs_ns (fun q => ?_)
    refine J.astore_n (μ := mL_nextCompostByScan) (pc := 12) dL_nextCompostByScan_12 (Nat.le_of_ble_eq_true rfl) rfl ?_
    refine J.sipush (μ := mL_nextCompostByScan) (pc := 13) (v := -1000) dL_nextCompostByScan_13 (by decide) ?_
    exact J.iret (μ := mL_nextCompostByScan) (pc := 16) dL_nextCompostByScan_16 rfl (Nat.le_of_ble_eq_true rfl) (Nat.le_of_ble_eq_true rfl) (fun H h => ⟨rfl, h⟩)
  · subst e9
    rw [nz_p h1]
    refine J.istore_n (μ := mL_nextCompostByScan) (pc := 8) dL_nextCompostByScan_8 (Nat.le_of_ble_eq_true rfl) rfl ?_
    refine J.goto (μ := mL_nextCompostByScan) (pc := 9) 17 dL_nextCompostByScan_9 (by decide) ?_
    refine J.iload_n (μ := mL_nextCompostByScan) (pc := 17) dL_nextCompostByScan_17 rfl ?_
    exact J.iret (μ := mL_nextCompostByScan) (pc := 18) dL_nextCompostByScan_18 rfl (Nat.le_of_ble_eq_true rfl) (Nat.le_of_ble_eq_true rfl) (fun H h => ⟨rfl, h⟩)

theorem l_denial {γ : Gm} {v : Vs}  : Ev γ mL_denial yL_denial 32 1 6 [.ref (gz γ + 0)] (Rp γ v) (fun w K => w = some (.int (nz (v 0 10))) ∧ Rp γ v K) := by
  refine Ev.ofJ (by decide) rfl (fun h => by cases h) (Nat.le_of_ble_eq_true rfl) ?_
  refine J.sipush (μ := mL_denial) (pc := 0) (v := -1000) dL_denial_0 (by decide) ?_
  refine J.istore_n (μ := mL_denial) (pc := 3) dL_denial_3 (Nat.le_of_ble_eq_true rfl) rfl ?_
  refine J.aload_n (μ := mL_denial) (pc := 4) dL_denial_4 rfl ?_
  refine J.callVx (μ := mL_denial) (pc := 5) (s_X11_denial) rfl wm_L_95 mi_X11_denial rfl dL_denial_5 (Rp.isa (T := TX11) rfl sh0) rfl rfl ⟨(Nat.le_of_ble_eq_true rfl), (Nat.le_of_ble_eq_true rfl)⟩ ⟨(Nat.le_of_ble_eq_true rfl), (Nat.le_of_ble_eq_true rfl)⟩ (Nat.le_of_ble_eq_true rfl) (fun E => JX.and fun h1 => JX.and fun h2 => ?_) (fun w => J.and fun e9 => J.and fun h1 => ?_)
  · subst h2
    rw [nz_n h1]
    refine JX.catch (μ := mL_denial) (pc := 5) (own := RL) (name := nsC) [] ⟨4, 9, 12, 30⟩ [] rfl rfl (fun _ h => absurd h List.not_mem_nil) rfl (by decide) wk_L_30 cs_ns (fun q => ?_)
    refine J.astore_n (μ := mL_denial) (pc := 12) dL_denial_12 (Nat.le_of_ble_eq_true rfl) rfl ?_
    refine J.sipush (μ := mL_denial) (pc := 13) (v := -1000) dL_denial_13 (by decide) ?_
    exact J.iret (μ := mL_denial) (pc := 16) dL_denial_16 rfl (Nat.le_of_ble_eq_true rfl) (Nat.le_of_ble_eq_true rfl) (fun H h => ⟨rfl, h⟩)
  · subst e9
    rw [nz_p h1]
    refine J.istore_n (μ := mL_denial) (pc := 8) dL_denial_8 (Nat.le_of_ble_eq_true rfl) rfl ?_
    refine J.goto (μ := mL_denial) (pc := 9) 17 dL_denial_9 (by decide) ?_
    refine J.iload_n (μ := mL_denial) (pc := 17) dL_denial_17 rfl ?_
    exact J.iret (μ := mL_denial) (pc := 18) dL_denial_18 rfl (Nat.le_of_ble_eq_true rfl) (Nat.le_of_ble_eq_true rfl) (fun H h => ⟨rfl, h⟩)

theorem l_denialCause {γ : Gm} {v : Vs}  : Ev γ mL_denialCause yL_denialCause 32 1 6 [.ref (gz γ + 0)] (Rp γ v) (fun w K => w = some (.int (nz (v 0 12))) ∧ Rp γ v K) := by
  refine Ev.ofJ (by decide) rfl (fun h => by cases h) (Nat.le_of_ble_eq_true rfl) ?_
  refine J.sipush (μ := mL_denialCause) (pc := 0) (v := -1000) dL_denialCause_0 (by decide) ?_
  refine J.istore_n (μ := mL_denialCause) (pc := 3) dL_denialCause_3 (Nat.le_of_ble_eq_true rfl) rfl ?_
  refine J.aload_n (μ := mL_denialCause) (pc := 4) dL_denialCause_4 rfl ?_
  refine J.callVx (μ := mL_denialCause) (pc := 5) (s_X11_denialCause) rfl wm_L_98 mi_X11_denialCause rfl dL_denialCause_5 (Rp.isa (T := TX11) rfl sh0) rfl rfl ⟨(Nat.le_of_ble_eq_true rfl), (Nat.le_of_ble_eq_true rfl)⟩ ⟨(Nat.le_of_ble_eq_true rfl), (Nat.le_of_ble_eq_true rfl)⟩ (Nat.le_of_ble_eq_true rfl) (fun E => JX.and fun h1 => JX.and fun h2 => ?_) (fun w => J.and fun e9 => J.and fun h1 => ?_)
  · subst h2
    rw [nz_n h1]
    refine JX.catch (μ := mL_denialCause) (pc := 5) (own := RL) (name := nsC) [] ⟨4, 9, 12, 30⟩ [] rfl rfl (fun _ h => absurd h List.not_mem_nil) rfl (by decide) wk_L_30 cs_ns (fun q => ?_)
    refine J.astore_n (μ := mL_denialCause) (pc := 12) dL_denialCause_12 (Nat.le_of_ble_eq_true rfl) rfl ?_
    refine J.sipush (μ := mL_denialCause) (pc := 13) (v := -1000) dL_denialCause_13 (by decide) ?_
    exact J.iret (μ := mL_denialCause) (pc := 16) dL_denialCause_16 rfl (Nat.le_of_ble_eq_true rfl) (Nat.le_of_ble_eq_true rfl) (fun H h => ⟨rfl, h⟩)
  · subst e9
    rw [nz_p h1]
    refine J.istore_n (μ := mL_denialCause) (pc := 8) dL_denialCause_8 (Nat.le_of_ble_eq_true rfl) rfl ?_
    refine J.goto (μ := mL_denialCause) (pc := 9) 17 dL_denialCause_9 (by decide) ?_
    refine J.iload_n (μ := mL_denialCause) (pc := 17) dL_denialCause_17 rfl ?_
    exact J.iret (μ := mL_denialCause) (pc := 18) dL_denialCause_18 rfl (Nat.le_of_ble_eq_true rfl) (Nat.le_of_ble_eq_true rfl) (fun H h => ⟨rfl, h⟩)

theorem l_undo {γ : Gm} {v : Vs} {N M H n s : Nat} (h : OK v N M H n s) : Ev γ mL_undo yL_undo 32 1 6 [.ref (gz γ + 0)] (Rp γ v) (fun w K => ∃ (r : Int32) (u : Vs), (w = some (.int r) ∧ ((s ≠ 0 ∧ r = nI (s - 1) ∧ u = giveV v n s) ∨ (s = 0 ∧ r = -100000000 ∧ u = v))) ∧ Rp γ u K) := by
  refine Ev.ofJ (by decide) rfl (fun h => by cases h) (Nat.le_of_ble_eq_true rfl) ?_
  refine J.ldc (μ := mL_undo) (pc := 0) rfl wo_L_10 dL_undo_0 ?_
  refine J.istore_n (μ := mL_undo) (pc := 2) dL_undo_2 (Nat.le_of_ble_eq_true rfl) rfl ?_
  refine J.aload_n (μ := mL_undo) (pc := 3) dL_undo_3 rfl ?_
  refine J.callVx (μ := mL_undo) (pc := 4) (s_X11_undo h) rfl wm_L_101 mi_X11_undo rfl dL_undo_4 (Rp.isa (T := TX11) rfl sh0) rfl rfl ⟨(Nat.le_of_ble_eq_true rfl), (Nat.le_of_ble_eq_true rfl)⟩ ⟨(Nat.le_of_ble_eq_true rfl), (Nat.le_of_ble_eq_true rfl)⟩ (Nat.le_of_ble_eq_true rfl) (fun E => JX.and fun h1 => JX.and fun h2 => ?_) (fun w => J.and fun h1 => J.and fun e9 => ?_)
  · subst h2
    refine JX.catch (μ := mL_undo) (pc := 4) (own := RL) (name := isE) [] ⟨3, 8, 11, 104⟩ [] rfl rfl (fun _ h => absurd h List.not_mem_nil) rfl (by decide) wk_L_104 cs_is (fun q => ?_)
    refine J.astore_n (μ := mL_undo) (pc := 11) dL_undo_11 (Nat.le_of_ble_eq_true rfl) rfl ?_
    refine J.ldc (μ := mL_undo) (pc := 12) rfl wo_L_10 dL_undo_12 ?_
    exact J.iret (μ := mL_undo) (pc := 14) dL_undo_14 rfl (Nat.le_of_ble_eq_true rfl) (Nat.le_of_ble_eq_true rfl) (fun K k => ⟨_, _, ⟨rfl, .inr ⟨h1, rfl, rfl⟩⟩, k⟩)
  · subst e9
    refine J.istore_n (μ := mL_undo) (pc := 7) dL_undo_7 (Nat.le_of_ble_eq_true rfl) rfl ?_
    refine J.goto (μ := mL_undo) (pc := 8) 15 dL_undo_8 (by decide) ?_
    refine J.iload_n (μ := mL_undo) (pc := 15) dL_undo_15 rfl ?_
    exact J.iret (μ := mL_undo) (pc := 16) dL_undo_16 rfl (Nat.le_of_ble_eq_true rfl) (Nat.le_of_ble_eq_true rfl) (fun K k => ⟨_, _, ⟨rfl, .inl ⟨h1, rfl, rfl⟩⟩, k⟩)

theorem l_restore {γ : Gm} {v : Vs}  : Ev γ mL_restore yL_restore 32 1 6 [.ref (gz γ + 0)] (Rp γ v) (fun w K => ∃ (r : Int32) (u : Vs), (w = some (.int r) ∧ ((v 0 9 ≠ 0 ∧ r = v (53 + 8) 7 ∧ u = restV v) ∨ (v 0 9 = 0 ∧ r = -100000000 ∧ u = v))) ∧ Rp γ u K) := by
  refine Ev.ofJ (by decide) rfl (fun h => by cases h) (Nat.le_of_ble_eq_true rfl) ?_
  refine J.ldc (μ := mL_restore) (pc := 0) rfl wo_L_10 dL_restore_0 ?_
  refine J.istore_n (μ := mL_restore) (pc := 2) dL_restore_2 (Nat.le_of_ble_eq_true rfl) rfl ?_
  refine J.aload_n (μ := mL_restore) (pc := 3) dL_restore_3 rfl ?_
  refine J.callVx (μ := mL_restore) (pc := 4) (s_X11_restoreSnapshot) rfl wm_L_106 mi_X11_restoreSnapshot rfl dL_restore_4 (Rp.isa (T := TX11) rfl sh0) rfl rfl ⟨(Nat.le_of_ble_eq_true rfl), (Nat.le_of_ble_eq_true rfl)⟩ ⟨(Nat.le_of_ble_eq_true rfl), (Nat.le_of_ble_eq_true rfl)⟩ (Nat.le_of_ble_eq_true rfl) (fun E => JX.and fun h1 => JX.and fun h2 => ?_) (fun w => J.and fun h1 => J.and fun e9 => ?_)
  · subst h2
    refine JX.catch (μ := mL_restore) (pc := 4) (own := RL) (name := isE) [] ⟨3, 8, 11, 104⟩ [] rfl rfl (fun _ h => absurd h List.not_mem_nil) rfl (by decide) wk_L_104 cs_is (fun q => ?_)
    refine J.astore_n (μ := mL_restore) (pc := 11) dL_restore_11 (Nat.le_of_ble_eq_true rfl) rfl ?_
    refine J.ldc (μ := mL_restore) (pc := 12) rfl wo_L_10 dL_restore_12 ?_
    exact J.iret (μ := mL_restore) (pc := 14) dL_restore_14 rfl (Nat.le_of_ble_eq_true rfl) (Nat.le_of_ble_eq_true rfl) (fun K k => ⟨_, _, ⟨rfl, .inr ⟨h1, rfl, rfl⟩⟩, k⟩)
  · subst e9
    refine J.istore_n (μ := mL_restore) (pc := 7) dL_restore_7 (Nat.le_of_ble_eq_true rfl) rfl ?_
    refine J.goto (μ := mL_restore) (pc := 8) 15 dL_restore_8 (by decide) ?_
    refine J.iload_n (μ := mL_restore) (pc := 15) dL_restore_15 rfl ?_
    exact J.iret (μ := mL_restore) (pc := 16) dL_restore_16 rfl (Nat.le_of_ble_eq_true rfl) (Nat.le_of_ble_eq_true rfl) (fun K k => ⟨_, _, ⟨rfl, .inl ⟨h1, rfl, rfl⟩⟩, k⟩)

theorem l_execute {γ : Gm} {v : Vs} {t : List Nat} (ht : tx v t) {T : Nat} (hT : T ≤ 900000000) (hS : SI T v 1) {n s : Nat} (hn : v 79 1 = nI n) (hn8 : n < 8) (hs : v 79 2 = nI s) (hs8 : s ≤ 8) : Ev γ mL_execute yL_execute 32 1 6 [.ref (gz γ + 0)] (Rp γ v) (fun w K => ∃ (r : Int32) (u0 u : Vs), (w = some (.int r) ∧ Dr v u0 ∧ ((∃ l, pz t 60 0 = some l ∧ r = nI l.length ∧ SI (T + 5940) u0 27 ∧ u = exV u0 n s) ∨ (r = -100000000 ∧ u = up2 u0 302 2 0 ∧ (pz t 60 0 ≠ none → u0 0 10 = 8 ∧ 0 < u0 0 12)))) ∧ Rp γ u K) := by
  refine Ev.ofJ (by decide) rfl (fun h => by cases h) (Nat.le_of_ble_eq_true rfl) ?_
  refine J.ldc (μ := mL_execute) (pc := 0) rfl wo_L_10 dL_execute_0 ?_
  refine J.istore_n (μ := mL_execute) (pc := 2) dL_execute_2 (Nat.le_of_ble_eq_true rfl) rfl ?_
  refine J.aload_n (μ := mL_execute) (pc := 3) dL_execute_3 rfl ?_
  refine J.callVx (μ := mL_execute) (pc := 4) (s_X11_execute ht hT hS hn hn8 hs hs8) rfl wm_L_92 mi_X11_execute rfl dL_execute_4 (Rp.isa (T := TX11) rfl sh0) rfl rfl ⟨(Nat.le_of_ble_eq_true rfl), (Nat.le_of_ble_eq_true rfl)⟩ ⟨(Nat.le_of_ble_eq_true rfl), (Nat.le_of_ble_eq_true rfl)⟩ (Nat.le_of_ble_eq_true rfl) (fun E => JX.ex fun u0 => JX.and fun h2 => ?_) (fun w => J.ex fun l => J.ex fun u0 => J.and fun h1 => ?_)
  · rcases h2 with ⟨h2, ⟨h3, h4⟩ | ⟨h3, h4, h5⟩⟩
    · subst h4
      refine JX.catch (μ := mL_execute) (pc := 4) (own := RL) (name := iaE) [] ⟨3, 8, 11, 17⟩ [⟨3, 8, 15, 19⟩] rfl rfl (fun _ h => absurd h List.not_mem_nil) rfl (by decide) wk_L_17 cs_ia (fun q => ?_)
      refine J.astore_n (μ := mL_execute) (pc := 11) dL_execute_11 (Nat.le_of_ble_eq_true rfl) rfl ?_
      refine J.ldc (μ := mL_execute) (pc := 12) rfl wo_L_10 dL_execute_12 ?_
      exact J.iret (μ := mL_execute) (pc := 14) dL_execute_14 rfl (Nat.le_of_ble_eq_true rfl) (Nat.le_of_ble_eq_true rfl) (fun K k => ⟨_, u0, _, ⟨rfl, h2, .inr ⟨rfl, rfl, fun q => absurd h3 q⟩⟩, k⟩)
    · subst h4
      refine JX.catch (μ := mL_execute) (pc := 4) (own := RL) (name := uoE) [⟨3, 8, 11, 17⟩] ⟨3, 8, 15, 19⟩ [] rfl rfl (List.forall_mem_cons.mpr ⟨.inr ⟨by decide, _, wk_L_17, nc_uo_ia⟩, fun _ h => absurd h List.not_mem_nil⟩) rfl (by decide) wk_L_19 cs_uo (fun q => ?_)
      refine J.astore_n (μ := mL_execute) (pc := 15) dL_execute_15 (Nat.le_of_ble_eq_true rfl) rfl ?_
      refine J.ldc (μ := mL_execute) (pc := 16) rfl wo_L_10 dL_execute_16 ?_
      exact J.iret (μ := mL_execute) (pc := 18) dL_execute_18 rfl (Nat.le_of_ble_eq_true rfl) (Nat.le_of_ble_eq_true rfl) (fun K k => ⟨_, u0, _, ⟨rfl, h2, .inr ⟨rfl, rfl, fun _ => h5⟩⟩, k⟩)
  · obtain ⟨h1, e9, h2, h3⟩ := h1
    subst e9
    refine J.istore_n (μ := mL_execute) (pc := 7) dL_execute_7 (Nat.le_of_ble_eq_true rfl) rfl ?_
    refine J.goto (μ := mL_execute) (pc := 8) 19 dL_execute_8 (by decide) ?_
    refine J.iload_n (μ := mL_execute) (pc := 19) dL_execute_19 rfl ?_
    exact J.iret (μ := mL_execute) (pc := 20) dL_execute_20 rfl (Nat.le_of_ble_eq_true rfl) (Nat.le_of_ble_eq_true rfl) (fun K k => ⟨_, u0, _, ⟨rfl, h2, .inl ⟨l, h1, rfl, h3, rfl⟩⟩, k⟩)

theorem l_meanVolume {γ : Gm} {v : Vs} {N : Nat} (hN : v (1 + 8) 7 = nI N) (h20 : N ≤ 20) {S : Nat} (hS : sm (fun i => decide (0 ≤ gPl v 1 (nI i))) (fun i => gVo v 1 (nI i)) N = nI S) (h320 : S ≤ 320) (hc8 : cn (fun i => decide (0 ≤ gPl v 1 (nI i))) N ≤ 8) : Ev γ mL_meanVolume yL_meanVolume 32 1 6 [.ref (gz γ + 0)] (Rp γ v) (fun w K => w = some (.double (if cn (fun i => decide (0 ≤ gPl v 1 (nI i))) N = 0 then 13830554455654793216 else FP.ddiv (FP.i2d (sm (fun i => decide (0 ≤ gPl v 1 (nI i))) (fun i => gVo v 1 (nI i)) N)) (FP.i2d (nI (cn (fun i => decide (0 ≤ gPl v 1 (nI i))) N))))) ∧ Rp γ v K) := by
  refine Ev.ofJ (by decide) rfl (fun h => by cases h) (Nat.le_of_ble_eq_true rfl) ?_
  refine J.ldc2d (μ := mL_meanVolume) (pc := 0) rfl wo_L_79 dL_meanVolume_0 ?_
  refine J.dstore_n (μ := mL_meanVolume) (pc := 3) dL_meanVolume_3 (Nat.le_of_ble_eq_true rfl) rfl ?_
  refine J.aload_n (μ := mL_meanVolume) (pc := 4) dL_meanVolume_4 rfl ?_
  refine J.callVx (μ := mL_meanVolume) (pc := 5) (s_X11_meanVolume hN h20 hS h320 hc8) rfl wm_L_81 mi_X11_meanVolume rfl dL_meanVolume_5 (Rp.isa (T := TX11) rfl sh0) rfl rfl ⟨(Nat.le_of_ble_eq_true rfl), (Nat.le_of_ble_eq_true rfl)⟩ ⟨(Nat.le_of_ble_eq_true rfl), (Nat.le_of_ble_eq_true rfl)⟩ (Nat.le_of_ble_eq_true rfl) (fun E => JX.and fun h1 => JX.and fun h2 => ?_) (fun w => J.and fun h1 => J.and fun e9 => ?_)
  · subst h2
    rw [if_pos h1]
    refine JX.catch (μ := mL_meanVolume) (pc := 5) (own := RL) (name := arE) [] ⟨4, 9, 12, 85⟩ [] rfl rfl (fun _ h => absurd h List.not_mem_nil) rfl (by decide) wk_L_85 cs_ar (fun q => ?_)
    refine J.astore_n (μ := mL_meanVolume) (pc := 12) dL_meanVolume_12 (Nat.le_of_ble_eq_true rfl) rfl ?_
    refine J.ldc2d (μ := mL_meanVolume) (pc := 13) rfl wo_L_79 dL_meanVolume_13 ?_
    exact J.dret (μ := mL_meanVolume) (pc := 16) dL_meanVolume_16 rfl (Nat.le_of_ble_eq_true rfl) (Nat.le_of_ble_eq_true rfl) (fun K k => ⟨rfl, k⟩)
  · subst e9
    rw [if_neg h1]
    refine J.dstore_n (μ := mL_meanVolume) (pc := 8) dL_meanVolume_8 (Nat.le_of_ble_eq_true rfl) rfl ?_
    refine J.goto (μ := mL_meanVolume) (pc := 9) 17 dL_meanVolume_9 (by decide) ?_
    refine J.dload_n (μ := mL_meanVolume) (pc := 17) dL_meanVolume_17 rfl ?_
    exact J.dret (μ := mL_meanVolume) (pc := 18) dL_meanVolume_18 rfl (Nat.le_of_ble_eq_true rfl) (Nat.le_of_ble_eq_true rfl) (fun K k => ⟨rfl, k⟩)

theorem l_expiredShare {γ : Gm} {v : Vs} {N : Nat} (hN : v (1 + 8) 7 = nI N) (h20 : N ≤ 20) (hx8 : cn (fun i => decide (0 ≤ gPl v 1 (nI i) ∧ gEp v 1 (nI i) < v 1 3)) N ≤ 8) (hc8 : cn (fun i => decide (0 ≤ gPl v 1 (nI i))) N ≤ 8) : Ev γ mL_expiredShare yL_expiredShare 32 1 6 [.ref (gz γ + 0)] (Rp γ v) (fun w K => w = some (.float (if cn (fun i => decide (0 ≤ gPl v 1 (nI i))) N = 0 then 3212836864 else FP.fdiv (FP.i2f (nI (cn (fun i => decide (0 ≤ gPl v 1 (nI i) ∧ gEp v 1 (nI i) < v 1 3)) N))) (FP.i2f (nI (cn (fun i => decide (0 ≤ gPl v 1 (nI i))) N))))) ∧ Rp γ v K) := by
  refine Ev.ofJ (by decide) rfl (fun h => by cases h) (Nat.le_of_ble_eq_true rfl) ?_
  refine J.ldcf (μ := mL_expiredShare) (pc := 0) rfl wo_L_87 dL_expiredShare_0 ?_
  refine J.fstore_n (μ := mL_expiredShare) (pc := 2) dL_expiredShare_2 (Nat.le_of_ble_eq_true rfl) rfl ?_
  refine J.aload_n (μ := mL_expiredShare) (pc := 3) dL_expiredShare_3 rfl ?_
  refine J.callVx (μ := mL_expiredShare) (pc := 4) (s_X11_expiredShare hN h20 hx8 hc8) rfl wm_L_88 mi_X11_expiredShare rfl dL_expiredShare_4 (Rp.isa (T := TX11) rfl sh0) rfl rfl ⟨(Nat.le_of_ble_eq_true rfl), (Nat.le_of_ble_eq_true rfl)⟩ ⟨(Nat.le_of_ble_eq_true rfl), (Nat.le_of_ble_eq_true rfl)⟩ (Nat.le_of_ble_eq_true rfl) (fun E => JX.and fun h1 => JX.and fun h2 => ?_) (fun w => J.and fun h1 => J.and fun e9 => ?_)
  · subst h2
    rw [if_pos h1]
    refine JX.catch (μ := mL_expiredShare) (pc := 4) (own := RL) (name := arE) [] ⟨3, 8, 11, 85⟩ [] rfl rfl (fun _ h => absurd h List.not_mem_nil) rfl (by decide) wk_L_85 cs_ar (fun q => ?_)
    refine J.astore_n (μ := mL_expiredShare) (pc := 11) dL_expiredShare_11 (Nat.le_of_ble_eq_true rfl) rfl ?_
    refine J.ldcf (μ := mL_expiredShare) (pc := 12) rfl wo_L_87 dL_expiredShare_12 ?_
    exact J.fret (μ := mL_expiredShare) (pc := 14) dL_expiredShare_14 rfl (Nat.le_of_ble_eq_true rfl) (Nat.le_of_ble_eq_true rfl) (fun K k => ⟨rfl, k⟩)
  · subst e9
    rw [if_neg h1]
    refine J.fstore_n (μ := mL_expiredShare) (pc := 7) dL_expiredShare_7 (Nat.le_of_ble_eq_true rfl) rfl ?_
    refine J.goto (μ := mL_expiredShare) (pc := 8) 15 dL_expiredShare_8 (by decide) ?_
    refine J.fload_n (μ := mL_expiredShare) (pc := 15) dL_expiredShare_15 rfl ?_
    exact J.fret (μ := mL_expiredShare) (pc := 16) dL_expiredShare_16 rfl (Nat.le_of_ble_eq_true rfl) (Nat.le_of_ble_eq_true rfl) (fun K k => ⟨rfl, k⟩)
