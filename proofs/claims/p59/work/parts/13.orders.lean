/-! the stock's orders: which lot ships first, ranks of lots and of shelves -/
abbrev shipP (v : Vs) (o : Nat) (x k : Int32) : Prop := 0 ≤ gPl v o x ∧ gKi v o x = k ∧ ¬ gEp v o x < v o 3
abbrev expB (v : Vs) (o : Nat) (x y : Int32) : Prop := gEp v o x < gEp v o y ∨ gEp v o x = gEp v o y ∧ x < y
abbrev cmpB (v : Vs) (o : Nat) (x y : Int32) : Prop := gVo v o y < gVo v o x ∨ gVo v o x = gVo v o y ∧ (gEp v o x < gEp v o y ∨ gEp v o x = gEp v o y ∧ x < y)

theorem s_X9_isShippable {γ : Gm} {v : Vs} {o : Nat} (ho : IsStk o) (x k : Int32) : Er γ mX9_isShippable yX9_isShippable 2 [.ref (gz γ + o), .int x, .int k] v (.int (bi (decide (shipP v o x k)))) := by
  refine Ev.ofJ (by decide) rfl (fun h => by cases h) (Nat.le_of_ble_eq_true rfl) ?_
  refine J.aload_n (μ := mX9_isShippable) (pc := 0) dX9_isShippable_0 rfl ?_
  refine J.gr (μ := mX9_isShippable) (pc := 1) (T := TX9) (ci := 12) (fks := _) rfl rfl in_X9 1 (by decide) wf_X9_21 dX9_isShippable_1 (ho 0 (by decide)) rfl ?_
  refine J.iload_n (μ := mX9_isShippable) (pc := 4) dX9_isShippable_4 rfl ?_
  refine J.cV (μ := mX9_isShippable) (pc := 5) (s_X5_isShelved ho  _) rfl wm_X9_68 mi_X5_isShelved rfl dX9_isShippable_5 (Rp.isa (T := TX5) rfl (ho 8 (by decide))) rfl rfl ⟨(Nat.le_of_ble_eq_true rfl), (Nat.le_of_ble_eq_true rfl)⟩ ⟨(Nat.le_of_ble_eq_true rfl), (Nat.le_of_ble_eq_true rfl)⟩ (Nat.le_of_ble_eq_true rfl) ?_
  refine J.ifB_eq (μ := mX9_isShippable) (pc := 8) 38 dX9_isShippable_8 (by decide) (fun c5 => ?_) (fun c5 => ?_)
  · refine J.iconst (μ := mX9_isShippable) (pc := 38) (v := 0) dX9_isShippable_38 (by decide) ?_
    exact J.zret (μ := mX9_isShippable) (pc := 39) dX9_isShippable_39 rfl (by first | rfl | decide) (Nat.le_of_ble_eq_true rfl) (Nat.le_of_ble_eq_true rfl) (fun H h => ⟨congrArg some (congrArg Value.int (by first | (simp [bi, *]; done) | (simp [bi, nlt_of_le, nle_of_lt, *]; done) | simp_all [bi, nlt_of_le, nle_of_lt])), h⟩)
  · refine J.aload_n (μ := mX9_isShippable) (pc := 11) dX9_isShippable_11 rfl ?_
    refine J.gr (μ := mX9_isShippable) (pc := 12) (T := TX9) (ci := 12) (fks := _) rfl rfl in_X9 1 (by decide) wf_X9_21 dX9_isShippable_12 (ho 0 (by decide)) rfl ?_
    refine J.gr (μ := mX9_isShippable) (pc := 15) (T := TX5) (ci := 8) (fks := _) rfl rfl in_X5 0 (by decide) wf_X9_92 dX9_isShippable_15 (ho 8 (by decide)) rfl ?_
    refine J.iload_n (μ := mX9_isShippable) (pc := 18) dX9_isShippable_18 rfl ?_
    refine J.cV (μ := mX9_isShippable) (pc := 19) (g_ki ho _) rfl wm_X9_59 mi_X7_get rfl dX9_isShippable_19 (Rp.isa (T := TX7) rfl (ho 9 (by decide))) rfl rfl ⟨(Nat.le_of_ble_eq_true rfl), (Nat.le_of_ble_eq_true rfl)⟩ ⟨(Nat.le_of_ble_eq_true rfl), (Nat.le_of_ble_eq_true rfl)⟩ (Nat.le_of_ble_eq_true rfl) ?_
    refine J.iload_n (μ := mX9_isShippable) (pc := 22) dX9_isShippable_22 rfl ?_
    refine J.icmp_ne (μ := mX9_isShippable) (pc := 23) 38 dX9_isShippable_23 (by decide) (fun c13 => ?_) (fun c13 => ?_)
    · refine J.iconst (μ := mX9_isShippable) (pc := 38) (v := 0) dX9_isShippable_38 (by decide) ?_
      exact J.zret (μ := mX9_isShippable) (pc := 39) dX9_isShippable_39 rfl (by first | rfl | decide) (Nat.le_of_ble_eq_true rfl) (Nat.le_of_ble_eq_true rfl) (fun H h => ⟨congrArg some (congrArg Value.int (by first | (simp [bi, *]; done) | (simp [bi, nlt_of_le, nle_of_lt, *]; done) | simp_all [bi, nlt_of_le, nle_of_lt])), h⟩)
    · refine J.aload_n (μ := mX9_isShippable) (pc := 26) dX9_isShippable_26 rfl ?_
      refine J.iload_n (μ := mX9_isShippable) (pc := 27) dX9_isShippable_27 rfl ?_
      refine J.cV (μ := mX9_isShippable) (pc := 28) (s_X9_hasExpired ho  _) rfl wm_X9_72 mi_X9_hasExpired rfl dX9_isShippable_28 (Rp.isa (T := TX9) rfl (ho 0 (by decide))) rfl rfl ⟨(Nat.le_of_ble_eq_true rfl), (Nat.le_of_ble_eq_true rfl)⟩ ⟨(Nat.le_of_ble_eq_true rfl), (Nat.le_of_ble_eq_true rfl)⟩ (Nat.le_of_ble_eq_true rfl) ?_
      refine J.ifB_ne (μ := mX9_isShippable) (pc := 31) 38 dX9_isShippable_31 (by decide) (fun c18 => ?_) (fun c18 => ?_)
      · refine J.iconst (μ := mX9_isShippable) (pc := 38) (v := 0) dX9_isShippable_38 (by decide) ?_
        exact J.zret (μ := mX9_isShippable) (pc := 39) dX9_isShippable_39 rfl (by first | rfl | decide) (Nat.le_of_ble_eq_true rfl) (Nat.le_of_ble_eq_true rfl) (fun H h => ⟨congrArg some (congrArg Value.int (by first | (simp [bi, *]; done) | (simp [bi, nlt_of_le, nle_of_lt, *]; done) | simp_all [bi, nlt_of_le, nle_of_lt])), h⟩)
      · refine J.iconst (μ := mX9_isShippable) (pc := 34) (v := 1) dX9_isShippable_34 (by decide) ?_
        refine J.goto (μ := mX9_isShippable) (pc := 35) 39 dX9_isShippable_35 (by decide) ?_
        exact J.zret (μ := mX9_isShippable) (pc := 39) dX9_isShippable_39 rfl (by first | rfl | decide) (Nat.le_of_ble_eq_true rfl) (Nat.le_of_ble_eq_true rfl) (fun H h => ⟨congrArg some (congrArg Value.int (by first | (simp [bi, *]; done) | (simp [bi, nlt_of_le, nle_of_lt, *]; done) | simp_all [bi, nlt_of_le, nle_of_lt])), h⟩)

theorem s_X9_shippableVolume {γ : Gm} {v : Vs} {o : Nat} (ho : IsStk o) {N : Nat} (hN : v (o + 8) 7 = nI N) (h20 : N ≤ 20) (k : Int32) : Er γ mX9_shippableVolume yX9_shippableVolume 3 [.ref (gz γ + o), .int k] v (.int (sm (fun i => decide (shipP v o (nI i) k)) (fun i => gVo v o (nI i)) N)) := by
  refine Ev.ofJ (by decide) rfl (fun h => by cases h) (Nat.le_of_ble_eq_true rfl) ?_
  refine J.iconst (μ := mX9_shippableVolume) (pc := 0) (v := 0) dX9_shippableVolume_0 (by decide) ?_
  refine J.istore_n (μ := mX9_shippableVolume) (pc := 1) dX9_shippableVolume_1 (Nat.le_of_ble_eq_true rfl) rfl ?_
  refine J.iconst (μ := mX9_shippableVolume) (pc := 2) (v := 0) dX9_shippableVolume_2 (by decide) ?_
  refine J.istore_n (μ := mX9_shippableVolume) (pc := 3) dX9_shippableVolume_3 (Nat.le_of_ble_eq_true rfl) rfl ?_
  refine J.for (Lf := fun i => [some (.ref (gz γ + o)), some (.int k), some (.int (sm (fun i => decide (shipP v o (nI i) k)) (fun i => gVo v o (nI i)) i)), some (.int (nI i))]) (Pf := fun _ => Rp γ v) N ?_ (fun i hi ih => ?_)
  · refine J.iload_n (μ := mX9_shippableVolume) (pc := 4) dX9_shippableVolume_4 rfl ?_
    refine J.aload_n (μ := mX9_shippableVolume) (pc := 5) dX9_shippableVolume_5 rfl ?_
    refine J.gr (μ := mX9_shippableVolume) (pc := 6) (T := TX9) (ci := 12) (fks := _) rfl rfl in_X9 1 (by decide) wf_X9_21 dX9_shippableVolume_6 (ho 0 (by decide)) rfl ?_
    refine J.gi (μ := mX9_shippableVolume) (pc := 9) (T := TX5) (ci := 8) (fks := _) rfl rfl in_X5 7 (by decide) wf_X9_65 dX9_shippableVolume_9 (ho 8 (by decide)) rfl ?_
    rw [hN]
    refine J.icmp_ge (μ := mX9_shippableVolume) (pc := 12) 44 dX9_shippableVolume_12 (by decide) (fun hc => ?_) (fun hc => ?_)
    · refine J.iload_n (μ := mX9_shippableVolume) (pc := 44) dX9_shippableVolume_44 rfl ?_
      exact J.iret (μ := mX9_shippableVolume) (pc := 45) dX9_shippableVolume_45 rfl (Nat.le_of_ble_eq_true rfl) (Nat.le_of_ble_eq_true rfl) (fun H h => ⟨rfl, h⟩)
    · exact absurd hc (nI_nlt_of (Nat.le_refl N) (by omega))
  · refine J.iload_n (μ := mX9_shippableVolume) (pc := 4) dX9_shippableVolume_4 rfl ?_
    refine J.aload_n (μ := mX9_shippableVolume) (pc := 5) dX9_shippableVolume_5 rfl ?_
    refine J.gr (μ := mX9_shippableVolume) (pc := 6) (T := TX9) (ci := 12) (fks := _) rfl rfl in_X9 1 (by decide) wf_X9_21 dX9_shippableVolume_6 (ho 0 (by decide)) rfl ?_
    refine J.gi (μ := mX9_shippableVolume) (pc := 9) (T := TX5) (ci := 8) (fks := _) rfl rfl in_X5 7 (by decide) wf_X9_65 dX9_shippableVolume_9 (ho 8 (by decide)) rfl ?_
    rw [hN]
    refine J.icmp_ge (μ := mX9_shippableVolume) (pc := 12) 44 dX9_shippableVolume_12 (by decide) (fun hc => ?_) (fun hc => ?_)
    · exact absurd hc (nI_nle_of hi (by omega))
    · refine J.aload_n (μ := mX9_shippableVolume) (pc := 15) dX9_shippableVolume_15 rfl ?_
      refine J.iload_n (μ := mX9_shippableVolume) (pc := 16) dX9_shippableVolume_16 rfl ?_
      refine J.iload_n (μ := mX9_shippableVolume) (pc := 17) dX9_shippableVolume_17 rfl ?_
      refine J.cV (μ := mX9_shippableVolume) (pc := 18) (s_X9_isShippable ho  _ _) rfl wm_X9_95 mi_X9_isShippable rfl dX9_shippableVolume_18 (Rp.isa (T := TX9) rfl (ho 0 (by decide))) rfl rfl ⟨(Nat.le_of_ble_eq_true rfl), (Nat.le_of_ble_eq_true rfl)⟩ ⟨(Nat.le_of_ble_eq_true rfl), (Nat.le_of_ble_eq_true rfl)⟩ (Nat.le_of_ble_eq_true rfl) ?_
      refine J.ifB_eq (μ := mX9_shippableVolume) (pc := 21) 38 dX9_shippableVolume_21 (by decide) (fun c5 => ?_) (fun c5 => ?_)
      · refine J.iinc (μ := mX9_shippableVolume) (pc := 38) (v := 1) dX9_shippableVolume_38 rfl (by decide) (Nat.le_of_ble_eq_true rfl) rfl ?_
        refine J.goto (μ := mX9_shippableVolume) (pc := 41) 4 dX9_shippableVolume_41 (by decide) ?_
        exact J.sub (by simp [lsub, cn, sm, nI_succ, *]) ih
      · refine J.iload_n (μ := mX9_shippableVolume) (pc := 24) dX9_shippableVolume_24 rfl ?_
        refine J.aload_n (μ := mX9_shippableVolume) (pc := 25) dX9_shippableVolume_25 rfl ?_
        refine J.gr (μ := mX9_shippableVolume) (pc := 26) (T := TX9) (ci := 12) (fks := _) rfl rfl in_X9 1 (by decide) wf_X9_21 dX9_shippableVolume_26 (ho 0 (by decide)) rfl ?_
        refine J.gr (μ := mX9_shippableVolume) (pc := 29) (T := TX5) (ci := 8) (fks := _) rfl rfl in_X5 2 (by decide) wf_X9_81 dX9_shippableVolume_29 (ho 8 (by decide)) rfl ?_
        refine J.iload_n (μ := mX9_shippableVolume) (pc := 32) dX9_shippableVolume_32 rfl ?_
        refine J.cV (μ := mX9_shippableVolume) (pc := 33) (g_vo ho _) rfl wm_X9_59 mi_X7_get rfl dX9_shippableVolume_33 (Rp.isa (T := TX7) rfl (ho 13 (by decide))) rfl rfl ⟨(Nat.le_of_ble_eq_true rfl), (Nat.le_of_ble_eq_true rfl)⟩ ⟨(Nat.le_of_ble_eq_true rfl), (Nat.le_of_ble_eq_true rfl)⟩ (Nat.le_of_ble_eq_true rfl) ?_
        refine J.iadd (μ := mX9_shippableVolume) (pc := 36) dX9_shippableVolume_36 ?_
        refine J.istore_n (μ := mX9_shippableVolume) (pc := 37) dX9_shippableVolume_37 (Nat.le_of_ble_eq_true rfl) rfl ?_
        refine J.iinc (μ := mX9_shippableVolume) (pc := 38) (v := 1) dX9_shippableVolume_38 rfl (by decide) (Nat.le_of_ble_eq_true rfl) rfl ?_
        refine J.goto (μ := mX9_shippableVolume) (pc := 41) 4 dX9_shippableVolume_41 (by decide) ?_
        exact J.sub (by simp [lsub, cn, sm, nI_succ, *]) ih

/-- the first to ship among the first lots-/
def esh (v : Vs) (o : Nat) (k : Int32) : Nat → Int32
  | 0 => -1
  | i + 1 => if shipP v o (nI i) k ∧ (esh v o k i = -1 ∨ expB v o (nI i) (esh v o k i)) then nI i else esh v o k i

theorem s_X9_earliestShippable {γ : Gm} {v : Vs} {o : Nat} (ho : IsStk o) {N : Nat} (hN : v (o + 8) 7 = nI N) (h20 : N ≤ 20) (k : Int32) : Er γ mX9_earliestShippable yX9_earliestShippable 3 [.ref (gz γ + o), .int k] v (.int (esh v o k N)) := by
  refine Ev.ofJ (by decide) rfl (fun h => by cases h) (Nat.le_of_ble_eq_true rfl) ?_
  refine J.iconst (μ := mX9_earliestShippable) (pc := 0) (v := -1) dX9_earliestShippable_0 (by decide) ?_
  refine J.istore_n (μ := mX9_earliestShippable) (pc := 1) dX9_earliestShippable_1 (Nat.le_of_ble_eq_true rfl) rfl ?_
  refine J.iconst (μ := mX9_earliestShippable) (pc := 2) (v := 0) dX9_earliestShippable_2 (by decide) ?_
  refine J.istore_n (μ := mX9_earliestShippable) (pc := 3) dX9_earliestShippable_3 (Nat.le_of_ble_eq_true rfl) rfl ?_
  refine J.for (Lf := fun i => [some (.ref (gz γ + o)), some (.int k), some (.int (esh v o k i)), some (.int (nI i))]) (Pf := fun _ => Rp γ v) N ?_ (fun i hi ih => ?_)
  · refine J.iload_n (μ := mX9_earliestShippable) (pc := 4) dX9_earliestShippable_4 rfl ?_
    refine J.aload_n (μ := mX9_earliestShippable) (pc := 5) dX9_earliestShippable_5 rfl ?_
    refine J.gr (μ := mX9_earliestShippable) (pc := 6) (T := TX9) (ci := 12) (fks := _) rfl rfl in_X9 1 (by decide) wf_X9_21 dX9_earliestShippable_6 (ho 0 (by decide)) rfl ?_
    refine J.gi (μ := mX9_earliestShippable) (pc := 9) (T := TX5) (ci := 8) (fks := _) rfl rfl in_X5 7 (by decide) wf_X9_65 dX9_earliestShippable_9 (ho 8 (by decide)) rfl ?_
    rw [hN]
    refine J.icmp_ge (μ := mX9_earliestShippable) (pc := 12) 49 dX9_earliestShippable_12 (by decide) (fun hc => ?_) (fun hc => ?_)
    · refine J.iload_n (μ := mX9_earliestShippable) (pc := 49) dX9_earliestShippable_49 rfl ?_
      exact J.iret (μ := mX9_earliestShippable) (pc := 50) dX9_earliestShippable_50 rfl (Nat.le_of_ble_eq_true rfl) (Nat.le_of_ble_eq_true rfl) (fun H h => ⟨rfl, h⟩)
    · exact absurd hc (nI_nlt_of (Nat.le_refl N) (by omega))
  · refine J.iload_n (μ := mX9_earliestShippable) (pc := 4) dX9_earliestShippable_4 rfl ?_
    refine J.aload_n (μ := mX9_earliestShippable) (pc := 5) dX9_earliestShippable_5 rfl ?_
    refine J.gr (μ := mX9_earliestShippable) (pc := 6) (T := TX9) (ci := 12) (fks := _) rfl rfl in_X9 1 (by decide) wf_X9_21 dX9_earliestShippable_6 (ho 0 (by decide)) rfl ?_
    refine J.gi (μ := mX9_earliestShippable) (pc := 9) (T := TX5) (ci := 8) (fks := _) rfl rfl in_X5 7 (by decide) wf_X9_65 dX9_earliestShippable_9 (ho 8 (by decide)) rfl ?_
    rw [hN]
    refine J.icmp_ge (μ := mX9_earliestShippable) (pc := 12) 49 dX9_earliestShippable_12 (by decide) (fun hc => ?_) (fun hc => ?_)
    · exact absurd hc (nI_nle_of hi (by omega))
    · refine J.aload_n (μ := mX9_earliestShippable) (pc := 15) dX9_earliestShippable_15 rfl ?_
      refine J.iload_n (μ := mX9_earliestShippable) (pc := 16) dX9_earliestShippable_16 rfl ?_
      refine J.iload_n (μ := mX9_earliestShippable) (pc := 17) dX9_earliestShippable_17 rfl ?_
      refine J.cV (μ := mX9_earliestShippable) (pc := 18) (s_X9_isShippable ho  _ _) rfl wm_X9_95 mi_X9_isShippable rfl dX9_earliestShippable_18 (Rp.isa (T := TX9) rfl (ho 0 (by decide))) rfl rfl ⟨(Nat.le_of_ble_eq_true rfl), (Nat.le_of_ble_eq_true rfl)⟩ ⟨(Nat.le_of_ble_eq_true rfl), (Nat.le_of_ble_eq_true rfl)⟩ (Nat.le_of_ble_eq_true rfl) ?_
      refine J.ifB_eq (μ := mX9_earliestShippable) (pc := 21) 43 dX9_earliestShippable_21 (by decide) (fun c5 => ?_) (fun c5 => ?_)
      · refine J.iinc (μ := mX9_earliestShippable) (pc := 43) (v := 1) dX9_earliestShippable_43 rfl (by decide) (Nat.le_of_ble_eq_true rfl) rfl ?_
        refine J.goto (μ := mX9_earliestShippable) (pc := 46) 4 dX9_earliestShippable_46 (by decide) ?_
        exact J.sub (by simp [lsub, esh, nI_succ, *]) ih
      · refine J.iload_n (μ := mX9_earliestShippable) (pc := 24) dX9_earliestShippable_24 rfl ?_
        refine J.iconst (μ := mX9_earliestShippable) (pc := 25) (v := -1) dX9_earliestShippable_25 (by decide) ?_
        refine J.icmp_eq (μ := mX9_earliestShippable) (pc := 26) 41 dX9_earliestShippable_26 (by decide) (fun c10 => ?_) (fun c10 => ?_)
        · refine J.iload_n (μ := mX9_earliestShippable) (pc := 41) dX9_earliestShippable_41 rfl ?_
          refine J.istore_n (μ := mX9_earliestShippable) (pc := 42) dX9_earliestShippable_42 (Nat.le_of_ble_eq_true rfl) rfl ?_
          refine J.iinc (μ := mX9_earliestShippable) (pc := 43) (v := 1) dX9_earliestShippable_43 rfl (by decide) (Nat.le_of_ble_eq_true rfl) rfl ?_
          refine J.goto (μ := mX9_earliestShippable) (pc := 46) 4 dX9_earliestShippable_46 (by decide) ?_
          exact J.sub (by simp [lsub, esh, nI_succ, *]) ih
        · refine J.aload_n (μ := mX9_earliestShippable) (pc := 29) dX9_earliestShippable_29 rfl ?_
          refine J.gr (μ := mX9_earliestShippable) (pc := 30) (T := TX9) (ci := 12) (fks := _) rfl rfl in_X9 1 (by decide) wf_X9_21 dX9_earliestShippable_30 (ho 0 (by decide)) rfl ?_
          refine J.iload_n (μ := mX9_earliestShippable) (pc := 33) dX9_earliestShippable_33 rfl ?_
          refine J.iload_n (μ := mX9_earliestShippable) (pc := 34) dX9_earliestShippable_34 rfl ?_
          refine J.cV (μ := mX9_earliestShippable) (pc := 35) (s_X5_expiresBefore ho  _ _) rfl wm_X9_99 mi_X5_expiresBefore rfl dX9_earliestShippable_35 (Rp.isa (T := TX5) rfl (ho 8 (by decide))) rfl rfl ⟨(Nat.le_of_ble_eq_true rfl), (Nat.le_of_ble_eq_true rfl)⟩ ⟨(Nat.le_of_ble_eq_true rfl), (Nat.le_of_ble_eq_true rfl)⟩ (Nat.le_of_ble_eq_true rfl) ?_
          refine J.ifB_eq (μ := mX9_earliestShippable) (pc := 38) 43 dX9_earliestShippable_38 (by decide) (fun c20 => ?_) (fun c20 => ?_)
          · refine J.iinc (μ := mX9_earliestShippable) (pc := 43) (v := 1) dX9_earliestShippable_43 rfl (by decide) (Nat.le_of_ble_eq_true rfl) rfl ?_
            refine J.goto (μ := mX9_earliestShippable) (pc := 46) 4 dX9_earliestShippable_46 (by decide) ?_
            exact J.sub (by simp [lsub, esh, nI_succ, *]) ih
          · refine J.iload_n (μ := mX9_earliestShippable) (pc := 41) dX9_earliestShippable_41 rfl ?_
            refine J.istore_n (μ := mX9_earliestShippable) (pc := 42) dX9_earliestShippable_42 (Nat.le_of_ble_eq_true rfl) rfl ?_
            refine J.iinc (μ := mX9_earliestShippable) (pc := 43) (v := 1) dX9_earliestShippable_43 rfl (by decide) (Nat.le_of_ble_eq_true rfl) rfl ?_
            refine J.goto (μ := mX9_earliestShippable) (pc := 46) 4 dX9_earliestShippable_46 (by decide) ?_
            exact J.sub (by simp [lsub, esh, nI_succ, *]) ih

theorem s_X9_rankOfShelved {γ : Gm} {v : Vs} {o : Nat} (ho : IsStk o) {N : Nat} (hN : v (o + 8) 7 = nI N) (h20 : N ≤ 20) (x : Int32) : Er γ mX9_rankOfShelved yX9_rankOfShelved 2 [.ref (gz γ + o), .int x] v (.int (nI (cn (fun i => decide (0 ≤ gPl v o (nI i) ∧ expB v o (nI i) x)) N))) := by
  refine Ev.ofJ (by decide) rfl (fun h => by cases h) (Nat.le_of_ble_eq_true rfl) ?_
  refine J.iconst (μ := mX9_rankOfShelved) (pc := 0) (v := 0) dX9_rankOfShelved_0 (by decide) ?_
  refine J.istore_n (μ := mX9_rankOfShelved) (pc := 1) dX9_rankOfShelved_1 (Nat.le_of_ble_eq_true rfl) rfl ?_
  refine J.iconst (μ := mX9_rankOfShelved) (pc := 2) (v := 0) dX9_rankOfShelved_2 (by decide) ?_
  refine J.istore_n (μ := mX9_rankOfShelved) (pc := 3) dX9_rankOfShelved_3 (Nat.le_of_ble_eq_true rfl) rfl ?_
  refine J.for (Lf := fun i => [some (.ref (gz γ + o)), some (.int x), some (.int (nI (cn (fun i => decide (0 ≤ gPl v o (nI i) ∧ expB v o (nI i) x)) i))), some (.int (nI i))]) (Pf := fun _ => Rp γ v) N ?_ (fun i hi ih => ?_)
  · refine J.iload_n (μ := mX9_rankOfShelved) (pc := 4) dX9_rankOfShelved_4 rfl ?_
    refine J.aload_n (μ := mX9_rankOfShelved) (pc := 5) dX9_rankOfShelved_5 rfl ?_
    refine J.gr (μ := mX9_rankOfShelved) (pc := 6) (T := TX9) (ci := 12) (fks := _) rfl rfl in_X9 1 (by decide) wf_X9_21 dX9_rankOfShelved_6 (ho 0 (by decide)) rfl ?_
    refine J.gi (μ := mX9_rankOfShelved) (pc := 9) (T := TX5) (ci := 8) (fks := _) rfl rfl in_X5 7 (by decide) wf_X9_65 dX9_rankOfShelved_9 (ho 8 (by decide)) rfl ?_
    rw [hN]
    refine J.icmp_ge (μ := mX9_rankOfShelved) (pc := 12) 47 dX9_rankOfShelved_12 (by decide) (fun hc => ?_) (fun hc => ?_)
    · refine J.iload_n (μ := mX9_rankOfShelved) (pc := 47) dX9_rankOfShelved_47 rfl ?_
      exact J.iret (μ := mX9_rankOfShelved) (pc := 48) dX9_rankOfShelved_48 rfl (Nat.le_of_ble_eq_true rfl) (Nat.le_of_ble_eq_true rfl) (fun H h => ⟨rfl, h⟩)
    · exact absurd hc (nI_nlt_of (Nat.le_refl N) (by omega))
  · refine J.iload_n (μ := mX9_rankOfShelved) (pc := 4) dX9_rankOfShelved_4 rfl ?_
    refine J.aload_n (μ := mX9_rankOfShelved) (pc := 5) dX9_rankOfShelved_5 rfl ?_
    refine J.gr (μ := mX9_rankOfShelved) (pc := 6) (T := TX9) (ci := 12) (fks := _) rfl rfl in_X9 1 (by decide) wf_X9_21 dX9_rankOfShelved_6 (ho 0 (by decide)) rfl ?_
    refine J.gi (μ := mX9_rankOfShelved) (pc := 9) (T := TX5) (ci := 8) (fks := _) rfl rfl in_X5 7 (by decide) wf_X9_65 dX9_rankOfShelved_9 (ho 8 (by decide)) rfl ?_
    rw [hN]
    refine J.icmp_ge (μ := mX9_rankOfShelved) (pc := 12) 47 dX9_rankOfShelved_12 (by decide) (fun hc => ?_) (fun hc => ?_)
    · exact absurd hc (nI_nle_of hi (by omega))
    · refine J.aload_n (μ := mX9_rankOfShelved) (pc := 15) dX9_rankOfShelved_15 rfl ?_
      refine J.gr (μ := mX9_rankOfShelved) (pc := 16) (T := TX9) (ci := 12) (fks := _) rfl rfl in_X9 1 (by decide) wf_X9_21 dX9_rankOfShelved_16 (ho 0 (by decide)) rfl ?_
      refine J.iload_n (μ := mX9_rankOfShelved) (pc := 19) dX9_rankOfShelved_19 rfl ?_
      refine J.cV (μ := mX9_rankOfShelved) (pc := 20) (s_X5_isShelved ho  _) rfl wm_X9_68 mi_X5_isShelved rfl dX9_rankOfShelved_20 (Rp.isa (T := TX5) rfl (ho 8 (by decide))) rfl rfl ⟨(Nat.le_of_ble_eq_true rfl), (Nat.le_of_ble_eq_true rfl)⟩ ⟨(Nat.le_of_ble_eq_true rfl), (Nat.le_of_ble_eq_true rfl)⟩ (Nat.le_of_ble_eq_true rfl) ?_
      refine J.ifB_eq (μ := mX9_rankOfShelved) (pc := 23) 41 dX9_rankOfShelved_23 (by decide) (fun c5 => ?_) (fun c5 => ?_)
      · refine J.iinc (μ := mX9_rankOfShelved) (pc := 41) (v := 1) dX9_rankOfShelved_41 rfl (by decide) (Nat.le_of_ble_eq_true rfl) rfl ?_
        refine J.goto (μ := mX9_rankOfShelved) (pc := 44) 4 dX9_rankOfShelved_44 (by decide) ?_
        exact J.sub (by simp [lsub, cn, sm, nI_succ, *]) ih
      · refine J.aload_n (μ := mX9_rankOfShelved) (pc := 26) dX9_rankOfShelved_26 rfl ?_
        refine J.gr (μ := mX9_rankOfShelved) (pc := 27) (T := TX9) (ci := 12) (fks := _) rfl rfl in_X9 1 (by decide) wf_X9_21 dX9_rankOfShelved_27 (ho 0 (by decide)) rfl ?_
        refine J.iload_n (μ := mX9_rankOfShelved) (pc := 30) dX9_rankOfShelved_30 rfl ?_
        refine J.iload_n (μ := mX9_rankOfShelved) (pc := 31) dX9_rankOfShelved_31 rfl ?_
        refine J.cV (μ := mX9_rankOfShelved) (pc := 32) (s_X5_expiresBefore ho  _ _) rfl wm_X9_99 mi_X5_expiresBefore rfl dX9_rankOfShelved_32 (Rp.isa (T := TX5) rfl (ho 8 (by decide))) rfl rfl ⟨(Nat.le_of_ble_eq_true rfl), (Nat.le_of_ble_eq_true rfl)⟩ ⟨(Nat.le_of_ble_eq_true rfl), (Nat.le_of_ble_eq_true rfl)⟩ (Nat.le_of_ble_eq_true rfl) ?_
        refine J.ifB_eq (μ := mX9_rankOfShelved) (pc := 35) 41 dX9_rankOfShelved_35 (by decide) (fun c13 => ?_) (fun c13 => ?_)
        · refine J.iinc (μ := mX9_rankOfShelved) (pc := 41) (v := 1) dX9_rankOfShelved_41 rfl (by decide) (Nat.le_of_ble_eq_true rfl) rfl ?_
          refine J.goto (μ := mX9_rankOfShelved) (pc := 44) 4 dX9_rankOfShelved_44 (by decide) ?_
          exact J.sub (by simp [lsub, cn, sm, nI_succ, *]) ih
        · refine J.iinc (μ := mX9_rankOfShelved) (pc := 38) (v := 1) dX9_rankOfShelved_38 rfl (by decide) (Nat.le_of_ble_eq_true rfl) rfl ?_
          refine J.iinc (μ := mX9_rankOfShelved) (pc := 41) (v := 1) dX9_rankOfShelved_41 rfl (by decide) (Nat.le_of_ble_eq_true rfl) rfl ?_
          refine J.goto (μ := mX9_rankOfShelved) (pc := 44) 4 dX9_rankOfShelved_44 (by decide) ?_
          exact J.sub (by simp [lsub, cn, sm, nI_succ, *]) ih

/-- how many lots are at the place x; the order of shelves to be counted -/
abbrev cA (v : Vs) (o N : Nat) (x : Int32) : Int32 := nI (cn (fun i => decide (gPl v o (nI i) = x)) N)
abbrev dueB (v : Vs) (o N : Nat) (x y : Int32) : Prop := gCd v o x < gCd v o y ∨ gCd v o x = gCd v o y ∧ (cA v o N y < cA v o N x ∨ cA v o N x = cA v o N y ∧ x < y)

theorem s_X9_isDueBefore {γ : Gm} {v : Vs} {o : Nat} (ho : IsStk o) {N : Nat} (hN : v (o + 8) 7 = nI N) (h20 : N ≤ 20) (x y : Int32) : Er γ mX9_isDueBefore yX9_isDueBefore 2 [.ref (gz γ + o), .int x, .int y] v (.int (bi (decide (dueB v o N x y)))) := by
  refine Ev.ofJ (by decide) rfl (fun h => by cases h) (Nat.le_of_ble_eq_true rfl) ?_
  refine J.aload_n (μ := mX9_isDueBefore) (pc := 0) dX9_isDueBefore_0 rfl ?_
  refine J.gr (μ := mX9_isDueBefore) (pc := 1) (T := TX9) (ci := 12) (fks := _) rfl rfl in_X9 0 (by decide) wf_X9_12 dX9_isDueBefore_1 (ho 0 (by decide)) rfl ?_
  refine J.gr (μ := mX9_isDueBefore) (pc := 4) (T := TX8) (ci := 11) (fks := _) rfl rfl in_X8 2 (by decide) wf_X9_111 dX9_isDueBefore_4 (ho 1 (by decide)) rfl ?_
  refine J.iload_n (μ := mX9_isDueBefore) (pc := 7) dX9_isDueBefore_7 rfl ?_
  refine J.cV (μ := mX9_isDueBefore) (pc := 8) (g_cd ho _) rfl wm_X9_59 mi_X7_get rfl dX9_isDueBefore_8 (Rp.isa (T := TX7) rfl (ho 6 (by decide))) rfl rfl ⟨(Nat.le_of_ble_eq_true rfl), (Nat.le_of_ble_eq_true rfl)⟩ ⟨(Nat.le_of_ble_eq_true rfl), (Nat.le_of_ble_eq_true rfl)⟩ (Nat.le_of_ble_eq_true rfl) ?_
  refine J.istore_n (μ := mX9_isDueBefore) (pc := 11) dX9_isDueBefore_11 (Nat.le_of_ble_eq_true rfl) rfl ?_
  refine J.aload_n (μ := mX9_isDueBefore) (pc := 12) dX9_isDueBefore_12 rfl ?_
  refine J.gr (μ := mX9_isDueBefore) (pc := 13) (T := TX9) (ci := 12) (fks := _) rfl rfl in_X9 0 (by decide) wf_X9_12 dX9_isDueBefore_13 (ho 0 (by decide)) rfl ?_
  refine J.gr (μ := mX9_isDueBefore) (pc := 16) (T := TX8) (ci := 11) (fks := _) rfl rfl in_X8 2 (by decide) wf_X9_111 dX9_isDueBefore_16 (ho 1 (by decide)) rfl ?_
  refine J.iload_n (μ := mX9_isDueBefore) (pc := 19) dX9_isDueBefore_19 rfl ?_
  refine J.cV (μ := mX9_isDueBefore) (pc := 20) (g_cd ho _) rfl wm_X9_59 mi_X7_get rfl dX9_isDueBefore_20 (Rp.isa (T := TX7) rfl (ho 6 (by decide))) rfl rfl ⟨(Nat.le_of_ble_eq_true rfl), (Nat.le_of_ble_eq_true rfl)⟩ ⟨(Nat.le_of_ble_eq_true rfl), (Nat.le_of_ble_eq_true rfl)⟩ (Nat.le_of_ble_eq_true rfl) ?_
  refine J.istore (μ := mX9_isDueBefore) (pc := 23) dX9_isDueBefore_23 (Nat.le_of_ble_eq_true rfl) rfl ?_
  refine J.iload_n (μ := mX9_isDueBefore) (pc := 25) dX9_isDueBefore_25 rfl ?_
  refine J.iload (μ := mX9_isDueBefore) (pc := 26) dX9_isDueBefore_26 rfl ?_
  refine J.icmp_eq (μ := mX9_isDueBefore) (pc := 28) 43 dX9_isDueBefore_28 (by decide) (fun c15 => ?_) (fun c15 => ?_)
  · refine J.aload_n (μ := mX9_isDueBefore) (pc := 43) dX9_isDueBefore_43 rfl ?_
    refine J.gr (μ := mX9_isDueBefore) (pc := 44) (T := TX9) (ci := 12) (fks := _) rfl rfl in_X9 1 (by decide) wf_X9_21 dX9_isDueBefore_44 (ho 0 (by decide)) rfl ?_
    refine J.iload_n (μ := mX9_isDueBefore) (pc := 47) dX9_isDueBefore_47 rfl ?_
    refine J.cV (μ := mX9_isDueBefore) (pc := 48) (s_X5_countAt ho hN h20 _) rfl wm_X9_114 mi_X5_countAt rfl dX9_isDueBefore_48 (Rp.isa (T := TX5) rfl (ho 8 (by decide))) rfl rfl ⟨(Nat.le_of_ble_eq_true rfl), (Nat.le_of_ble_eq_true rfl)⟩ ⟨(Nat.le_of_ble_eq_true rfl), (Nat.le_of_ble_eq_true rfl)⟩ (Nat.le_of_ble_eq_true rfl) ?_
    refine J.istore (μ := mX9_isDueBefore) (pc := 51) dX9_isDueBefore_51 (Nat.le_of_ble_eq_true rfl) rfl ?_
    refine J.aload_n (μ := mX9_isDueBefore) (pc := 53) dX9_isDueBefore_53 rfl ?_
    refine J.gr (μ := mX9_isDueBefore) (pc := 54) (T := TX9) (ci := 12) (fks := _) rfl rfl in_X9 1 (by decide) wf_X9_21 dX9_isDueBefore_54 (ho 0 (by decide)) rfl ?_
    refine J.iload_n (μ := mX9_isDueBefore) (pc := 57) dX9_isDueBefore_57 rfl ?_
    refine J.cV (μ := mX9_isDueBefore) (pc := 58) (s_X5_countAt ho hN h20 _) rfl wm_X9_114 mi_X5_countAt rfl dX9_isDueBefore_58 (Rp.isa (T := TX5) rfl (ho 8 (by decide))) rfl rfl ⟨(Nat.le_of_ble_eq_true rfl), (Nat.le_of_ble_eq_true rfl)⟩ ⟨(Nat.le_of_ble_eq_true rfl), (Nat.le_of_ble_eq_true rfl)⟩ (Nat.le_of_ble_eq_true rfl) ?_
    refine J.istore (μ := mX9_isDueBefore) (pc := 61) dX9_isDueBefore_61 (Nat.le_of_ble_eq_true rfl) rfl ?_
    refine J.iload (μ := mX9_isDueBefore) (pc := 63) dX9_isDueBefore_63 rfl ?_
    refine J.iload (μ := mX9_isDueBefore) (pc := 65) dX9_isDueBefore_65 rfl ?_
    refine J.icmp_gt (μ := mX9_isDueBefore) (pc := 67) 82 dX9_isDueBefore_67 (by decide) (fun c28 => ?_) (fun c28 => ?_)
    · refine J.iconst (μ := mX9_isDueBefore) (pc := 82) (v := 1) dX9_isDueBefore_82 (by decide) ?_
      refine J.goto (μ := mX9_isDueBefore) (pc := 83) 87 dX9_isDueBefore_83 (by decide) ?_
      exact J.zret (μ := mX9_isDueBefore) (pc := 87) dX9_isDueBefore_87 rfl (by first | rfl | decide) (Nat.le_of_ble_eq_true rfl) (Nat.le_of_ble_eq_true rfl) (fun H h => ⟨congrArg some (congrArg Value.int (by first | (simp [bi, *]; done) | (simp [bi, nlt_of_le, nle_of_lt, *]; done) | simp_all [bi, nlt_of_le, nle_of_lt])), h⟩)
    · refine J.iload (μ := mX9_isDueBefore) (pc := 70) dX9_isDueBefore_70 rfl ?_
      refine J.iload (μ := mX9_isDueBefore) (pc := 72) dX9_isDueBefore_72 rfl ?_
      refine J.icmp_ne (μ := mX9_isDueBefore) (pc := 74) 86 dX9_isDueBefore_74 (by decide) (fun c33 => ?_) (fun c33 => ?_)
      · refine J.iconst (μ := mX9_isDueBefore) (pc := 86) (v := 0) dX9_isDueBefore_86 (by decide) ?_
        exact J.zret (μ := mX9_isDueBefore) (pc := 87) dX9_isDueBefore_87 rfl (by first | rfl | decide) (Nat.le_of_ble_eq_true rfl) (Nat.le_of_ble_eq_true rfl) (fun H h => ⟨congrArg some (congrArg Value.int (by first | (simp [bi, *]; done) | (simp [bi, nlt_of_le, nle_of_lt, *]; done) | simp_all [bi, nlt_of_le, nle_of_lt])), h⟩)
      · refine J.iload_n (μ := mX9_isDueBefore) (pc := 77) dX9_isDueBefore_77 rfl ?_
        refine J.iload_n (μ := mX9_isDueBefore) (pc := 78) dX9_isDueBefore_78 rfl ?_
        refine J.icmp_ge (μ := mX9_isDueBefore) (pc := 79) 86 dX9_isDueBefore_79 (by decide) (fun c37 => ?_) (fun c37 => ?_)
        · refine J.iconst (μ := mX9_isDueBefore) (pc := 86) (v := 0) dX9_isDueBefore_86 (by decide) ?_
          exact J.zret (μ := mX9_isDueBefore) (pc := 87) dX9_isDueBefore_87 rfl (by first | rfl | decide) (Nat.le_of_ble_eq_true rfl) (Nat.le_of_ble_eq_true rfl) (fun H h => ⟨congrArg some (congrArg Value.int (by first | (simp [bi, *]; done) | (simp [bi, nlt_of_le, nle_of_lt, *]; done) | simp_all [bi, nlt_of_le, nle_of_lt])), h⟩)
        · refine J.iconst (μ := mX9_isDueBefore) (pc := 82) (v := 1) dX9_isDueBefore_82 (by decide) ?_
          refine J.goto (μ := mX9_isDueBefore) (pc := 83) 87 dX9_isDueBefore_83 (by decide) ?_
          exact J.zret (μ := mX9_isDueBefore) (pc := 87) dX9_isDueBefore_87 rfl (by first | rfl | decide) (Nat.le_of_ble_eq_true rfl) (Nat.le_of_ble_eq_true rfl) (fun H h => ⟨congrArg some (congrArg Value.int (by first | (simp [bi, *]; done) | (simp [bi, nlt_of_le, nle_of_lt, *]; done) | simp_all [bi, nlt_of_le, nle_of_lt])), h⟩)
  · refine J.iload_n (μ := mX9_isDueBefore) (pc := 31) dX9_isDueBefore_31 rfl ?_
    refine J.iload (μ := mX9_isDueBefore) (pc := 32) dX9_isDueBefore_32 rfl ?_
    refine J.icmp_ge (μ := mX9_isDueBefore) (pc := 34) 41 dX9_isDueBefore_34 (by decide) (fun c43 => ?_) (fun c43 => ?_)
    · refine J.iconst (μ := mX9_isDueBefore) (pc := 41) (v := 0) dX9_isDueBefore_41 (by decide) ?_
      exact J.zret (μ := mX9_isDueBefore) (pc := 42) dX9_isDueBefore_42 rfl (by first | rfl | decide) (Nat.le_of_ble_eq_true rfl) (Nat.le_of_ble_eq_true rfl) (fun H h => ⟨congrArg some (congrArg Value.int (by first | (simp [bi, *]; done) | (simp [bi, nlt_of_le, nle_of_lt, *]; done) | simp_all [bi, nlt_of_le, nle_of_lt])), h⟩)
    · refine J.iconst (μ := mX9_isDueBefore) (pc := 37) (v := 1) dX9_isDueBefore_37 (by decide) ?_
      refine J.goto (μ := mX9_isDueBefore) (pc := 38) 42 dX9_isDueBefore_38 (by decide) ?_
      exact J.zret (μ := mX9_isDueBefore) (pc := 42) dX9_isDueBefore_42 rfl (by first | rfl | decide) (Nat.le_of_ble_eq_true rfl) (Nat.le_of_ble_eq_true rfl) (fun H h => ⟨congrArg some (congrArg Value.int (by first | (simp [bi, *]; done) | (simp [bi, nlt_of_le, nle_of_lt, *]; done) | simp_all [bi, nlt_of_le, nle_of_lt])), h⟩)

theorem s_X9_rankOfShelf {γ : Gm} {v : Vs} {o : Nat} (ho : IsStk o) {N M : Nat} (hN : v (o + 8) 7 = nI N) (h20 : N ≤ 20) (hM : v (o + 1) 3 = nI M) (h8 : M ≤ 8) (x : Int32) : Er γ mX9_rankOfShelf yX9_rankOfShelf 3 [.ref (gz γ + o), .int x] v (.int (nI (cn (fun i => decide (dueB v o N (nI i) x)) M))) := by
  refine Ev.ofJ (by decide) rfl (fun h => by cases h) (Nat.le_of_ble_eq_true rfl) ?_
  refine J.iconst (μ := mX9_rankOfShelf) (pc := 0) (v := 0) dX9_rankOfShelf_0 (by decide) ?_
  refine J.istore_n (μ := mX9_rankOfShelf) (pc := 1) dX9_rankOfShelf_1 (Nat.le_of_ble_eq_true rfl) rfl ?_
  refine J.iconst (μ := mX9_rankOfShelf) (pc := 2) (v := 0) dX9_rankOfShelf_2 (by decide) ?_
  refine J.istore_n (μ := mX9_rankOfShelf) (pc := 3) dX9_rankOfShelf_3 (Nat.le_of_ble_eq_true rfl) rfl ?_
  refine J.for (Lf := fun i => [some (.ref (gz γ + o)), some (.int x), some (.int (nI (cn (fun i => decide (dueB v o N (nI i) x)) i))), some (.int (nI i))]) (Pf := fun _ => Rp γ v) M ?_ (fun i hi ih => ?_)
  · refine J.iload_n (μ := mX9_rankOfShelf) (pc := 4) dX9_rankOfShelf_4 rfl ?_
    refine J.aload_n (μ := mX9_rankOfShelf) (pc := 5) dX9_rankOfShelf_5 rfl ?_
    refine J.gr (μ := mX9_rankOfShelf) (pc := 6) (T := TX9) (ci := 12) (fks := _) rfl rfl in_X9 0 (by decide) wf_X9_12 dX9_rankOfShelf_6 (ho 0 (by decide)) rfl ?_
    refine J.gi (μ := mX9_rankOfShelf) (pc := 9) (T := TX8) (ci := 11) (fks := _) rfl rfl in_X8 3 (by decide) wf_X9_84 dX9_rankOfShelf_9 (ho 1 (by decide)) rfl ?_
    rw [hM]
    refine J.icmp_ge (μ := mX9_rankOfShelf) (pc := 12) 33 dX9_rankOfShelf_12 (by decide) (fun hc => ?_) (fun hc => ?_)
    · refine J.iload_n (μ := mX9_rankOfShelf) (pc := 33) dX9_rankOfShelf_33 rfl ?_
      exact J.iret (μ := mX9_rankOfShelf) (pc := 34) dX9_rankOfShelf_34 rfl (Nat.le_of_ble_eq_true rfl) (Nat.le_of_ble_eq_true rfl) (fun H h => ⟨rfl, h⟩)
    · exact absurd hc (nI_nlt_of (Nat.le_refl M) (by omega))
  · refine J.iload_n (μ := mX9_rankOfShelf) (pc := 4) dX9_rankOfShelf_4 rfl ?_
    refine J.aload_n (μ := mX9_rankOfShelf) (pc := 5) dX9_rankOfShelf_5 rfl ?_
    refine J.gr (μ := mX9_rankOfShelf) (pc := 6) (T := TX9) (ci := 12) (fks := _) rfl rfl in_X9 0 (by decide) wf_X9_12 dX9_rankOfShelf_6 (ho 0 (by decide)) rfl ?_
    refine J.gi (μ := mX9_rankOfShelf) (pc := 9) (T := TX8) (ci := 11) (fks := _) rfl rfl in_X8 3 (by decide) wf_X9_84 dX9_rankOfShelf_9 (ho 1 (by decide)) rfl ?_
    rw [hM]
    refine J.icmp_ge (μ := mX9_rankOfShelf) (pc := 12) 33 dX9_rankOfShelf_12 (by decide) (fun hc => ?_) (fun hc => ?_)
    · exact absurd hc (nI_nle_of hi (by omega))
    · refine J.aload_n (μ := mX9_rankOfShelf) (pc := 15) dX9_rankOfShelf_15 rfl ?_
      refine J.iload_n (μ := mX9_rankOfShelf) (pc := 16) dX9_rankOfShelf_16 rfl ?_
      refine J.iload_n (μ := mX9_rankOfShelf) (pc := 17) dX9_rankOfShelf_17 rfl ?_
      refine J.cV (μ := mX9_rankOfShelf) (pc := 18) (s_X9_isDueBefore ho hN h20 _ _) rfl wm_X9_108 mi_X9_isDueBefore rfl dX9_rankOfShelf_18 (Rp.isa (T := TX9) rfl (ho 0 (by decide))) rfl rfl ⟨(Nat.le_of_ble_eq_true rfl), (Nat.le_of_ble_eq_true rfl)⟩ ⟨(Nat.le_of_ble_eq_true rfl), (Nat.le_of_ble_eq_true rfl)⟩ (Nat.le_of_ble_eq_true rfl) ?_
      refine J.ifB_eq (μ := mX9_rankOfShelf) (pc := 21) 27 dX9_rankOfShelf_21 (by decide) (fun c5 => ?_) (fun c5 => ?_)
      · refine J.iinc (μ := mX9_rankOfShelf) (pc := 27) (v := 1) dX9_rankOfShelf_27 rfl (by decide) (Nat.le_of_ble_eq_true rfl) rfl ?_
        refine J.goto (μ := mX9_rankOfShelf) (pc := 30) 4 dX9_rankOfShelf_30 (by decide) ?_
        exact J.sub (by simp [lsub, cn, sm, nI_succ, *]) ih
      · refine J.iinc (μ := mX9_rankOfShelf) (pc := 24) (v := 1) dX9_rankOfShelf_24 rfl (by decide) (Nat.le_of_ble_eq_true rfl) rfl ?_
        refine J.iinc (μ := mX9_rankOfShelf) (pc := 27) (v := 1) dX9_rankOfShelf_27 rfl (by decide) (Nat.le_of_ble_eq_true rfl) rfl ?_
        refine J.goto (μ := mX9_rankOfShelf) (pc := 30) 4 dX9_rankOfShelf_30 (by decide) ?_
        exact J.sub (by simp [lsub, cn, sm, nI_succ, *]) ih

/-- the least i below n of which p says true; n where there is none -/
def fd (p : Nat → Bool) : Nat → Nat
  | 0 => 0
  | n + 1 => if fd p n < n then fd p n else if p n = true then n else n + 1
theorem fd_le (p : Nat → Bool) : ∀ n, fd p n ≤ n
  | 0 => Nat.le_refl 0
  | n + 1 => by
    have := fd_le p n
    simp only [fd]
    split
    · omega
    · split <;> omega
theorem fd_spec (p : Nat → Bool) : ∀ n, (∀ j, j < fd p n → p j = false) ∧ (fd p n < n → p (fd p n) = true)
  | 0 => ⟨fun j h => absurd h (Nat.not_lt_zero j), fun h => absurd h (Nat.not_lt_zero _)⟩
  | n + 1 => by
    obtain ⟨h1, h2⟩ := fd_spec p n
    have hl := fd_le p n
    simp only [fd]
    split
    · rename_i h
      exact ⟨h1, fun _ => h2 h⟩
    · have he : fd p n = n := by omega
      rw [he] at h1
      split
      · rename_i h
        exact ⟨h1, fun _ => h⟩
      · rename_i h
        refine ⟨fun j hj => ?_, fun h => absurd h (Nat.lt_irrefl _)⟩
        rcases Nat.lt_succ_iff_lt_or_eq.mp hj with q | q
        · exact h1 j q
        · rw [q]; simpa using h
theorem fd_at {p : Nat → Bool} {n i : Nat} (hi : i < n) (h1 : ∀ j, j < i → p j = false) (h2 : p i = true) : fd p n = i := by
  obtain ⟨a, b⟩ := fd_spec p n
  have hl := fd_le p n
  rcases Nat.lt_trichotomy (fd p n) i with h | h | h
  · have := b (by omega)
    rw [h1 _ h] at this
    cases this
  · exact h
  · rw [a i h] at h2
    cases h2
theorem fd_no {p : Nat → Bool} {n : Nat} (h1 : ∀ j, j < n → p j = false) : fd p n = n := by
  obtain ⟨a, b⟩ := fd_spec p n
  have hl := fd_le p n
  rcases Nat.lt_or_ge (fd p n) n with h | h
  · have := b h
    rw [h1 _ h] at this
    cases this
  · omega
/-- .. as the program says it: -1 where there is none -/
def fdI (p : Nat → Bool) (n : Nat) : Int32 := if fd p n < n then nI (fd p n) else -1
theorem fdI_at {p : Nat → Bool} {n i : Nat} (hi : i < n) (h1 : ∀ j, j < i → p j = false) (h2 : p i = true) : fdI p n = nI i := by
  unfold fdI
  rw [fd_at hi h1 h2, if_pos hi]
theorem fdI_no {p : Nat → Bool} {n : Nat} (h1 : ∀ j, j < n → p j = false) : fdI p n = -1 := by
  unfold fdI
  rw [fd_no h1, if_neg (Nat.lt_irrefl n)]
theorem all_succ {p : Nat → Bool} {i : Nat} (h : ∀ j, j < i → p j = false) (hi : p i = false) : ∀ j, j < i + 1 → p j = false := by
  intro j hj
  rcases Nat.lt_succ_iff_lt_or_eq.mp hj with q | q
  · exact h j q
  · rw [q]; exact hi

theorem s_X9_shelvedAtRank {γ : Gm} {v : Vs} {o : Nat} (ho : IsStk o) {N : Nat} (hN : v (o + 8) 7 = nI N) (h20 : N ≤ 20) (x : Int32) : Er γ mX9_shelvedAtRank yX9_shelvedAtRank 3 [.ref (gz γ + o), .int x] v (.int (fdI (fun i => decide (0 ≤ gPl v o (nI i) ∧ nI (cn (fun j => decide (0 ≤ gPl v o (nI j) ∧ expB v o (nI j) (nI i))) N) = x)) N)) := by
  refine Ev.ofJ (by decide) rfl (fun h => by cases h) (Nat.le_of_ble_eq_true rfl) ?_
  refine J.iconst (μ := mX9_shelvedAtRank) (pc := 0) (v := 0) dX9_shelvedAtRank_0 (by decide) ?_
  refine J.istore_n (μ := mX9_shelvedAtRank) (pc := 1) dX9_shelvedAtRank_1 (Nat.le_of_ble_eq_true rfl) rfl ?_
  refine J.of (P' := fun H => (∀ j, j < 0 → (fun i => decide (0 ≤ gPl v o (nI i) ∧ nI (cn (fun j => decide (0 ≤ gPl v o (nI j) ∧ expB v o (nI j) (nI i))) N) = x)) j = false) ∧ Rp γ v H) (fun H h => ⟨fun j hj => absurd hj (Nat.not_lt_zero j), h⟩) ?_
  refine J.for (Lf := fun i => [some (.ref (gz γ + o)), some (.int x), some (.int (nI i))]) (Pf := fun i H => (∀ j, j < i → (fun i => decide (0 ≤ gPl v o (nI i) ∧ nI (cn (fun j => decide (0 ≤ gPl v o (nI j) ∧ expB v o (nI j) (nI i))) N) = x)) j = false) ∧ Rp γ v H) N (J.and (fun hall => ?_)) (fun i hi ih => J.and (fun hall => ?_))
  · refine J.iload_n (μ := mX9_shelvedAtRank) (pc := 2) dX9_shelvedAtRank_2 rfl ?_
    refine J.aload_n (μ := mX9_shelvedAtRank) (pc := 3) dX9_shelvedAtRank_3 rfl ?_
    refine J.gr (μ := mX9_shelvedAtRank) (pc := 4) (T := TX9) (ci := 12) (fks := _) rfl rfl in_X9 1 (by decide) wf_X9_21 dX9_shelvedAtRank_4 (ho 0 (by decide)) rfl ?_
    refine J.gi (μ := mX9_shelvedAtRank) (pc := 7) (T := TX5) (ci := 8) (fks := _) rfl rfl in_X5 7 (by decide) wf_X9_65 dX9_shelvedAtRank_7 (ho 8 (by decide)) rfl ?_
    rw [hN]
    refine J.icmp_ge (μ := mX9_shelvedAtRank) (pc := 10) 41 dX9_shelvedAtRank_10 (by decide) (fun hc => ?_) (fun hc => ?_)
    · refine J.iconst (μ := mX9_shelvedAtRank) (pc := 41) (v := -1) dX9_shelvedAtRank_41 (by decide) ?_
      exact J.iret (μ := mX9_shelvedAtRank) (pc := 42) dX9_shelvedAtRank_42 rfl (Nat.le_of_ble_eq_true rfl) (Nat.le_of_ble_eq_true rfl) (fun H h => ⟨by rw [fdI_no hall], h⟩)
    · exact absurd hc (nI_nlt_of (Nat.le_refl N) (by omega))
  · refine J.iload_n (μ := mX9_shelvedAtRank) (pc := 2) dX9_shelvedAtRank_2 rfl ?_
    refine J.aload_n (μ := mX9_shelvedAtRank) (pc := 3) dX9_shelvedAtRank_3 rfl ?_
    refine J.gr (μ := mX9_shelvedAtRank) (pc := 4) (T := TX9) (ci := 12) (fks := _) rfl rfl in_X9 1 (by decide) wf_X9_21 dX9_shelvedAtRank_4 (ho 0 (by decide)) rfl ?_
    refine J.gi (μ := mX9_shelvedAtRank) (pc := 7) (T := TX5) (ci := 8) (fks := _) rfl rfl in_X5 7 (by decide) wf_X9_65 dX9_shelvedAtRank_7 (ho 8 (by decide)) rfl ?_
    rw [hN]
    refine J.icmp_ge (μ := mX9_shelvedAtRank) (pc := 10) 41 dX9_shelvedAtRank_10 (by decide) (fun hc => ?_) (fun hc => ?_)
    · exact absurd hc (nI_nle_of hi (by omega))
    · refine J.aload_n (μ := mX9_shelvedAtRank) (pc := 13) dX9_shelvedAtRank_13 rfl ?_
      refine J.gr (μ := mX9_shelvedAtRank) (pc := 14) (T := TX9) (ci := 12) (fks := _) rfl rfl in_X9 1 (by decide) wf_X9_21 dX9_shelvedAtRank_14 (ho 0 (by decide)) rfl ?_
      refine J.iload_n (μ := mX9_shelvedAtRank) (pc := 17) dX9_shelvedAtRank_17 rfl ?_
      refine J.cV (μ := mX9_shelvedAtRank) (pc := 18) (s_X5_isShelved ho  _) rfl wm_X9_68 mi_X5_isShelved rfl dX9_shelvedAtRank_18 (Rp.isa (T := TX5) rfl (ho 8 (by decide))) rfl rfl ⟨(Nat.le_of_ble_eq_true rfl), (Nat.le_of_ble_eq_true rfl)⟩ ⟨(Nat.le_of_ble_eq_true rfl), (Nat.le_of_ble_eq_true rfl)⟩ (Nat.le_of_ble_eq_true rfl) ?_
      refine J.ifB_eq (μ := mX9_shelvedAtRank) (pc := 21) 35 dX9_shelvedAtRank_21 (by decide) (fun h1 => ?_) (fun h1 => ?_)
      · refine J.iinc (μ := mX9_shelvedAtRank) (pc := 35) (v := 1) dX9_shelvedAtRank_35 rfl (by decide) (Nat.le_of_ble_eq_true rfl) rfl ?_
        refine J.goto (μ := mX9_shelvedAtRank) (pc := 38) 2 dX9_shelvedAtRank_38 (by decide) ?_
        exact J.sub (by simp [lsub, nI_succ]) (J.of (fun H h => ⟨all_succ hall (decide_eq_false (fun h9 => absurd h9.1 h1)), h⟩) ih)
      · refine J.aload_n (μ := mX9_shelvedAtRank) (pc := 24) dX9_shelvedAtRank_24 rfl ?_
        refine J.iload_n (μ := mX9_shelvedAtRank) (pc := 25) dX9_shelvedAtRank_25 rfl ?_
        refine J.cV (μ := mX9_shelvedAtRank) (pc := 26) (s_X9_rankOfShelved ho hN h20 _) rfl wm_X9_102 mi_X9_rankOfShelved rfl dX9_shelvedAtRank_26 (Rp.isa (T := TX9) rfl (ho 0 (by decide))) rfl rfl ⟨(Nat.le_of_ble_eq_true rfl), (Nat.le_of_ble_eq_true rfl)⟩ ⟨(Nat.le_of_ble_eq_true rfl), (Nat.le_of_ble_eq_true rfl)⟩ (Nat.le_of_ble_eq_true rfl) ?_
        refine J.iload_n (μ := mX9_shelvedAtRank) (pc := 29) dX9_shelvedAtRank_29 rfl ?_
        refine J.icmp_ne (μ := mX9_shelvedAtRank) (pc := 30) 35 dX9_shelvedAtRank_30 (by decide) (fun h2 => ?_) (fun h2 => ?_)
        · refine J.iinc (μ := mX9_shelvedAtRank) (pc := 35) (v := 1) dX9_shelvedAtRank_35 rfl (by decide) (Nat.le_of_ble_eq_true rfl) rfl ?_
          refine J.goto (μ := mX9_shelvedAtRank) (pc := 38) 2 dX9_shelvedAtRank_38 (by decide) ?_
          exact J.sub (by simp [lsub, nI_succ]) (J.of (fun H h => ⟨all_succ hall (decide_eq_false (fun h9 => absurd h9.2 h2)), h⟩) ih)
        · refine J.iload_n (μ := mX9_shelvedAtRank) (pc := 33) dX9_shelvedAtRank_33 rfl ?_
          exact J.iret (μ := mX9_shelvedAtRank) (pc := 34) dX9_shelvedAtRank_34 rfl (Nat.le_of_ble_eq_true rfl) (Nat.le_of_ble_eq_true rfl) (fun H h => ⟨by rw [fdI_at hi hall (decide_eq_true ⟨h1, h2⟩)], h⟩)

theorem s_X9_shelfAtRank {γ : Gm} {v : Vs} {o : Nat} (ho : IsStk o) {N M : Nat} (hN : v (o + 8) 7 = nI N) (h20 : N ≤ 20) (hM : v (o + 1) 3 = nI M) (h8 : M ≤ 8) (x : Int32) : Er γ mX9_shelfAtRank yX9_shelfAtRank 4 [.ref (gz γ + o), .int x] v (.int (fdI (fun i => decide (nI (cn (fun j => decide (dueB v o N (nI j) (nI i))) M) = x)) M)) := by
  refine Ev.ofJ (by decide) rfl (fun h => by cases h) (Nat.le_of_ble_eq_true rfl) ?_
  refine J.iconst (μ := mX9_shelfAtRank) (pc := 0) (v := 0) dX9_shelfAtRank_0 (by decide) ?_
  refine J.istore_n (μ := mX9_shelfAtRank) (pc := 1) dX9_shelfAtRank_1 (Nat.le_of_ble_eq_true rfl) rfl ?_
  refine J.of (P' := fun H => (∀ j, j < 0 → (fun i => decide (nI (cn (fun j => decide (dueB v o N (nI j) (nI i))) M) = x)) j = false) ∧ Rp γ v H) (fun H h => ⟨fun j hj => absurd hj (Nat.not_lt_zero j), h⟩) ?_
  refine J.for (Lf := fun i => [some (.ref (gz γ + o)), some (.int x), some (.int (nI i))]) (Pf := fun i H => (∀ j, j < i → (fun i => decide (nI (cn (fun j => decide (dueB v o N (nI j) (nI i))) M) = x)) j = false) ∧ Rp γ v H) M (J.and (fun hall => ?_)) (fun i hi ih => J.and (fun hall => ?_))
  · refine J.iload_n (μ := mX9_shelfAtRank) (pc := 2) dX9_shelfAtRank_2 rfl ?_
    refine J.aload_n (μ := mX9_shelfAtRank) (pc := 3) dX9_shelfAtRank_3 rfl ?_
    refine J.gr (μ := mX9_shelfAtRank) (pc := 4) (T := TX9) (ci := 12) (fks := _) rfl rfl in_X9 0 (by decide) wf_X9_12 dX9_shelfAtRank_4 (ho 0 (by decide)) rfl ?_
    refine J.gi (μ := mX9_shelfAtRank) (pc := 7) (T := TX8) (ci := 11) (fks := _) rfl rfl in_X8 3 (by decide) wf_X9_84 dX9_shelfAtRank_7 (ho 1 (by decide)) rfl ?_
    rw [hM]
    refine J.icmp_ge (μ := mX9_shelfAtRank) (pc := 10) 30 dX9_shelfAtRank_10 (by decide) (fun hc => ?_) (fun hc => ?_)
    · refine J.iconst (μ := mX9_shelfAtRank) (pc := 30) (v := -1) dX9_shelfAtRank_30 (by decide) ?_
      exact J.iret (μ := mX9_shelfAtRank) (pc := 31) dX9_shelfAtRank_31 rfl (Nat.le_of_ble_eq_true rfl) (Nat.le_of_ble_eq_true rfl) (fun H h => ⟨by rw [fdI_no hall], h⟩)
    · exact absurd hc (nI_nlt_of (Nat.le_refl M) (by omega))
  · refine J.iload_n (μ := mX9_shelfAtRank) (pc := 2) dX9_shelfAtRank_2 rfl ?_
    refine J.aload_n (μ := mX9_shelfAtRank) (pc := 3) dX9_shelfAtRank_3 rfl ?_
    refine J.gr (μ := mX9_shelfAtRank) (pc := 4) (T := TX9) (ci := 12) (fks := _) rfl rfl in_X9 0 (by decide) wf_X9_12 dX9_shelfAtRank_4 (ho 0 (by decide)) rfl ?_
    refine J.gi (μ := mX9_shelfAtRank) (pc := 7) (T := TX8) (ci := 11) (fks := _) rfl rfl in_X8 3 (by decide) wf_X9_84 dX9_shelfAtRank_7 (ho 1 (by decide)) rfl ?_
    rw [hM]
    refine J.icmp_ge (μ := mX9_shelfAtRank) (pc := 10) 30 dX9_shelfAtRank_10 (by decide) (fun hc => ?_) (fun hc => ?_)
    · exact absurd hc (nI_nle_of hi (by omega))
    · refine J.aload_n (μ := mX9_shelfAtRank) (pc := 13) dX9_shelfAtRank_13 rfl ?_
      refine J.iload_n (μ := mX9_shelfAtRank) (pc := 14) dX9_shelfAtRank_14 rfl ?_
      refine J.cV (μ := mX9_shelfAtRank) (pc := 15) (s_X9_rankOfShelf ho hN h20 hM h8 _) rfl wm_X9_105 mi_X9_rankOfShelf rfl dX9_shelfAtRank_15 (Rp.isa (T := TX9) rfl (ho 0 (by decide))) rfl rfl ⟨(Nat.le_of_ble_eq_true rfl), (Nat.le_of_ble_eq_true rfl)⟩ ⟨(Nat.le_of_ble_eq_true rfl), (Nat.le_of_ble_eq_true rfl)⟩ (Nat.le_of_ble_eq_true rfl) ?_
      refine J.iload_n (μ := mX9_shelfAtRank) (pc := 18) dX9_shelfAtRank_18 rfl ?_
      refine J.icmp_ne (μ := mX9_shelfAtRank) (pc := 19) 24 dX9_shelfAtRank_19 (by decide) (fun h2 => ?_) (fun h2 => ?_)
      · refine J.iinc (μ := mX9_shelfAtRank) (pc := 24) (v := 1) dX9_shelfAtRank_24 rfl (by decide) (Nat.le_of_ble_eq_true rfl) rfl ?_
        refine J.goto (μ := mX9_shelfAtRank) (pc := 27) 2 dX9_shelfAtRank_27 (by decide) ?_
        exact J.sub (by simp [lsub, nI_succ]) (J.of (fun H h => ⟨all_succ hall (decide_eq_false h2), h⟩) ih)
      · refine J.iload_n (μ := mX9_shelfAtRank) (pc := 22) dX9_shelfAtRank_22 rfl ?_
        exact J.iret (μ := mX9_shelfAtRank) (pc := 23) dX9_shelfAtRank_23 rfl (Nat.le_of_ble_eq_true rfl) (Nat.le_of_ble_eq_true rfl) (fun H h => ⟨by rw [fdI_at hi hall (decide_eq_true h2)], h⟩)

theorem s_X1_top {γ : Gm} {v : Vs} {o : Nat} (ho : IsStk o) : Er γ mX1_top yX1_top 1 [.ref (gz γ + (o + 23))] v (.int (if 0 < v (o + 23) 1 then gHp v o 0 else -1)) := by
  refine Ev.ofJ (by decide) rfl (fun h => by cases h) (Nat.le_of_ble_eq_true rfl) ?_
  refine J.aload_n (μ := mX1_top) (pc := 0) dX1_top_0 rfl ?_
  refine J.gi (μ := mX1_top) (pc := 1) (T := TX1) (ci := 4) (fks := _) rfl rfl in_X1 1 (by decide) wf_X1_20 dX1_top_1 (ho 23 (by decide)) rfl ?_
  refine J.if_le (μ := mX1_top) (pc := 4) 18 dX1_top_4 (by decide) (fun c3 => ?_) (fun c3 => ?_)
  · refine J.iconst (μ := mX1_top) (pc := 18) (v := -1) dX1_top_18 (by decide) ?_
    exact J.iret (μ := mX1_top) (pc := 19) dX1_top_19 rfl (Nat.le_of_ble_eq_true rfl) (Nat.le_of_ble_eq_true rfl) (fun H h => ⟨congrArg some (congrArg Value.int (by first | (simp [*]; done) | simp [nlt_of_le, *])), h⟩)
  · refine J.aload_n (μ := mX1_top) (pc := 7) dX1_top_7 rfl ?_
    refine J.gr (μ := mX1_top) (pc := 8) (T := TX1) (ci := 4) (fks := _) rfl rfl in_X1 0 (by decide) wf_X1_14 dX1_top_8 (ho 23 (by decide)) rfl ?_
    refine J.iconst (μ := mX1_top) (pc := 11) (v := 0) dX1_top_11 (by decide) ?_
    refine J.cV (μ := mX1_top) (pc := 12) (g_hp ho _) rfl wm_X1_28 mi_X7_get rfl dX1_top_12 (Rp.isa (T := TX7) rfl (ho 24 (by decide))) rfl rfl ⟨(Nat.le_of_ble_eq_true rfl), (Nat.le_of_ble_eq_true rfl)⟩ ⟨(Nat.le_of_ble_eq_true rfl), (Nat.le_of_ble_eq_true rfl)⟩ (Nat.le_of_ble_eq_true rfl) ?_
    refine J.goto (μ := mX1_top) (pc := 15) 19 dX1_top_15 (by decide) ?_
    exact J.iret (μ := mX1_top) (pc := 19) dX1_top_19 rfl (Nat.le_of_ble_eq_true rfl) (Nat.le_of_ble_eq_true rfl) (fun H h => ⟨congrArg some (congrArg Value.int (by first | (simp [*]; done) | simp [nlt_of_le, *])), h⟩)

def swV (v : Vs) (o : Nat) (x y : Int32) : Vs := sHp (sHp v o x (gHp v o y)) o y (gHp v o x)

theorem s_X1_swap {γ : Gm} {v : Vs} {o : Nat} (ho : IsStk o) (x y : Int32) : Ew γ mX1_swap yX1_swap 1 [.ref (gz γ + (o + 23)), .int x, .int y] v none (swV v o x y) := by
  refine Ev.ofJ (by decide) rfl (fun h => by cases h) (Nat.le_of_ble_eq_true rfl) ?_
  refine J.aload_n (μ := mX1_swap) (pc := 0) dX1_swap_0 rfl ?_
  refine J.gr (μ := mX1_swap) (pc := 1) (T := TX1) (ci := 4) (fks := _) rfl rfl in_X1 0 (by decide) wf_X1_14 dX1_swap_1 (ho 23 (by decide)) rfl ?_
  refine J.iload_n (μ := mX1_swap) (pc := 4) dX1_swap_4 rfl ?_
  refine J.cV (μ := mX1_swap) (pc := 5) (g_hp ho _) rfl wm_X1_28 mi_X7_get rfl dX1_swap_5 (Rp.isa (T := TX7) rfl (ho 24 (by decide))) rfl rfl ⟨(Nat.le_of_ble_eq_true rfl), (Nat.le_of_ble_eq_true rfl)⟩ ⟨(Nat.le_of_ble_eq_true rfl), (Nat.le_of_ble_eq_true rfl)⟩ (Nat.le_of_ble_eq_true rfl) ?_
  refine J.istore_n (μ := mX1_swap) (pc := 8) dX1_swap_8 (Nat.le_of_ble_eq_true rfl) rfl ?_
  refine J.aload_n (μ := mX1_swap) (pc := 9) dX1_swap_9 rfl ?_
  refine J.gr (μ := mX1_swap) (pc := 10) (T := TX1) (ci := 4) (fks := _) rfl rfl in_X1 0 (by decide) wf_X1_14 dX1_swap_10 (ho 23 (by decide)) rfl ?_
  refine J.iload_n (μ := mX1_swap) (pc := 13) dX1_swap_13 rfl ?_
  refine J.aload_n (μ := mX1_swap) (pc := 14) dX1_swap_14 rfl ?_
  refine J.gr (μ := mX1_swap) (pc := 15) (T := TX1) (ci := 4) (fks := _) rfl rfl in_X1 0 (by decide) wf_X1_14 dX1_swap_15 (ho 23 (by decide)) rfl ?_
  refine J.iload_n (μ := mX1_swap) (pc := 18) dX1_swap_18 rfl ?_
  refine J.cV (μ := mX1_swap) (pc := 19) (g_hp ho _) rfl wm_X1_28 mi_X7_get rfl dX1_swap_19 (Rp.isa (T := TX7) rfl (ho 24 (by decide))) rfl rfl ⟨(Nat.le_of_ble_eq_true rfl), (Nat.le_of_ble_eq_true rfl)⟩ ⟨(Nat.le_of_ble_eq_true rfl), (Nat.le_of_ble_eq_true rfl)⟩ (Nat.le_of_ble_eq_true rfl) ?_
  refine J.cV0 (μ := mX1_swap) (pc := 22) (p_hp ho _ _) rfl wm_X1_32 mi_X7_set rfl dX1_swap_22 (Rp.isa (T := TX7) rfl (ho 24 (by decide))) rfl rfl ⟨(Nat.le_of_ble_eq_true rfl), (Nat.le_of_ble_eq_true rfl)⟩ ⟨(Nat.le_of_ble_eq_true rfl), (Nat.le_of_ble_eq_true rfl)⟩ (Nat.le_of_ble_eq_true rfl) ?_
  refine J.aload_n (μ := mX1_swap) (pc := 25) dX1_swap_25 rfl ?_
  refine J.gr (μ := mX1_swap) (pc := 26) (T := TX1) (ci := 4) (fks := _) rfl rfl in_X1 0 (by decide) wf_X1_14 dX1_swap_26 (ho 23 (by decide)) rfl ?_
  refine J.iload_n (μ := mX1_swap) (pc := 29) dX1_swap_29 rfl ?_
  refine J.iload_n (μ := mX1_swap) (pc := 30) dX1_swap_30 rfl ?_
  refine J.cV0 (μ := mX1_swap) (pc := 31) (p_hp ho _ _) rfl wm_X1_32 mi_X7_set rfl dX1_swap_31 (Rp.isa (T := TX7) rfl (ho 24 (by decide))) rfl rfl ⟨(Nat.le_of_ble_eq_true rfl), (Nat.le_of_ble_eq_true rfl)⟩ ⟨(Nat.le_of_ble_eq_true rfl), (Nat.le_of_ble_eq_true rfl)⟩ (Nat.le_of_ble_eq_true rfl) ?_
  exact J.vret (μ := mX1_swap) (pc := 34) dX1_swap_34 rfl (Nat.le_of_ble_eq_true rfl) (Nat.le_of_ble_eq_true rfl) (fun H h => ⟨rfl, by exact h⟩)

/-- the first to be composted among the first lots that are on the heap -/
def fsc (v : Vs) (o : Nat) : Nat → Int32
  | 0 => -1
  | i + 1 => if gPl v o (nI i) = -1 ∧ (fsc v o i = -1 ∨ cmpB v o (nI i) (fsc v o i)) then nI i else fsc v o i

theorem s_X1_firstByScan {γ : Gm} {v : Vs} {o : Nat} (ho : IsStk o) {N : Nat} (hN : v (o + 8) 7 = nI N) (h20 : N ≤ 20) : Er γ mX1_firstByScan yX1_firstByScan 2 [.ref (gz γ + (o + 8))] v (.int (fsc v o N)) := by
  refine Ev.ofJ (by decide) rfl (fun h => by cases h) (Nat.le_of_ble_eq_true rfl) ?_
  refine J.iconst (μ := mX1_firstByScan) (pc := 0) (v := -1) dX1_firstByScan_0 (by decide) ?_
  refine J.istore_n (μ := mX1_firstByScan) (pc := 1) dX1_firstByScan_1 (Nat.le_of_ble_eq_true rfl) rfl ?_
  refine J.iconst (μ := mX1_firstByScan) (pc := 2) (v := 0) dX1_firstByScan_2 (by decide) ?_
  refine J.istore_n (μ := mX1_firstByScan) (pc := 3) dX1_firstByScan_3 (Nat.le_of_ble_eq_true rfl) rfl ?_
  refine J.for (Lf := fun i => [some (.ref (gz γ + (o + 8))), some (.int (fsc v o i)), some (.int (nI i))]) (Pf := fun _ => Rp γ v) N ?_ (fun i hi ih => ?_)
  · refine J.iload_n (μ := mX1_firstByScan) (pc := 4) dX1_firstByScan_4 rfl ?_
    refine J.aload_n (μ := mX1_firstByScan) (pc := 5) dX1_firstByScan_5 rfl ?_
    refine J.gi (μ := mX1_firstByScan) (pc := 6) (T := TX5) (ci := 8) (fks := _) rfl rfl in_X5 7 (by decide) wf_X1_49 dX1_firstByScan_6 (ho 8 (by decide)) rfl ?_
    rw [hN]
    refine J.icmp_ge (μ := mX1_firstByScan) (pc := 9) 46 dX1_firstByScan_9 (by decide) (fun hc => ?_) (fun hc => ?_)
    · refine J.iload_n (μ := mX1_firstByScan) (pc := 46) dX1_firstByScan_46 rfl ?_
      exact J.iret (μ := mX1_firstByScan) (pc := 47) dX1_firstByScan_47 rfl (Nat.le_of_ble_eq_true rfl) (Nat.le_of_ble_eq_true rfl) (fun H h => ⟨rfl, h⟩)
    · exact absurd hc (nI_nlt_of (Nat.le_refl N) (by omega))
  · refine J.iload_n (μ := mX1_firstByScan) (pc := 4) dX1_firstByScan_4 rfl ?_
    refine J.aload_n (μ := mX1_firstByScan) (pc := 5) dX1_firstByScan_5 rfl ?_
    refine J.gi (μ := mX1_firstByScan) (pc := 6) (T := TX5) (ci := 8) (fks := _) rfl rfl in_X5 7 (by decide) wf_X1_49 dX1_firstByScan_6 (ho 8 (by decide)) rfl ?_
    rw [hN]
    refine J.icmp_ge (μ := mX1_firstByScan) (pc := 9) 46 dX1_firstByScan_9 (by decide) (fun hc => ?_) (fun hc => ?_)
    · exact absurd hc (nI_nle_of hi (by omega))
    · refine J.aload_n (μ := mX1_firstByScan) (pc := 12) dX1_firstByScan_12 rfl ?_
      refine J.gr (μ := mX1_firstByScan) (pc := 13) (T := TX5) (ci := 8) (fks := _) rfl rfl in_X5 4 (by decide) wf_X1_50 dX1_firstByScan_13 (ho 8 (by decide)) rfl ?_
      refine J.iload_n (μ := mX1_firstByScan) (pc := 16) dX1_firstByScan_16 rfl ?_
      refine J.cV (μ := mX1_firstByScan) (pc := 17) (g_pl ho _) rfl wm_X1_28 mi_X7_get rfl dX1_firstByScan_17 (Rp.isa (T := TX7) rfl (ho 17 (by decide))) rfl rfl ⟨(Nat.le_of_ble_eq_true rfl), (Nat.le_of_ble_eq_true rfl)⟩ ⟨(Nat.le_of_ble_eq_true rfl), (Nat.le_of_ble_eq_true rfl)⟩ (Nat.le_of_ble_eq_true rfl) ?_
      refine J.iconst (μ := mX1_firstByScan) (pc := 20) (v := -1) dX1_firstByScan_20 (by decide) ?_
      refine J.icmp_ne (μ := mX1_firstByScan) (pc := 21) 40 dX1_firstByScan_21 (by decide) (fun c6 => ?_) (fun c6 => ?_)
      · refine J.iinc (μ := mX1_firstByScan) (pc := 40) (v := 1) dX1_firstByScan_40 rfl (by decide) (Nat.le_of_ble_eq_true rfl) rfl ?_
        refine J.goto (μ := mX1_firstByScan) (pc := 43) 4 dX1_firstByScan_43 (by decide) ?_
        exact J.sub (by simp [lsub, fsc, nI_succ, *]) ih
      · refine J.iload_n (μ := mX1_firstByScan) (pc := 24) dX1_firstByScan_24 rfl ?_
        refine J.iconst (μ := mX1_firstByScan) (pc := 25) (v := -1) dX1_firstByScan_25 (by decide) ?_
        refine J.icmp_eq (μ := mX1_firstByScan) (pc := 26) 38 dX1_firstByScan_26 (by decide) (fun c11 => ?_) (fun c11 => ?_)
        · refine J.iload_n (μ := mX1_firstByScan) (pc := 38) dX1_firstByScan_38 rfl ?_
          refine J.istore_n (μ := mX1_firstByScan) (pc := 39) dX1_firstByScan_39 (Nat.le_of_ble_eq_true rfl) rfl ?_
          refine J.iinc (μ := mX1_firstByScan) (pc := 40) (v := 1) dX1_firstByScan_40 rfl (by decide) (Nat.le_of_ble_eq_true rfl) rfl ?_
          refine J.goto (μ := mX1_firstByScan) (pc := 43) 4 dX1_firstByScan_43 (by decide) ?_
          exact J.sub (by simp [lsub, fsc, nI_succ, *]) ih
        · refine J.aload_n (μ := mX1_firstByScan) (pc := 29) dX1_firstByScan_29 rfl ?_
          refine J.iload_n (μ := mX1_firstByScan) (pc := 30) dX1_firstByScan_30 rfl ?_
          refine J.iload_n (μ := mX1_firstByScan) (pc := 31) dX1_firstByScan_31 rfl ?_
          refine J.cV (μ := mX1_firstByScan) (pc := 32) (s_X5_compostsBefore ho  _ _) rfl wm_X1_36 mi_X5_compostsBefore rfl dX1_firstByScan_32 (Rp.isa (T := TX5) rfl (ho 8 (by decide))) rfl rfl ⟨(Nat.le_of_ble_eq_true rfl), (Nat.le_of_ble_eq_true rfl)⟩ ⟨(Nat.le_of_ble_eq_true rfl), (Nat.le_of_ble_eq_true rfl)⟩ (Nat.le_of_ble_eq_true rfl) ?_
          refine J.ifB_eq (μ := mX1_firstByScan) (pc := 35) 40 dX1_firstByScan_35 (by decide) (fun c20 => ?_) (fun c20 => ?_)
          · refine J.iinc (μ := mX1_firstByScan) (pc := 40) (v := 1) dX1_firstByScan_40 rfl (by decide) (Nat.le_of_ble_eq_true rfl) rfl ?_
            refine J.goto (μ := mX1_firstByScan) (pc := 43) 4 dX1_firstByScan_43 (by decide) ?_
            exact J.sub (by simp [lsub, fsc, nI_succ, *]) ih
          · refine J.iload_n (μ := mX1_firstByScan) (pc := 38) dX1_firstByScan_38 rfl ?_
            refine J.istore_n (μ := mX1_firstByScan) (pc := 39) dX1_firstByScan_39 (Nat.le_of_ble_eq_true rfl) rfl ?_
            refine J.iinc (μ := mX1_firstByScan) (pc := 40) (v := 1) dX1_firstByScan_40 rfl (by decide) (Nat.le_of_ble_eq_true rfl) rfl ?_
            refine J.goto (μ := mX1_firstByScan) (pc := 43) 4 dX1_firstByScan_43 (by decide) ?_
            exact J.sub (by simp [lsub, fsc, nI_succ, *]) ih
