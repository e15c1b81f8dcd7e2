theorem s_X9_copyFrom {γ : Gm} {v : Vs} {o o2 : Nat} (ho : IsStk o) (ho2 : IsStk o2) (hd : apart o o2) : Ew γ mX9_copyFrom yX9_copyFrom 3 [.ref (gz γ + o), .ref (gz γ + o2)] v none (cpR v o o2 26) := by
  refine Ev.ofJ (by decide) rfl (fun h => by cases h) (Nat.le_of_ble_eq_true rfl) ?_
  refine J.aload_n (μ := mX9_copyFrom) (pc := 0) dX9_copyFrom_0 rfl ?_
  refine J.gr (μ := mX9_copyFrom) (pc := 1) (T := TX9) (ci := 12) (fks := _) rfl rfl in_X9 0 (by decide) wf_X9_12 dX9_copyFrom_1 (ho 0 (by decide)) rfl ?_
  refine J.aload_n (μ := mX9_copyFrom) (pc := 4) dX9_copyFrom_4 rfl ?_
  refine J.gr (μ := mX9_copyFrom) (pc := 5) (T := TX9) (ci := 12) (fks := _) rfl rfl in_X9 0 (by decide) wf_X9_12 dX9_copyFrom_5 (ho2 0 (by decide)) rfl ?_
  refine J.cV0 (μ := mX9_copyFrom) (pc := 8) (s_X8_copyFrom ho ho2 hd) rfl wm_X9_45 mi_X8_copyFrom rfl dX9_copyFrom_8 (Rp.isa (T := TX8) rfl (ho 1 (by decide))) rfl rfl ⟨(Nat.le_of_ble_eq_true rfl), (Nat.le_of_ble_eq_true rfl)⟩ ⟨(Nat.le_of_ble_eq_true rfl), (Nat.le_of_ble_eq_true rfl)⟩ (Nat.le_of_ble_eq_true rfl) ?_
  refine J.aload_n (μ := mX9_copyFrom) (pc := 11) dX9_copyFrom_11 rfl ?_
  refine J.gr (μ := mX9_copyFrom) (pc := 12) (T := TX9) (ci := 12) (fks := _) rfl rfl in_X9 1 (by decide) wf_X9_21 dX9_copyFrom_12 (ho 0 (by decide)) rfl ?_
  refine J.aload_n (μ := mX9_copyFrom) (pc := 15) dX9_copyFrom_15 rfl ?_
  refine J.gr (μ := mX9_copyFrom) (pc := 16) (T := TX9) (ci := 12) (fks := _) rfl rfl in_X9 1 (by decide) wf_X9_21 dX9_copyFrom_16 (ho2 0 (by decide)) rfl ?_
  refine J.cV0 (μ := mX9_copyFrom) (pc := 19) (s_X5_copyFrom ho ho2 hd) rfl wm_X9_49 mi_X5_copyFrom rfl dX9_copyFrom_19 (Rp.isa (T := TX5) rfl (ho 8 (by decide))) rfl rfl ⟨(Nat.le_of_ble_eq_true rfl), (Nat.le_of_ble_eq_true rfl)⟩ ⟨(Nat.le_of_ble_eq_true rfl), (Nat.le_of_ble_eq_true rfl)⟩ (Nat.le_of_ble_eq_true rfl) ?_
  refine J.aload_n (μ := mX9_copyFrom) (pc := 22) dX9_copyFrom_22 rfl ?_
  refine J.gr (μ := mX9_copyFrom) (pc := 23) (T := TX9) (ci := 12) (fks := _) rfl rfl in_X9 2 (by decide) wf_X9_28 dX9_copyFrom_23 (ho 0 (by decide)) rfl ?_
  refine J.aload_n (μ := mX9_copyFrom) (pc := 26) dX9_copyFrom_26 rfl ?_
  refine J.gr (μ := mX9_copyFrom) (pc := 27) (T := TX9) (ci := 12) (fks := _) rfl rfl in_X9 2 (by decide) wf_X9_28 dX9_copyFrom_27 (ho2 0 (by decide)) rfl ?_
  refine J.cV0 (μ := mX9_copyFrom) (pc := 30) (s_X1_copyFrom ho ho2 hd) rfl wm_X9_52 mi_X1_copyFrom rfl dX9_copyFrom_30 (Rp.isa (T := TX1) rfl (ho 23 (by decide))) rfl rfl ⟨(Nat.le_of_ble_eq_true rfl), (Nat.le_of_ble_eq_true rfl)⟩ ⟨(Nat.le_of_ble_eq_true rfl), (Nat.le_of_ble_eq_true rfl)⟩ (Nat.le_of_ble_eq_true rfl) ?_
  refine J.aload_n (μ := mX9_copyFrom) (pc := 33) dX9_copyFrom_33 rfl ?_
  refine J.aload_n (μ := mX9_copyFrom) (pc := 34) dX9_copyFrom_34 rfl ?_
  refine J.gi (μ := mX9_copyFrom) (pc := 35) (T := TX9) (ci := 12) (fks := _) rfl rfl in_X9 3 (by decide) wf_X9_32 dX9_copyFrom_35 (ho2 0 (by decide)) rfl ?_
  refine J.pi (μ := mX9_copyFrom) (pc := 38) (T := TX9) (ci := 12) (ty0 := tyX9) (fks := _) rfl rfl in_X9 tyX9_ok nmX9 3 (by decide) wf_X9_32 dX9_copyFrom_38 rfl rfl rfl (ho 0 (by decide)) rfl ?_
  refine J.aload_n (μ := mX9_copyFrom) (pc := 41) dX9_copyFrom_41 rfl ?_
  refine J.aload_n (μ := mX9_copyFrom) (pc := 42) dX9_copyFrom_42 rfl ?_
  refine J.gi (μ := mX9_copyFrom) (pc := 43) (T := TX9) (ci := 12) (fks := _) rfl rfl in_X9 4 (by decide) wf_X9_36 dX9_copyFrom_43 (ho2 0 (by decide)) rfl ?_
  refine J.pi (μ := mX9_copyFrom) (pc := 46) (T := TX9) (ci := 12) (ty0 := tyX9) (fks := _) rfl rfl in_X9 tyX9_ok nmX9 4 (by decide) wf_X9_36 dX9_copyFrom_46 rfl rfl rfl (ho 0 (by decide)) rfl ?_
  refine J.aload_n (μ := mX9_copyFrom) (pc := 49) dX9_copyFrom_49 rfl ?_
  refine J.aload_n (μ := mX9_copyFrom) (pc := 50) dX9_copyFrom_50 rfl ?_
  refine J.gi (μ := mX9_copyFrom) (pc := 51) (T := TX9) (ci := 12) (fks := _) rfl rfl in_X9 5 (by decide) wf_X9_39 dX9_copyFrom_51 (ho2 0 (by decide)) rfl ?_
  refine J.pi (μ := mX9_copyFrom) (pc := 54) (T := TX9) (ci := 12) (ty0 := tyX9) (fks := _) rfl rfl in_X9 tyX9_ok nmX9 5 (by decide) wf_X9_39 dX9_copyFrom_54 rfl rfl rfl (ho 0 (by decide)) rfl ?_
  refine J.aload_n (μ := mX9_copyFrom) (pc := 57) dX9_copyFrom_57 rfl ?_
  refine J.aload_n (μ := mX9_copyFrom) (pc := 58) dX9_copyFrom_58 rfl ?_
  refine J.gi (μ := mX9_copyFrom) (pc := 59) (T := TX9) (ci := 12) (fks := _) rfl rfl in_X9 6 (by decide) wf_X9_42 dX9_copyFrom_59 (ho2 0 (by decide)) rfl ?_
  refine J.pi (μ := mX9_copyFrom) (pc := 62) (T := TX9) (ci := 12) (ty0 := tyX9) (fks := _) rfl rfl in_X9 tyX9_ok nmX9 6 (by decide) wf_X9_42 dX9_copyFrom_62 rfl rfl rfl (ho 0 (by decide)) rfl ?_
  refine J.of (P' := Rp γ (cpR v o o2 26)) (fun H h => h.congr (stk_same ho (a := o) (n := 26) (by omega) (by omega) (fun c h1 h2 => ?_) (fun k hk => ?_))) ?_
  · rcases (show c = 0 ∨ c = 1 ∨ c = 2 ∨ c = 3 ∨ c = 4 ∨ c = 5 ∨ c = 6 ∨ c = 7 ∨ c = 8 ∨ c = 9 ∨ c = 10 ∨ c = 11 ∨ c = 12 ∨ c = 13 ∨ c = 14 ∨ c = 15 ∨ c = 16 ∨ c = 17 ∨ c = 18 ∨ c = 19 ∨ c = 20 ∨ c = 21 ∨ c = 22 ∨ c = 23 ∨ c = 24 ∨ c = 25 by omega) with rfl | rfl | rfl | rfl | rfl | rfl | rfl | rfl | rfl | rfl | rfl | rfl | rfl | rfl | rfl | rfl | rfl | rfl | rfl | rfl | rfl | rfl | rfl | rfl | rfl | rfl
    · intro j hj
      match j, hj with
      | 0, hj => cases hj
      | 1, hj => cases hj
      | 2, hj => cases hj
      | 3, hj => simp (disch := omega) only [Nat.add_zero, up2_ss, up2_sn, up2_o, cpR_out, cpR_at]; first | done | exact congrFun (congrArg v (by omega)) _
      | 4, hj => simp (disch := omega) only [Nat.add_zero, up2_ss, up2_sn, up2_o, cpR_out, cpR_at]; first | done | exact congrFun (congrArg v (by omega)) _
      | 5, hj => simp (disch := omega) only [Nat.add_zero, up2_ss, up2_sn, up2_o, cpR_out, cpR_at]; first | done | exact congrFun (congrArg v (by omega)) _
      | 6, hj => simp (disch := omega) only [Nat.add_zero, up2_ss, up2_sn, up2_o, cpR_out, cpR_at]; first | done | exact congrFun (congrArg v (by omega)) _
      | j + 7, hj => cases hj
    · intro j hj
      match j, hj with
      | 0, hj => cases hj
      | 1, hj => cases hj
      | 2, hj => cases hj
      | 3, hj => simp (disch := omega) only [Nat.add_zero, up2_ss, up2_sn, up2_o, cpR_out, cpR_at]; first | done | exact congrFun (congrArg v (by omega)) _
      | j + 4, hj => cases hj
    · exact sameN_obj0
    · refine sameN_arr ?_
      simp (disch := omega) only [Nat.add_zero, up2_ss, up2_sn, up2_o, cpR_out, cpR_at]; first | done | exact congrArg v (by omega)
    · exact sameN_obj0
    · refine sameN_arr ?_
      simp (disch := omega) only [Nat.add_zero, up2_ss, up2_sn, up2_o, cpR_out, cpR_at]; first | done | exact congrArg v (by omega)
    · exact sameN_obj0
    · refine sameN_arr ?_
      simp (disch := omega) only [Nat.add_zero, up2_ss, up2_sn, up2_o, cpR_out, cpR_at]; first | done | exact congrArg v (by omega)
    · intro j hj
      match j, hj with
      | 0, hj => cases hj
      | 1, hj => cases hj
      | 2, hj => cases hj
      | 3, hj => cases hj
      | 4, hj => cases hj
      | 5, hj => cases hj
      | 6, hj => cases hj
      | 7, hj => simp (disch := omega) only [Nat.add_zero, up2_ss, up2_sn, up2_o, cpR_out, cpR_at]; first | done | exact congrFun (congrArg v (by omega)) _
      | j + 8, hj => cases hj
    · exact sameN_obj0
    · refine sameN_arr ?_
      simp (disch := omega) only [Nat.add_zero, up2_ss, up2_sn, up2_o, cpR_out, cpR_at]; first | done | exact congrArg v (by omega)
    · exact sameN_obj0
    · refine sameN_arr ?_
      simp (disch := omega) only [Nat.add_zero, up2_ss, up2_sn, up2_o, cpR_out, cpR_at]; first | done | exact congrArg v (by omega)
    · exact sameN_obj0
    · refine sameN_arr ?_
      simp (disch := omega) only [Nat.add_zero, up2_ss, up2_sn, up2_o, cpR_out, cpR_at]; first | done | exact congrArg v (by omega)
    · exact sameN_obj0
    · refine sameN_arr ?_
      simp (disch := omega) only [Nat.add_zero, up2_ss, up2_sn, up2_o, cpR_out, cpR_at]; first | done | exact congrArg v (by omega)
    · exact sameN_obj0
    · refine sameN_arr ?_
      simp (disch := omega) only [Nat.add_zero, up2_ss, up2_sn, up2_o, cpR_out, cpR_at]; first | done | exact congrArg v (by omega)
    · exact sameN_obj0
    · refine sameN_arr ?_
      simp (disch := omega) only [Nat.add_zero, up2_ss, up2_sn, up2_o, cpR_out, cpR_at]; first | done | exact congrArg v (by omega)
    · exact sameN_obj0
    · refine sameN_arr ?_
      simp (disch := omega) only [Nat.add_zero, up2_ss, up2_sn, up2_o, cpR_out, cpR_at]; first | done | exact congrArg v (by omega)
    · intro j hj
      match j, hj with
      | 0, hj => cases hj
      | 1, hj => simp (disch := omega) only [Nat.add_zero, up2_ss, up2_sn, up2_o, cpR_out, cpR_at]; first | done | exact congrFun (congrArg v (by omega)) _
      | j + 2, hj => cases hj
    · exact sameN_obj0
    · refine sameN_arr ?_
      simp (disch := omega) only [Nat.add_zero, up2_ss, up2_sn, up2_o, cpR_out, cpR_at]; first | done | exact congrArg v (by omega)
  · simp (disch := omega) only [Nat.add_zero, up2_ss, up2_sn, up2_o, cpR_out, cpR_at]
  · exact J.vret (μ := mX9_copyFrom) (pc := 65) dX9_copyFrom_65 rfl (Nat.le_of_ble_eq_true rfl) (Nat.le_of_ble_eq_true rfl) (fun H h => ⟨rfl, h⟩)
