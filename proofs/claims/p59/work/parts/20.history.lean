/-! the ring of the states before the latest changes -/
theorem J.ifnullR {γ : Gm} {μ : Mu} {R : Room} {Q : Fin_} {k n pc : Nat} {L : List (Option Value)} {rest : List Value} {P : Heap → Prop} {x : Nat} {off : Int} (d : decode μ.2.1 pc = .ok (.ifnull off, 3)) (kk : J γ μ R Q k n (pc + 3) L rest P) : J γ μ R Q k n pc L (.ref x :: rest) P :=
  fun p l e s m args below meth c B H locs ls hL hP hS => lv_ifnull B.1 B.2.1 d (kk p l e s m args below meth c B H locs ls hL hP hS)
theorem h_next : ∀ n, n < 8 → (nI n + 1) - (nI n + 1) / 8 * 8 = nI ((n + 1) % 8) := by decide +kernel
theorem h_prev : ∀ n, n < 8 → (nI n + 8 - 1) - (nI n + 8 - 1) / 8 * 8 = nI ((n + 7) % 8) := by decide +kernel
theorem h_size : ∀ s, s < 9 → (if 8 < nI s + 1 then 8 else nI s + 1) = nI (min (s + 1) 8) := by decide +kernel
def keepV (v : Vs) (n s : Nat) : Vs := up2 (up2 (cpR v (81 + 26 * n) 1 26) 79 1 (nI ((n + 1) % 8))) 79 2 (nI (min (s + 1) 8))
def giveV (v : Vs) (n s : Nat) : Vs := cpR (up2 (up2 v 79 1 (nI ((n + 7) % 8))) 79 2 (nI (s - 1))) 1 (81 + 26 * ((n + 7) % 8)) 26
theorem s_X4_keep {γ : Gm} {v : Vs} {n s : Nat} (hn : v 79 1 = nI n) (h8 : n < 8) (hs : v 79 2 = nI s) (hs8 : s ≤ 8) : Ew γ mX4_keep yX4_keep 4 [.ref (gz γ + 79), .ref (gz γ + 1)] v none (keepV v n s) := by
  have hq := isStk_ring n h8
  refine Ev.ofJ (by decide) rfl (fun h => by cases h) (Nat.le_of_ble_eq_true rfl) ?_
  refine J.aload_n (μ := mX4_keep) (pc := 0) dX4_keep_0 rfl ?_
  refine J.gi (μ := mX4_keep) (pc := 1) (T := TX4) (ci := 7) (fks := _) rfl rfl in_X4 1 (by decide) wf_X4_17 dX4_keep_1 sh79 rfl ?_
  rw [hn]
  refine J.if_lt (μ := mX4_keep) (pc := 4) 44 dX4_keep_4 (by decide) (fun h1 => ?_) (fun h1 => ?_)
  · exact absurd h1 (nI_pos (by omega))
  · refine J.aload_n (μ := mX4_keep) (pc := 7) dX4_keep_7 rfl ?_
    refine J.gi (μ := mX4_keep) (pc := 8) (T := TX4) (ci := 7) (fks := _) rfl rfl in_X4 1 (by decide) wf_X4_17 dX4_keep_8 sh79 rfl ?_
    refine J.aload_n (μ := mX4_keep) (pc := 11) dX4_keep_11 rfl ?_
    refine J.gr (μ := mX4_keep) (pc := 12) (T := TX4) (ci := 7) (fks := _) rfl rfl in_X4 0 (by decide) wf_X4_11 dX4_keep_12 sh79 rfl ?_
    rw [hn]
    refine J.alenQ (μ := mX4_keep) (pc := 15) (v := 8) dX4_keep_15 (fun H h => h.2.1) rfl ?_
    refine J.icmp_ge (μ := mX4_keep) (pc := 16) 44 dX4_keep_16 (by decide) (fun h2 => ?_) (fun h2 => ?_)
    · exact absurd h2 (nI_nle_of (b := 8) h8 (by omega))
    · refine J.aload_n (μ := mX4_keep) (pc := 19) dX4_keep_19 rfl ?_
      refine J.gr (μ := mX4_keep) (pc := 20) (T := TX4) (ci := 7) (fks := _) rfl rfl in_X4 0 (by decide) wf_X4_11 dX4_keep_20 sh79 rfl ?_
      refine J.aload_n (μ := mX4_keep) (pc := 23) dX4_keep_23 rfl ?_
      refine J.gi (μ := mX4_keep) (pc := 24) (T := TX4) (ci := 7) (fks := _) rfl rfl in_X4 1 (by decide) wf_X4_17 dX4_keep_24 sh79 rfl ?_
      rw [hn]
      refine J.aald (μ := mX4_keep) (pc := 27) dX4_keep_27 (fun H h => h.2.1) (vp_in_nI h8 (by decide)) (v := .ref (gz γ + (81 + 26 * n))) (by rw [nI_clamp (by omega)]; rfl) ?_
      refine J.ifnullR (μ := mX4_keep) (pc := 28) dX4_keep_28 ?_
      refine J.aload_n (μ := mX4_keep) (pc := 31) dX4_keep_31 rfl ?_
      refine J.gr (μ := mX4_keep) (pc := 32) (T := TX4) (ci := 7) (fks := _) rfl rfl in_X4 0 (by decide) wf_X4_11 dX4_keep_32 sh79 rfl ?_
      refine J.aload_n (μ := mX4_keep) (pc := 35) dX4_keep_35 rfl ?_
      refine J.gi (μ := mX4_keep) (pc := 36) (T := TX4) (ci := 7) (fks := _) rfl rfl in_X4 1 (by decide) wf_X4_17 dX4_keep_36 sh79 rfl ?_
      rw [hn]
      refine J.aald (μ := mX4_keep) (pc := 39) dX4_keep_39 (fun H h => h.2.1) (vp_in_nI h8 (by decide)) (v := .ref (gz γ + (81 + 26 * n))) (by rw [nI_clamp (by omega)]; rfl) ?_
      refine J.aload_n (μ := mX4_keep) (pc := 40) dX4_keep_40 rfl ?_
      refine J.cV0 (μ := mX4_keep) (pc := 41) (s_X9_copyFrom hq st1 (.inl (by omega))) rfl wm_X4_25 mi_X9_copyFrom rfl dX4_keep_41 (Rp.isa (T := TX9) rfl (hq 0 (by decide))) rfl rfl ⟨(Nat.le_of_ble_eq_true rfl), (Nat.le_of_ble_eq_true rfl)⟩ ⟨(Nat.le_of_ble_eq_true rfl), (Nat.le_of_ble_eq_true rfl)⟩ (Nat.le_of_ble_eq_true rfl) ?_
      refine J.aload_n (μ := mX4_keep) (pc := 44) dX4_keep_44 rfl ?_
      refine J.aload_n (μ := mX4_keep) (pc := 45) dX4_keep_45 rfl ?_
      refine J.gi (μ := mX4_keep) (pc := 46) (T := TX4) (ci := 7) (fks := _) rfl rfl in_X4 1 (by decide) wf_X4_17 dX4_keep_46 sh79 rfl ?_
      rw [show cpR v (81 + 26 * n) 1 26 79 1 = nI n by rw [cpR_out (.inl (by omega))]; exact hn]
      refine J.iconst (μ := mX4_keep) (pc := 49) (v := 1) dX4_keep_49 (by decide) ?_
      refine J.iadd (μ := mX4_keep) (pc := 50) dX4_keep_50 ?_
      refine J.bipush (μ := mX4_keep) (pc := 51) (v := 8) dX4_keep_51 (by decide) ?_
      refine J.irem (μ := mX4_keep) (pc := 53) dX4_keep_53 (by decide) ?_
      rw [h_next n h8]
      refine J.pi (μ := mX4_keep) (pc := 54) (T := TX4) (ci := 7) (ty0 := tyX4) (fks := _) rfl rfl in_X4 tyX4_ok nmX4 1 (by decide) wf_X4_17 dX4_keep_54 rfl rfl rfl sh79 rfl ?_
      refine J.aload_n (μ := mX4_keep) (pc := 57) dX4_keep_57 rfl ?_
      refine J.aload_n (μ := mX4_keep) (pc := 58) dX4_keep_58 rfl ?_
      refine J.gi (μ := mX4_keep) (pc := 59) (T := TX4) (ci := 7) (fks := _) rfl rfl in_X4 2 (by decide) wf_X4_21 dX4_keep_59 sh79 rfl ?_
      rw [show up2 (cpR v (81 + 26 * n) 1 26) 79 1 (nI ((n + 1) % 8)) 79 2 = nI s by rw [up2_sn (by decide), cpR_out (.inl (by omega))]; exact hs]
      refine J.iconst (μ := mX4_keep) (pc := 62) (v := 1) dX4_keep_62 (by decide) ?_
      refine J.iadd (μ := mX4_keep) (pc := 63) dX4_keep_63 ?_
      refine J.bipush (μ := mX4_keep) (pc := 64) (v := 8) dX4_keep_64 (by decide) ?_
      refine J.mmin (μ := mX4_keep) (pc := 66) rfl wm_X4_29 dX4_keep_66 ⟨(Nat.le_of_ble_eq_true rfl), (Nat.le_of_ble_eq_true rfl)⟩ ⟨(Nat.le_of_ble_eq_true rfl), (Nat.le_of_ble_eq_true rfl)⟩ ?_
      rw [h_size s (by omega)]
      refine J.pi (μ := mX4_keep) (pc := 69) (T := TX4) (ci := 7) (ty0 := tyX4) (fks := _) rfl rfl in_X4 tyX4_ok nmX4 2 (by decide) wf_X4_21 dX4_keep_69 rfl rfl rfl sh79 rfl ?_
      exact J.vret (μ := mX4_keep) (pc := 72) dX4_keep_72 rfl (Nat.le_of_ble_eq_true rfl) (Nat.le_of_ble_eq_true rfl) (fun H h => ⟨rfl, h⟩)
theorem s_X4_giveBack {γ : Gm} {v : Vs} {n s : Nat} (hn : v 79 1 = nI n) (h8 : n < 8) (hs : v 79 2 = nI (s + 1)) (hs8 : s ≤ 8) : Ew γ mX4_giveBack yX4_giveBack 4 [.ref (gz γ + 79), .ref (gz γ + 1)] v none (giveV v n (s + 1)) := by
  have hm : (n + 7) % 8 < 8 := Nat.mod_lt _ (by decide)
  have hq := isStk_ring _ hm
  have e1 : ∀ x, up2 (up2 v 79 1 (nI ((n + 7) % 8))) 79 2 x 79 1 = nI ((n + 7) % 8) := fun x => by rw [up2_sn (by decide), up2_ss]
  refine Ev.ofJ (by decide) rfl (fun h => by cases h) (Nat.le_of_ble_eq_true rfl) ?_
  refine J.aload_n (μ := mX4_giveBack) (pc := 0) dX4_giveBack_0 rfl ?_
  refine J.aload_n (μ := mX4_giveBack) (pc := 1) dX4_giveBack_1 rfl ?_
  refine J.gi (μ := mX4_giveBack) (pc := 2) (T := TX4) (ci := 7) (fks := _) rfl rfl in_X4 1 (by decide) wf_X4_17 dX4_giveBack_2 sh79 rfl ?_
  rw [hn]
  refine J.bipush (μ := mX4_giveBack) (pc := 5) (v := 8) dX4_giveBack_5 (by decide) ?_
  refine J.iadd (μ := mX4_giveBack) (pc := 7) dX4_giveBack_7 ?_
  refine J.iconst (μ := mX4_giveBack) (pc := 8) (v := 1) dX4_giveBack_8 (by decide) ?_
  refine J.isub (μ := mX4_giveBack) (pc := 9) dX4_giveBack_9 ?_
  refine J.bipush (μ := mX4_giveBack) (pc := 10) (v := 8) dX4_giveBack_10 (by decide) ?_
  refine J.irem (μ := mX4_giveBack) (pc := 12) dX4_giveBack_12 (by decide) ?_
  rw [h_prev n h8]
  refine J.pi (μ := mX4_giveBack) (pc := 13) (T := TX4) (ci := 7) (ty0 := tyX4) (fks := _) rfl rfl in_X4 tyX4_ok nmX4 1 (by decide) wf_X4_17 dX4_giveBack_13 rfl rfl rfl sh79 rfl ?_
  refine J.aload_n (μ := mX4_giveBack) (pc := 16) dX4_giveBack_16 rfl ?_
  refine J.dup (μ := mX4_giveBack) (pc := 17) dX4_giveBack_17 rfl ?_
  refine J.gi (μ := mX4_giveBack) (pc := 18) (T := TX4) (ci := 7) (fks := _) rfl rfl in_X4 2 (by decide) wf_X4_21 dX4_giveBack_18 sh79 rfl ?_
  rw [show up2 v 79 1 (nI ((n + 7) % 8)) 79 2 = nI (s + 1) by rw [up2_sn (by decide)]; exact hs]
  refine J.iconst (μ := mX4_giveBack) (pc := 21) (v := 1) dX4_giveBack_21 (by decide) ?_
  refine J.isub (μ := mX4_giveBack) (pc := 22) dX4_giveBack_22 ?_
  rw [nI_pred]
  refine J.pi (μ := mX4_giveBack) (pc := 23) (T := TX4) (ci := 7) (ty0 := tyX4) (fks := _) rfl rfl in_X4 tyX4_ok nmX4 2 (by decide) wf_X4_21 dX4_giveBack_23 rfl rfl rfl sh79 rfl ?_
  refine J.aload_n (μ := mX4_giveBack) (pc := 26) dX4_giveBack_26 rfl ?_
  refine J.gi (μ := mX4_giveBack) (pc := 27) (T := TX4) (ci := 7) (fks := _) rfl rfl in_X4 1 (by decide) wf_X4_17 dX4_giveBack_27 sh79 rfl ?_
  rw [e1]
  refine J.if_lt (μ := mX4_giveBack) (pc := 30) 70 dX4_giveBack_30 (by decide) (fun h1 => ?_) (fun h1 => ?_)
  · exact absurd h1 (nI_pos (by omega))
  · refine J.aload_n (μ := mX4_giveBack) (pc := 33) dX4_giveBack_33 rfl ?_
    refine J.gi (μ := mX4_giveBack) (pc := 34) (T := TX4) (ci := 7) (fks := _) rfl rfl in_X4 1 (by decide) wf_X4_17 dX4_giveBack_34 sh79 rfl ?_
    refine J.aload_n (μ := mX4_giveBack) (pc := 37) dX4_giveBack_37 rfl ?_
    refine J.gr (μ := mX4_giveBack) (pc := 38) (T := TX4) (ci := 7) (fks := _) rfl rfl in_X4 0 (by decide) wf_X4_11 dX4_giveBack_38 sh79 rfl ?_
    rw [e1]
    refine J.alenQ (μ := mX4_giveBack) (pc := 41) (v := 8) dX4_giveBack_41 (fun H h => h.2.1) rfl ?_
    refine J.icmp_ge (μ := mX4_giveBack) (pc := 42) 70 dX4_giveBack_42 (by decide) (fun h2 => ?_) (fun h2 => ?_)
    · exact absurd h2 (nI_nle_of (b := 8) hm (by omega))
    · refine J.aload_n (μ := mX4_giveBack) (pc := 45) dX4_giveBack_45 rfl ?_
      refine J.gr (μ := mX4_giveBack) (pc := 46) (T := TX4) (ci := 7) (fks := _) rfl rfl in_X4 0 (by decide) wf_X4_11 dX4_giveBack_46 sh79 rfl ?_
      refine J.aload_n (μ := mX4_giveBack) (pc := 49) dX4_giveBack_49 rfl ?_
      refine J.gi (μ := mX4_giveBack) (pc := 50) (T := TX4) (ci := 7) (fks := _) rfl rfl in_X4 1 (by decide) wf_X4_17 dX4_giveBack_50 sh79 rfl ?_
      rw [e1]
      refine J.aald (μ := mX4_giveBack) (pc := 53) dX4_giveBack_53 (fun H h => h.2.1) (vp_in_nI hm (by decide)) (v := .ref (gz γ + (81 + 26 * ((n + 7) % 8)))) (by rw [nI_clamp (by omega)]; rfl) ?_
      refine J.ifnullR (μ := mX4_giveBack) (pc := 54) dX4_giveBack_54 ?_
      refine J.aload_n (μ := mX4_giveBack) (pc := 57) dX4_giveBack_57 rfl ?_
      refine J.aload_n (μ := mX4_giveBack) (pc := 58) dX4_giveBack_58 rfl ?_
      refine J.gr (μ := mX4_giveBack) (pc := 59) (T := TX4) (ci := 7) (fks := _) rfl rfl in_X4 0 (by decide) wf_X4_11 dX4_giveBack_59 sh79 rfl ?_
      refine J.aload_n (μ := mX4_giveBack) (pc := 62) dX4_giveBack_62 rfl ?_
      refine J.gi (μ := mX4_giveBack) (pc := 63) (T := TX4) (ci := 7) (fks := _) rfl rfl in_X4 1 (by decide) wf_X4_17 dX4_giveBack_63 sh79 rfl ?_
      rw [e1]
      refine J.aald (μ := mX4_giveBack) (pc := 66) dX4_giveBack_66 (fun H h => h.2.1) (vp_in_nI hm (by decide)) (v := .ref (gz γ + (81 + 26 * ((n + 7) % 8)))) (by rw [nI_clamp (by omega)]; rfl) ?_
      refine J.cV0 (μ := mX4_giveBack) (pc := 67) (s_X9_copyFrom st1 hq (.inr (by omega))) rfl wm_X4_25 mi_X9_copyFrom rfl dX4_giveBack_67 (Rp.isa (T := TX9) rfl (st1 0 (by decide))) rfl rfl ⟨(Nat.le_of_ble_eq_true rfl), (Nat.le_of_ble_eq_true rfl)⟩ ⟨(Nat.le_of_ble_eq_true rfl), (Nat.le_of_ble_eq_true rfl)⟩ (Nat.le_of_ble_eq_true rfl) ?_
      exact J.vret (μ := mX4_giveBack) (pc := 70) dX4_giveBack_70 rfl (Nat.le_of_ble_eq_true rfl) (Nat.le_of_ble_eq_true rfl) (fun H h => ⟨rfl, h⟩)
theorem s_X4_forget {γ : Gm} {v : Vs} : Ew γ mX4_forget yX4_forget 0 [.ref (gz γ + 79)] v none (up2 v 79 2 0) := by
  refine Ev.ofJ (by decide) rfl (fun h => by cases h) (Nat.le_of_ble_eq_true rfl) ?_
  refine J.aload_n (μ := mX4_forget) (pc := 0) dX4_forget_0 rfl ?_
  refine J.iconst (μ := mX4_forget) (pc := 1) (v := 0) dX4_forget_1 (by decide) ?_
  refine J.pi (μ := mX4_forget) (pc := 2) (T := TX4) (ci := 7) (ty0 := tyX4) (fks := _) rfl rfl in_X4 tyX4_ok nmX4 2 (by decide) wf_X4_21 dX4_forget_2 rfl rfl rfl sh79 rfl ?_
  exact J.vret (μ := mX4_forget) (pc := 5) dX4_forget_5 rfl (Nat.le_of_ble_eq_true rfl) (Nat.le_of_ble_eq_true rfl) (fun H h => ⟨rfl, h⟩)
