/-! the clerk: what each command makes of the numbers -/
theorem J.ldcw {γ : Gm} {μ : Mu} {R : Room} {Q : Fin_} {k n pc : Nat} {L : List (Option Value)} {rest : List Value} {P : Heap → Prop} {own : String} {index : Nat} {v : Int32} (hown : μ.1 = own) (w : Cond.constant own index v ∈ WSA) (d : decode μ.2.1 pc = .ok (.ldc_w index, 3)) (kk : J γ μ R Q k n (pc + 3) L (.int v :: rest) P) : J γ μ R Q k n pc L rest P :=
  fun p l e s m args below meth c B H locs ls hL hP hS => lv_ldcw B.1 B.2.1 (hown ▸ B.2.2.2.2.2.1) (B.2.2.2.2.2.2.1 _ w) d (kk p l e s m args below meth c B H locs ls hL hP hS)
/-- Integer.bitCount, as it is written -/
def ush (x : Int32) (y : Int32) : Int32 := (x.toUInt32 >>> (y.toUInt32 &&& Int32.toUInt32 31)).toInt32
def bc1 (x : Int32) : Int32 := x - (ush x 1 &&& 1431655765)
def bc2 (x : Int32) : Int32 := (x &&& 858993459) + (ush x 2 &&& 858993459)
def bc3 (x : Int32) : Int32 := (x + ush x 4) &&& 252645135
def bc4 (x : Int32) : Int32 := x + ush x 8
def bc5 (x : Int32) : Int32 := x + ush x 16
def bcJ (x : Int32) : Int32 := bc5 (bc4 (bc3 (bc2 (bc1 x)))) &&& 63
theorem s_J6_bitCount {γ : Gm} {v : Vs} (x : Int32) : Er γ mJ6_bitCount_0f7a4 yJ6_bitCount_0f7a4 0 [.int x] v (.int (bcJ x)) := by
  refine Ev.ofJ (by decide) rfl (fun h => by cases h) (Nat.le_of_ble_eq_true rfl) ?_
  refine J.iload_n (μ := mJ6_bitCount_0f7a4) (pc := 0) dJ6_bitCount_0f7a4_0 rfl ?_
  refine J.iload_n (μ := mJ6_bitCount_0f7a4) (pc := 1) dJ6_bitCount_0f7a4_1 rfl ?_
  refine J.iconst (μ := mJ6_bitCount_0f7a4) (pc := 2) (v := 1) dJ6_bitCount_0f7a4_2 (by decide) ?_
  refine J.iushr (μ := mJ6_bitCount_0f7a4) (pc := 3) dJ6_bitCount_0f7a4_3 ?_
  refine J.ldcw (μ := mJ6_bitCount_0f7a4) (pc := 4) rfl wo_J6_265 dJ6_bitCount_0f7a4_4 ?_
  refine J.iand (μ := mJ6_bitCount_0f7a4) (pc := 7) dJ6_bitCount_0f7a4_7 ?_
  refine J.isub (μ := mJ6_bitCount_0f7a4) (pc := 8) dJ6_bitCount_0f7a4_8 ?_
  refine J.istore_n (μ := mJ6_bitCount_0f7a4) (pc := 9) dJ6_bitCount_0f7a4_9 (Nat.le_of_ble_eq_true rfl) rfl ?_
  refine J.iload_n (μ := mJ6_bitCount_0f7a4) (pc := 10) dJ6_bitCount_0f7a4_10 rfl ?_
  refine J.ldcw (μ := mJ6_bitCount_0f7a4) (pc := 11) rfl wo_J6_266 dJ6_bitCount_0f7a4_11 ?_
  refine J.iand (μ := mJ6_bitCount_0f7a4) (pc := 14) dJ6_bitCount_0f7a4_14 ?_
  refine J.iload_n (μ := mJ6_bitCount_0f7a4) (pc := 15) dJ6_bitCount_0f7a4_15 rfl ?_
  refine J.iconst (μ := mJ6_bitCount_0f7a4) (pc := 16) (v := 2) dJ6_bitCount_0f7a4_16 (by decide) ?_
  refine J.iushr (μ := mJ6_bitCount_0f7a4) (pc := 17) dJ6_bitCount_0f7a4_17 ?_
  refine J.ldcw (μ := mJ6_bitCount_0f7a4) (pc := 18) rfl wo_J6_266 dJ6_bitCount_0f7a4_18 ?_
  refine J.iand (μ := mJ6_bitCount_0f7a4) (pc := 21) dJ6_bitCount_0f7a4_21 ?_
  refine J.iadd (μ := mJ6_bitCount_0f7a4) (pc := 22) dJ6_bitCount_0f7a4_22 ?_
  refine J.istore_n (μ := mJ6_bitCount_0f7a4) (pc := 23) dJ6_bitCount_0f7a4_23 (Nat.le_of_ble_eq_true rfl) rfl ?_
  refine J.iload_n (μ := mJ6_bitCount_0f7a4) (pc := 24) dJ6_bitCount_0f7a4_24 rfl ?_
  refine J.iload_n (μ := mJ6_bitCount_0f7a4) (pc := 25) dJ6_bitCount_0f7a4_25 rfl ?_
  refine J.iconst (μ := mJ6_bitCount_0f7a4) (pc := 26) (v := 4) dJ6_bitCount_0f7a4_26 (by decide) ?_
  refine J.iushr (μ := mJ6_bitCount_0f7a4) (pc := 27) dJ6_bitCount_0f7a4_27 ?_
  refine J.iadd (μ := mJ6_bitCount_0f7a4) (pc := 28) dJ6_bitCount_0f7a4_28 ?_
  refine J.ldcw (μ := mJ6_bitCount_0f7a4) (pc := 29) rfl wo_J6_267 dJ6_bitCount_0f7a4_29 ?_
  refine J.iand (μ := mJ6_bitCount_0f7a4) (pc := 32) dJ6_bitCount_0f7a4_32 ?_
  refine J.istore_n (μ := mJ6_bitCount_0f7a4) (pc := 33) dJ6_bitCount_0f7a4_33 (Nat.le_of_ble_eq_true rfl) rfl ?_
  refine J.iload_n (μ := mJ6_bitCount_0f7a4) (pc := 34) dJ6_bitCount_0f7a4_34 rfl ?_
  refine J.iload_n (μ := mJ6_bitCount_0f7a4) (pc := 35) dJ6_bitCount_0f7a4_35 rfl ?_
  refine J.bipush (μ := mJ6_bitCount_0f7a4) (pc := 36) (v := 8) dJ6_bitCount_0f7a4_36 (by decide) ?_
  refine J.iushr (μ := mJ6_bitCount_0f7a4) (pc := 38) dJ6_bitCount_0f7a4_38 ?_
  refine J.iadd (μ := mJ6_bitCount_0f7a4) (pc := 39) dJ6_bitCount_0f7a4_39 ?_
  refine J.istore_n (μ := mJ6_bitCount_0f7a4) (pc := 40) dJ6_bitCount_0f7a4_40 (Nat.le_of_ble_eq_true rfl) rfl ?_
  refine J.iload_n (μ := mJ6_bitCount_0f7a4) (pc := 41) dJ6_bitCount_0f7a4_41 rfl ?_
  refine J.iload_n (μ := mJ6_bitCount_0f7a4) (pc := 42) dJ6_bitCount_0f7a4_42 rfl ?_
  refine J.bipush (μ := mJ6_bitCount_0f7a4) (pc := 43) (v := 16) dJ6_bitCount_0f7a4_43 (by decide) ?_
  refine J.iushr (μ := mJ6_bitCount_0f7a4) (pc := 45) dJ6_bitCount_0f7a4_45 ?_
  refine J.iadd (μ := mJ6_bitCount_0f7a4) (pc := 46) dJ6_bitCount_0f7a4_46 ?_
  refine J.istore_n (μ := mJ6_bitCount_0f7a4) (pc := 47) dJ6_bitCount_0f7a4_47 (Nat.le_of_ble_eq_true rfl) rfl ?_
  refine J.iload_n (μ := mJ6_bitCount_0f7a4) (pc := 48) dJ6_bitCount_0f7a4_48 rfl ?_
  refine J.bipush (μ := mJ6_bitCount_0f7a4) (pc := 49) (v := 63) dJ6_bitCount_0f7a4_49 (by decide) ?_
  refine J.iand (μ := mJ6_bitCount_0f7a4) (pc := 51) dJ6_bitCount_0f7a4_51 ?_
  exact J.iret (μ := mJ6_bitCount_0f7a4) (pc := 52) dJ6_bitCount_0f7a4_52 rfl (Nat.le_of_ble_eq_true rfl) (Nat.le_of_ble_eq_true rfl) (fun H h => ⟨rfl, h⟩)
abbrev rmv (v : Vs) (o : Nat) (x : Int32) : Vs := sPl (sVo v o x 0) o x (-2)
theorem rmv_o {v : Vs} {o k : Nat} {x : Int32} (h1 : k ≠ o + 14) (h2 : k ≠ o + 18) : rmv v o x k = v k := by
  unfold rmv sPl sVo
  rw [rs_o h2, rs_o h1]
def takeV (v : Vs) (o N M : Nat) (k w z d : Int32) : Int32 × Vs :=
  (up2 v o 4 (v o 4 + w) (o + 8) 7, addL (up2 v o 4 (v o 4 + w)) o k z w (up2 v o 4 (v o 4 + w) o 3 + d) (pfs v o N z w (-1) (-1) M).1)
theorem s_X0_takeIn {γ : Gm} {v : Vs} {o : Nat} (ho : IsStk o) {N M : Nat} (hN : v (o + 8) 7 = nI N) (h20 : N ≤ 20) (hM : v (o + 1) 3 = nI M) (h8 : M ≤ 8) (k w z d : Int32) : Ew γ mX0_takeIn yX0_takeIn 3 [.ref (gz γ + o), .int k, .int w, .int z, .int d] v (some (.int (takeV v o N M k w z d).1)) (takeV v o N M k w z d).2 := by
  refine Ev.ofJ (by decide) rfl (fun h => by cases h) (Nat.le_of_ble_eq_true rfl) ?_
  refine J.aload_n (μ := mX0_takeIn) (pc := 0) dX0_takeIn_0 rfl ?_
  refine J.iload_n (μ := mX0_takeIn) (pc := 1) dX0_takeIn_1 rfl ?_
  refine J.iload_n (μ := mX0_takeIn) (pc := 2) dX0_takeIn_2 rfl ?_
  refine J.iconst (μ := mX0_takeIn) (pc := 3) (v := -1) dX0_takeIn_3 (by decide) ?_
  refine J.iconst (μ := mX0_takeIn) (pc := 4) (v := -1) dX0_takeIn_4 (by decide) ?_
  refine J.cV (μ := mX0_takeIn) (pc := 5) (s_X9_placeFor ho hN h20 hM h8 _ _ _ _) rfl wm_X0_79 mi_X9_placeFor rfl dX0_takeIn_5 (Rp.isa (T := TX9) rfl (ho 0 (by decide))) rfl rfl ⟨(Nat.le_of_ble_eq_true rfl), (Nat.le_of_ble_eq_true rfl)⟩ ⟨(Nat.le_of_ble_eq_true rfl), (Nat.le_of_ble_eq_true rfl)⟩ (Nat.le_of_ble_eq_true rfl) ?_
  refine J.istore (μ := mX0_takeIn) (pc := 8) dX0_takeIn_8 (Nat.le_of_ble_eq_true rfl) rfl ?_
  refine J.aload_n (μ := mX0_takeIn) (pc := 10) dX0_takeIn_10 rfl ?_
  refine J.dup (μ := mX0_takeIn) (pc := 11) dX0_takeIn_11 rfl ?_
  refine J.gi (μ := mX0_takeIn) (pc := 12) (T := TX9) (ci := 12) (fks := _) rfl rfl in_X9 4 (by decide) wf_X0_83 dX0_takeIn_12 (ho 0 (by decide)) rfl ?_
  refine J.iload_n (μ := mX0_takeIn) (pc := 15) dX0_takeIn_15 rfl ?_
  refine J.iadd (μ := mX0_takeIn) (pc := 16) dX0_takeIn_16 ?_
  refine J.pi (μ := mX0_takeIn) (pc := 17) (T := TX9) (ci := 12) (ty0 := tyX9) (fks := _) rfl rfl in_X9 tyX9_ok nmX9 4 (by decide) wf_X0_83 dX0_takeIn_17 rfl rfl rfl (ho 0 (by decide)) rfl ?_
  refine J.aload_n (μ := mX0_takeIn) (pc := 20) dX0_takeIn_20 rfl ?_
  refine J.gr (μ := mX0_takeIn) (pc := 21) (T := TX9) (ci := 12) (fks := _) rfl rfl in_X9 1 (by decide) wf_X0_34 dX0_takeIn_21 (ho 0 (by decide)) rfl ?_
  refine J.iload_n (μ := mX0_takeIn) (pc := 24) dX0_takeIn_24 rfl ?_
  refine J.iload_n (μ := mX0_takeIn) (pc := 25) dX0_takeIn_25 rfl ?_
  refine J.iload_n (μ := mX0_takeIn) (pc := 26) dX0_takeIn_26 rfl ?_
  refine J.aload_n (μ := mX0_takeIn) (pc := 27) dX0_takeIn_27 rfl ?_
  refine J.gi (μ := mX0_takeIn) (pc := 28) (T := TX9) (ci := 12) (fks := _) rfl rfl in_X9 3 (by decide) wf_X0_68 dX0_takeIn_28 (ho 0 (by decide)) rfl ?_
  refine J.iload (μ := mX0_takeIn) (pc := 31) dX0_takeIn_31 rfl ?_
  refine J.iadd (μ := mX0_takeIn) (pc := 33) dX0_takeIn_33 ?_
  refine J.iload (μ := mX0_takeIn) (pc := 34) dX0_takeIn_34 rfl ?_
  refine J.cV (μ := mX0_takeIn) (pc := 36) (s_X5_add ho  _ _ _ _ _) rfl wm_X0_86 mi_X5_add rfl dX0_takeIn_36 (Rp.isa (T := TX5) rfl (ho 8 (by decide))) rfl rfl ⟨(Nat.le_of_ble_eq_true rfl), (Nat.le_of_ble_eq_true rfl)⟩ ⟨(Nat.le_of_ble_eq_true rfl), (Nat.le_of_ble_eq_true rfl)⟩ (Nat.le_of_ble_eq_true rfl) ?_
  exact J.iret (μ := mX0_takeIn) (pc := 39) dX0_takeIn_39 rfl (Nat.le_of_ble_eq_true rfl) (Nat.le_of_ble_eq_true rfl) (fun H h => ⟨rfl, h⟩)
def divV (v : Vs) (o : Nat) (x w : Int32) : Int32 × Vs :=
  let v1 := sVo v o x (gVo v o x - w)
  (v1 (o + 8) 7, sP2 (sP1 (addL v1 o (gKi v1 o x) (gLz v1 o x) w (gEp v1 o x) (gPl v1 o x)) o (v1 (o + 8) 7) x) o (v1 (o + 8) 7) (-1))
theorem s_X0_divide {γ : Gm} {v : Vs} {o : Nat} (ho : IsStk o) (x w : Int32) : Ew γ mX0_divide yX0_divide 2 [.ref (gz γ + o), .int x, .int w] v (some (.int (divV v o x w).1)) (divV v o x w).2 := by
  refine Ev.ofJ (by decide) rfl (fun h => by cases h) (Nat.le_of_ble_eq_true rfl) ?_
  refine J.aload_n (μ := mX0_divide) (pc := 0) dX0_divide_0 rfl ?_
  refine J.gr (μ := mX0_divide) (pc := 1) (T := TX9) (ci := 12) (fks := _) rfl rfl in_X9 1 (by decide) wf_X0_34 dX0_divide_1 (ho 0 (by decide)) rfl ?_
  refine J.astore_n (μ := mX0_divide) (pc := 4) dX0_divide_4 (Nat.le_of_ble_eq_true rfl) rfl ?_
  refine J.aload_n (μ := mX0_divide) (pc := 5) dX0_divide_5 rfl ?_
  refine J.gr (μ := mX0_divide) (pc := 6) (T := TX5) (ci := 8) (fks := _) rfl rfl in_X5 2 (by decide) wf_X0_89 dX0_divide_6 (ho 8 (by decide)) rfl ?_
  refine J.iload_n (μ := mX0_divide) (pc := 9) dX0_divide_9 rfl ?_
  refine J.aload_n (μ := mX0_divide) (pc := 10) dX0_divide_10 rfl ?_
  refine J.gr (μ := mX0_divide) (pc := 11) (T := TX5) (ci := 8) (fks := _) rfl rfl in_X5 2 (by decide) wf_X0_89 dX0_divide_11 (ho 8 (by decide)) rfl ?_
  refine J.iload_n (μ := mX0_divide) (pc := 14) dX0_divide_14 rfl ?_
  refine J.cV (μ := mX0_divide) (pc := 15) (g_vo ho _) rfl wm_X0_92 mi_X7_get rfl dX0_divide_15 (Rp.isa (T := TX7) rfl (ho 13 (by decide))) rfl rfl ⟨(Nat.le_of_ble_eq_true rfl), (Nat.le_of_ble_eq_true rfl)⟩ ⟨(Nat.le_of_ble_eq_true rfl), (Nat.le_of_ble_eq_true rfl)⟩ (Nat.le_of_ble_eq_true rfl) ?_
  refine J.iload_n (μ := mX0_divide) (pc := 18) dX0_divide_18 rfl ?_
  refine J.isub (μ := mX0_divide) (pc := 19) dX0_divide_19 ?_
  refine J.cV0 (μ := mX0_divide) (pc := 20) (p_vo ho _ _) rfl wm_X0_44 mi_X7_set rfl dX0_divide_20 (Rp.isa (T := TX7) rfl (ho 13 (by decide))) rfl rfl ⟨(Nat.le_of_ble_eq_true rfl), (Nat.le_of_ble_eq_true rfl)⟩ ⟨(Nat.le_of_ble_eq_true rfl), (Nat.le_of_ble_eq_true rfl)⟩ (Nat.le_of_ble_eq_true rfl) ?_
  refine J.aload_n (μ := mX0_divide) (pc := 23) dX0_divide_23 rfl ?_
  refine J.aload_n (μ := mX0_divide) (pc := 24) dX0_divide_24 rfl ?_
  refine J.gr (μ := mX0_divide) (pc := 25) (T := TX5) (ci := 8) (fks := _) rfl rfl in_X5 0 (by decide) wf_X0_95 dX0_divide_25 (ho 8 (by decide)) rfl ?_
  refine J.iload_n (μ := mX0_divide) (pc := 28) dX0_divide_28 rfl ?_
  refine J.cV (μ := mX0_divide) (pc := 29) (g_ki ho _) rfl wm_X0_92 mi_X7_get rfl dX0_divide_29 (Rp.isa (T := TX7) rfl (ho 9 (by decide))) rfl rfl ⟨(Nat.le_of_ble_eq_true rfl), (Nat.le_of_ble_eq_true rfl)⟩ ⟨(Nat.le_of_ble_eq_true rfl), (Nat.le_of_ble_eq_true rfl)⟩ (Nat.le_of_ble_eq_true rfl) ?_
  refine J.aload_n (μ := mX0_divide) (pc := 32) dX0_divide_32 rfl ?_
  refine J.gr (μ := mX0_divide) (pc := 33) (T := TX5) (ci := 8) (fks := _) rfl rfl in_X5 1 (by decide) wf_X0_98 dX0_divide_33 (ho 8 (by decide)) rfl ?_
  refine J.iload_n (μ := mX0_divide) (pc := 36) dX0_divide_36 rfl ?_
  refine J.cV (μ := mX0_divide) (pc := 37) (g_lz ho _) rfl wm_X0_92 mi_X7_get rfl dX0_divide_37 (Rp.isa (T := TX7) rfl (ho 11 (by decide))) rfl rfl ⟨(Nat.le_of_ble_eq_true rfl), (Nat.le_of_ble_eq_true rfl)⟩ ⟨(Nat.le_of_ble_eq_true rfl), (Nat.le_of_ble_eq_true rfl)⟩ (Nat.le_of_ble_eq_true rfl) ?_
  refine J.iload_n (μ := mX0_divide) (pc := 40) dX0_divide_40 rfl ?_
  refine J.aload_n (μ := mX0_divide) (pc := 41) dX0_divide_41 rfl ?_
  refine J.gr (μ := mX0_divide) (pc := 42) (T := TX5) (ci := 8) (fks := _) rfl rfl in_X5 3 (by decide) wf_X0_101 dX0_divide_42 (ho 8 (by decide)) rfl ?_
  refine J.iload_n (μ := mX0_divide) (pc := 45) dX0_divide_45 rfl ?_
  refine J.cV (μ := mX0_divide) (pc := 46) (g_ep ho _) rfl wm_X0_92 mi_X7_get rfl dX0_divide_46 (Rp.isa (T := TX7) rfl (ho 15 (by decide))) rfl rfl ⟨(Nat.le_of_ble_eq_true rfl), (Nat.le_of_ble_eq_true rfl)⟩ ⟨(Nat.le_of_ble_eq_true rfl), (Nat.le_of_ble_eq_true rfl)⟩ (Nat.le_of_ble_eq_true rfl) ?_
  refine J.aload_n (μ := mX0_divide) (pc := 49) dX0_divide_49 rfl ?_
  refine J.gr (μ := mX0_divide) (pc := 50) (T := TX5) (ci := 8) (fks := _) rfl rfl in_X5 4 (by decide) wf_X0_38 dX0_divide_50 (ho 8 (by decide)) rfl ?_
  refine J.iload_n (μ := mX0_divide) (pc := 53) dX0_divide_53 rfl ?_
  refine J.cV (μ := mX0_divide) (pc := 54) (g_pl ho _) rfl wm_X0_92 mi_X7_get rfl dX0_divide_54 (Rp.isa (T := TX7) rfl (ho 17 (by decide))) rfl rfl ⟨(Nat.le_of_ble_eq_true rfl), (Nat.le_of_ble_eq_true rfl)⟩ ⟨(Nat.le_of_ble_eq_true rfl), (Nat.le_of_ble_eq_true rfl)⟩ (Nat.le_of_ble_eq_true rfl) ?_
  refine J.cV (μ := mX0_divide) (pc := 57) (s_X5_add ho  _ _ _ _ _) rfl wm_X0_86 mi_X5_add rfl dX0_divide_57 (Rp.isa (T := TX5) rfl (ho 8 (by decide))) rfl rfl ⟨(Nat.le_of_ble_eq_true rfl), (Nat.le_of_ble_eq_true rfl)⟩ ⟨(Nat.le_of_ble_eq_true rfl), (Nat.le_of_ble_eq_true rfl)⟩ (Nat.le_of_ble_eq_true rfl) ?_
  refine J.istore (μ := mX0_divide) (pc := 60) dX0_divide_60 (Nat.le_of_ble_eq_true rfl) rfl ?_
  refine J.aload_n (μ := mX0_divide) (pc := 62) dX0_divide_62 rfl ?_
  refine J.iload (μ := mX0_divide) (pc := 63) dX0_divide_63 rfl ?_
  refine J.iload_n (μ := mX0_divide) (pc := 65) dX0_divide_65 rfl ?_
  refine J.iconst (μ := mX0_divide) (pc := 66) (v := -1) dX0_divide_66 (by decide) ?_
  refine J.cV0 (μ := mX0_divide) (pc := 67) (s_X5_setParents ho  _ _ _) rfl wm_X0_104 mi_X5_setParents rfl dX0_divide_67 (Rp.isa (T := TX5) rfl (ho 8 (by decide))) rfl rfl ⟨(Nat.le_of_ble_eq_true rfl), (Nat.le_of_ble_eq_true rfl)⟩ ⟨(Nat.le_of_ble_eq_true rfl), (Nat.le_of_ble_eq_true rfl)⟩ (Nat.le_of_ble_eq_true rfl) ?_
  refine J.iload (μ := mX0_divide) (pc := 70) dX0_divide_70 rfl ?_
  exact J.iret (μ := mX0_divide) (pc := 72) dX0_divide_72 rfl (Nat.le_of_ble_eq_true rfl) (Nat.le_of_ble_eq_true rfl) (fun H h => ⟨rfl, h⟩)
def uniV (v : Vs) (o N M : Nat) (x y : Int32) : Int32 × Vs :=
  let v2 := rmv (rmv v o x) o y
  (v2 (o + 8) 7, sP2 (sP1 (addL v2 o (gKi v2 o x) (gLz v o x) (gVo v o x + gVo v o y) (if gEp v o y < gEp v o x then gEp v o y else gEp v o x) (pfs v2 o N (gLz v o x) (gVo v o x + gVo v o y) (-1) (-1) M).1) o (v2 (o + 8) 7) x) o (v2 (o + 8) 7) y)
theorem s_X0_unite {γ : Gm} {v : Vs} {o : Nat} (ho : IsStk o) {N M : Nat} (hN : v (o + 8) 7 = nI N) (h20 : N ≤ 20) (hM : v (o + 1) 3 = nI M) (h8 : M ≤ 8) (x y : Int32) : Ew γ mX0_unite yX0_unite 3 [.ref (gz γ + o), .int x, .int y] v (some (.int (uniV v o N M x y).1)) (uniV v o N M x y).2 := by
  have hN2 : rmv (rmv v o x) o y (o + 8) 7 = nI N := by rw [rmv_o (by omega) (by omega), rmv_o (by omega) (by omega)]; exact hN
  have hM2 : rmv (rmv v o x) o y (o + 1) 3 = nI M := by rw [rmv_o (by omega) (by omega), rmv_o (by omega) (by omega)]; exact hM
  refine Ev.ofJ (by decide) rfl (fun h => by cases h) (Nat.le_of_ble_eq_true rfl) ?_
  refine J.aload_n (μ := mX0_unite) (pc := 0) dX0_unite_0 rfl ?_
  refine J.gr (μ := mX0_unite) (pc := 1) (T := TX9) (ci := 12) (fks := _) rfl rfl in_X9 1 (by decide) wf_X0_34 dX0_unite_1 (ho 0 (by decide)) rfl ?_
  refine J.astore_n (μ := mX0_unite) (pc := 4) dX0_unite_4 (Nat.le_of_ble_eq_true rfl) rfl ?_
  refine J.aload_n (μ := mX0_unite) (pc := 5) dX0_unite_5 rfl ?_
  refine J.gr (μ := mX0_unite) (pc := 6) (T := TX5) (ci := 8) (fks := _) rfl rfl in_X5 1 (by decide) wf_X0_98 dX0_unite_6 (ho 8 (by decide)) rfl ?_
  refine J.iload_n (μ := mX0_unite) (pc := 9) dX0_unite_9 rfl ?_
  refine J.cV (μ := mX0_unite) (pc := 10) (g_lz ho _) rfl wm_X0_92 mi_X7_get rfl dX0_unite_10 (Rp.isa (T := TX7) rfl (ho 11 (by decide))) rfl rfl ⟨(Nat.le_of_ble_eq_true rfl), (Nat.le_of_ble_eq_true rfl)⟩ ⟨(Nat.le_of_ble_eq_true rfl), (Nat.le_of_ble_eq_true rfl)⟩ (Nat.le_of_ble_eq_true rfl) ?_
  refine J.istore (μ := mX0_unite) (pc := 13) dX0_unite_13 (Nat.le_of_ble_eq_true rfl) rfl ?_
  refine J.aload_n (μ := mX0_unite) (pc := 15) dX0_unite_15 rfl ?_
  refine J.gr (μ := mX0_unite) (pc := 16) (T := TX5) (ci := 8) (fks := _) rfl rfl in_X5 2 (by decide) wf_X0_89 dX0_unite_16 (ho 8 (by decide)) rfl ?_
  refine J.iload_n (μ := mX0_unite) (pc := 19) dX0_unite_19 rfl ?_
  refine J.cV (μ := mX0_unite) (pc := 20) (g_vo ho _) rfl wm_X0_92 mi_X7_get rfl dX0_unite_20 (Rp.isa (T := TX7) rfl (ho 13 (by decide))) rfl rfl ⟨(Nat.le_of_ble_eq_true rfl), (Nat.le_of_ble_eq_true rfl)⟩ ⟨(Nat.le_of_ble_eq_true rfl), (Nat.le_of_ble_eq_true rfl)⟩ (Nat.le_of_ble_eq_true rfl) ?_
  refine J.aload_n (μ := mX0_unite) (pc := 23) dX0_unite_23 rfl ?_
  refine J.gr (μ := mX0_unite) (pc := 24) (T := TX5) (ci := 8) (fks := _) rfl rfl in_X5 2 (by decide) wf_X0_89 dX0_unite_24 (ho 8 (by decide)) rfl ?_
  refine J.iload_n (μ := mX0_unite) (pc := 27) dX0_unite_27 rfl ?_
  refine J.cV (μ := mX0_unite) (pc := 28) (g_vo ho _) rfl wm_X0_92 mi_X7_get rfl dX0_unite_28 (Rp.isa (T := TX7) rfl (ho 13 (by decide))) rfl rfl ⟨(Nat.le_of_ble_eq_true rfl), (Nat.le_of_ble_eq_true rfl)⟩ ⟨(Nat.le_of_ble_eq_true rfl), (Nat.le_of_ble_eq_true rfl)⟩ (Nat.le_of_ble_eq_true rfl) ?_
  refine J.iadd (μ := mX0_unite) (pc := 31) dX0_unite_31 ?_
  refine J.istore (μ := mX0_unite) (pc := 32) dX0_unite_32 (Nat.le_of_ble_eq_true rfl) rfl ?_
  refine J.aload_n (μ := mX0_unite) (pc := 34) dX0_unite_34 rfl ?_
  refine J.gr (μ := mX0_unite) (pc := 35) (T := TX5) (ci := 8) (fks := _) rfl rfl in_X5 3 (by decide) wf_X0_101 dX0_unite_35 (ho 8 (by decide)) rfl ?_
  refine J.iload_n (μ := mX0_unite) (pc := 38) dX0_unite_38 rfl ?_
  refine J.cV (μ := mX0_unite) (pc := 39) (g_ep ho _) rfl wm_X0_92 mi_X7_get rfl dX0_unite_39 (Rp.isa (T := TX7) rfl (ho 15 (by decide))) rfl rfl ⟨(Nat.le_of_ble_eq_true rfl), (Nat.le_of_ble_eq_true rfl)⟩ ⟨(Nat.le_of_ble_eq_true rfl), (Nat.le_of_ble_eq_true rfl)⟩ (Nat.le_of_ble_eq_true rfl) ?_
  refine J.aload_n (μ := mX0_unite) (pc := 42) dX0_unite_42 rfl ?_
  refine J.gr (μ := mX0_unite) (pc := 43) (T := TX5) (ci := 8) (fks := _) rfl rfl in_X5 3 (by decide) wf_X0_101 dX0_unite_43 (ho 8 (by decide)) rfl ?_
  refine J.iload_n (μ := mX0_unite) (pc := 46) dX0_unite_46 rfl ?_
  refine J.cV (μ := mX0_unite) (pc := 47) (g_ep ho _) rfl wm_X0_92 mi_X7_get rfl dX0_unite_47 (Rp.isa (T := TX7) rfl (ho 15 (by decide))) rfl rfl ⟨(Nat.le_of_ble_eq_true rfl), (Nat.le_of_ble_eq_true rfl)⟩ ⟨(Nat.le_of_ble_eq_true rfl), (Nat.le_of_ble_eq_true rfl)⟩ (Nat.le_of_ble_eq_true rfl) ?_
  refine J.mmin (μ := mX0_unite) (pc := 50) rfl wm_X0_108 dX0_unite_50 ⟨(Nat.le_of_ble_eq_true rfl), (Nat.le_of_ble_eq_true rfl)⟩ ⟨(Nat.le_of_ble_eq_true rfl), (Nat.le_of_ble_eq_true rfl)⟩ ?_
  refine J.istore (μ := mX0_unite) (pc := 53) dX0_unite_53 (Nat.le_of_ble_eq_true rfl) rfl ?_
  refine J.aload_n (μ := mX0_unite) (pc := 55) dX0_unite_55 rfl ?_
  refine J.iload_n (μ := mX0_unite) (pc := 56) dX0_unite_56 rfl ?_
  refine J.cV0 (μ := mX0_unite) (pc := 57) (s_X5_remove ho  _) rfl wm_X0_113 mi_X5_remove rfl dX0_unite_57 (Rp.isa (T := TX5) rfl (ho 8 (by decide))) rfl rfl ⟨(Nat.le_of_ble_eq_true rfl), (Nat.le_of_ble_eq_true rfl)⟩ ⟨(Nat.le_of_ble_eq_true rfl), (Nat.le_of_ble_eq_true rfl)⟩ (Nat.le_of_ble_eq_true rfl) ?_
  refine J.aload_n (μ := mX0_unite) (pc := 60) dX0_unite_60 rfl ?_
  refine J.iload_n (μ := mX0_unite) (pc := 61) dX0_unite_61 rfl ?_
  refine J.cV0 (μ := mX0_unite) (pc := 62) (s_X5_remove ho  _) rfl wm_X0_113 mi_X5_remove rfl dX0_unite_62 (Rp.isa (T := TX5) rfl (ho 8 (by decide))) rfl rfl ⟨(Nat.le_of_ble_eq_true rfl), (Nat.le_of_ble_eq_true rfl)⟩ ⟨(Nat.le_of_ble_eq_true rfl), (Nat.le_of_ble_eq_true rfl)⟩ (Nat.le_of_ble_eq_true rfl) ?_
  refine J.aload_n (μ := mX0_unite) (pc := 65) dX0_unite_65 rfl ?_
  refine J.iload (μ := mX0_unite) (pc := 66) dX0_unite_66 rfl ?_
  refine J.iload (μ := mX0_unite) (pc := 68) dX0_unite_68 rfl ?_
  refine J.iconst (μ := mX0_unite) (pc := 70) (v := -1) dX0_unite_70 (by decide) ?_
  refine J.iconst (μ := mX0_unite) (pc := 71) (v := -1) dX0_unite_71 (by decide) ?_
  refine J.cV (μ := mX0_unite) (pc := 72) (s_X9_placeFor ho hN2 h20 hM2 h8 _ _ _ _) rfl wm_X0_79 mi_X9_placeFor rfl dX0_unite_72 (Rp.isa (T := TX9) rfl (ho 0 (by decide))) rfl rfl ⟨(Nat.le_of_ble_eq_true rfl), (Nat.le_of_ble_eq_true rfl)⟩ ⟨(Nat.le_of_ble_eq_true rfl), (Nat.le_of_ble_eq_true rfl)⟩ (Nat.le_of_ble_eq_true rfl) ?_
  refine J.istore (μ := mX0_unite) (pc := 75) dX0_unite_75 (Nat.le_of_ble_eq_true rfl) rfl ?_
  refine J.aload_n (μ := mX0_unite) (pc := 77) dX0_unite_77 rfl ?_
  refine J.aload_n (μ := mX0_unite) (pc := 78) dX0_unite_78 rfl ?_
  refine J.gr (μ := mX0_unite) (pc := 79) (T := TX5) (ci := 8) (fks := _) rfl rfl in_X5 0 (by decide) wf_X0_95 dX0_unite_79 (ho 8 (by decide)) rfl ?_
  refine J.iload_n (μ := mX0_unite) (pc := 82) dX0_unite_82 rfl ?_
  refine J.cV (μ := mX0_unite) (pc := 83) (g_ki ho _) rfl wm_X0_92 mi_X7_get rfl dX0_unite_83 (Rp.isa (T := TX7) rfl (ho 9 (by decide))) rfl rfl ⟨(Nat.le_of_ble_eq_true rfl), (Nat.le_of_ble_eq_true rfl)⟩ ⟨(Nat.le_of_ble_eq_true rfl), (Nat.le_of_ble_eq_true rfl)⟩ (Nat.le_of_ble_eq_true rfl) ?_
  refine J.iload (μ := mX0_unite) (pc := 86) dX0_unite_86 rfl ?_
  refine J.iload (μ := mX0_unite) (pc := 88) dX0_unite_88 rfl ?_
  refine J.iload (μ := mX0_unite) (pc := 90) dX0_unite_90 rfl ?_
  refine J.iload (μ := mX0_unite) (pc := 92) dX0_unite_92 rfl ?_
  refine J.cV (μ := mX0_unite) (pc := 94) (s_X5_add ho  _ _ _ _ _) rfl wm_X0_86 mi_X5_add rfl dX0_unite_94 (Rp.isa (T := TX5) rfl (ho 8 (by decide))) rfl rfl ⟨(Nat.le_of_ble_eq_true rfl), (Nat.le_of_ble_eq_true rfl)⟩ ⟨(Nat.le_of_ble_eq_true rfl), (Nat.le_of_ble_eq_true rfl)⟩ (Nat.le_of_ble_eq_true rfl) ?_
  refine J.istore (μ := mX0_unite) (pc := 97) dX0_unite_97 (Nat.le_of_ble_eq_true rfl) rfl ?_
  refine J.aload_n (μ := mX0_unite) (pc := 99) dX0_unite_99 rfl ?_
  refine J.iload (μ := mX0_unite) (pc := 100) dX0_unite_100 rfl ?_
  refine J.iload_n (μ := mX0_unite) (pc := 102) dX0_unite_102 rfl ?_
  refine J.iload_n (μ := mX0_unite) (pc := 103) dX0_unite_103 rfl ?_
  refine J.cV0 (μ := mX0_unite) (pc := 104) (s_X5_setParents ho  _ _ _) rfl wm_X0_104 mi_X5_setParents rfl dX0_unite_104 (Rp.isa (T := TX5) rfl (ho 8 (by decide))) rfl rfl ⟨(Nat.le_of_ble_eq_true rfl), (Nat.le_of_ble_eq_true rfl)⟩ ⟨(Nat.le_of_ble_eq_true rfl), (Nat.le_of_ble_eq_true rfl)⟩ (Nat.le_of_ble_eq_true rfl) ?_
  refine J.iload (μ := mX0_unite) (pc := 107) dX0_unite_107 rfl ?_
  exact J.iret (μ := mX0_unite) (pc := 109) dX0_unite_109 rfl (Nat.le_of_ble_eq_true rfl) (Nat.le_of_ble_eq_true rfl) (fun H h => ⟨rfl, h⟩)
/-- the lots that are shipped: the numbers behind them, and how many lots -/
def soF (o N : Nat) (k : Int32) : Nat → Vs → Int32 → Nat → Vs × Nat
  | 0, v, _, t => (v, t)
  | f + 1, v, l, t => if 0 < l then soF o N k f (if l < gVo v o (esh v o k N) then sVo v o (esh v o k N) (gVo v o (esh v o k N) - l) else rmv v o (esh v o k N)) (l - (if l < gVo v o (esh v o k N) then l else gVo v o (esh v o k N))) (t + 1) else (v, t)
def sendV (v : Vs) (o N : Nat) (k w : Int32) : Int32 × Vs := (nI (soF o N k 8 v w 0).2, up2 (soF o N k 8 v w 0).1 o 5 ((soF o N k 8 v w 0).1 o 5 + w))
theorem s_X0_sendOut {γ : Gm} {v : Vs} {o : Nat} (ho : IsStk o) {N : Nat} (hN : v (o + 8) 7 = nI N) (h20 : N ≤ 20) (k w : Int32) : Ew γ mX0_sendOut yX0_sendOut 4 [.ref (gz γ + o), .int k, .int w] v (some (.int (sendV v o N k w).1)) (sendV v o N k w).2 := by
  refine Ev.ofJ (by decide) rfl (fun h => by cases h) (Nat.le_of_ble_eq_true rfl) ?_
  have out : ∀ (u : Vs) (l : Int32) (t : Nat), (u, t) = soF o N k 8 v w 0 → J γ mX0_sendOut (rmD 4 0 0) (fEv γ 0 0 (fun r h => r = some (.int (sendV v o N k w).1) ∧ Rp γ (sendV v o N k w).2 h)) 0 0 89 [some (.ref (gz γ + o)), some (.int k), some (.int w), some (.ref (gz γ + (o + 8))), some (.int l), some (.int (nI t)), none, none] [] (Rp γ u) := by
    intro u l t he
    refine J.aload_n (μ := mX0_sendOut) (pc := 89) dX0_sendOut_89 rfl ?_
    refine J.dup (μ := mX0_sendOut) (pc := 90) dX0_sendOut_90 rfl ?_
    refine J.gi (μ := mX0_sendOut) (pc := 91) (T := TX9) (ci := 12) (fks := _) rfl rfl in_X9 5 (by decide) wf_X0_120 dX0_sendOut_91 (ho 0 (by decide)) rfl ?_
    refine J.iload_n (μ := mX0_sendOut) (pc := 94) dX0_sendOut_94 rfl ?_
    refine J.iadd (μ := mX0_sendOut) (pc := 95) dX0_sendOut_95 ?_
    refine J.pi (μ := mX0_sendOut) (pc := 96) (T := TX9) (ci := 12) (ty0 := tyX9) (fks := _) rfl rfl in_X9 tyX9_ok nmX9 5 (by decide) wf_X0_120 dX0_sendOut_96 rfl rfl rfl (ho 0 (by decide)) rfl ?_
    refine J.iload (μ := mX0_sendOut) (pc := 99) dX0_sendOut_99 rfl ?_
    exact J.iret (μ := mX0_sendOut) (pc := 101) dX0_sendOut_101 rfl (Nat.le_of_ble_eq_true rfl) (Nat.le_of_ble_eq_true rfl) (fun H h => by unfold sendV; rw [← he]; exact ⟨rfl, h⟩)
  have key : ∀ f u l t, t + f = 8 → u (o + 8) 7 = nI N → soF o N k f u l t = soF o N k 8 v w 0 → J γ mX0_sendOut (rmD 4 0 0) (fEv γ 0 0 (fun r h => r = some (.int (sendV v o N k w).1) ∧ Rp γ (sendV v o N k w).2 h)) 0 0 11 [some (.ref (gz γ + o)), some (.int k), some (.int w), some (.ref (gz γ + (o + 8))), some (.int l), some (.int (nI t)), none, none] [] (Rp γ u) := by
    intro f
    induction f with
    | zero =>
      intro u l t ht hu he
      refine J.iload (μ := mX0_sendOut) (pc := 11) dX0_sendOut_11 rfl ?_
      refine J.if_le (μ := mX0_sendOut) (pc := 13) 89 dX0_sendOut_13 (by decide) (fun h1 => ?_) (fun h1 => ?_)
      · exact out u l t he
      · refine J.iload (μ := mX0_sendOut) (pc := 16) dX0_sendOut_16 rfl ?_
        refine J.bipush (μ := mX0_sendOut) (pc := 18) (v := 8) dX0_sendOut_18 (by decide) ?_
        refine J.icmp_ge (μ := mX0_sendOut) (pc := 20) 89 dX0_sendOut_20 (by decide) (fun h2 => ?_) (fun h2 => ?_)
        · exact out u l t he
        · exact absurd h2 (nI_nlt_of (a := t) (b := 8) (by omega) (by omega))
    | succ f ih =>
      intro u l t ht hu he
      refine J.iload (μ := mX0_sendOut) (pc := 11) dX0_sendOut_11 rfl ?_
      refine J.if_le (μ := mX0_sendOut) (pc := 13) 89 dX0_sendOut_13 (by decide) (fun h1 => ?_) (fun h1 => ?_)
      · have he2 : soF o N k (f + 1) u l t = (u, t) := by
          show (if _ then _ else _) = _
          rw [if_neg (Int32.not_lt.mpr h1)]
        exact out u l t (by rw [← he, he2])
      · have he2 : soF o N k (f + 1) u l t = soF o N k f (if l < gVo u o (esh u o k N) then sVo u o (esh u o k N) (gVo u o (esh u o k N) - l) else rmv u o (esh u o k N)) (l - (if l < gVo u o (esh u o k N) then l else gVo u o (esh u o k N))) (t + 1) := by
          show (if _ then _ else _) = _
          rw [if_pos h1]
        rw [he2] at he
        refine J.iload (μ := mX0_sendOut) (pc := 16) dX0_sendOut_16 rfl ?_
        refine J.bipush (μ := mX0_sendOut) (pc := 18) (v := 8) dX0_sendOut_18 (by decide) ?_
        refine J.icmp_ge (μ := mX0_sendOut) (pc := 20) 89 dX0_sendOut_20 (by decide) (fun h2 => ?_) (fun h2 => ?_)
        · exact absurd h2 (nI_nle_of (b := 8) (by omega) (by omega))
        · refine J.aload_n (μ := mX0_sendOut) (pc := 23) dX0_sendOut_23 rfl ?_
          refine J.iload_n (μ := mX0_sendOut) (pc := 24) dX0_sendOut_24 rfl ?_
          refine J.cV (μ := mX0_sendOut) (pc := 25) (s_X9_earliestShippable ho hu h20 k) rfl wm_X0_117 mi_X9_earliestShippable rfl dX0_sendOut_25 (Rp.isa (T := TX9) rfl (ho 0 (by decide))) rfl rfl ⟨(Nat.le_of_ble_eq_true rfl), (Nat.le_of_ble_eq_true rfl)⟩ ⟨(Nat.le_of_ble_eq_true rfl), (Nat.le_of_ble_eq_true rfl)⟩ (Nat.le_of_ble_eq_true rfl) ?_
          refine J.istore (μ := mX0_sendOut) (pc := 28) dX0_sendOut_28 (Nat.le_of_ble_eq_true rfl) rfl ?_
          refine J.aload_n (μ := mX0_sendOut) (pc := 30) dX0_sendOut_30 rfl ?_
          refine J.gr (μ := mX0_sendOut) (pc := 31) (T := TX5) (ci := 8) (fks := _) rfl rfl in_X5 2 (by decide) wf_X0_89 dX0_sendOut_31 (ho 8 (by decide)) rfl ?_
          refine J.iload (μ := mX0_sendOut) (pc := 34) dX0_sendOut_34 rfl ?_
          refine J.cV (μ := mX0_sendOut) (pc := 36) (g_vo ho _) rfl wm_X0_92 mi_X7_get rfl dX0_sendOut_36 (Rp.isa (T := TX7) rfl (ho 13 (by decide))) rfl rfl ⟨(Nat.le_of_ble_eq_true rfl), (Nat.le_of_ble_eq_true rfl)⟩ ⟨(Nat.le_of_ble_eq_true rfl), (Nat.le_of_ble_eq_true rfl)⟩ (Nat.le_of_ble_eq_true rfl) ?_
          refine J.istore (μ := mX0_sendOut) (pc := 39) dX0_sendOut_39 (Nat.le_of_ble_eq_true rfl) rfl ?_
          refine J.iload (μ := mX0_sendOut) (pc := 41) dX0_sendOut_41 rfl ?_
          refine J.iload (μ := mX0_sendOut) (pc := 43) dX0_sendOut_43 rfl ?_
          refine J.icmp_le (μ := mX0_sendOut) (pc := 45) 65 dX0_sendOut_45 (by decide) (fun h3 => ?_) (fun h3 => ?_)
          · rw [if_neg (nlt_of_le h3), if_neg (nlt_of_le h3)] at he
            refine J.aload_n (μ := mX0_sendOut) (pc := 65) dX0_sendOut_65 rfl ?_
            refine J.iload (μ := mX0_sendOut) (pc := 66) dX0_sendOut_66 rfl ?_
            refine J.cV0 (μ := mX0_sendOut) (pc := 68) (s_X5_remove ho  _) rfl wm_X0_113 mi_X5_remove rfl dX0_sendOut_68 (Rp.isa (T := TX5) rfl (ho 8 (by decide))) rfl rfl ⟨(Nat.le_of_ble_eq_true rfl), (Nat.le_of_ble_eq_true rfl)⟩ ⟨(Nat.le_of_ble_eq_true rfl), (Nat.le_of_ble_eq_true rfl)⟩ (Nat.le_of_ble_eq_true rfl) ?_
            refine J.iload (μ := mX0_sendOut) (pc := 71) dX0_sendOut_71 rfl ?_
            refine J.iload (μ := mX0_sendOut) (pc := 73) dX0_sendOut_73 rfl ?_
            refine J.iload (μ := mX0_sendOut) (pc := 75) dX0_sendOut_75 rfl ?_
            refine J.mmin (μ := mX0_sendOut) (pc := 77) rfl wm_X0_108 dX0_sendOut_77 ⟨(Nat.le_of_ble_eq_true rfl), (Nat.le_of_ble_eq_true rfl)⟩ ⟨(Nat.le_of_ble_eq_true rfl), (Nat.le_of_ble_eq_true rfl)⟩ ?_
            rw [if_neg (nlt_of_le h3)]
            refine J.isub (μ := mX0_sendOut) (pc := 80) dX0_sendOut_80 ?_
            refine J.istore (μ := mX0_sendOut) (pc := 81) dX0_sendOut_81 (Nat.le_of_ble_eq_true rfl) rfl ?_
            refine J.iinc (μ := mX0_sendOut) (pc := 83) (v := 1) dX0_sendOut_83 rfl (by decide) (Nat.le_of_ble_eq_true rfl) rfl ?_
            refine J.goto (μ := mX0_sendOut) (pc := 86) 11 dX0_sendOut_86 (by decide) ?_
            exact J.sub (by simp [lsub, fin3, nI_succ]) (ih _ _ _ (by omega) ((congrFun (rmv_o (v := u) (o := o) (k := o + 8) (x := esh u o k N) (by omega) (by omega)) 7).trans hu) he)
          · rw [if_pos h3, if_pos h3] at he
            refine J.aload_n (μ := mX0_sendOut) (pc := 48) dX0_sendOut_48 rfl ?_
            refine J.gr (μ := mX0_sendOut) (pc := 49) (T := TX5) (ci := 8) (fks := _) rfl rfl in_X5 2 (by decide) wf_X0_89 dX0_sendOut_49 (ho 8 (by decide)) rfl ?_
            refine J.iload (μ := mX0_sendOut) (pc := 52) dX0_sendOut_52 rfl ?_
            refine J.iload (μ := mX0_sendOut) (pc := 54) dX0_sendOut_54 rfl ?_
            refine J.iload (μ := mX0_sendOut) (pc := 56) dX0_sendOut_56 rfl ?_
            refine J.isub (μ := mX0_sendOut) (pc := 58) dX0_sendOut_58 ?_
            refine J.cV0 (μ := mX0_sendOut) (pc := 59) (p_vo ho _ _) rfl wm_X0_44 mi_X7_set rfl dX0_sendOut_59 (Rp.isa (T := TX7) rfl (ho 13 (by decide))) rfl rfl ⟨(Nat.le_of_ble_eq_true rfl), (Nat.le_of_ble_eq_true rfl)⟩ ⟨(Nat.le_of_ble_eq_true rfl), (Nat.le_of_ble_eq_true rfl)⟩ (Nat.le_of_ble_eq_true rfl) ?_
            refine J.goto (μ := mX0_sendOut) (pc := 62) 71 dX0_sendOut_62 (by decide) ?_
            refine J.iload (μ := mX0_sendOut) (pc := 71) dX0_sendOut_71 rfl ?_
            refine J.iload (μ := mX0_sendOut) (pc := 73) dX0_sendOut_73 rfl ?_
            refine J.iload (μ := mX0_sendOut) (pc := 75) dX0_sendOut_75 rfl ?_
            refine J.mmin (μ := mX0_sendOut) (pc := 77) rfl wm_X0_108 dX0_sendOut_77 ⟨(Nat.le_of_ble_eq_true rfl), (Nat.le_of_ble_eq_true rfl)⟩ ⟨(Nat.le_of_ble_eq_true rfl), (Nat.le_of_ble_eq_true rfl)⟩ ?_
            rw [if_pos h3]
            refine J.isub (μ := mX0_sendOut) (pc := 80) dX0_sendOut_80 ?_
            refine J.istore (μ := mX0_sendOut) (pc := 81) dX0_sendOut_81 (Nat.le_of_ble_eq_true rfl) rfl ?_
            refine J.iinc (μ := mX0_sendOut) (pc := 83) (v := 1) dX0_sendOut_83 rfl (by decide) (Nat.le_of_ble_eq_true rfl) rfl ?_
            refine J.goto (μ := mX0_sendOut) (pc := 86) 11 dX0_sendOut_86 (by decide) ?_
            exact J.sub (by simp [lsub, fin3, nI_succ]) (ih _ _ _ (by omega) (by unfold sVo; rw [rs_o (by omega)]; exact hu) he)
  refine J.aload_n (μ := mX0_sendOut) (pc := 0) dX0_sendOut_0 rfl ?_
  refine J.gr (μ := mX0_sendOut) (pc := 1) (T := TX9) (ci := 12) (fks := _) rfl rfl in_X9 1 (by decide) wf_X0_34 dX0_sendOut_1 (ho 0 (by decide)) rfl ?_
  refine J.astore_n (μ := mX0_sendOut) (pc := 4) dX0_sendOut_4 (Nat.le_of_ble_eq_true rfl) rfl ?_
  refine J.iload_n (μ := mX0_sendOut) (pc := 5) dX0_sendOut_5 rfl ?_
  refine J.istore (μ := mX0_sendOut) (pc := 6) dX0_sendOut_6 (Nat.le_of_ble_eq_true rfl) rfl ?_
  refine J.iconst (μ := mX0_sendOut) (pc := 8) (v := 0) dX0_sendOut_8 (by decide) ?_
  refine J.istore (μ := mX0_sendOut) (pc := 9) dX0_sendOut_9 (Nat.le_of_ble_eq_true rfl) rfl ?_
  refine J.sub ?_ (key 8 v w 0 rfl hN rfl)
  exact ⟨rfl, rfl, rfl, rfl, rfl, rfl, trivial⟩
/-- the lots of a set that are recalled: the numbers behind them, and the heap's size -/
def cbF (v : Vs) (o H : Nat) (s : Int32) : Nat → Vs × Nat
  | 0 => (v, H)
  | i + 1 => if bq s i = 1 then (pushV (sPl (cbF v o H s i).1 o (nI i) (-1)) o (cbF v o H s i).2 (nI i), (cbF v o H s i).2 + 1) else cbF v o H s i
theorem cbF_1 {v : Vs} {o H : Nat} {s : Int32} {i : Nat} (h : bq s i = 1) : cbF v o H s (i + 1) = (pushV (sPl (cbF v o H s i).1 o (nI i) (-1)) o (cbF v o H s i).2 (nI i), (cbF v o H s i).2 + 1) := if_pos h
theorem cbF_0 {v : Vs} {o H : Nat} {s : Int32} {i : Nat} (h : ¬ bq s i = 1) : cbF v o H s (i + 1) = cbF v o H s i := if_neg h
theorem puF_o {o : Nat} {x : Int32} {k : Nat} (h : k ≠ o + 25) : ∀ (f : Nat) (v : Vs) (c : Nat), puF o x f v c k = v k := by
  intro f
  induction f with
  | zero => intro v c; rfl
  | succ f ih =>
    intro v c
    unfold puF
    split
    · rw [ih, swV_o h]
    · rfl
theorem pushV_o {v : Vs} {o H k : Nat} {x : Int32} (h : k ≠ o + 25) (h2 : k ≠ o + 23) : pushV v o H x k = v k := by
  unfold pushV sHp
  rw [puF_o h, up2_o _ _ _ h2, rs_o h]
theorem pushV_n {v : Vs} {o H : Nat} {x : Int32} : pushV v o H x (o + 23) 1 = nI (H + 1) := by
  unfold pushV
  rw [puF_o (by omega), up2_ss]
theorem cbF_o {v : Vs} {o H k : Nat} {s : Int32} (h : k ≠ o + 25) (h2 : k ≠ o + 23) (h3 : k ≠ o + 18) : ∀ i, (cbF v o H s i).1 k = v k
  | 0 => rfl
  | i + 1 => by
    unfold cbF
    split
    · show pushV _ _ _ _ k = _
      unfold sPl
      rw [pushV_o h h2, rs_o h3, cbF_o h h2 h3 i]
    · exact cbF_o h h2 h3 i
theorem cbF_n {v : Vs} {o H : Nat} {s : Int32} (hH : v (o + 23) 1 = nI H) : ∀ i, (cbF v o H s i).1 (o + 23) 1 = nI (cbF v o H s i).2 ∧ (cbF v o H s i).2 ≤ H + i
  | 0 => ⟨hH, Nat.le_refl H⟩
  | i + 1 => by
    have ih := cbF_n (s := s) hH i
    unfold cbF
    split
    · refine ⟨pushV_n, ?_⟩
      show (cbF v o H s i).2 + 1 ≤ _
      omega
    · exact ⟨ih.1, by omega⟩
def recV (v : Vs) (o N H a : Nat) : Int32 × Vs := (bcJ (fam v o N a), (cbF v o H (fam v o N a) N).1)
theorem s_X0_callBack {γ : Gm} {v : Vs} {o : Nat} (ho : IsStk o) {N H : Nat} (hN : v (o + 8) 7 = nI N) (h20 : N ≤ 20) (hH : v (o + 23) 1 = nI H) (hb : H ≤ 50) {a : Nat} (ha : a ≤ 100) : Ew γ mX0_callBack yX0_callBack 24 [.ref (gz γ + o), .int (nI a)] v (some (.int (recV v o N H a).1)) (recV v o N H a).2 := by
  refine Ev.ofJ (by decide) rfl (fun h => by cases h) (Nat.le_of_ble_eq_true rfl) ?_
  refine J.aload_n (μ := mX0_callBack) (pc := 0) dX0_callBack_0 rfl ?_
  refine J.gr (μ := mX0_callBack) (pc := 1) (T := TX9) (ci := 12) (fks := _) rfl rfl in_X9 1 (by decide) wf_X0_34 dX0_callBack_1 (ho 0 (by decide)) rfl ?_
  refine J.iload_n (μ := mX0_callBack) (pc := 4) dX0_callBack_4 rfl ?_
  refine J.cS (μ := mX0_callBack) (pc := 5) (s_X2_shelvedFamily ho hN h20 ha) rfl wm_X0_123 mi_X2_shelvedFamily rfl dX0_callBack_5 rfl rfl ⟨(Nat.le_of_ble_eq_true rfl), (Nat.le_of_ble_eq_true rfl)⟩ ⟨(Nat.le_of_ble_eq_true rfl), (Nat.le_of_ble_eq_true rfl)⟩ (Nat.le_of_ble_eq_true rfl) ?_
  refine J.istore_n (μ := mX0_callBack) (pc := 8) dX0_callBack_8 (Nat.le_of_ble_eq_true rfl) rfl ?_
  refine J.iconst (μ := mX0_callBack) (pc := 9) (v := 0) dX0_callBack_9 (by decide) ?_
  refine J.istore_n (μ := mX0_callBack) (pc := 10) dX0_callBack_10 (Nat.le_of_ble_eq_true rfl) rfl ?_
  refine J.for (Lf := fun i => [some (.ref (gz γ + o)), some (.int (nI a)), some (.int (fam v o N a)), some (.int (nI i))]) (Pf := fun i => Rp γ (cbF v o H (fam v o N a) i).1) N ?_ (fun i hi ih => ?_)
  · have hw : (cbF v o H (fam v o N a) N).1 (o + 8) 7 = nI N := by rw [cbF_o (by omega) (by omega) (by omega)]; exact hN
    refine J.iload_n (μ := mX0_callBack) (pc := 11) dX0_callBack_11 rfl ?_
    refine J.aload_n (μ := mX0_callBack) (pc := 12) dX0_callBack_12 rfl ?_
    refine J.gr (μ := mX0_callBack) (pc := 13) (T := TX9) (ci := 12) (fks := _) rfl rfl in_X9 1 (by decide) wf_X0_34 dX0_callBack_13 (ho 0 (by decide)) rfl ?_
    refine J.gi (μ := mX0_callBack) (pc := 16) (T := TX5) (ci := 8) (fks := _) rfl rfl in_X5 7 (by decide) wf_X0_129 dX0_callBack_16 (ho 8 (by decide)) rfl ?_
    rw [hw]
    refine J.icmp_ge (μ := mX0_callBack) (pc := 19) 61 dX0_callBack_19 (by decide) (fun hc => ?_) (fun hc => ?_)
    · refine J.iload_n (μ := mX0_callBack) (pc := 61) dX0_callBack_61 rfl ?_
      refine J.cS (μ := mX0_callBack) (pc := 62) (s_J6_bitCount _) rfl wm_X0_142 mi_J6_bitCount_0f7a4 rfl dX0_callBack_62 rfl rfl ⟨(Nat.le_of_ble_eq_true rfl), (Nat.le_of_ble_eq_true rfl)⟩ ⟨(Nat.le_of_ble_eq_true rfl), (Nat.le_of_ble_eq_true rfl)⟩ (Nat.le_of_ble_eq_true rfl) ?_
      exact J.iret (μ := mX0_callBack) (pc := 65) dX0_callBack_65 rfl (Nat.le_of_ble_eq_true rfl) (Nat.le_of_ble_eq_true rfl) (fun H h => ⟨rfl, h⟩)
    · exact absurd hc (nI_nlt_of (Nat.le_refl N) (by omega))
  · have hw : (cbF v o H (fam v o N a) i).1 (o + 8) 7 = nI N := by rw [cbF_o (by omega) (by omega) (by omega)]; exact hN
    have hz := cbF_n (s := fam v o N a) hH i
    refine J.iload_n (μ := mX0_callBack) (pc := 11) dX0_callBack_11 rfl ?_
    refine J.aload_n (μ := mX0_callBack) (pc := 12) dX0_callBack_12 rfl ?_
    refine J.gr (μ := mX0_callBack) (pc := 13) (T := TX9) (ci := 12) (fks := _) rfl rfl in_X9 1 (by decide) wf_X0_34 dX0_callBack_13 (ho 0 (by decide)) rfl ?_
    refine J.gi (μ := mX0_callBack) (pc := 16) (T := TX5) (ci := 8) (fks := _) rfl rfl in_X5 7 (by decide) wf_X0_129 dX0_callBack_16 (ho 8 (by decide)) rfl ?_
    rw [hw]
    refine J.icmp_ge (μ := mX0_callBack) (pc := 19) 61 dX0_callBack_19 (by decide) (fun hc => ?_) (fun hc => ?_)
    · exact absurd hc (nI_nle_of hi (by omega))
    · refine J.iload_n (μ := mX0_callBack) (pc := 22) dX0_callBack_22 rfl ?_
      refine J.iload_n (μ := mX0_callBack) (pc := 23) dX0_callBack_23 rfl ?_
      refine J.ishr (μ := mX0_callBack) (pc := 24) dX0_callBack_24 ?_
      refine J.iconst (μ := mX0_callBack) (pc := 25) (v := 1) dX0_callBack_25 (by decide) ?_
      refine J.iand (μ := mX0_callBack) (pc := 26) dX0_callBack_26 ?_
      refine J.iconst (μ := mX0_callBack) (pc := 27) (v := 1) dX0_callBack_27 (by decide) ?_
      refine J.icmp_ne (μ := mX0_callBack) (pc := 28) 55 dX0_callBack_28 (by decide) (fun h1 => ?_) (fun h1 => ?_)
      · rw [show (cbF v o H (fam v o N a) (i + 1)).1 = (cbF v o H (fam v o N a) i).1 by rw [cbF_0 h1]] at ih
        refine J.iinc (μ := mX0_callBack) (pc := 55) (v := 1) dX0_callBack_55 rfl (by decide) (Nat.le_of_ble_eq_true rfl) rfl ?_
        refine J.goto (μ := mX0_callBack) (pc := 58) 11 dX0_callBack_58 (by decide) ?_
        exact J.sub (by simp [lsub, fin3, nI_succ]) ih
      · rw [show (cbF v o H (fam v o N a) (i + 1)).1 = pushV (sPl (cbF v o H (fam v o N a) i).1 o (nI i) (-1)) o (cbF v o H (fam v o N a) i).2 (nI i) by rw [cbF_1 h1]] at ih
        refine J.aload_n (μ := mX0_callBack) (pc := 31) dX0_callBack_31 rfl ?_
        refine J.gr (μ := mX0_callBack) (pc := 32) (T := TX9) (ci := 12) (fks := _) rfl rfl in_X9 1 (by decide) wf_X0_34 dX0_callBack_32 (ho 0 (by decide)) rfl ?_
        refine J.gr (μ := mX0_callBack) (pc := 35) (T := TX5) (ci := 8) (fks := _) rfl rfl in_X5 4 (by decide) wf_X0_38 dX0_callBack_35 (ho 8 (by decide)) rfl ?_
        refine J.iload_n (μ := mX0_callBack) (pc := 38) dX0_callBack_38 rfl ?_
        refine J.iconst (μ := mX0_callBack) (pc := 39) (v := -1) dX0_callBack_39 (by decide) ?_
        refine J.cV0 (μ := mX0_callBack) (pc := 40) (p_pl ho _ _) rfl wm_X0_44 mi_X7_set rfl dX0_callBack_40 (Rp.isa (T := TX7) rfl (ho 17 (by decide))) rfl rfl ⟨(Nat.le_of_ble_eq_true rfl), (Nat.le_of_ble_eq_true rfl)⟩ ⟨(Nat.le_of_ble_eq_true rfl), (Nat.le_of_ble_eq_true rfl)⟩ (Nat.le_of_ble_eq_true rfl) ?_
        refine J.aload_n (μ := mX0_callBack) (pc := 43) dX0_callBack_43 rfl ?_
        refine J.gr (μ := mX0_callBack) (pc := 44) (T := TX9) (ci := 12) (fks := _) rfl rfl in_X9 2 (by decide) wf_X0_132 dX0_callBack_44 (ho 0 (by decide)) rfl ?_
        refine J.aload_n (μ := mX0_callBack) (pc := 47) dX0_callBack_47 rfl ?_
        refine J.gr (μ := mX0_callBack) (pc := 48) (T := TX9) (ci := 12) (fks := _) rfl rfl in_X9 1 (by decide) wf_X0_34 dX0_callBack_48 (ho 0 (by decide)) rfl ?_
        refine J.iload_n (μ := mX0_callBack) (pc := 51) dX0_callBack_51 rfl ?_
        refine J.cV0 (μ := mX0_callBack) (pc := 52) (s_X1_push ho (H := (cbF v o H (fam v o N a) i).2) (by unfold sPl; rw [rs_o (by omega)]; exact hz.1) (by omega) _) rfl wm_X0_136 mi_X1_push rfl dX0_callBack_52 (Rp.isa (T := TX1) rfl (ho 23 (by decide))) rfl rfl ⟨(Nat.le_of_ble_eq_true rfl), (Nat.le_of_ble_eq_true rfl)⟩ ⟨(Nat.le_of_ble_eq_true rfl), (Nat.le_of_ble_eq_true rfl)⟩ (Nat.le_of_ble_eq_true rfl) ?_
        refine J.iinc (μ := mX0_callBack) (pc := 55) (v := 1) dX0_callBack_55 rfl (by decide) (Nat.le_of_ble_eq_true rfl) rfl ?_
        refine J.goto (μ := mX0_callBack) (pc := 58) 11 dX0_callBack_58 (by decide) ?_
        exact J.sub (by simp [lsub, fin3, nI_succ]) ih
def takeTop (v : Vs) (o h : Nat) : Int32 × Vs :=
  let w := rmv (remV v o h) o (gHp v o 0)
  (gVo v o (gHp v o 0), up2 w o 6 (w o 6 + gVo v o (gHp v o 0)))
theorem s_X0_takeFromHeap {γ : Gm} {v : Vs} {o : Nat} (ho : IsStk o) {h : Nat} (hH : v (o + 23) 1 = nI (h + 1)) (hb : h ≤ 50) : Ew γ mX0_takeFromHeap yX0_takeFromHeap 4 [.ref (gz γ + o)] v (some (.int (takeTop v o h).1)) (takeTop v o h).2 := by
  have ht := s_X1_top (γ := γ) (v := v) ho
  rw [hH, if_pos (show (0 : Int32) < nI (h + 1) from nI_lt (a := 0) (by omega) (by omega))] at ht
  refine Ev.ofJ (by decide) rfl (fun h => by cases h) (Nat.le_of_ble_eq_true rfl) ?_
  refine J.aload_n (μ := mX0_takeFromHeap) (pc := 0) dX0_takeFromHeap_0 rfl ?_
  refine J.gr (μ := mX0_takeFromHeap) (pc := 1) (T := TX9) (ci := 12) (fks := _) rfl rfl in_X9 2 (by decide) wf_X0_132 dX0_takeFromHeap_1 (ho 0 (by decide)) rfl ?_
  refine J.cV (μ := mX0_takeFromHeap) (pc := 4) (ht) rfl wm_X0_147 mi_X1_top rfl dX0_takeFromHeap_4 (Rp.isa (T := TX1) rfl (ho 23 (by decide))) rfl rfl ⟨(Nat.le_of_ble_eq_true rfl), (Nat.le_of_ble_eq_true rfl)⟩ ⟨(Nat.le_of_ble_eq_true rfl), (Nat.le_of_ble_eq_true rfl)⟩ (Nat.le_of_ble_eq_true rfl) ?_
  refine J.istore_n (μ := mX0_takeFromHeap) (pc := 7) dX0_takeFromHeap_7 (Nat.le_of_ble_eq_true rfl) rfl ?_
  refine J.aload_n (μ := mX0_takeFromHeap) (pc := 8) dX0_takeFromHeap_8 rfl ?_
  refine J.gr (μ := mX0_takeFromHeap) (pc := 9) (T := TX9) (ci := 12) (fks := _) rfl rfl in_X9 1 (by decide) wf_X0_34 dX0_takeFromHeap_9 (ho 0 (by decide)) rfl ?_
  refine J.gr (μ := mX0_takeFromHeap) (pc := 12) (T := TX5) (ci := 8) (fks := _) rfl rfl in_X5 2 (by decide) wf_X0_89 dX0_takeFromHeap_12 (ho 8 (by decide)) rfl ?_
  refine J.iload_n (μ := mX0_takeFromHeap) (pc := 15) dX0_takeFromHeap_15 rfl ?_
  refine J.cV (μ := mX0_takeFromHeap) (pc := 16) (g_vo ho _) rfl wm_X0_92 mi_X7_get rfl dX0_takeFromHeap_16 (Rp.isa (T := TX7) rfl (ho 13 (by decide))) rfl rfl ⟨(Nat.le_of_ble_eq_true rfl), (Nat.le_of_ble_eq_true rfl)⟩ ⟨(Nat.le_of_ble_eq_true rfl), (Nat.le_of_ble_eq_true rfl)⟩ (Nat.le_of_ble_eq_true rfl) ?_
  refine J.istore_n (μ := mX0_takeFromHeap) (pc := 19) dX0_takeFromHeap_19 (Nat.le_of_ble_eq_true rfl) rfl ?_
  refine J.aload_n (μ := mX0_takeFromHeap) (pc := 20) dX0_takeFromHeap_20 rfl ?_
  refine J.gr (μ := mX0_takeFromHeap) (pc := 21) (T := TX9) (ci := 12) (fks := _) rfl rfl in_X9 2 (by decide) wf_X0_132 dX0_takeFromHeap_21 (ho 0 (by decide)) rfl ?_
  refine J.aload_n (μ := mX0_takeFromHeap) (pc := 24) dX0_takeFromHeap_24 rfl ?_
  refine J.gr (μ := mX0_takeFromHeap) (pc := 25) (T := TX9) (ci := 12) (fks := _) rfl rfl in_X9 1 (by decide) wf_X0_34 dX0_takeFromHeap_25 (ho 0 (by decide)) rfl ?_
  refine J.cV0 (μ := mX0_takeFromHeap) (pc := 28) (s_X1_removeTop ho hH (by omega)) rfl wm_X0_151 mi_X1_removeTop rfl dX0_takeFromHeap_28 (Rp.isa (T := TX1) rfl (ho 23 (by decide))) rfl rfl ⟨(Nat.le_of_ble_eq_true rfl), (Nat.le_of_ble_eq_true rfl)⟩ ⟨(Nat.le_of_ble_eq_true rfl), (Nat.le_of_ble_eq_true rfl)⟩ (Nat.le_of_ble_eq_true rfl) ?_
  refine J.aload_n (μ := mX0_takeFromHeap) (pc := 31) dX0_takeFromHeap_31 rfl ?_
  refine J.gr (μ := mX0_takeFromHeap) (pc := 32) (T := TX9) (ci := 12) (fks := _) rfl rfl in_X9 1 (by decide) wf_X0_34 dX0_takeFromHeap_32 (ho 0 (by decide)) rfl ?_
  refine J.iload_n (μ := mX0_takeFromHeap) (pc := 35) dX0_takeFromHeap_35 rfl ?_
  refine J.cV0 (μ := mX0_takeFromHeap) (pc := 36) (s_X5_remove ho  _) rfl wm_X0_113 mi_X5_remove rfl dX0_takeFromHeap_36 (Rp.isa (T := TX5) rfl (ho 8 (by decide))) rfl rfl ⟨(Nat.le_of_ble_eq_true rfl), (Nat.le_of_ble_eq_true rfl)⟩ ⟨(Nat.le_of_ble_eq_true rfl), (Nat.le_of_ble_eq_true rfl)⟩ (Nat.le_of_ble_eq_true rfl) ?_
  refine J.aload_n (μ := mX0_takeFromHeap) (pc := 39) dX0_takeFromHeap_39 rfl ?_
  refine J.dup (μ := mX0_takeFromHeap) (pc := 40) dX0_takeFromHeap_40 rfl ?_
  refine J.gi (μ := mX0_takeFromHeap) (pc := 41) (T := TX9) (ci := 12) (fks := _) rfl rfl in_X9 6 (by decide) wf_X0_155 dX0_takeFromHeap_41 (ho 0 (by decide)) rfl ?_
  refine J.iload_n (μ := mX0_takeFromHeap) (pc := 44) dX0_takeFromHeap_44 rfl ?_
  refine J.iadd (μ := mX0_takeFromHeap) (pc := 45) dX0_takeFromHeap_45 ?_
  refine J.pi (μ := mX0_takeFromHeap) (pc := 46) (T := TX9) (ci := 12) (ty0 := tyX9) (fks := _) rfl rfl in_X9 tyX9_ok nmX9 6 (by decide) wf_X0_155 dX0_takeFromHeap_46 rfl rfl rfl (ho 0 (by decide)) rfl ?_
  refine J.iload_n (μ := mX0_takeFromHeap) (pc := 49) dX0_takeFromHeap_49 rfl ?_
  exact J.iret (μ := mX0_takeFromHeap) (pc := 50) dX0_takeFromHeap_50 rfl (Nat.le_of_ble_eq_true rfl) (Nat.le_of_ble_eq_true rfl) (fun H h => ⟨rfl, h⟩)
/-- how many lots on shelves have expired -/
def xpN (v : Vs) (o N : Nat) : Nat := cn (fun i => decide (0 ≤ gPl v o (nI i) ∧ gEp v o (nI i) < v o 3)) N
def passV (v : Vs) (o N : Nat) (d : Int32) : Int32 × Vs := (nI (xpN (up2 v o 3 (v o 3 + d)) o N) - nI (xpN v o N), up2 v o 3 (v o 3 + d))
theorem s_X0_letPass {γ : Gm} {v : Vs} {o : Nat} (ho : IsStk o) {N : Nat} (hN : v (o + 8) 7 = nI N) (h20 : N ≤ 20) (d : Int32) : Ew γ mX0_letPass yX0_letPass 3 [.ref (gz γ + o), .int d] v (some (.int (passV v o N d).1)) (passV v o N d).2 := by
  have hN2 : up2 v o 3 (v o 3 + d) (o + 8) 7 = nI N := by rw [up2_o _ _ _ (by omega)]; exact hN
  refine Ev.ofJ (by decide) rfl (fun h => by cases h) (Nat.le_of_ble_eq_true rfl) ?_
  refine J.aload_n (μ := mX0_letPass) (pc := 0) dX0_letPass_0 rfl ?_
  refine J.cV (μ := mX0_letPass) (pc := 1) (s_X9_expiredCount ho hN h20) rfl wm_X0_158 mi_X9_expiredCount rfl dX0_letPass_1 (Rp.isa (T := TX9) rfl (ho 0 (by decide))) rfl rfl ⟨(Nat.le_of_ble_eq_true rfl), (Nat.le_of_ble_eq_true rfl)⟩ ⟨(Nat.le_of_ble_eq_true rfl), (Nat.le_of_ble_eq_true rfl)⟩ (Nat.le_of_ble_eq_true rfl) ?_
  refine J.istore_n (μ := mX0_letPass) (pc := 4) dX0_letPass_4 (Nat.le_of_ble_eq_true rfl) rfl ?_
  refine J.aload_n (μ := mX0_letPass) (pc := 5) dX0_letPass_5 rfl ?_
  refine J.dup (μ := mX0_letPass) (pc := 6) dX0_letPass_6 rfl ?_
  refine J.gi (μ := mX0_letPass) (pc := 7) (T := TX9) (ci := 12) (fks := _) rfl rfl in_X9 3 (by decide) wf_X0_68 dX0_letPass_7 (ho 0 (by decide)) rfl ?_
  refine J.iload_n (μ := mX0_letPass) (pc := 10) dX0_letPass_10 rfl ?_
  refine J.iadd (μ := mX0_letPass) (pc := 11) dX0_letPass_11 ?_
  refine J.pi (μ := mX0_letPass) (pc := 12) (T := TX9) (ci := 12) (ty0 := tyX9) (fks := _) rfl rfl in_X9 tyX9_ok nmX9 3 (by decide) wf_X0_68 dX0_letPass_12 rfl rfl rfl (ho 0 (by decide)) rfl ?_
  refine J.aload_n (μ := mX0_letPass) (pc := 15) dX0_letPass_15 rfl ?_
  refine J.cV (μ := mX0_letPass) (pc := 16) (s_X9_expiredCount ho hN2 h20) rfl wm_X0_158 mi_X9_expiredCount rfl dX0_letPass_16 (Rp.isa (T := TX9) rfl (ho 0 (by decide))) rfl rfl ⟨(Nat.le_of_ble_eq_true rfl), (Nat.le_of_ble_eq_true rfl)⟩ ⟨(Nat.le_of_ble_eq_true rfl), (Nat.le_of_ble_eq_true rfl)⟩ (Nat.le_of_ble_eq_true rfl) ?_
  refine J.iload_n (μ := mX0_letPass) (pc := 19) dX0_letPass_19 rfl ?_
  refine J.isub (μ := mX0_letPass) (pc := 20) dX0_letPass_20 ?_
  exact J.iret (μ := mX0_letPass) (pc := 21) dX0_letPass_21 rfl (Nat.le_of_ble_eq_true rfl) (Nat.le_of_ble_eq_true rfl) (fun H h => ⟨rfl, h⟩)
def moveV (v : Vs) (o N : Nat) (x y : Int32) : Int32 × Vs := (roomW (sPl v o x y) o N y (-1) (-1), sPl v o x y)
def countV (v : Vs) (o N : Nat) (x : Int32) : Int32 × Vs := (nI (cn (fun i => decide (gPl (sCd v o x (v o 3)) o (nI i) = x)) N), sCd v o x (v o 3))
/-- what a command answers, and what it makes of the numbers -/
def pfOf (v : Vs) (o N M H : Nat) (c a b e f : Int32) : Int32 × Vs :=
  if c = 0 then (v (o + 1) 3, addS v o a b) else if c = 1 then takeV v o N M a b e f else if c = 2 then divV v o a b else if c = 3 then uniV v o N M a b else if c = 4 then moveV v o N a b else if c = 5 then sendV v o N a b
  else if c = 6 then recV v o N H a.toNatClampNeg else if c = 7 then takeTop v o (H - 1) else if c = 8 then countV v o N a else passV v o N a
theorem s_X0_perform {γ : Gm} {v : Vs} {o : Nat} (ho : IsStk o) {N M H : Nat} (hN : v (o + 8) 7 = nI N) (h20 : N ≤ 20) (hM : v (o + 1) 3 = nI M) (h8 : M ≤ 8) (hH : v (o + 23) 1 = nI H) (hb : H ≤ 50) (c a b e f : Int32) (h6 : c = 6 → hasL v o a) (h7 : c = 7 → 0 < H) : Ew γ mX0_perform yX0_perform 25 [.ref (gz γ + o), .int c, .int a, .int b, .int e, .int f] v (some (.int (pfOf v o N M H c a b e f).1)) (pfOf v o N M H c a b e f).2 := by
  refine Ev.ofJ (by decide) rfl (fun h => by cases h) (Nat.le_of_ble_eq_true rfl) ?_
  refine J.iload_n (μ := mX0_perform) (pc := 0) dX0_perform_0 rfl ?_
  by_cases h_0 : c = 0
  · subst h_0
    have he : pfOf v o N M H 0 a b e f = (v (o + 1) 3, addS v o a b) := by unfold pfOf; rw [if_pos rfl]
    rw [he]
    refine J.tableIn (μ := mX0_perform) (pc := 1) 52 dX0_perform_1 (by decide) (by decide) rfl (by decide) ?_
    refine J.aload_n (μ := mX0_perform) (pc := 52) dX0_perform_52 rfl ?_
    refine J.gr (μ := mX0_perform) (pc := 53) (T := TX9) (ci := 12) (fks := _) rfl rfl in_X9 0 (by decide) wf_X0_9 dX0_perform_53 (ho 0 (by decide)) rfl ?_
    refine J.iload_n (μ := mX0_perform) (pc := 56) dX0_perform_56 rfl ?_
    refine J.iload_n (μ := mX0_perform) (pc := 57) dX0_perform_57 rfl ?_
    refine J.cV (μ := mX0_perform) (pc := 58) (s_X8_add ho  _ _) rfl wm_X0_15 mi_X8_add rfl dX0_perform_58 (Rp.isa (T := TX8) rfl (ho 1 (by decide))) rfl rfl ⟨(Nat.le_of_ble_eq_true rfl), (Nat.le_of_ble_eq_true rfl)⟩ ⟨(Nat.le_of_ble_eq_true rfl), (Nat.le_of_ble_eq_true rfl)⟩ (Nat.le_of_ble_eq_true rfl) ?_
    exact J.iret (μ := mX0_perform) (pc := 61) dX0_perform_61 rfl (Nat.le_of_ble_eq_true rfl) (Nat.le_of_ble_eq_true rfl) (fun H h => ⟨rfl, h⟩)
  by_cases h_1 : c = 1
  · subst h_1
    have he : pfOf v o N M H 1 a b e f = takeV v o N M a b e f := by unfold pfOf; rw [if_neg (by decide), if_pos rfl]
    rw [he]
    refine J.tableIn (μ := mX0_perform) (pc := 1) 62 dX0_perform_1 (by decide) (by decide) rfl (by decide) ?_
    refine J.aload_n (μ := mX0_perform) (pc := 62) dX0_perform_62 rfl ?_
    refine J.iload_n (μ := mX0_perform) (pc := 63) dX0_perform_63 rfl ?_
    refine J.iload_n (μ := mX0_perform) (pc := 64) dX0_perform_64 rfl ?_
    refine J.iload (μ := mX0_perform) (pc := 65) dX0_perform_65 rfl ?_
    refine J.iload (μ := mX0_perform) (pc := 67) dX0_perform_67 rfl ?_
    refine J.cS (μ := mX0_perform) (pc := 69) (s_X0_takeIn ho hN h20 hM h8 _ _ _ _) rfl wm_X0_21 mi_X0_takeIn rfl dX0_perform_69 rfl rfl ⟨(Nat.le_of_ble_eq_true rfl), (Nat.le_of_ble_eq_true rfl)⟩ ⟨(Nat.le_of_ble_eq_true rfl), (Nat.le_of_ble_eq_true rfl)⟩ (Nat.le_of_ble_eq_true rfl) ?_
    exact J.iret (μ := mX0_perform) (pc := 72) dX0_perform_72 rfl (Nat.le_of_ble_eq_true rfl) (Nat.le_of_ble_eq_true rfl) (fun H h => ⟨rfl, h⟩)
  by_cases h_2 : c = 2
  · subst h_2
    have he : pfOf v o N M H 2 a b e f = divV v o a b := by unfold pfOf; rw [if_neg (by decide), if_neg (by decide), if_pos rfl]
    rw [he]
    refine J.tableIn (μ := mX0_perform) (pc := 1) 73 dX0_perform_1 (by decide) (by decide) rfl (by decide) ?_
    refine J.aload_n (μ := mX0_perform) (pc := 73) dX0_perform_73 rfl ?_
    refine J.iload_n (μ := mX0_perform) (pc := 74) dX0_perform_74 rfl ?_
    refine J.iload_n (μ := mX0_perform) (pc := 75) dX0_perform_75 rfl ?_
    refine J.cS (μ := mX0_perform) (pc := 76) (s_X0_divide ho _ _) rfl wm_X0_27 mi_X0_divide rfl dX0_perform_76 rfl rfl ⟨(Nat.le_of_ble_eq_true rfl), (Nat.le_of_ble_eq_true rfl)⟩ ⟨(Nat.le_of_ble_eq_true rfl), (Nat.le_of_ble_eq_true rfl)⟩ (Nat.le_of_ble_eq_true rfl) ?_
    exact J.iret (μ := mX0_perform) (pc := 79) dX0_perform_79 rfl (Nat.le_of_ble_eq_true rfl) (Nat.le_of_ble_eq_true rfl) (fun H h => ⟨rfl, h⟩)
  by_cases h_3 : c = 3
  · subst h_3
    have he : pfOf v o N M H 3 a b e f = uniV v o N M a b := by unfold pfOf; rw [if_neg (by decide), if_neg (by decide), if_neg (by decide), if_pos rfl]
    rw [he]
    refine J.tableIn (μ := mX0_perform) (pc := 1) 80 dX0_perform_1 (by decide) (by decide) rfl (by decide) ?_
    refine J.aload_n (μ := mX0_perform) (pc := 80) dX0_perform_80 rfl ?_
    refine J.iload_n (μ := mX0_perform) (pc := 81) dX0_perform_81 rfl ?_
    refine J.iload_n (μ := mX0_perform) (pc := 82) dX0_perform_82 rfl ?_
    refine J.cS (μ := mX0_perform) (pc := 83) (s_X0_unite ho hN h20 hM h8 _ _) rfl wm_X0_31 mi_X0_unite rfl dX0_perform_83 rfl rfl ⟨(Nat.le_of_ble_eq_true rfl), (Nat.le_of_ble_eq_true rfl)⟩ ⟨(Nat.le_of_ble_eq_true rfl), (Nat.le_of_ble_eq_true rfl)⟩ (Nat.le_of_ble_eq_true rfl) ?_
    exact J.iret (μ := mX0_perform) (pc := 86) dX0_perform_86 rfl (Nat.le_of_ble_eq_true rfl) (Nat.le_of_ble_eq_true rfl) (fun H h => ⟨rfl, h⟩)
  by_cases h_4 : c = 4
  · subst h_4
    have he : pfOf v o N M H 4 a b e f = moveV v o N a b := by unfold pfOf; rw [if_neg (by decide), if_neg (by decide), if_neg (by decide), if_neg (by decide), if_pos rfl]
    rw [he]
    refine J.tableIn (μ := mX0_perform) (pc := 1) 87 dX0_perform_1 (by decide) (by decide) rfl (by decide) ?_
    have hN2 : sPl v o a b (o + 8) 7 = nI N := by unfold sPl; rw [rs_o (by omega)]; exact hN
    refine J.aload_n (μ := mX0_perform) (pc := 87) dX0_perform_87 rfl ?_
    refine J.gr (μ := mX0_perform) (pc := 88) (T := TX9) (ci := 12) (fks := _) rfl rfl in_X9 1 (by decide) wf_X0_34 dX0_perform_88 (ho 0 (by decide)) rfl ?_
    refine J.gr (μ := mX0_perform) (pc := 91) (T := TX5) (ci := 8) (fks := _) rfl rfl in_X5 4 (by decide) wf_X0_38 dX0_perform_91 (ho 8 (by decide)) rfl ?_
    refine J.iload_n (μ := mX0_perform) (pc := 94) dX0_perform_94 rfl ?_
    refine J.iload_n (μ := mX0_perform) (pc := 95) dX0_perform_95 rfl ?_
    refine J.cV0 (μ := mX0_perform) (pc := 96) (p_pl ho _ _) rfl wm_X0_44 mi_X7_set rfl dX0_perform_96 (Rp.isa (T := TX7) rfl (ho 17 (by decide))) rfl rfl ⟨(Nat.le_of_ble_eq_true rfl), (Nat.le_of_ble_eq_true rfl)⟩ ⟨(Nat.le_of_ble_eq_true rfl), (Nat.le_of_ble_eq_true rfl)⟩ (Nat.le_of_ble_eq_true rfl) ?_
    refine J.aload_n (μ := mX0_perform) (pc := 99) dX0_perform_99 rfl ?_
    refine J.iload_n (μ := mX0_perform) (pc := 100) dX0_perform_100 rfl ?_
    refine J.iconst (μ := mX0_perform) (pc := 101) (v := -1) dX0_perform_101 (by decide) ?_
    refine J.iconst (μ := mX0_perform) (pc := 102) (v := -1) dX0_perform_102 (by decide) ?_
    refine J.cV (μ := mX0_perform) (pc := 103) (s_X9_roomWithout ho hN2 h20 _ _ _) rfl wm_X0_50 mi_X9_roomWithout rfl dX0_perform_103 (Rp.isa (T := TX9) rfl (ho 0 (by decide))) rfl rfl ⟨(Nat.le_of_ble_eq_true rfl), (Nat.le_of_ble_eq_true rfl)⟩ ⟨(Nat.le_of_ble_eq_true rfl), (Nat.le_of_ble_eq_true rfl)⟩ (Nat.le_of_ble_eq_true rfl) ?_
    exact J.iret (μ := mX0_perform) (pc := 106) dX0_perform_106 rfl (Nat.le_of_ble_eq_true rfl) (Nat.le_of_ble_eq_true rfl) (fun H h => ⟨rfl, h⟩)
  by_cases h_5 : c = 5
  · subst h_5
    have he : pfOf v o N M H 5 a b e f = sendV v o N a b := by unfold pfOf; rw [if_neg (by decide), if_neg (by decide), if_neg (by decide), if_neg (by decide), if_neg (by decide), if_pos rfl]
    rw [he]
    refine J.tableIn (μ := mX0_perform) (pc := 1) 107 dX0_perform_1 (by decide) (by decide) rfl (by decide) ?_
    refine J.aload_n (μ := mX0_perform) (pc := 107) dX0_perform_107 rfl ?_
    refine J.iload_n (μ := mX0_perform) (pc := 108) dX0_perform_108 rfl ?_
    refine J.iload_n (μ := mX0_perform) (pc := 109) dX0_perform_109 rfl ?_
    refine J.cS (μ := mX0_perform) (pc := 110) (s_X0_sendOut ho hN h20 _ _) rfl wm_X0_54 mi_X0_sendOut rfl dX0_perform_110 rfl rfl ⟨(Nat.le_of_ble_eq_true rfl), (Nat.le_of_ble_eq_true rfl)⟩ ⟨(Nat.le_of_ble_eq_true rfl), (Nat.le_of_ble_eq_true rfl)⟩ (Nat.le_of_ble_eq_true rfl) ?_
    exact J.iret (μ := mX0_perform) (pc := 113) dX0_perform_113 rfl (Nat.le_of_ble_eq_true rfl) (Nat.le_of_ble_eq_true rfl) (fun H h => ⟨rfl, h⟩)
  by_cases h_6 : c = 6
  · subst h_6
    have he : pfOf v o N M H 6 a b e f = recV v o N H a.toNatClampNeg := by unfold pfOf; rw [if_neg (by decide), if_neg (by decide), if_neg (by decide), if_neg (by decide), if_neg (by decide), if_neg (by decide), if_pos rfl]
    rw [he]
    refine J.tableIn (μ := mX0_perform) (pc := 1) 114 dX0_perform_1 (by decide) (by decide) rfl (by decide) ?_
    have ha := h6 rfl
    obtain ⟨j, hj, rfl⟩ : ∃ j, j ≤ 100 ∧ a = nI j := by
      have h1 := ha.2
      rw [hN] at h1
      obtain ⟨j, hj, e⟩ := nI_of (Int32.not_lt.mpr ha.1)
      rw [e] at h1
      exact ⟨j, by have := (nI_ltI hj (by omega)).mp h1; omega, e⟩
    refine J.aload_n (μ := mX0_perform) (pc := 114) dX0_perform_114 rfl ?_
    refine J.iload_n (μ := mX0_perform) (pc := 115) dX0_perform_115 rfl ?_
    refine J.cS (μ := mX0_perform) (pc := 116) (s_X0_callBack ho hN h20 hH hb hj) rfl wm_X0_57 mi_X0_callBack rfl dX0_perform_116 rfl rfl ⟨(Nat.le_of_ble_eq_true rfl), (Nat.le_of_ble_eq_true rfl)⟩ ⟨(Nat.le_of_ble_eq_true rfl), (Nat.le_of_ble_eq_true rfl)⟩ (Nat.le_of_ble_eq_true rfl) ?_
    exact J.iret (μ := mX0_perform) (pc := 119) dX0_perform_119 rfl (Nat.le_of_ble_eq_true rfl) (Nat.le_of_ble_eq_true rfl) (fun H h => by rw [nI_clamp (by omega)]; exact ⟨rfl, h⟩)
  by_cases h_7 : c = 7
  · subst h_7
    have he : pfOf v o N M H 7 a b e f = takeTop v o (H - 1) := by unfold pfOf; rw [if_neg (by decide), if_neg (by decide), if_neg (by decide), if_neg (by decide), if_neg (by decide), if_neg (by decide), if_neg (by decide), if_pos rfl]
    rw [he]
    refine J.tableIn (μ := mX0_perform) (pc := 1) 120 dX0_perform_1 (by decide) (by decide) rfl (by decide) ?_
    have h0 := h7 rfl
    obtain ⟨h, rfl⟩ : ∃ h, H = h + 1 := ⟨H - 1, by omega⟩
    refine J.aload_n (μ := mX0_perform) (pc := 120) dX0_perform_120 rfl ?_
    refine J.cS (μ := mX0_perform) (pc := 121) (s_X0_takeFromHeap ho hH (by omega)) rfl wm_X0_61 mi_X0_takeFromHeap rfl dX0_perform_121 rfl rfl ⟨(Nat.le_of_ble_eq_true rfl), (Nat.le_of_ble_eq_true rfl)⟩ ⟨(Nat.le_of_ble_eq_true rfl), (Nat.le_of_ble_eq_true rfl)⟩ (Nat.le_of_ble_eq_true rfl) ?_
    exact J.iret (μ := mX0_perform) (pc := 124) dX0_perform_124 rfl (Nat.le_of_ble_eq_true rfl) (Nat.le_of_ble_eq_true rfl) (fun H h => ⟨rfl, h⟩)
  by_cases h_8 : c = 8
  · subst h_8
    have he : pfOf v o N M H 8 a b e f = countV v o N a := by unfold pfOf; rw [if_neg (by decide), if_neg (by decide), if_neg (by decide), if_neg (by decide), if_neg (by decide), if_neg (by decide), if_neg (by decide), if_neg (by decide), if_pos rfl]
    rw [he]
    refine J.tableIn (μ := mX0_perform) (pc := 1) 125 dX0_perform_1 (by decide) (by decide) rfl (by decide) ?_
    have hN2 : sCd v o a (v o 3) (o + 8) 7 = nI N := by unfold sCd; rw [rs_o (by omega)]; exact hN
    refine J.aload_n (μ := mX0_perform) (pc := 125) dX0_perform_125 rfl ?_
    refine J.gr (μ := mX0_perform) (pc := 126) (T := TX9) (ci := 12) (fks := _) rfl rfl in_X9 0 (by decide) wf_X0_9 dX0_perform_126 (ho 0 (by decide)) rfl ?_
    refine J.gr (μ := mX0_perform) (pc := 129) (T := TX8) (ci := 11) (fks := _) rfl rfl in_X8 2 (by decide) wf_X0_65 dX0_perform_129 (ho 1 (by decide)) rfl ?_
    refine J.iload_n (μ := mX0_perform) (pc := 132) dX0_perform_132 rfl ?_
    refine J.aload_n (μ := mX0_perform) (pc := 133) dX0_perform_133 rfl ?_
    refine J.gi (μ := mX0_perform) (pc := 134) (T := TX9) (ci := 12) (fks := _) rfl rfl in_X9 3 (by decide) wf_X0_68 dX0_perform_134 (ho 0 (by decide)) rfl ?_
    refine J.cV0 (μ := mX0_perform) (pc := 137) (p_cd ho _ _) rfl wm_X0_44 mi_X7_set rfl dX0_perform_137 (Rp.isa (T := TX7) rfl (ho 6 (by decide))) rfl rfl ⟨(Nat.le_of_ble_eq_true rfl), (Nat.le_of_ble_eq_true rfl)⟩ ⟨(Nat.le_of_ble_eq_true rfl), (Nat.le_of_ble_eq_true rfl)⟩ (Nat.le_of_ble_eq_true rfl) ?_
    refine J.aload_n (μ := mX0_perform) (pc := 140) dX0_perform_140 rfl ?_
    refine J.gr (μ := mX0_perform) (pc := 141) (T := TX9) (ci := 12) (fks := _) rfl rfl in_X9 1 (by decide) wf_X0_34 dX0_perform_141 (ho 0 (by decide)) rfl ?_
    refine J.iload_n (μ := mX0_perform) (pc := 144) dX0_perform_144 rfl ?_
    refine J.cV (μ := mX0_perform) (pc := 145) (s_X5_countAt ho hN2 h20 _) rfl wm_X0_72 mi_X5_countAt rfl dX0_perform_145 (Rp.isa (T := TX5) rfl (ho 8 (by decide))) rfl rfl ⟨(Nat.le_of_ble_eq_true rfl), (Nat.le_of_ble_eq_true rfl)⟩ ⟨(Nat.le_of_ble_eq_true rfl), (Nat.le_of_ble_eq_true rfl)⟩ (Nat.le_of_ble_eq_true rfl) ?_
    exact J.iret (μ := mX0_perform) (pc := 148) dX0_perform_148 rfl (Nat.le_of_ble_eq_true rfl) (Nat.le_of_ble_eq_true rfl) (fun H h => ⟨rfl, h⟩)
  refine J.tableOut (μ := mX0_perform) (pc := 1) 149 dX0_perform_1 (sw_out 8 (by decide) (fun k hk => ?_)) (by decide) ?_
  · rcases (show k = 0 ∨ k = 1 ∨ k = 2 ∨ k = 3 ∨ k = 4 ∨ k = 5 ∨ k = 6 ∨ k = 7 ∨ k = 8 by omega) with rfl | rfl | rfl | rfl | rfl | rfl | rfl | rfl | rfl <;> assumption
  · have he : pfOf v o N M H c a b e f = passV v o N a := by
      unfold pfOf
      rw [if_neg h_0, if_neg h_1, if_neg h_2, if_neg h_3, if_neg h_4, if_neg h_5, if_neg h_6, if_neg h_7, if_neg h_8]
    rw [he]
    refine J.aload_n (μ := mX0_perform) (pc := 149) dX0_perform_149 rfl ?_
    refine J.iload_n (μ := mX0_perform) (pc := 150) dX0_perform_150 rfl ?_
    refine J.cS (μ := mX0_perform) (pc := 151) (s_X0_letPass ho hN h20 _) rfl wm_X0_76 mi_X0_letPass rfl dX0_perform_151 rfl rfl ⟨(Nat.le_of_ble_eq_true rfl), (Nat.le_of_ble_eq_true rfl)⟩ ⟨(Nat.le_of_ble_eq_true rfl), (Nat.le_of_ble_eq_true rfl)⟩ (Nat.le_of_ble_eq_true rfl) ?_
    exact J.iret (μ := mX0_perform) (pc := 154) dX0_perform_154 rfl (Nat.le_of_ble_eq_true rfl) (Nat.le_of_ble_eq_true rfl) (fun H h => ⟨rfl, h⟩)
