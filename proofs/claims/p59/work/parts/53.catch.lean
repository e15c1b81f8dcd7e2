/-! the law calls the changes, and catches what they throw -/
theorem cs_ns : Cond.castable nsC nsC ∈ WSB := wsbB 567 (by decide +kernel) rfl
theorem cs_io : Cond.castable ioE ioE ∈ WSB := wsbB 639 (by decide +kernel) rfl
theorem cs_ia : Cond.castable iaE iaE ∈ WSB := wsbB 655 (by decide +kernel) rfl
theorem cs_uo : Cond.castable uoE uoE ∈ WSB := wsbB 675 (by decide +kernel) rfl
theorem cs_is : Cond.castable isE isE ∈ WSB := wsbB 954 (by decide +kernel) rfl
theorem cs_ar : Cond.castable arE arE ∈ WSB := wsbB 1624 (by decide +kernel) rfl
theorem nc_ia_ns : ((iaE : String), "java/util/NoSuchElementException") ∈ NCl := by decide +kernel
theorem nc_uo_ns : ((uoE : String), "java/util/NoSuchElementException") ∈ NCl := by decide +kernel
theorem nc_uo_ia : ((uoE : String), "java/lang/IllegalArgumentException") ∈ NCl := by decide +kernel
theorem nc_uo_io : ((uoE : String), "java/lang/IndexOutOfBoundsException") ∈ NCl := by decide +kernel
theorem nc_io_ns : ((ioE : String), "java/util/NoSuchElementException") ∈ NCl := by decide +kernel
theorem nc_ns_io : ((nsC : String), "java/lang/IndexOutOfBoundsException") ∈ NCl := by decide +kernel
theorem nc_ns_ia : ((nsC : String), "java/lang/IllegalArgumentException") ∈ NCl := by decide +kernel
section XC
variable {v : Vs} {o N M : Nat} {a b e f : Int32}
theorem it_p {p : Prop} [Decidable p] {x y : Int32 × Vs} {P : Int32 → Prop} (h1 : P x.1) (h2 : P y.1) : P (if p then x else y).1 := by
  by_cases q : p
  · rw [if_pos q]; exact h1
  · rw [if_neg q]; exact h2
theorem xc0 : (vdOf v o N M 0 a b e f).1 ≠ 0 → ∃ x, excOf (vdOf v o N M 0 a b e f).1 = x ∧ (x = iaE ∨ x = uoE) := by
  unfold vdOf
  rw [if_pos rfl]
  unfold vdShelf
  repeat' apply it_p (P := fun z => z ≠ 0 → ∃ x, excOf z = x ∧ (x = iaE ∨ x = uoE))
  all_goals first
    | exact fun h => absurd rfl h
    | exact fun _ => ⟨iaE, rfl, .inl rfl⟩
    | exact fun _ => ⟨uoE, rfl, .inr rfl⟩
theorem xc1 : (vdOf v o N M 1 a b e f).1 ≠ 0 → ∃ x, excOf (vdOf v o N M 1 a b e f).1 = x ∧ (x = iaE ∨ x = uoE) := by
  unfold vdOf
  rw [if_neg (by decide), if_pos rfl]
  unfold vdRecv
  repeat' apply it_p (P := fun z => z ≠ 0 → ∃ x, excOf z = x ∧ (x = iaE ∨ x = uoE))
  all_goals first
    | exact fun h => absurd rfl h
    | exact fun _ => ⟨iaE, rfl, .inl rfl⟩
    | exact fun _ => ⟨uoE, rfl, .inr rfl⟩
theorem xc2 : (vdOf v o N M 2 a b e f).1 ≠ 0 → ∃ x, excOf (vdOf v o N M 2 a b e f).1 = x ∧ (x = nsC ∨ x = iaE ∨ x = uoE) := by
  unfold vdOf
  rw [if_neg (by decide), if_neg (by decide), if_pos rfl]
  unfold vdSplit
  repeat' apply it_p (P := fun z => z ≠ 0 → ∃ x, excOf z = x ∧ (x = nsC ∨ x = iaE ∨ x = uoE))
  all_goals first
    | exact fun h => absurd rfl h
    | exact fun _ => ⟨nsC, rfl, .inl rfl⟩
    | exact fun _ => ⟨iaE, rfl, .inr (.inl rfl)⟩
    | exact fun _ => ⟨uoE, rfl, .inr (.inr rfl)⟩
theorem xc3 : (vdOf v o N M 3 a b e f).1 ≠ 0 → ∃ x, excOf (vdOf v o N M 3 a b e f).1 = x ∧ (x = nsC ∨ x = iaE ∨ x = uoE) := by
  unfold vdOf
  rw [if_neg (by decide), if_neg (by decide), if_neg (by decide), if_pos rfl]
  unfold vdMix
  repeat' apply it_p (P := fun z => z ≠ 0 → ∃ x, excOf z = x ∧ (x = nsC ∨ x = iaE ∨ x = uoE))
  all_goals first
    | exact fun h => absurd rfl h
    | exact fun _ => ⟨nsC, rfl, .inl rfl⟩
    | exact fun _ => ⟨iaE, rfl, .inr (.inl rfl)⟩
    | exact fun _ => ⟨uoE, rfl, .inr (.inr rfl)⟩
theorem xc4 : (vdOf v o N M 4 a b e f).1 ≠ 0 → ∃ x, excOf (vdOf v o N M 4 a b e f).1 = x ∧ (x = nsC ∨ x = ioE ∨ x = uoE) := by
  unfold vdOf
  rw [if_neg (by decide), if_neg (by decide), if_neg (by decide), if_neg (by decide), if_pos rfl]
  unfold vdMove
  repeat' apply it_p (P := fun z => z ≠ 0 → ∃ x, excOf z = x ∧ (x = nsC ∨ x = ioE ∨ x = uoE))
  all_goals first
    | exact fun h => absurd rfl h
    | exact fun _ => ⟨nsC, rfl, .inl rfl⟩
    | exact fun _ => ⟨ioE, rfl, .inr (.inl rfl)⟩
    | exact fun _ => ⟨uoE, rfl, .inr (.inr rfl)⟩
theorem xc5 : (vdOf v o N M 5 a b e f).1 ≠ 0 → ∃ x, excOf (vdOf v o N M 5 a b e f).1 = x ∧ (x = iaE ∨ x = uoE) := by
  unfold vdOf
  rw [if_neg (by decide), if_neg (by decide), if_neg (by decide), if_neg (by decide), if_neg (by decide), if_pos rfl]
  unfold vdShip
  repeat' apply it_p (P := fun z => z ≠ 0 → ∃ x, excOf z = x ∧ (x = iaE ∨ x = uoE))
  all_goals first
    | exact fun h => absurd rfl h
    | exact fun _ => ⟨iaE, rfl, .inl rfl⟩
    | exact fun _ => ⟨uoE, rfl, .inr rfl⟩
theorem xc6 : (vdOf v o N M 6 a b e f).1 ≠ 0 → ∃ x, excOf (vdOf v o N M 6 a b e f).1 = x ∧ (x = nsC) := by
  unfold vdOf
  rw [if_neg (by decide), if_neg (by decide), if_neg (by decide), if_neg (by decide), if_neg (by decide), if_neg (by decide), if_pos rfl]
  skip
  repeat' apply it_p (P := fun z => z ≠ 0 → ∃ x, excOf z = x ∧ (x = nsC))
  all_goals first
    | exact fun h => absurd rfl h
    | exact fun _ => ⟨nsC, rfl, rfl⟩
theorem xc7 : (vdOf v o N M 7 a b e f).1 ≠ 0 → ∃ x, excOf (vdOf v o N M 7 a b e f).1 = x ∧ (x = uoE) := by
  unfold vdOf
  rw [if_neg (by decide), if_neg (by decide), if_neg (by decide), if_neg (by decide), if_neg (by decide), if_neg (by decide), if_neg (by decide), if_pos rfl]
  skip
  repeat' apply it_p (P := fun z => z ≠ 0 → ∃ x, excOf z = x ∧ (x = uoE))
  all_goals first
    | exact fun h => absurd rfl h
    | exact fun _ => ⟨uoE, rfl, rfl⟩
theorem xc8 : (vdOf v o N M 8 a b e f).1 ≠ 0 → ∃ x, excOf (vdOf v o N M 8 a b e f).1 = x ∧ (x = ioE) := by
  unfold vdOf
  rw [if_neg (by decide), if_neg (by decide), if_neg (by decide), if_neg (by decide), if_neg (by decide), if_neg (by decide), if_neg (by decide), if_neg (by decide), if_pos rfl]
  skip
  repeat' apply it_p (P := fun z => z ≠ 0 → ∃ x, excOf z = x ∧ (x = ioE))
  all_goals first
    | exact fun h => absurd rfl h
    | exact fun _ => ⟨ioE, rfl, rfl⟩
theorem xc9 : (vdOf v o N M 9 a b e f).1 ≠ 0 → ∃ x, excOf (vdOf v o N M 9 a b e f).1 = x ∧ (x = iaE) := by
  unfold vdOf
  rw [if_neg (by decide), if_neg (by decide), if_neg (by decide), if_neg (by decide), if_neg (by decide), if_neg (by decide), if_neg (by decide), if_neg (by decide), if_neg (by decide)]
  skip
  repeat' apply it_p (P := fun z => z ≠ 0 → ∃ x, excOf z = x ∧ (x = iaE))
  all_goals first
    | exact fun h => absurd rfl h
    | exact fun _ => ⟨iaE, rfl, rfl⟩
end XC
/-- a change that is made, or denied -/
def CmdR (v : Vs) (N M H n s : Nat) (c a b e f r : Int32) (u : Vs) : Prop := ((vdOf v 1 N M c a b e f).1 = 0 ∧ r = (pfOf (keepV v n s) 1 N M H c a b e f).1 ∧ u = (pfOf (keepV v n s) 1 N M H c a b e f).2) ∨ ((vdOf v 1 N M c a b e f).1 ≠ 0 ∧ r = -100000000 ∧ u = rfV (vdOf v 1 N M c a b e f).2 (vdOf v 1 N M c a b e f).1)
theorem l_addShelf {γ : Gm} {v : Vs} {N M H n s : Nat} (h : OK v N M H n s) (a b : Int32) : Ev γ mL_addShelf yL_addShelf 32 1 6 [.ref (gz γ + 0), .int a, .int b] (Rp γ v) (fun w K => ∃ (r : Int32) (u : Vs), (w = some (.int r) ∧ CmdR v N M H n s 0 a b 0 0 r u) ∧ Rp γ u K) := by
  refine Ev.ofJ (by decide) rfl (fun h => by cases h) (Nat.le_of_ble_eq_true rfl) ?_
  refine J.ldc (μ := mL_addShelf) (pc := 0) rfl wo_L_10 dL_addShelf_0 ?_
  refine J.istore_n (μ := mL_addShelf) (pc := 2) dL_addShelf_2 (Nat.le_of_ble_eq_true rfl) rfl ?_
  refine J.aload_n (μ := mL_addShelf) (pc := 3) dL_addShelf_3 rfl ?_
  refine J.iload_n (μ := mL_addShelf) (pc := 4) dL_addShelf_4 rfl ?_
  refine J.iload_n (μ := mL_addShelf) (pc := 5) dL_addShelf_5 rfl ?_
  refine J.callVx (μ := mL_addShelf) (pc := 6) (s_X11_addShelf h a b) rfl wm_L_11 mi_X11_addShelf rfl dL_addShelf_6 (Rp.isa (T := TX11) rfl sh0) rfl rfl ⟨(Nat.le_of_ble_eq_true rfl), (Nat.le_of_ble_eq_true rfl)⟩ ⟨(Nat.le_of_ble_eq_true rfl), (Nat.le_of_ble_eq_true rfl)⟩ (Nat.le_of_ble_eq_true rfl) (fun E => JX.and fun h1 => JX.and fun h2 => ?_) (fun w => J.and fun h1 => J.and fun e9 => ?_)
  · subst h2
    obtain ⟨x, e1, e2⟩ := xc0 h1
    rw [e1]
    rcases e2 with rfl | rfl
    · refine JX.catch (μ := mL_addShelf) (pc := 6) (own := RL) (name := iaE) [] ⟨3, 10, 13, 17⟩ [⟨3, 10, 18, 19⟩] rfl rfl (fun _ h => absurd h List.not_mem_nil) rfl (by decide) wk_L_17 cs_ia (fun q => ?_)
      refine J.astore (μ := mL_addShelf) (pc := 13) dL_addShelf_13 (Nat.le_of_ble_eq_true rfl) rfl ?_
      refine J.ldc (μ := mL_addShelf) (pc := 15) rfl wo_L_10 dL_addShelf_15 ?_
      exact J.iret (μ := mL_addShelf) (pc := 17) dL_addShelf_17 rfl (Nat.le_of_ble_eq_true rfl) (Nat.le_of_ble_eq_true rfl) (fun K k => ⟨_, _, ⟨rfl, .inr ⟨h1, rfl, rfl⟩⟩, k⟩)
    · refine JX.catch (μ := mL_addShelf) (pc := 6) (own := RL) (name := uoE) [⟨3, 10, 13, 17⟩] ⟨3, 10, 18, 19⟩ [] rfl rfl (List.forall_mem_cons.mpr ⟨.inr ⟨by decide, _, wk_L_17, nc_uo_ia⟩, fun _ h => absurd h List.not_mem_nil⟩) rfl (by decide) wk_L_19 cs_uo (fun q => ?_)
      refine J.astore (μ := mL_addShelf) (pc := 18) dL_addShelf_18 (Nat.le_of_ble_eq_true rfl) rfl ?_
      refine J.ldc (μ := mL_addShelf) (pc := 20) rfl wo_L_10 dL_addShelf_20 ?_
      exact J.iret (μ := mL_addShelf) (pc := 22) dL_addShelf_22 rfl (Nat.le_of_ble_eq_true rfl) (Nat.le_of_ble_eq_true rfl) (fun K k => ⟨_, _, ⟨rfl, .inr ⟨h1, rfl, rfl⟩⟩, k⟩)
  · subst e9
    refine J.istore_n (μ := mL_addShelf) (pc := 9) dL_addShelf_9 (Nat.le_of_ble_eq_true rfl) rfl ?_
    refine J.goto (μ := mL_addShelf) (pc := 10) 23 dL_addShelf_10 (by decide) ?_
    refine J.iload_n (μ := mL_addShelf) (pc := 23) dL_addShelf_23 rfl ?_
    exact J.iret (μ := mL_addShelf) (pc := 24) dL_addShelf_24 rfl (Nat.le_of_ble_eq_true rfl) (Nat.le_of_ble_eq_true rfl) (fun K k => ⟨_, _, ⟨rfl, .inl ⟨h1, rfl, rfl⟩⟩, k⟩)

theorem l_receive {γ : Gm} {v : Vs} {N M H n s : Nat} (h : OK v N M H n s) (a b e f : Int32) : Ev γ mL_receive yL_receive 32 1 6 [.ref (gz γ + 0), .int a, .int b, .int e, .int f] (Rp γ v) (fun w K => ∃ (r : Int32) (u : Vs), (w = some (.int r) ∧ CmdR v N M H n s 1 a b e f r u) ∧ Rp γ u K) := by
  refine Ev.ofJ (by decide) rfl (fun h => by cases h) (Nat.le_of_ble_eq_true rfl) ?_
  refine J.ldc (μ := mL_receive) (pc := 0) rfl wo_L_10 dL_receive_0 ?_
  refine J.istore (μ := mL_receive) (pc := 2) dL_receive_2 (Nat.le_of_ble_eq_true rfl) rfl ?_
  refine J.aload_n (μ := mL_receive) (pc := 4) dL_receive_4 rfl ?_
  refine J.iload_n (μ := mL_receive) (pc := 5) dL_receive_5 rfl ?_
  refine J.iload_n (μ := mL_receive) (pc := 6) dL_receive_6 rfl ?_
  refine J.iload_n (μ := mL_receive) (pc := 7) dL_receive_7 rfl ?_
  refine J.iload (μ := mL_receive) (pc := 8) dL_receive_8 rfl ?_
  refine J.callVx (μ := mL_receive) (pc := 10) (s_X11_receive h a b e f) rfl wm_L_38 mi_X11_receive rfl dL_receive_10 (Rp.isa (T := TX11) rfl sh0) rfl rfl ⟨(Nat.le_of_ble_eq_true rfl), (Nat.le_of_ble_eq_true rfl)⟩ ⟨(Nat.le_of_ble_eq_true rfl), (Nat.le_of_ble_eq_true rfl)⟩ (Nat.le_of_ble_eq_true rfl) (fun E => JX.and fun h1 => JX.and fun h2 => ?_) (fun w => J.and fun h1 => J.and fun e9 => ?_)
  · subst h2
    obtain ⟨x, e1, e2⟩ := xc1 h1
    rw [e1]
    rcases e2 with rfl | rfl
    · refine JX.catch (μ := mL_receive) (pc := 10) (own := RL) (name := iaE) [] ⟨4, 15, 18, 17⟩ [⟨4, 15, 23, 19⟩] rfl rfl (fun _ h => absurd h List.not_mem_nil) rfl (by decide) wk_L_17 cs_ia (fun q => ?_)
      refine J.astore (μ := mL_receive) (pc := 18) dL_receive_18 (Nat.le_of_ble_eq_true rfl) rfl ?_
      refine J.ldc (μ := mL_receive) (pc := 20) rfl wo_L_10 dL_receive_20 ?_
      exact J.iret (μ := mL_receive) (pc := 22) dL_receive_22 rfl (Nat.le_of_ble_eq_true rfl) (Nat.le_of_ble_eq_true rfl) (fun K k => ⟨_, _, ⟨rfl, .inr ⟨h1, rfl, rfl⟩⟩, k⟩)
    · refine JX.catch (μ := mL_receive) (pc := 10) (own := RL) (name := uoE) [⟨4, 15, 18, 17⟩] ⟨4, 15, 23, 19⟩ [] rfl rfl (List.forall_mem_cons.mpr ⟨.inr ⟨by decide, _, wk_L_17, nc_uo_ia⟩, fun _ h => absurd h List.not_mem_nil⟩) rfl (by decide) wk_L_19 cs_uo (fun q => ?_)
      refine J.astore (μ := mL_receive) (pc := 23) dL_receive_23 (Nat.le_of_ble_eq_true rfl) rfl ?_
      refine J.ldc (μ := mL_receive) (pc := 25) rfl wo_L_10 dL_receive_25 ?_
      exact J.iret (μ := mL_receive) (pc := 27) dL_receive_27 rfl (Nat.le_of_ble_eq_true rfl) (Nat.le_of_ble_eq_true rfl) (fun K k => ⟨_, _, ⟨rfl, .inr ⟨h1, rfl, rfl⟩⟩, k⟩)
  · subst e9
    refine J.istore (μ := mL_receive) (pc := 13) dL_receive_13 (Nat.le_of_ble_eq_true rfl) rfl ?_
    refine J.goto (μ := mL_receive) (pc := 15) 28 dL_receive_15 (by decide) ?_
    refine J.iload (μ := mL_receive) (pc := 28) dL_receive_28 rfl ?_
    exact J.iret (μ := mL_receive) (pc := 30) dL_receive_30 rfl (Nat.le_of_ble_eq_true rfl) (Nat.le_of_ble_eq_true rfl) (fun K k => ⟨_, _, ⟨rfl, .inl ⟨h1, rfl, rfl⟩⟩, k⟩)

theorem l_split {γ : Gm} {v : Vs} {N M H n s : Nat} (h : OK v N M H n s) (a b : Int32) : Ev γ mL_split yL_split 32 1 6 [.ref (gz γ + 0), .int a, .int b] (Rp γ v) (fun w K => ∃ (r : Int32) (u : Vs), (w = some (.int r) ∧ CmdR v N M H n s 2 a b 0 0 r u) ∧ Rp γ u K) := by
  refine Ev.ofJ (by decide) rfl (fun h => by cases h) (Nat.le_of_ble_eq_true rfl) ?_
  refine J.ldc (μ := mL_split) (pc := 0) rfl wo_L_10 dL_split_0 ?_
  refine J.istore_n (μ := mL_split) (pc := 2) dL_split_2 (Nat.le_of_ble_eq_true rfl) rfl ?_
  refine J.aload_n (μ := mL_split) (pc := 3) dL_split_3 rfl ?_
  refine J.iload_n (μ := mL_split) (pc := 4) dL_split_4 rfl ?_
  refine J.iload_n (μ := mL_split) (pc := 5) dL_split_5 rfl ?_
  refine J.callVx (μ := mL_split) (pc := 6) (s_X11_split h a b) rfl wm_L_42 mi_X11_split rfl dL_split_6 (Rp.isa (T := TX11) rfl sh0) rfl rfl ⟨(Nat.le_of_ble_eq_true rfl), (Nat.le_of_ble_eq_true rfl)⟩ ⟨(Nat.le_of_ble_eq_true rfl), (Nat.le_of_ble_eq_true rfl)⟩ (Nat.le_of_ble_eq_true rfl) (fun E => JX.and fun h1 => JX.and fun h2 => ?_) (fun w => J.and fun h1 => J.and fun e9 => ?_)
  · subst h2
    obtain ⟨x, e1, e2⟩ := xc2 h1
    rw [e1]
    rcases e2 with rfl | rfl | rfl
    · refine JX.catch (μ := mL_split) (pc := 6) (own := RL) (name := nsC) [] ⟨3, 10, 13, 30⟩ [⟨3, 10, 18, 17⟩, ⟨3, 10, 23, 19⟩] rfl rfl (fun _ h => absurd h List.not_mem_nil) rfl (by decide) wk_L_30 cs_ns (fun q => ?_)
      refine J.astore (μ := mL_split) (pc := 13) dL_split_13 (Nat.le_of_ble_eq_true rfl) rfl ?_
      refine J.ldc (μ := mL_split) (pc := 15) rfl wo_L_10 dL_split_15 ?_
      exact J.iret (μ := mL_split) (pc := 17) dL_split_17 rfl (Nat.le_of_ble_eq_true rfl) (Nat.le_of_ble_eq_true rfl) (fun K k => ⟨_, _, ⟨rfl, .inr ⟨h1, rfl, rfl⟩⟩, k⟩)
    · refine JX.catch (μ := mL_split) (pc := 6) (own := RL) (name := iaE) [⟨3, 10, 13, 30⟩] ⟨3, 10, 18, 17⟩ [⟨3, 10, 23, 19⟩] rfl rfl (List.forall_mem_cons.mpr ⟨.inr ⟨by decide, _, wk_L_30, nc_ia_ns⟩, fun _ h => absurd h List.not_mem_nil⟩) rfl (by decide) wk_L_17 cs_ia (fun q => ?_)
      refine J.astore (μ := mL_split) (pc := 18) dL_split_18 (Nat.le_of_ble_eq_true rfl) rfl ?_
      refine J.ldc (μ := mL_split) (pc := 20) rfl wo_L_10 dL_split_20 ?_
      exact J.iret (μ := mL_split) (pc := 22) dL_split_22 rfl (Nat.le_of_ble_eq_true rfl) (Nat.le_of_ble_eq_true rfl) (fun K k => ⟨_, _, ⟨rfl, .inr ⟨h1, rfl, rfl⟩⟩, k⟩)
    · refine JX.catch (μ := mL_split) (pc := 6) (own := RL) (name := uoE) [⟨3, 10, 13, 30⟩, ⟨3, 10, 18, 17⟩] ⟨3, 10, 23, 19⟩ [] rfl rfl (List.forall_mem_cons.mpr ⟨.inr ⟨by decide, _, wk_L_30, nc_uo_ns⟩, List.forall_mem_cons.mpr ⟨.inr ⟨by decide, _, wk_L_17, nc_uo_ia⟩, fun _ h => absurd h List.not_mem_nil⟩⟩) rfl (by decide) wk_L_19 cs_uo (fun q => ?_)
      refine J.astore (μ := mL_split) (pc := 23) dL_split_23 (Nat.le_of_ble_eq_true rfl) rfl ?_
      refine J.ldc (μ := mL_split) (pc := 25) rfl wo_L_10 dL_split_25 ?_
      exact J.iret (μ := mL_split) (pc := 27) dL_split_27 rfl (Nat.le_of_ble_eq_true rfl) (Nat.le_of_ble_eq_true rfl) (fun K k => ⟨_, _, ⟨rfl, .inr ⟨h1, rfl, rfl⟩⟩, k⟩)
  · subst e9
    refine J.istore_n (μ := mL_split) (pc := 9) dL_split_9 (Nat.le_of_ble_eq_true rfl) rfl ?_
    refine J.goto (μ := mL_split) (pc := 10) 28 dL_split_10 (by decide) ?_
    refine J.iload_n (μ := mL_split) (pc := 28) dL_split_28 rfl ?_
    exact J.iret (μ := mL_split) (pc := 29) dL_split_29 rfl (Nat.le_of_ble_eq_true rfl) (Nat.le_of_ble_eq_true rfl) (fun K k => ⟨_, _, ⟨rfl, .inl ⟨h1, rfl, rfl⟩⟩, k⟩)

theorem l_mix {γ : Gm} {v : Vs} {N M H n s : Nat} (h : OK v N M H n s) (a b : Int32) : Ev γ mL_mix yL_mix 32 1 6 [.ref (gz γ + 0), .int a, .int b] (Rp γ v) (fun w K => ∃ (r : Int32) (u : Vs), (w = some (.int r) ∧ CmdR v N M H n s 3 a b 0 0 r u) ∧ Rp γ u K) := by
  refine Ev.ofJ (by decide) rfl (fun h => by cases h) (Nat.le_of_ble_eq_true rfl) ?_
  refine J.ldc (μ := mL_mix) (pc := 0) rfl wo_L_10 dL_mix_0 ?_
  refine J.istore_n (μ := mL_mix) (pc := 2) dL_mix_2 (Nat.le_of_ble_eq_true rfl) rfl ?_
  refine J.aload_n (μ := mL_mix) (pc := 3) dL_mix_3 rfl ?_
  refine J.iload_n (μ := mL_mix) (pc := 4) dL_mix_4 rfl ?_
  refine J.iload_n (μ := mL_mix) (pc := 5) dL_mix_5 rfl ?_
  refine J.callVx (μ := mL_mix) (pc := 6) (s_X11_mix h a b) rfl wm_L_45 mi_X11_mix rfl dL_mix_6 (Rp.isa (T := TX11) rfl sh0) rfl rfl ⟨(Nat.le_of_ble_eq_true rfl), (Nat.le_of_ble_eq_true rfl)⟩ ⟨(Nat.le_of_ble_eq_true rfl), (Nat.le_of_ble_eq_true rfl)⟩ (Nat.le_of_ble_eq_true rfl) (fun E => JX.and fun h1 => JX.and fun h2 => ?_) (fun w => J.and fun h1 => J.and fun e9 => ?_)
  · subst h2
    obtain ⟨x, e1, e2⟩ := xc3 h1
    rw [e1]
    rcases e2 with rfl | rfl | rfl
    · refine JX.catch (μ := mL_mix) (pc := 6) (own := RL) (name := nsC) [] ⟨3, 10, 13, 30⟩ [⟨3, 10, 18, 17⟩, ⟨3, 10, 23, 19⟩] rfl rfl (fun _ h => absurd h List.not_mem_nil) rfl (by decide) wk_L_30 cs_ns (fun q => ?_)
      refine J.astore (μ := mL_mix) (pc := 13) dL_mix_13 (Nat.le_of_ble_eq_true rfl) rfl ?_
      refine J.ldc (μ := mL_mix) (pc := 15) rfl wo_L_10 dL_mix_15 ?_
      exact J.iret (μ := mL_mix) (pc := 17) dL_mix_17 rfl (Nat.le_of_ble_eq_true rfl) (Nat.le_of_ble_eq_true rfl) (fun K k => ⟨_, _, ⟨rfl, .inr ⟨h1, rfl, rfl⟩⟩, k⟩)
    · refine JX.catch (μ := mL_mix) (pc := 6) (own := RL) (name := iaE) [⟨3, 10, 13, 30⟩] ⟨3, 10, 18, 17⟩ [⟨3, 10, 23, 19⟩] rfl rfl (List.forall_mem_cons.mpr ⟨.inr ⟨by decide, _, wk_L_30, nc_ia_ns⟩, fun _ h => absurd h List.not_mem_nil⟩) rfl (by decide) wk_L_17 cs_ia (fun q => ?_)
      refine J.astore (μ := mL_mix) (pc := 18) dL_mix_18 (Nat.le_of_ble_eq_true rfl) rfl ?_
      refine J.ldc (μ := mL_mix) (pc := 20) rfl wo_L_10 dL_mix_20 ?_
      exact J.iret (μ := mL_mix) (pc := 22) dL_mix_22 rfl (Nat.le_of_ble_eq_true rfl) (Nat.le_of_ble_eq_true rfl) (fun K k => ⟨_, _, ⟨rfl, .inr ⟨h1, rfl, rfl⟩⟩, k⟩)
    · refine JX.catch (μ := mL_mix) (pc := 6) (own := RL) (name := uoE) [⟨3, 10, 13, 30⟩, ⟨3, 10, 18, 17⟩] ⟨3, 10, 23, 19⟩ [] rfl rfl (List.forall_mem_cons.mpr ⟨.inr ⟨by decide, _, wk_L_30, nc_uo_ns⟩, List.forall_mem_cons.mpr ⟨.inr ⟨by decide, _, wk_L_17, nc_uo_ia⟩, fun _ h => absurd h List.not_mem_nil⟩⟩) rfl (by decide) wk_L_19 cs_uo (fun q => ?_)
      refine J.astore (μ := mL_mix) (pc := 23) dL_mix_23 (Nat.le_of_ble_eq_true rfl) rfl ?_
      refine J.ldc (μ := mL_mix) (pc := 25) rfl wo_L_10 dL_mix_25 ?_
      exact J.iret (μ := mL_mix) (pc := 27) dL_mix_27 rfl (Nat.le_of_ble_eq_true rfl) (Nat.le_of_ble_eq_true rfl) (fun K k => ⟨_, _, ⟨rfl, .inr ⟨h1, rfl, rfl⟩⟩, k⟩)
  · subst e9
    refine J.istore_n (μ := mL_mix) (pc := 9) dL_mix_9 (Nat.le_of_ble_eq_true rfl) rfl ?_
    refine J.goto (μ := mL_mix) (pc := 10) 28 dL_mix_10 (by decide) ?_
    refine J.iload_n (μ := mL_mix) (pc := 28) dL_mix_28 rfl ?_
    exact J.iret (μ := mL_mix) (pc := 29) dL_mix_29 rfl (Nat.le_of_ble_eq_true rfl) (Nat.le_of_ble_eq_true rfl) (fun K k => ⟨_, _, ⟨rfl, .inl ⟨h1, rfl, rfl⟩⟩, k⟩)

theorem l_move {γ : Gm} {v : Vs} {N M H n s : Nat} (h : OK v N M H n s) (a b : Int32) : Ev γ mL_move yL_move 32 1 6 [.ref (gz γ + 0), .int a, .int b] (Rp γ v) (fun w K => ∃ (r : Int32) (u : Vs), (w = some (.int r) ∧ CmdR v N M H n s 4 a b 0 0 r u) ∧ Rp γ u K) := by
  refine Ev.ofJ (by decide) rfl (fun h => by cases h) (Nat.le_of_ble_eq_true rfl) ?_
  refine J.ldc (μ := mL_move) (pc := 0) rfl wo_L_10 dL_move_0 ?_
  refine J.istore_n (μ := mL_move) (pc := 2) dL_move_2 (Nat.le_of_ble_eq_true rfl) rfl ?_
  refine J.aload_n (μ := mL_move) (pc := 3) dL_move_3 rfl ?_
  refine J.iload_n (μ := mL_move) (pc := 4) dL_move_4 rfl ?_
  refine J.iload_n (μ := mL_move) (pc := 5) dL_move_5 rfl ?_
  refine J.callVx (μ := mL_move) (pc := 6) (s_X11_move h a b) rfl wm_L_48 mi_X11_move rfl dL_move_6 (Rp.isa (T := TX11) rfl sh0) rfl rfl ⟨(Nat.le_of_ble_eq_true rfl), (Nat.le_of_ble_eq_true rfl)⟩ ⟨(Nat.le_of_ble_eq_true rfl), (Nat.le_of_ble_eq_true rfl)⟩ (Nat.le_of_ble_eq_true rfl) (fun E => JX.and fun h1 => JX.and fun h2 => ?_) (fun w => J.and fun h1 => J.and fun e9 => ?_)
  · subst h2
    obtain ⟨x, e1, e2⟩ := xc4 h1
    rw [e1]
    rcases e2 with rfl | rfl | rfl
    · refine JX.catch (μ := mL_move) (pc := 6) (own := RL) (name := nsC) [] ⟨3, 10, 13, 30⟩ [⟨3, 10, 18, 25⟩, ⟨3, 10, 23, 19⟩] rfl rfl (fun _ h => absurd h List.not_mem_nil) rfl (by decide) wk_L_30 cs_ns (fun q => ?_)
      refine J.astore (μ := mL_move) (pc := 13) dL_move_13 (Nat.le_of_ble_eq_true rfl) rfl ?_
      refine J.ldc (μ := mL_move) (pc := 15) rfl wo_L_10 dL_move_15 ?_
      exact J.iret (μ := mL_move) (pc := 17) dL_move_17 rfl (Nat.le_of_ble_eq_true rfl) (Nat.le_of_ble_eq_true rfl) (fun K k => ⟨_, _, ⟨rfl, .inr ⟨h1, rfl, rfl⟩⟩, k⟩)
    · refine JX.catch (μ := mL_move) (pc := 6) (own := RL) (name := ioE) [⟨3, 10, 13, 30⟩] ⟨3, 10, 18, 25⟩ [⟨3, 10, 23, 19⟩] rfl rfl (List.forall_mem_cons.mpr ⟨.inr ⟨by decide, _, wk_L_30, nc_io_ns⟩, fun _ h => absurd h List.not_mem_nil⟩) rfl (by decide) wk_L_25 cs_io (fun q => ?_)
      refine J.astore (μ := mL_move) (pc := 18) dL_move_18 (Nat.le_of_ble_eq_true rfl) rfl ?_
      refine J.ldc (μ := mL_move) (pc := 20) rfl wo_L_10 dL_move_20 ?_
      exact J.iret (μ := mL_move) (pc := 22) dL_move_22 rfl (Nat.le_of_ble_eq_true rfl) (Nat.le_of_ble_eq_true rfl) (fun K k => ⟨_, _, ⟨rfl, .inr ⟨h1, rfl, rfl⟩⟩, k⟩)
    · refine JX.catch (μ := mL_move) (pc := 6) (own := RL) (name := uoE) [⟨3, 10, 13, 30⟩, ⟨3, 10, 18, 25⟩] ⟨3, 10, 23, 19⟩ [] rfl rfl (List.forall_mem_cons.mpr ⟨.inr ⟨by decide, _, wk_L_30, nc_uo_ns⟩, List.forall_mem_cons.mpr ⟨.inr ⟨by decide, _, wk_L_25, nc_uo_io⟩, fun _ h => absurd h List.not_mem_nil⟩⟩) rfl (by decide) wk_L_19 cs_uo (fun q => ?_)
      refine J.astore (μ := mL_move) (pc := 23) dL_move_23 (Nat.le_of_ble_eq_true rfl) rfl ?_
      refine J.ldc (μ := mL_move) (pc := 25) rfl wo_L_10 dL_move_25 ?_
      exact J.iret (μ := mL_move) (pc := 27) dL_move_27 rfl (Nat.le_of_ble_eq_true rfl) (Nat.le_of_ble_eq_true rfl) (fun K k => ⟨_, _, ⟨rfl, .inr ⟨h1, rfl, rfl⟩⟩, k⟩)
  · subst e9
    refine J.istore_n (μ := mL_move) (pc := 9) dL_move_9 (Nat.le_of_ble_eq_true rfl) rfl ?_
    refine J.goto (μ := mL_move) (pc := 10) 28 dL_move_10 (by decide) ?_
    refine J.iload_n (μ := mL_move) (pc := 28) dL_move_28 rfl ?_
    exact J.iret (μ := mL_move) (pc := 29) dL_move_29 rfl (Nat.le_of_ble_eq_true rfl) (Nat.le_of_ble_eq_true rfl) (fun K k => ⟨_, _, ⟨rfl, .inl ⟨h1, rfl, rfl⟩⟩, k⟩)

theorem l_ship {γ : Gm} {v : Vs} {N M H n s : Nat} (h : OK v N M H n s) (a b : Int32) : Ev γ mL_ship yL_ship 32 1 6 [.ref (gz γ + 0), .int a, .int b] (Rp γ v) (fun w K => ∃ (r : Int32) (u : Vs), (w = some (.int r) ∧ CmdR v N M H n s 5 a b 0 0 r u) ∧ Rp γ u K) := by
  refine Ev.ofJ (by decide) rfl (fun h => by cases h) (Nat.le_of_ble_eq_true rfl) ?_
  refine J.ldc (μ := mL_ship) (pc := 0) rfl wo_L_10 dL_ship_0 ?_
  refine J.istore_n (μ := mL_ship) (pc := 2) dL_ship_2 (Nat.le_of_ble_eq_true rfl) rfl ?_
  refine J.aload_n (μ := mL_ship) (pc := 3) dL_ship_3 rfl ?_
  refine J.iload_n (μ := mL_ship) (pc := 4) dL_ship_4 rfl ?_
  refine J.iload_n (μ := mL_ship) (pc := 5) dL_ship_5 rfl ?_
  refine J.callVx (μ := mL_ship) (pc := 6) (s_X11_ship h a b) rfl wm_L_51 mi_X11_ship rfl dL_ship_6 (Rp.isa (T := TX11) rfl sh0) rfl rfl ⟨(Nat.le_of_ble_eq_true rfl), (Nat.le_of_ble_eq_true rfl)⟩ ⟨(Nat.le_of_ble_eq_true rfl), (Nat.le_of_ble_eq_true rfl)⟩ (Nat.le_of_ble_eq_true rfl) (fun E => JX.and fun h1 => JX.and fun h2 => ?_) (fun w => J.and fun h1 => J.and fun e9 => ?_)
  · subst h2
    obtain ⟨x, e1, e2⟩ := xc5 h1
    rw [e1]
    rcases e2 with rfl | rfl
    · refine JX.catch (μ := mL_ship) (pc := 6) (own := RL) (name := iaE) [] ⟨3, 10, 13, 17⟩ [⟨3, 10, 18, 19⟩] rfl rfl (fun _ h => absurd h List.not_mem_nil) rfl (by decide) wk_L_17 cs_ia (fun q => ?_)
      refine J.astore (μ := mL_ship) (pc := 13) dL_ship_13 (Nat.le_of_ble_eq_true rfl) rfl ?_
      refine J.ldc (μ := mL_ship) (pc := 15) rfl wo_L_10 dL_ship_15 ?_
      exact J.iret (μ := mL_ship) (pc := 17) dL_ship_17 rfl (Nat.le_of_ble_eq_true rfl) (Nat.le_of_ble_eq_true rfl) (fun K k => ⟨_, _, ⟨rfl, .inr ⟨h1, rfl, rfl⟩⟩, k⟩)
    · refine JX.catch (μ := mL_ship) (pc := 6) (own := RL) (name := uoE) [⟨3, 10, 13, 17⟩] ⟨3, 10, 18, 19⟩ [] rfl rfl (List.forall_mem_cons.mpr ⟨.inr ⟨by decide, _, wk_L_17, nc_uo_ia⟩, fun _ h => absurd h List.not_mem_nil⟩) rfl (by decide) wk_L_19 cs_uo (fun q => ?_)
      refine J.astore (μ := mL_ship) (pc := 18) dL_ship_18 (Nat.le_of_ble_eq_true rfl) rfl ?_
      refine J.ldc (μ := mL_ship) (pc := 20) rfl wo_L_10 dL_ship_20 ?_
      exact J.iret (μ := mL_ship) (pc := 22) dL_ship_22 rfl (Nat.le_of_ble_eq_true rfl) (Nat.le_of_ble_eq_true rfl) (fun K k => ⟨_, _, ⟨rfl, .inr ⟨h1, rfl, rfl⟩⟩, k⟩)
  · subst e9
    refine J.istore_n (μ := mL_ship) (pc := 9) dL_ship_9 (Nat.le_of_ble_eq_true rfl) rfl ?_
    refine J.goto (μ := mL_ship) (pc := 10) 23 dL_ship_10 (by decide) ?_
    refine J.iload_n (μ := mL_ship) (pc := 23) dL_ship_23 rfl ?_
    exact J.iret (μ := mL_ship) (pc := 24) dL_ship_24 rfl (Nat.le_of_ble_eq_true rfl) (Nat.le_of_ble_eq_true rfl) (fun K k => ⟨_, _, ⟨rfl, .inl ⟨h1, rfl, rfl⟩⟩, k⟩)

theorem l_recall {γ : Gm} {v : Vs} {N M H n s : Nat} (h : OK v N M H n s) (a : Int32) : Ev γ mL_recall yL_recall 32 1 6 [.ref (gz γ + 0), .int a] (Rp γ v) (fun w K => ∃ (r : Int32) (u : Vs), (w = some (.int r) ∧ CmdR v N M H n s 6 a 0 0 0 r u) ∧ Rp γ u K) := by
  refine Ev.ofJ (by decide) rfl (fun h => by cases h) (Nat.le_of_ble_eq_true rfl) ?_
  refine J.ldc (μ := mL_recall) (pc := 0) rfl wo_L_10 dL_recall_0 ?_
  refine J.istore_n (μ := mL_recall) (pc := 2) dL_recall_2 (Nat.le_of_ble_eq_true rfl) rfl ?_
  refine J.aload_n (μ := mL_recall) (pc := 3) dL_recall_3 rfl ?_
  refine J.iload_n (μ := mL_recall) (pc := 4) dL_recall_4 rfl ?_
  refine J.callVx (μ := mL_recall) (pc := 5) (s_X11_recall h a) rfl wm_L_54 mi_X11_recall rfl dL_recall_5 (Rp.isa (T := TX11) rfl sh0) rfl rfl ⟨(Nat.le_of_ble_eq_true rfl), (Nat.le_of_ble_eq_true rfl)⟩ ⟨(Nat.le_of_ble_eq_true rfl), (Nat.le_of_ble_eq_true rfl)⟩ (Nat.le_of_ble_eq_true rfl) (fun E => JX.and fun h1 => JX.and fun h2 => ?_) (fun w => J.and fun h1 => J.and fun e9 => ?_)
  · subst h2
    obtain ⟨x, e1, e2⟩ := xc6 h1
    rw [e1]
    subst e2
    refine JX.catch (μ := mL_recall) (pc := 5) (own := RL) (name := nsC) [] ⟨3, 9, 12, 30⟩ [] rfl rfl (fun _ h => absurd h List.not_mem_nil) rfl (by decide) wk_L_30 cs_ns (fun q => ?_)
    refine J.astore_n (μ := mL_recall) (pc := 12) dL_recall_12 (Nat.le_of_ble_eq_true rfl) rfl ?_
    refine J.ldc (μ := mL_recall) (pc := 13) rfl wo_L_10 dL_recall_13 ?_
    exact J.iret (μ := mL_recall) (pc := 15) dL_recall_15 rfl (Nat.le_of_ble_eq_true rfl) (Nat.le_of_ble_eq_true rfl) (fun K k => ⟨_, _, ⟨rfl, .inr ⟨h1, rfl, rfl⟩⟩, k⟩)
  · subst e9
    refine J.istore_n (μ := mL_recall) (pc := 8) dL_recall_8 (Nat.le_of_ble_eq_true rfl) rfl ?_
    refine J.goto (μ := mL_recall) (pc := 9) 16 dL_recall_9 (by decide) ?_
    refine J.iload_n (μ := mL_recall) (pc := 16) dL_recall_16 rfl ?_
    exact J.iret (μ := mL_recall) (pc := 17) dL_recall_17 rfl (Nat.le_of_ble_eq_true rfl) (Nat.le_of_ble_eq_true rfl) (fun K k => ⟨_, _, ⟨rfl, .inl ⟨h1, rfl, rfl⟩⟩, k⟩)

theorem l_compost {γ : Gm} {v : Vs} {N M H n s : Nat} (h : OK v N M H n s) : Ev γ mL_compost yL_compost 32 1 6 [.ref (gz γ + 0)] (Rp γ v) (fun w K => ∃ (r : Int32) (u : Vs), (w = some (.int r) ∧ CmdR v N M H n s 7 0 0 0 0 r u) ∧ Rp γ u K) := by
  refine Ev.ofJ (by decide) rfl (fun h => by cases h) (Nat.le_of_ble_eq_true rfl) ?_
  refine J.ldc (μ := mL_compost) (pc := 0) rfl wo_L_10 dL_compost_0 ?_
  refine J.istore_n (μ := mL_compost) (pc := 2) dL_compost_2 (Nat.le_of_ble_eq_true rfl) rfl ?_
  refine J.aload_n (μ := mL_compost) (pc := 3) dL_compost_3 rfl ?_
  refine J.callVx (μ := mL_compost) (pc := 4) (s_X11_compost h) rfl wm_L_66 mi_X11_compost rfl dL_compost_4 (Rp.isa (T := TX11) rfl sh0) rfl rfl ⟨(Nat.le_of_ble_eq_true rfl), (Nat.le_of_ble_eq_true rfl)⟩ ⟨(Nat.le_of_ble_eq_true rfl), (Nat.le_of_ble_eq_true rfl)⟩ (Nat.le_of_ble_eq_true rfl) (fun E => JX.and fun h1 => JX.and fun h2 => ?_) (fun w => J.and fun h1 => J.and fun e9 => ?_)
  · subst h2
    obtain ⟨x, e1, e2⟩ := xc7 h1
    rw [e1]
    subst e2
    refine JX.catch (μ := mL_compost) (pc := 4) (own := RL) (name := uoE) [] ⟨3, 8, 11, 19⟩ [] rfl rfl (fun _ h => absurd h List.not_mem_nil) rfl (by decide) wk_L_19 cs_uo (fun q => ?_)
    refine J.astore_n (μ := mL_compost) (pc := 11) dL_compost_11 (Nat.le_of_ble_eq_true rfl) rfl ?_
    refine J.ldc (μ := mL_compost) (pc := 12) rfl wo_L_10 dL_compost_12 ?_
    exact J.iret (μ := mL_compost) (pc := 14) dL_compost_14 rfl (Nat.le_of_ble_eq_true rfl) (Nat.le_of_ble_eq_true rfl) (fun K k => ⟨_, _, ⟨rfl, .inr ⟨h1, rfl, rfl⟩⟩, k⟩)
  · subst e9
    refine J.istore_n (μ := mL_compost) (pc := 7) dL_compost_7 (Nat.le_of_ble_eq_true rfl) rfl ?_
    refine J.goto (μ := mL_compost) (pc := 8) 15 dL_compost_8 (by decide) ?_
    refine J.iload_n (μ := mL_compost) (pc := 15) dL_compost_15 rfl ?_
    exact J.iret (μ := mL_compost) (pc := 16) dL_compost_16 rfl (Nat.le_of_ble_eq_true rfl) (Nat.le_of_ble_eq_true rfl) (fun K k => ⟨_, _, ⟨rfl, .inl ⟨h1, rfl, rfl⟩⟩, k⟩)

theorem l_count {γ : Gm} {v : Vs} {N M H n s : Nat} (h : OK v N M H n s) (a : Int32) : Ev γ mL_count yL_count 32 1 6 [.ref (gz γ + 0), .int a] (Rp γ v) (fun w K => ∃ (r : Int32) (u : Vs), (w = some (.int r) ∧ CmdR v N M H n s 8 a 0 0 0 r u) ∧ Rp γ u K) := by
  refine Ev.ofJ (by decide) rfl (fun h => by cases h) (Nat.le_of_ble_eq_true rfl) ?_
  refine J.ldc (μ := mL_count) (pc := 0) rfl wo_L_10 dL_count_0 ?_
  refine J.istore_n (μ := mL_count) (pc := 2) dL_count_2 (Nat.le_of_ble_eq_true rfl) rfl ?_
  refine J.aload_n (μ := mL_count) (pc := 3) dL_count_3 rfl ?_
  refine J.iload_n (μ := mL_count) (pc := 4) dL_count_4 rfl ?_
  refine J.callVx (μ := mL_count) (pc := 5) (s_X11_count h a) rfl wm_L_21 mi_X11_count rfl dL_count_5 (Rp.isa (T := TX11) rfl sh0) rfl rfl ⟨(Nat.le_of_ble_eq_true rfl), (Nat.le_of_ble_eq_true rfl)⟩ ⟨(Nat.le_of_ble_eq_true rfl), (Nat.le_of_ble_eq_true rfl)⟩ (Nat.le_of_ble_eq_true rfl) (fun E => JX.and fun h1 => JX.and fun h2 => ?_) (fun w => J.and fun h1 => J.and fun e9 => ?_)
  · subst h2
    obtain ⟨x, e1, e2⟩ := xc8 h1
    rw [e1]
    subst e2
    refine JX.catch (μ := mL_count) (pc := 5) (own := RL) (name := ioE) [] ⟨3, 9, 12, 25⟩ [] rfl rfl (fun _ h => absurd h List.not_mem_nil) rfl (by decide) wk_L_25 cs_io (fun q => ?_)
    refine J.astore_n (μ := mL_count) (pc := 12) dL_count_12 (Nat.le_of_ble_eq_true rfl) rfl ?_
    refine J.ldc (μ := mL_count) (pc := 13) rfl wo_L_10 dL_count_13 ?_
    exact J.iret (μ := mL_count) (pc := 15) dL_count_15 rfl (Nat.le_of_ble_eq_true rfl) (Nat.le_of_ble_eq_true rfl) (fun K k => ⟨_, _, ⟨rfl, .inr ⟨h1, rfl, rfl⟩⟩, k⟩)
  · subst e9
    refine J.istore_n (μ := mL_count) (pc := 8) dL_count_8 (Nat.le_of_ble_eq_true rfl) rfl ?_
    refine J.goto (μ := mL_count) (pc := 9) 16 dL_count_9 (by decide) ?_
    refine J.iload_n (μ := mL_count) (pc := 16) dL_count_16 rfl ?_
    exact J.iret (μ := mL_count) (pc := 17) dL_count_17 rfl (Nat.le_of_ble_eq_true rfl) (Nat.le_of_ble_eq_true rfl) (fun K k => ⟨_, _, ⟨rfl, .inl ⟨h1, rfl, rfl⟩⟩, k⟩)

theorem l_pass {γ : Gm} {v : Vs} {N M H n s : Nat} (h : OK v N M H n s) (a : Int32) : Ev γ mL_pass yL_pass 32 1 6 [.ref (gz γ + 0), .int a] (Rp γ v) (fun w K => ∃ (r : Int32) (u : Vs), (w = some (.int r) ∧ CmdR v N M H n s 9 a 0 0 0 r u) ∧ Rp γ u K) := by
  refine Ev.ofJ (by decide) rfl (fun h => by cases h) (Nat.le_of_ble_eq_true rfl) ?_
  refine J.ldc (μ := mL_pass) (pc := 0) rfl wo_L_10 dL_pass_0 ?_
  refine J.istore_n (μ := mL_pass) (pc := 2) dL_pass_2 (Nat.le_of_ble_eq_true rfl) rfl ?_
  refine J.aload_n (μ := mL_pass) (pc := 3) dL_pass_3 rfl ?_
  refine J.iload_n (μ := mL_pass) (pc := 4) dL_pass_4 rfl ?_
  refine J.callVx (μ := mL_pass) (pc := 5) (s_X11_pass h a) rfl wm_L_76 mi_X11_pass rfl dL_pass_5 (Rp.isa (T := TX11) rfl sh0) rfl rfl ⟨(Nat.le_of_ble_eq_true rfl), (Nat.le_of_ble_eq_true rfl)⟩ ⟨(Nat.le_of_ble_eq_true rfl), (Nat.le_of_ble_eq_true rfl)⟩ (Nat.le_of_ble_eq_true rfl) (fun E => JX.and fun h1 => JX.and fun h2 => ?_) (fun w => J.and fun h1 => J.and fun e9 => ?_)
  · subst h2
    obtain ⟨x, e1, e2⟩ := xc9 h1
    rw [e1]
    subst e2
    refine JX.catch (μ := mL_pass) (pc := 5) (own := RL) (name := iaE) [] ⟨3, 9, 12, 17⟩ [] rfl rfl (fun _ h => absurd h List.not_mem_nil) rfl (by decide) wk_L_17 cs_ia (fun q => ?_)
    refine J.astore_n (μ := mL_pass) (pc := 12) dL_pass_12 (Nat.le_of_ble_eq_true rfl) rfl ?_
    refine J.ldc (μ := mL_pass) (pc := 13) rfl wo_L_10 dL_pass_13 ?_
    exact J.iret (μ := mL_pass) (pc := 15) dL_pass_15 rfl (Nat.le_of_ble_eq_true rfl) (Nat.le_of_ble_eq_true rfl) (fun K k => ⟨_, _, ⟨rfl, .inr ⟨h1, rfl, rfl⟩⟩, k⟩)
  · subst e9
    refine J.istore_n (μ := mL_pass) (pc := 8) dL_pass_8 (Nat.le_of_ble_eq_true rfl) rfl ?_
    refine J.goto (μ := mL_pass) (pc := 9) 16 dL_pass_9 (by decide) ?_
    refine J.iload_n (μ := mL_pass) (pc := 16) dL_pass_16 rfl ?_
    exact J.iret (μ := mL_pass) (pc := 17) dL_pass_17 rfl (Nat.le_of_ble_eq_true rfl) (Nat.le_of_ble_eq_true rfl) (fun K k => ⟨_, _, ⟨rfl, .inl ⟨h1, rfl, rfl⟩⟩, k⟩)
