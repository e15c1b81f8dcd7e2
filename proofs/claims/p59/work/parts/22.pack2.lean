/-! packing: the fillings by sets, and the search -/
theorem pk_2f {v : Vs} {fc fv fr ff : Nat → Int32} {S T j : Nat} {x : Int32} : up2 (pk v fc fv fr ff S T) 301 j x = pk v fc fv fr (upd ff j x) S T := by
  funext k; unfold up2 pk
  by_cases h : k = 301
  · subst h; rfl
  · rw [if_neg h]; simp only [h, if_false]
theorem pk_2r {v : Vs} {fc fv fr ff : Nat → Int32} {S T j : Nat} {x : Int32} : up2 (pk v fc fv fr ff S T) 299 j x = pk v fc fv (upd fr j x) ff S T := by
  funext k; unfold up2 pk
  by_cases h : k = 299
  · subst h; rfl
  · rw [if_neg h]; simp only [h, if_false]
theorem q_bit : ∀ s, s < 256 → ∀ i, i < 8 → (((nI s >>> (nI i &&& 31)) &&& 1 = 1) ↔ s.testBit i = true) := by decide +kernel
theorem q_xor : ∀ s, s < 256 → ∀ i, i < 8 → nI s ^^^ (1 : Int32) <<< (nI i &&& 31) = nI (s ^^^ 2 ^ i) := by decide +kernel
theorem q_xlt : ∀ s, s < 256 → ∀ i, i < 8 → s.testBit i = true → s ^^^ 2 ^ i < s := by decide +kernel
theorem q_shl : ∀ i, i < 9 → (1 : Int32) <<< (nI i &&& 31) = nI (2 ^ i) := by decide +kernel
theorem q_pow : ∀ i, i < 9 → 2 ^ i ≤ 256 := by decide +kernel
theorem q_256 : ∀ s, s < 256 → ∀ i, i < 8 → s ^^^ 2 ^ i < 256 := by decide +kernel
/-- a filling with one more volume -/
def fwV (fc : Nat → Int32) (fl w : Int32) : Int32 := if fl - fl / 64 * 64 + w ≤ rg fc 8 (fl / 64) then fl + w else if w ≤ rg fc 8 (fl / 64 + 1) then (fl / 64 + 1) * 64 + w else 512
theorem s_X6_fillingWith {γ : Gm} {v : Vs} (fl w : Int32) : Er γ mX6_fillingWith yX6_fillingWith 1 [.ref (gz γ + 293), .int fl, .int w] v (.int (fwV (v 295) fl w)) := by
  refine Ev.ofJ (by decide) rfl (fun h => by cases h) (Nat.le_of_ble_eq_true rfl) ?_
  refine J.iload_n (μ := mX6_fillingWith) (pc := 0) dX6_fillingWith_0 rfl ?_
  refine J.bipush (μ := mX6_fillingWith) (pc := 1) (v := 64) dX6_fillingWith_1 (by decide) ?_
  refine J.idiv (μ := mX6_fillingWith) (pc := 3) dX6_fillingWith_3 (by decide) ?_
  refine J.istore_n (μ := mX6_fillingWith) (pc := 4) dX6_fillingWith_4 (Nat.le_of_ble_eq_true rfl) rfl ?_
  refine J.iload_n (μ := mX6_fillingWith) (pc := 5) dX6_fillingWith_5 rfl ?_
  refine J.bipush (μ := mX6_fillingWith) (pc := 6) (v := 64) dX6_fillingWith_6 (by decide) ?_
  refine J.irem (μ := mX6_fillingWith) (pc := 8) dX6_fillingWith_8 (by decide) ?_
  refine J.iload_n (μ := mX6_fillingWith) (pc := 9) dX6_fillingWith_9 rfl ?_
  refine J.iadd (μ := mX6_fillingWith) (pc := 10) dX6_fillingWith_10 ?_
  refine J.aload_n (μ := mX6_fillingWith) (pc := 11) dX6_fillingWith_11 rfl ?_
  refine J.gr (μ := mX6_fillingWith) (pc := 12) (T := TX6) (ci := 9) (fks := _) rfl rfl in_X6 0 (by decide) wf_X6_16 dX6_fillingWith_12 sh293 rfl ?_
  refine J.iload_n (μ := mX6_fillingWith) (pc := 15) dX6_fillingWith_15 rfl ?_
  refine J.cV (μ := mX6_fillingWith) (pc := 16) (s_X7_get row294 _) rfl wm_X6_48 mi_X7_get rfl dX6_fillingWith_16 (Rp.isa (T := TX7) rfl row294.1) rfl rfl ⟨(Nat.le_of_ble_eq_true rfl), (Nat.le_of_ble_eq_true rfl)⟩ ⟨(Nat.le_of_ble_eq_true rfl), (Nat.le_of_ble_eq_true rfl)⟩ (Nat.le_of_ble_eq_true rfl) ?_
  refine J.icmp_gt (μ := mX6_fillingWith) (pc := 19) 26 dX6_fillingWith_19 (by decide) (fun c14 => ?_) (fun c14 => ?_)
  · refine J.iload_n (μ := mX6_fillingWith) (pc := 26) dX6_fillingWith_26 rfl ?_
    refine J.aload_n (μ := mX6_fillingWith) (pc := 27) dX6_fillingWith_27 rfl ?_
    refine J.gr (μ := mX6_fillingWith) (pc := 28) (T := TX6) (ci := 9) (fks := _) rfl rfl in_X6 0 (by decide) wf_X6_16 dX6_fillingWith_28 sh293 rfl ?_
    refine J.iload_n (μ := mX6_fillingWith) (pc := 31) dX6_fillingWith_31 rfl ?_
    refine J.iconst (μ := mX6_fillingWith) (pc := 32) (v := 1) dX6_fillingWith_32 (by decide) ?_
    refine J.iadd (μ := mX6_fillingWith) (pc := 33) dX6_fillingWith_33 ?_
    refine J.cV (μ := mX6_fillingWith) (pc := 34) (s_X7_get row294 _) rfl wm_X6_48 mi_X7_get rfl dX6_fillingWith_34 (Rp.isa (T := TX7) rfl row294.1) rfl rfl ⟨(Nat.le_of_ble_eq_true rfl), (Nat.le_of_ble_eq_true rfl)⟩ ⟨(Nat.le_of_ble_eq_true rfl), (Nat.le_of_ble_eq_true rfl)⟩ (Nat.le_of_ble_eq_true rfl) ?_
    refine J.icmp_gt (μ := mX6_fillingWith) (pc := 37) 49 dX6_fillingWith_37 (by decide) (fun c22 => ?_) (fun c22 => ?_)
    · refine J.sipush (μ := mX6_fillingWith) (pc := 49) (v := 512) dX6_fillingWith_49 (by decide) ?_
      exact J.iret (μ := mX6_fillingWith) (pc := 52) dX6_fillingWith_52 rfl (Nat.le_of_ble_eq_true rfl) (Nat.le_of_ble_eq_true rfl) (fun H h => ⟨congrArg some (congrArg Value.int (by unfold fwV; first | (simp [*]; done) | (simp [nlt_of_le, nle_of_lt, *]; done) | simp_all [nlt_of_le, nle_of_lt])), h⟩)
    · refine J.iload_n (μ := mX6_fillingWith) (pc := 40) dX6_fillingWith_40 rfl ?_
      refine J.iconst (μ := mX6_fillingWith) (pc := 41) (v := 1) dX6_fillingWith_41 (by decide) ?_
      refine J.iadd (μ := mX6_fillingWith) (pc := 42) dX6_fillingWith_42 ?_
      refine J.bipush (μ := mX6_fillingWith) (pc := 43) (v := 64) dX6_fillingWith_43 (by decide) ?_
      refine J.imul (μ := mX6_fillingWith) (pc := 45) dX6_fillingWith_45 ?_
      refine J.iload_n (μ := mX6_fillingWith) (pc := 46) dX6_fillingWith_46 rfl ?_
      refine J.iadd (μ := mX6_fillingWith) (pc := 47) dX6_fillingWith_47 ?_
      exact J.iret (μ := mX6_fillingWith) (pc := 48) dX6_fillingWith_48 rfl (Nat.le_of_ble_eq_true rfl) (Nat.le_of_ble_eq_true rfl) (fun H h => ⟨congrArg some (congrArg Value.int (by unfold fwV; first | (simp [*]; done) | (simp [nlt_of_le, nle_of_lt, *]; done) | simp_all [nlt_of_le, nle_of_lt])), h⟩)
  · refine J.iload_n (μ := mX6_fillingWith) (pc := 22) dX6_fillingWith_22 rfl ?_
    refine J.iload_n (μ := mX6_fillingWith) (pc := 23) dX6_fillingWith_23 rfl ?_
    refine J.iadd (μ := mX6_fillingWith) (pc := 24) dX6_fillingWith_24 ?_
    exact J.iret (μ := mX6_fillingWith) (pc := 25) dX6_fillingWith_25 rfl (Nat.le_of_ble_eq_true rfl) (Nat.le_of_ble_eq_true rfl) (fun H h => ⟨congrArg some (congrArg Value.int (by unfold fwV; first | (simp [*]; done) | (simp [nlt_of_le, nle_of_lt, *]; done) | simp_all [nlt_of_le, nle_of_lt])), h⟩)
def lfF (fc fv ff : Nat → Int32) (s : Nat) : Nat → Int32
  | 0 => 512
  | i + 1 => if s.testBit i = true then (if fwV fc (ff (s ^^^ 2 ^ i)) (fv i) < lfF fc fv ff s i then fwV fc (ff (s ^^^ 2 ^ i)) (fv i) else lfF fc fv ff s i) else lfF fc fv ff s i
theorem lfF_congr {fc fv ff gg : Nat → Int32} {s : Nat} (hs : s < 256) (h : ∀ t, t < s → ff t = gg t) : ∀ i, i ≤ 8 → lfF fc fv ff s i = lfF fc fv gg s i
  | 0, _ => rfl
  | i + 1, hi => by
    have ih := lfF_congr (fc := fc) (fv := fv) hs h i (by omega)
    simp only [lfF]
    by_cases q : s.testBit i = true
    · rw [if_pos q, if_pos q, h _ (q_xlt s hs i (by omega) q), ih]
    · rw [if_neg q, if_neg q, ih]
theorem s_X6_leastFilling {γ : Gm} {v : Vs} {T s : Nat} (hT : v 293 5 = nI T) (hT8 : T ≤ 8) (hs : s < 256) : Er γ mX6_leastFilling yX6_leastFilling 2 [.ref (gz γ + 293), .int (nI s)] v (.int (lfF (v 295) (v 297) (v 301) s T)) := by
  refine Ev.ofJ (by decide) rfl (fun h => by cases h) (Nat.le_of_ble_eq_true rfl) ?_
  refine J.sipush (μ := mX6_leastFilling) (pc := 0) (v := 512) dX6_leastFilling_0 (by decide) ?_
  refine J.istore_n (μ := mX6_leastFilling) (pc := 3) dX6_leastFilling_3 (Nat.le_of_ble_eq_true rfl) rfl ?_
  refine J.iconst (μ := mX6_leastFilling) (pc := 4) (v := 0) dX6_leastFilling_4 (by decide) ?_
  refine J.istore_n (μ := mX6_leastFilling) (pc := 5) dX6_leastFilling_5 (Nat.le_of_ble_eq_true rfl) rfl ?_
  refine J.for (Lf := fun i => [some (.ref (gz γ + 293)), some (.int (nI s)), some (.int (lfF (v 295) (v 297) (v 301) s i)), some (.int (nI i)), none]) (Pf := fun _ => Rp γ v) T ?_ (fun i hi ih => ?_)
  · refine J.iload_n (μ := mX6_leastFilling) (pc := 6) dX6_leastFilling_6 rfl ?_
    refine J.aload_n (μ := mX6_leastFilling) (pc := 7) dX6_leastFilling_7 rfl ?_
    refine J.gi (μ := mX6_leastFilling) (pc := 8) (T := TX6) (ci := 9) (fks := _) rfl rfl in_X6 5 (by decide) wf_X6_33 dX6_leastFilling_8 sh293 rfl ?_
    rw [hT]
    refine J.icmp_ge (μ := mX6_leastFilling) (pc := 11) 62 dX6_leastFilling_11 (by decide) (fun hc => ?_) (fun hc => ?_)
    · refine J.iload_n (μ := mX6_leastFilling) (pc := 62) dX6_leastFilling_62 rfl ?_
      exact J.iret (μ := mX6_leastFilling) (pc := 63) dX6_leastFilling_63 rfl (Nat.le_of_ble_eq_true rfl) (Nat.le_of_ble_eq_true rfl) (fun H h => ⟨rfl, h⟩)
    · exact absurd hc (nI_nlt_of (Nat.le_refl T) (by omega))
  · refine J.iload_n (μ := mX6_leastFilling) (pc := 6) dX6_leastFilling_6 rfl ?_
    refine J.aload_n (μ := mX6_leastFilling) (pc := 7) dX6_leastFilling_7 rfl ?_
    refine J.gi (μ := mX6_leastFilling) (pc := 8) (T := TX6) (ci := 9) (fks := _) rfl rfl in_X6 5 (by decide) wf_X6_33 dX6_leastFilling_8 sh293 rfl ?_
    rw [hT]
    refine J.icmp_ge (μ := mX6_leastFilling) (pc := 11) 62 dX6_leastFilling_11 (by decide) (fun hc => ?_) (fun hc => ?_)
    · exact absurd hc (nI_nle_of hi (by omega))
    · refine J.iload_n (μ := mX6_leastFilling) (pc := 14) dX6_leastFilling_14 rfl ?_
      refine J.iload_n (μ := mX6_leastFilling) (pc := 15) dX6_leastFilling_15 rfl ?_
      refine J.ishr (μ := mX6_leastFilling) (pc := 16) dX6_leastFilling_16 ?_
      refine J.iconst (μ := mX6_leastFilling) (pc := 17) (v := 1) dX6_leastFilling_17 (by decide) ?_
      refine J.iand (μ := mX6_leastFilling) (pc := 18) dX6_leastFilling_18 ?_
      refine J.iconst (μ := mX6_leastFilling) (pc := 19) (v := 1) dX6_leastFilling_19 (by decide) ?_
      refine J.icmp_ne (μ := mX6_leastFilling) (pc := 20) 56 dX6_leastFilling_20 (by decide) (fun h1 => ?_) (fun h1 => ?_)
      · have h2 := fun q => h1 ((q_bit s hs i (by omega)).mpr q)
        refine J.iinc (μ := mX6_leastFilling) (pc := 56) (v := 1) dX6_leastFilling_56 rfl (by decide) (Nat.le_of_ble_eq_true rfl) rfl ?_
        refine J.goto (μ := mX6_leastFilling) (pc := 59) 6 dX6_leastFilling_59 (by decide) ?_
        refine J.sub ?_ ih
        exact ⟨rfl, rfl, by simp only [lfF]; rw [if_neg h2], by rw [nI_succ], trivial⟩
      · have h2 := (q_bit s hs i (by omega)).mp h1
        refine J.aload_n (μ := mX6_leastFilling) (pc := 23) dX6_leastFilling_23 rfl ?_
        refine J.gr (μ := mX6_leastFilling) (pc := 24) (T := TX6) (ci := 9) (fks := _) rfl rfl in_X6 3 (by decide) wf_X6_26 dX6_leastFilling_24 sh293 rfl ?_
        refine J.iload_n (μ := mX6_leastFilling) (pc := 27) dX6_leastFilling_27 rfl ?_
        refine J.iconst (μ := mX6_leastFilling) (pc := 28) (v := 1) dX6_leastFilling_28 (by decide) ?_
        refine J.iload_n (μ := mX6_leastFilling) (pc := 29) dX6_leastFilling_29 rfl ?_
        refine J.ishl (μ := mX6_leastFilling) (pc := 30) dX6_leastFilling_30 ?_
        refine J.ixor (μ := mX6_leastFilling) (pc := 31) dX6_leastFilling_31 ?_
        rw [q_xor s hs i (by omega)]
        refine J.cV (μ := mX6_leastFilling) (pc := 32) (s_X7_get row300 _) rfl wm_X6_48 mi_X7_get rfl dX6_leastFilling_32 (Rp.isa (T := TX7) rfl row300.1) rfl rfl ⟨(Nat.le_of_ble_eq_true rfl), (Nat.le_of_ble_eq_true rfl)⟩ ⟨(Nat.le_of_ble_eq_true rfl), (Nat.le_of_ble_eq_true rfl)⟩ (Nat.le_of_ble_eq_true rfl) ?_
        rw [show rg (v (300 + 1)) 256 (nI (s ^^^ 2 ^ i)) = v 301 (s ^^^ 2 ^ i) from rg_nI (q_256 s hs i (by omega)) (by omega)]
        refine J.istore (μ := mX6_leastFilling) (pc := 35) dX6_leastFilling_35 (Nat.le_of_ble_eq_true rfl) rfl ?_
        refine J.iload_n (μ := mX6_leastFilling) (pc := 37) dX6_leastFilling_37 rfl ?_
        refine J.aload_n (μ := mX6_leastFilling) (pc := 38) dX6_leastFilling_38 rfl ?_
        refine J.iload (μ := mX6_leastFilling) (pc := 39) dX6_leastFilling_39 rfl ?_
        refine J.aload_n (μ := mX6_leastFilling) (pc := 41) dX6_leastFilling_41 rfl ?_
        refine J.gr (μ := mX6_leastFilling) (pc := 42) (T := TX6) (ci := 9) (fks := _) rfl rfl in_X6 1 (by decide) wf_X6_20 dX6_leastFilling_42 sh293 rfl ?_
        refine J.iload_n (μ := mX6_leastFilling) (pc := 45) dX6_leastFilling_45 rfl ?_
        refine J.cV (μ := mX6_leastFilling) (pc := 46) (s_X7_get row296 _) rfl wm_X6_48 mi_X7_get rfl dX6_leastFilling_46 (Rp.isa (T := TX7) rfl row296.1) rfl rfl ⟨(Nat.le_of_ble_eq_true rfl), (Nat.le_of_ble_eq_true rfl)⟩ ⟨(Nat.le_of_ble_eq_true rfl), (Nat.le_of_ble_eq_true rfl)⟩ (Nat.le_of_ble_eq_true rfl) ?_
        rw [show rg (v (296 + 1)) 8 (nI i) = v 297 i from rg_nI (by omega) (by omega)]
        refine J.cV (μ := mX6_leastFilling) (pc := 49) (s_X6_fillingWith _ _) rfl wm_X6_51 mi_X6_fillingWith rfl dX6_leastFilling_49 (Rp.isa (T := TX6) rfl sh293) rfl rfl ⟨(Nat.le_of_ble_eq_true rfl), (Nat.le_of_ble_eq_true rfl)⟩ ⟨(Nat.le_of_ble_eq_true rfl), (Nat.le_of_ble_eq_true rfl)⟩ (Nat.le_of_ble_eq_true rfl) ?_
        refine J.mmin (μ := mX6_leastFilling) (pc := 52) rfl wm_X6_55 dX6_leastFilling_52 ⟨(Nat.le_of_ble_eq_true rfl), (Nat.le_of_ble_eq_true rfl)⟩ ⟨(Nat.le_of_ble_eq_true rfl), (Nat.le_of_ble_eq_true rfl)⟩ ?_
        refine J.istore_n (μ := mX6_leastFilling) (pc := 55) dX6_leastFilling_55 (Nat.le_of_ble_eq_true rfl) rfl ?_
        refine J.iinc (μ := mX6_leastFilling) (pc := 56) (v := 1) dX6_leastFilling_56 rfl (by decide) (Nat.le_of_ble_eq_true rfl) rfl ?_
        refine J.goto (μ := mX6_leastFilling) (pc := 59) 6 dX6_leastFilling_59 (by decide) ?_
        refine J.sub ?_ ih
        exact ⟨rfl, rfl, by simp only [lfF]; rw [if_pos h2], by rw [nI_succ], trivial⟩
/-- what the fillings are when all sets are done -/
def filled (fc fv ff : Nat → Int32) (T : Nat) : Prop := ff 0 = 0 ∧ ∀ s, 0 < s → s < 2 ^ T → ff s = lfF fc fv ff s T
theorem s_X6_fewestBySets {γ : Gm} {v : Vs} {o : Nat} (ho : IsStk o) {N M : Nat} (hN : v (o + 8) 7 = nI N) (h20 : N ≤ 20) (hM : v (o + 1) 3 = nI M) (h8 : M ≤ 8) (z : Int32) : Ev γ mX6_fewestBySets yX6_fewestBySets 3 0 0 [.ref (gz γ + 293), .ref (gz γ + o), .int z] (Rp γ v) (fun w H => ∃ ff, filled (gC v o z M).1 (gL v o z N).1 ff (gL v o z N).2 ∧ w = some (.int (if (gL v o z N).2 = 0 then 0 else ff (2 ^ (gL v o z N).2 - 1) / 64 + 1)) ∧ Rp γ (pk v (gC v o z M).1 (gL v o z N).1 (v 299) ff (gC v o z M).2 (gL v o z N).2) H) := by
  have hT := gL_le (v := v) (o := o) (z := z) N
  have hp := q_pow (gL v o z N).2 (by omega)
  refine Ev.ofJ (by decide) rfl (fun h => by cases h) (Nat.le_of_ble_eq_true rfl) ?_
  refine J.aload_n (μ := mX6_fewestBySets) (pc := 0) dX6_fewestBySets_0 rfl ?_
  refine J.aload_n (μ := mX6_fewestBySets) (pc := 1) dX6_fewestBySets_1 rfl ?_
  refine J.iload_n (μ := mX6_fewestBySets) (pc := 2) dX6_fewestBySets_2 rfl ?_
  refine J.cV0 (μ := mX6_fewestBySets) (pc := 3) (s_X6_gather ho hN h20 hM h8 z) rfl wm_X6_36 mi_X6_gather rfl dX6_fewestBySets_3 (Rp.isa (T := TX6) rfl sh293) rfl rfl ⟨(Nat.le_of_ble_eq_true rfl), (Nat.le_of_ble_eq_true rfl)⟩ ⟨(Nat.le_of_ble_eq_true rfl), (Nat.le_of_ble_eq_true rfl)⟩ (Nat.le_of_ble_eq_true rfl) ?_
  generalize hfc : (gC v o z M).1 = fc
  generalize hS : (gC v o z M).2 = S
  generalize hfv : (gL v o z N).1 = fv
  generalize hTT : (gL v o z N).2 = T
  rw [hTT] at hT hp
  refine J.iconst (μ := mX6_fewestBySets) (pc := 6) (v := 1) dX6_fewestBySets_6 (by decide) ?_
  refine J.aload_n (μ := mX6_fewestBySets) (pc := 7) dX6_fewestBySets_7 rfl ?_
  refine J.gi (μ := mX6_fewestBySets) (pc := 8) (T := TX6) (ci := 9) (fks := _) rfl rfl in_X6 5 (by decide) wf_X6_33 dX6_fewestBySets_8 sh293 rfl ?_
  rw [pk_T]
  refine J.ishl (μ := mX6_fewestBySets) (pc := 11) dX6_fewestBySets_11 ?_
  rw [q_shl T (by omega)]
  refine J.istore_n (μ := mX6_fewestBySets) (pc := 12) dX6_fewestBySets_12 (Nat.le_of_ble_eq_true rfl) rfl ?_
  refine J.aload_n (μ := mX6_fewestBySets) (pc := 13) dX6_fewestBySets_13 rfl ?_
  refine J.gr (μ := mX6_fewestBySets) (pc := 14) (T := TX6) (ci := 9) (fks := _) rfl rfl in_X6 3 (by decide) wf_X6_26 dX6_fewestBySets_14 sh293 rfl ?_
  refine J.iconst (μ := mX6_fewestBySets) (pc := 17) (v := 0) dX6_fewestBySets_17 (by decide) ?_
  refine J.iconst (μ := mX6_fewestBySets) (pc := 18) (v := 0) dX6_fewestBySets_18 (by decide) ?_
  refine J.cV0 (μ := mX6_fewestBySets) (pc := 19) (s_X7_set row300 _ _) rfl wm_X6_40 mi_X7_set rfl dX6_fewestBySets_19 (Rp.isa (T := TX7) rfl row300.1) rfl rfl ⟨(Nat.le_of_ble_eq_true rfl), (Nat.le_of_ble_eq_true rfl)⟩ ⟨(Nat.le_of_ble_eq_true rfl), (Nat.le_of_ble_eq_true rfl)⟩ (Nat.le_of_ble_eq_true rfl) ?_
  rw [show rs (pk v fc fv (v 299) (v 301) S T) (300 + 1) 256 0 0 = pk v fc fv (v 299) (upd (v 301) 0 0) S T from (rs_nI (k := 0) (by omega) (by omega)).trans pk_2f]
  have hpos : 0 < 2 ^ T := Nat.two_pow_pos T
  refine J.iconst (μ := mX6_fewestBySets) (pc := 22) (v := 1) dX6_fewestBySets_22 (by decide) ?_
  refine J.istore (μ := mX6_fewestBySets) (pc := 23) dX6_fewestBySets_23 (Nat.le_of_ble_eq_true rfl) rfl ?_
  refine J.of (P' := fun H => ∃ ff, (ff 0 = 0 ∧ ∀ s, 0 < s → s < 1 + 0 → ff s = lfF fc fv ff s T) ∧ Rp γ (pk v fc fv (v 299) ff S T) H) (fun H h => ⟨_, ⟨by simp [upd], fun s h1 h2 => by omega⟩, h⟩) ?_
  refine J.for (Lf := fun i => [some (.ref (gz γ + 293)), some (.ref (gz γ + o)), some (.int z), some (.int (nI (2 ^ T))), some (.int (nI (1 + i)))]) (Pf := fun i H => ∃ ff, (ff 0 = 0 ∧ ∀ s, 0 < s → s < 1 + i → ff s = lfF fc fv ff s T) ∧ Rp γ (pk v fc fv (v 299) ff S T) H) (2 ^ T - 1) (J.ex fun ff => J.and fun hff => ?_) (fun i hi ih => J.ex fun ff => J.and fun hff => ?_)
  · refine J.iload (μ := mX6_fewestBySets) (pc := 25) dX6_fewestBySets_25 rfl ?_
    refine J.iload_n (μ := mX6_fewestBySets) (pc := 27) dX6_fewestBySets_27 rfl ?_
    refine J.icmp_ge (μ := mX6_fewestBySets) (pc := 28) 52 dX6_fewestBySets_28 (by decide) (fun hc => ?_) (fun hc => ?_)
    · refine J.aload_n (μ := mX6_fewestBySets) (pc := 52) dX6_fewestBySets_52 rfl ?_
      refine J.gi (μ := mX6_fewestBySets) (pc := 53) (T := TX6) (ci := 9) (fks := _) rfl rfl in_X6 5 (by decide) wf_X6_33 dX6_fewestBySets_53 sh293 rfl ?_
      rw [pk_T]
      have hfi : filled fc fv ff T := ⟨hff.1, fun s h1 h2 => hff.2 s h1 (by omega)⟩
      refine J.if_ne (μ := mX6_fewestBySets) (pc := 56) 63 dX6_fewestBySets_56 (by decide) (fun h1 => ?_) (fun h1 => ?_)
      · have h0 : T ≠ 0 := fun q => by subst q; exact h1 rfl
        refine J.aload_n (μ := mX6_fewestBySets) (pc := 63) dX6_fewestBySets_63 rfl ?_
        refine J.gr (μ := mX6_fewestBySets) (pc := 64) (T := TX6) (ci := 9) (fks := _) rfl rfl in_X6 3 (by decide) wf_X6_26 dX6_fewestBySets_64 sh293 rfl ?_
        refine J.iload_n (μ := mX6_fewestBySets) (pc := 67) dX6_fewestBySets_67 rfl ?_
        refine J.iconst (μ := mX6_fewestBySets) (pc := 68) (v := 1) dX6_fewestBySets_68 (by decide) ?_
        refine J.isub (μ := mX6_fewestBySets) (pc := 69) dX6_fewestBySets_69 ?_
        rw [show nI (2 ^ T) - 1 = nI (2 ^ T - 1) by
          have := nI_pred (2 ^ T - 1)
          rwa [show 2 ^ T - 1 + 1 = 2 ^ T by omega] at this]
        refine J.cV (μ := mX6_fewestBySets) (pc := 70) (s_X7_get row300 _) rfl wm_X6_48 mi_X7_get rfl dX6_fewestBySets_70 (Rp.isa (T := TX7) rfl row300.1) rfl rfl ⟨(Nat.le_of_ble_eq_true rfl), (Nat.le_of_ble_eq_true rfl)⟩ ⟨(Nat.le_of_ble_eq_true rfl), (Nat.le_of_ble_eq_true rfl)⟩ (Nat.le_of_ble_eq_true rfl) ?_
        rw [show rg (pk v fc fv (v 299) ff S T (300 + 1)) 256 (nI (2 ^ T - 1)) = ff (2 ^ T - 1) from rg_nI (by omega) (by omega)]
        refine J.bipush (μ := mX6_fewestBySets) (pc := 73) (v := 64) dX6_fewestBySets_73 (by decide) ?_
        refine J.idiv (μ := mX6_fewestBySets) (pc := 75) dX6_fewestBySets_75 (by decide) ?_
        refine J.iconst (μ := mX6_fewestBySets) (pc := 76) (v := 1) dX6_fewestBySets_76 (by decide) ?_
        refine J.iadd (μ := mX6_fewestBySets) (pc := 77) dX6_fewestBySets_77 ?_
        exact J.iret (μ := mX6_fewestBySets) (pc := 78) dX6_fewestBySets_78 rfl (Nat.le_of_ble_eq_true rfl) (Nat.le_of_ble_eq_true rfl) (fun H h => ⟨ff, hfi, by rw [if_neg h0], h⟩)
      · have h0 : T = 0 := by
          rcases Nat.eq_zero_or_pos T with q | q
          · exact q
          · exact absurd h1 (nI_ne0 q (by omega))
        refine J.iconst (μ := mX6_fewestBySets) (pc := 59) (v := 0) dX6_fewestBySets_59 (by decide) ?_
        refine J.goto (μ := mX6_fewestBySets) (pc := 60) 78 dX6_fewestBySets_60 (by decide) ?_
        exact J.iret (μ := mX6_fewestBySets) (pc := 78) dX6_fewestBySets_78 rfl (Nat.le_of_ble_eq_true rfl) (Nat.le_of_ble_eq_true rfl) (fun H h => ⟨ff, hfi, by rw [if_pos h0], h⟩)
    · exact absurd hc (nI_nlt_of (by omega) (by omega))
  · refine J.iload (μ := mX6_fewestBySets) (pc := 25) dX6_fewestBySets_25 rfl ?_
    refine J.iload_n (μ := mX6_fewestBySets) (pc := 27) dX6_fewestBySets_27 rfl ?_
    refine J.icmp_ge (μ := mX6_fewestBySets) (pc := 28) 52 dX6_fewestBySets_28 (by decide) (fun hc => ?_) (fun hc => ?_)
    · exact absurd hc (nI_nle_of (by omega) (by omega))
    · refine J.aload_n (μ := mX6_fewestBySets) (pc := 31) dX6_fewestBySets_31 rfl ?_
      refine J.gr (μ := mX6_fewestBySets) (pc := 32) (T := TX6) (ci := 9) (fks := _) rfl rfl in_X6 3 (by decide) wf_X6_26 dX6_fewestBySets_32 sh293 rfl ?_
      refine J.iload (μ := mX6_fewestBySets) (pc := 35) dX6_fewestBySets_35 rfl ?_
      refine J.aload_n (μ := mX6_fewestBySets) (pc := 37) dX6_fewestBySets_37 rfl ?_
      refine J.iload (μ := mX6_fewestBySets) (pc := 38) dX6_fewestBySets_38 rfl ?_
      refine J.cV (μ := mX6_fewestBySets) (pc := 40) (s_X6_leastFilling (v := pk v fc fv (v 299) ff S T) pk_T hT (by omega)) rfl wm_X6_44 mi_X6_leastFilling rfl dX6_fewestBySets_40 (Rp.isa (T := TX6) rfl sh293) rfl rfl ⟨(Nat.le_of_ble_eq_true rfl), (Nat.le_of_ble_eq_true rfl)⟩ ⟨(Nat.le_of_ble_eq_true rfl), (Nat.le_of_ble_eq_true rfl)⟩ (Nat.le_of_ble_eq_true rfl) ?_
      rw [show lfF (pk v fc fv (v 299) ff S T 295) (pk v fc fv (v 299) ff S T 297) (pk v fc fv (v 299) ff S T 301) (1 + i) T = lfF fc fv ff (1 + i) T from rfl]
      refine J.cV0 (μ := mX6_fewestBySets) (pc := 43) (s_X7_set row300 _ _) rfl wm_X6_40 mi_X7_set rfl dX6_fewestBySets_43 (Rp.isa (T := TX7) rfl row300.1) rfl rfl ⟨(Nat.le_of_ble_eq_true rfl), (Nat.le_of_ble_eq_true rfl)⟩ ⟨(Nat.le_of_ble_eq_true rfl), (Nat.le_of_ble_eq_true rfl)⟩ (Nat.le_of_ble_eq_true rfl) ?_
      rw [show rs (pk v fc fv (v 299) ff S T) (300 + 1) 256 (nI (1 + i)) (lfF fc fv ff (1 + i) T) = pk v fc fv (v 299) (upd ff (1 + i) (lfF fc fv ff (1 + i) T)) S T from (rs_nI (by omega) (by omega)).trans pk_2f]
      refine J.iinc (μ := mX6_fewestBySets) (pc := 46) (v := 1) dX6_fewestBySets_46 rfl (by decide) (Nat.le_of_ble_eq_true rfl) rfl ?_
      refine J.goto (μ := mX6_fewestBySets) (pc := 49) 25 dX6_fewestBySets_49 (by decide) ?_
      refine J.sub ?_ (J.of (fun H h => ?_) ih)
      · exact ⟨rfl, rfl, rfl, rfl, by rw [nI_1]; rfl, trivial⟩
      · refine ⟨_, ⟨?_, fun s h1 h2 => ?_⟩, h⟩
        · unfold upd
          rw [if_neg (by omega)]
          exact hff.1
        · by_cases e : s = 1 + i
          · subst e
            rw [show upd ff (1 + i) (lfF fc fv ff (1 + i) T) (1 + i) = lfF fc fv ff (1 + i) T by simp [upd]]
            exact lfF_congr (by omega) (fun t ht => by unfold upd; rw [if_neg (by omega)]) T hT
          · rw [show upd ff (1 + i) (lfF fc fv ff (1 + i) T) s = ff s by unfold upd; rw [if_neg e], hff.2 s h1 (by omega)]
            exact lfF_congr (by omega) (fun t ht => by unfold upd; rw [if_neg (by omega)]) T hT
/-- is p true somewhere below n -/
def an (p : Nat → Bool) : Nat → Bool
  | 0 => false
  | n + 1 => an p n || p n
theorem an_iff {p : Nat → Bool} : ∀ {n : Nat}, an p n = true ↔ ∃ i, i < n ∧ p i = true
  | 0 => by simp [an]
  | n + 1 => by
    simp only [an, Bool.or_eq_true, an_iff (n := n)]
    constructor
    · rintro (⟨i, h1, h2⟩ | h)
      · exact ⟨i, by omega, h2⟩
      · exact ⟨n, by omega, h⟩
    · rintro ⟨i, h1, h2⟩
      by_cases e : i = n
      · exact .inr (e ▸ h2)
      · exact .inl ⟨i, by omega, h2⟩
theorem an_succ {p : Nat → Bool} {n : Nat} (h1 : an p n = false) (h2 : p n = false) : an p (n + 1) = false := by simp [an, h1, h2]
theorem an_at {p : Nat → Bool} {n i : Nat} (hi : i < n) (h : p i = true) : an p n = true := an_iff.mpr ⟨i, hi, h⟩
/-- has an earlier shelf the same room -/
def hrb (fr : Nat → Int32) (k : Nat) : Bool := an (fun j => decide (fr j = fr k)) k
theorem s_X6_hasRoomBefore {γ : Gm} {v : Vs} {r : Nat} (hr : IsRow r 8) {k : Nat} (hk : k < 8) : Er γ mX6_hasRoomBefore yX6_hasRoomBefore 1 [.ref (gz γ + r), .int (nI k)] v (.int (bi (hrb (v (r + 1)) k))) := by
  have hrd : ∀ j, j < 8 → rg (v (r + 1)) 8 (nI j) = v (r + 1) j := fun j hj => rg_nI hj (by omega)
  refine Ev.ofJ (by decide) rfl (fun h => by cases h) (Nat.le_of_ble_eq_true rfl) ?_
  refine J.iconst (μ := mX6_hasRoomBefore) (pc := 0) (v := 0) dX6_hasRoomBefore_0 (by decide) ?_
  refine J.istore_n (μ := mX6_hasRoomBefore) (pc := 1) dX6_hasRoomBefore_1 (Nat.le_of_ble_eq_true rfl) rfl ?_
  refine J.of (P' := fun H => an (fun j => decide (v (r + 1) j = v (r + 1) k)) 0 = false ∧ Rp γ v H) (fun H h => ⟨rfl, h⟩) ?_
  refine J.for (Lf := fun i => [some (.ref (gz γ + r)), some (.int (nI k)), some (.int (nI i))]) (Pf := fun i H => an (fun j => decide (v (r + 1) j = v (r + 1) k)) i = false ∧ Rp γ v H) k (J.and fun ha => ?_) (fun i hi ih => J.and fun ha => ?_)
  · refine J.iload_n (μ := mX6_hasRoomBefore) (pc := 2) dX6_hasRoomBefore_2 rfl ?_
    refine J.iload_n (μ := mX6_hasRoomBefore) (pc := 3) dX6_hasRoomBefore_3 rfl ?_
    refine J.icmp_ge (μ := mX6_hasRoomBefore) (pc := 4) 28 dX6_hasRoomBefore_4 (by decide) (fun hc => ?_) (fun hc => ?_)
    · refine J.iconst (μ := mX6_hasRoomBefore) (pc := 28) (v := 0) dX6_hasRoomBefore_28 (by decide) ?_
      exact J.zret (μ := mX6_hasRoomBefore) (pc := 29) dX6_hasRoomBefore_29 rfl rfl (Nat.le_of_ble_eq_true rfl) (Nat.le_of_ble_eq_true rfl) (fun H h => ⟨by unfold hrb; rw [ha]; rfl, h⟩)
    · exact absurd hc (nI_nlt_of (Nat.le_refl k) (by omega))
  · refine J.iload_n (μ := mX6_hasRoomBefore) (pc := 2) dX6_hasRoomBefore_2 rfl ?_
    refine J.iload_n (μ := mX6_hasRoomBefore) (pc := 3) dX6_hasRoomBefore_3 rfl ?_
    refine J.icmp_ge (μ := mX6_hasRoomBefore) (pc := 4) 28 dX6_hasRoomBefore_4 (by decide) (fun hc => ?_) (fun hc => ?_)
    · exact absurd hc (nI_nle_of hi (by omega))
    · refine J.aload_n (μ := mX6_hasRoomBefore) (pc := 7) dX6_hasRoomBefore_7 rfl ?_
      refine J.iload_n (μ := mX6_hasRoomBefore) (pc := 8) dX6_hasRoomBefore_8 rfl ?_
      refine J.cV (μ := mX6_hasRoomBefore) (pc := 9) (s_X7_get hr _) rfl wm_X6_48 mi_X7_get rfl dX6_hasRoomBefore_9 (Rp.isa (T := TX7) rfl hr.1) rfl rfl ⟨(Nat.le_of_ble_eq_true rfl), (Nat.le_of_ble_eq_true rfl)⟩ ⟨(Nat.le_of_ble_eq_true rfl), (Nat.le_of_ble_eq_true rfl)⟩ (Nat.le_of_ble_eq_true rfl) ?_
      refine J.aload_n (μ := mX6_hasRoomBefore) (pc := 12) dX6_hasRoomBefore_12 rfl ?_
      refine J.iload_n (μ := mX6_hasRoomBefore) (pc := 13) dX6_hasRoomBefore_13 rfl ?_
      refine J.cV (μ := mX6_hasRoomBefore) (pc := 14) (s_X7_get hr _) rfl wm_X6_48 mi_X7_get rfl dX6_hasRoomBefore_14 (Rp.isa (T := TX7) rfl hr.1) rfl rfl ⟨(Nat.le_of_ble_eq_true rfl), (Nat.le_of_ble_eq_true rfl)⟩ ⟨(Nat.le_of_ble_eq_true rfl), (Nat.le_of_ble_eq_true rfl)⟩ (Nat.le_of_ble_eq_true rfl) ?_
      rw [hrd i (by omega), hrd k hk]
      refine J.icmp_ne (μ := mX6_hasRoomBefore) (pc := 17) 22 dX6_hasRoomBefore_17 (by decide) (fun h1 => ?_) (fun h1 => ?_)
      · refine J.iinc (μ := mX6_hasRoomBefore) (pc := 22) (v := 1) dX6_hasRoomBefore_22 rfl (by decide) (Nat.le_of_ble_eq_true rfl) rfl ?_
        refine J.goto (μ := mX6_hasRoomBefore) (pc := 25) 2 dX6_hasRoomBefore_25 (by decide) ?_
        exact J.sub (by simp [lsub, fin3, nI_succ]) (J.of (fun H h => ⟨an_succ ha (decide_eq_false h1), h⟩) ih)
      · refine J.iconst (μ := mX6_hasRoomBefore) (pc := 20) (v := 1) dX6_hasRoomBefore_20 (by decide) ?_
        exact J.zret (μ := mX6_hasRoomBefore) (pc := 21) dX6_hasRoomBefore_21 rfl rfl (Nat.le_of_ble_eq_true rfl) (Nat.le_of_ble_eq_true rfl) (fun H h => ⟨by unfold hrb; rw [an_at hi (decide_eq_true h1)]; rfl, h⟩)
/-- can the lots from l on be laid on the first K shelves -/
def layB (fv : Nat → Int32) (T K : Nat) : Nat → Nat → (Nat → Int32) → Bool
  | 0, _, _ => true
  | f + 1, l, fr => if T ≤ l then true else an (fun k => decide (fv l ≤ fr k) && !hrb fr k && layB fv T K f (l + 1) (upd fr k (fr k - fv l))) K
theorem upd_back {f : Nat → Int32} {k : Nat} {x : Int32} : upd (upd f k x) k (f k) = f := by
  funext j
  unfold upd
  split
  · rename_i h; rw [h]
  · rfl
theorem s_X6_lay {γ : Gm} {v : Vs} {fc fv ff : Nat → Int32} {S T K : Nat} (hT : T ≤ 8) (hK : K ≤ 8) : ∀ (f l : Nat), l + f = 8 → ∀ fr : Nat → Int32, Ev γ mX6_lay yX6_lay (f + 2) 0 0 [.ref (gz γ + 296), .int (nI T), .ref (gz γ + 298), .int (nI K), .int (nI l)] (Rp γ (pk v fc fv fr ff S T)) (fun w H => w = some (.int (bi (layB fv T K f l fr))) ∧ ∃ fr', (layB fv T K f l fr = false → fr' = fr) ∧ Rp γ (pk v fc fv fr' ff S T) H) := by
  intro f
  induction f with
  | zero =>
    intro l hl fr
    refine Ev.ofJ (by decide) rfl (fun h => by cases h) (Nat.le_of_ble_eq_true rfl) ?_
    refine J.iload (μ := mX6_lay) (pc := 0) dX6_lay_0 rfl ?_
    refine J.iload_n (μ := mX6_lay) (pc := 2) dX6_lay_2 rfl ?_
    refine J.icmp_ge (μ := mX6_lay) (pc := 3) 13 dX6_lay_3 (by decide) (fun h1 => ?_) (fun h1 => ?_)
    · refine J.iconst (μ := mX6_lay) (pc := 13) (v := 1) dX6_lay_13 (by decide) ?_
      exact J.zret (μ := mX6_lay) (pc := 14) dX6_lay_14 rfl rfl (Nat.le_of_ble_eq_true rfl) (Nat.le_of_ble_eq_true rfl) (fun H h => ⟨rfl, fr, fun _ => rfl, h⟩)
    · refine J.iload (μ := mX6_lay) (pc := 6) dX6_lay_6 rfl ?_
      refine J.bipush (μ := mX6_lay) (pc := 8) (v := 8) dX6_lay_8 (by decide) ?_
      refine J.icmp_lt (μ := mX6_lay) (pc := 10) 15 dX6_lay_10 (by decide) (fun h2 => ?_) (fun h2 => ?_)
      · exact absurd h2 (nI_nlt_of (a := l) (b := 8) (by omega) (by omega))
      · refine J.iconst (μ := mX6_lay) (pc := 13) (v := 1) dX6_lay_13 (by decide) ?_
        exact J.zret (μ := mX6_lay) (pc := 14) dX6_lay_14 rfl rfl (Nat.le_of_ble_eq_true rfl) (Nat.le_of_ble_eq_true rfl) (fun H h => ⟨rfl, fr, fun _ => rfl, h⟩)
  | succ f ih =>
    intro l hl fr
    by_cases hTl : T ≤ l
    · have e : layB fv T K (f + 1) l fr = true := if_pos hTl
      rw [e]
      refine Ev.ofJ (by decide) rfl (fun h => by cases h) (Nat.le_of_ble_eq_true rfl) ?_
      refine J.iload (μ := mX6_lay) (pc := 0) dX6_lay_0 rfl ?_
      refine J.iload_n (μ := mX6_lay) (pc := 2) dX6_lay_2 rfl ?_
      refine J.icmp_ge (μ := mX6_lay) (pc := 3) 13 dX6_lay_3 (by decide) (fun h1 => ?_) (fun h1 => ?_)
      · refine J.iconst (μ := mX6_lay) (pc := 13) (v := 1) dX6_lay_13 (by decide) ?_
        exact J.zret (μ := mX6_lay) (pc := 14) dX6_lay_14 rfl rfl (Nat.le_of_ble_eq_true rfl) (Nat.le_of_ble_eq_true rfl) (fun H h => ⟨rfl, fr, fun _ => rfl, h⟩)
      · exact absurd h1 (nI_nlt_of hTl (by omega))
    · have e : layB fv T K (f + 1) l fr = an (fun k => decide (fv l ≤ fr k) && !hrb fr k && layB fv T K f (l + 1) (upd fr k (fr k - fv l))) K := if_neg hTl
      rw [e]
      refine Ev.ofJ (by decide) rfl (fun h => by cases h) (Nat.le_of_ble_eq_true rfl) ?_
      refine J.iload (μ := mX6_lay) (pc := 0) dX6_lay_0 rfl ?_
      refine J.iload_n (μ := mX6_lay) (pc := 2) dX6_lay_2 rfl ?_
      refine J.icmp_ge (μ := mX6_lay) (pc := 3) 13 dX6_lay_3 (by decide) (fun h1 => ?_) (fun h1 => ?_)
      · exact absurd h1 (nI_nle_of (by omega) (by omega))
      · refine J.iload (μ := mX6_lay) (pc := 6) dX6_lay_6 rfl ?_
        refine J.bipush (μ := mX6_lay) (pc := 8) (v := 8) dX6_lay_8 (by decide) ?_
        refine J.icmp_lt (μ := mX6_lay) (pc := 10) 15 dX6_lay_10 (by decide) (fun h2 => ?_) (fun h2 => ?_)
        · refine J.aload_n (μ := mX6_lay) (pc := 15) dX6_lay_15 rfl ?_
          refine J.iload (μ := mX6_lay) (pc := 16) dX6_lay_16 rfl ?_
          refine J.cV (μ := mX6_lay) (pc := 18) (s_X7_get row296 _) rfl wm_X6_48 mi_X7_get rfl dX6_lay_18 (Rp.isa (T := TX7) rfl row296.1) rfl rfl (rmOK (by omega) (by decide)) ⟨(Nat.le_of_ble_eq_true rfl), (Nat.le_of_ble_eq_true rfl)⟩ (Nat.le_of_ble_eq_true rfl) ?_
          rw [show rg (pk v fc fv fr ff S T (296 + 1)) 8 (nI l) = fv l from rg_nI (by omega) (by omega)]
          refine J.istore (μ := mX6_lay) (pc := 21) dX6_lay_21 (Nat.le_of_ble_eq_true rfl) rfl ?_
          refine J.iconst (μ := mX6_lay) (pc := 23) (v := 0) dX6_lay_23 (by decide) ?_
          refine J.istore (μ := mX6_lay) (pc := 24) dX6_lay_24 (Nat.le_of_ble_eq_true rfl) rfl ?_
          refine J.of (P' := fun H => an (fun k => decide (fv l ≤ fr k) && !hrb fr k && layB fv T K f (l + 1) (upd fr k (fr k - fv l))) 0 = false ∧ Rp γ (pk v fc fv fr ff S T) H) (fun H h => ⟨rfl, h⟩) ?_
          refine J.for (Lf := fun i => [some (.ref (gz γ + 296)), some (.int (nI T)), some (.ref (gz γ + 298)), some (.int (nI K)), some (.int (nI l)), some (.int (fv l)), some (.int (nI i)), none]) (Pf := fun i H => an (fun k => decide (fv l ≤ fr k) && !hrb fr k && layB fv T K f (l + 1) (upd fr k (fr k - fv l))) i = false ∧ Rp γ (pk v fc fv fr ff S T) H) K (J.and fun ha => ?_) (fun i hi ih2 => J.and fun ha => ?_)
          · refine J.iload (μ := mX6_lay) (pc := 26) dX6_lay_26 rfl ?_
            refine J.iload_n (μ := mX6_lay) (pc := 28) dX6_lay_28 rfl ?_
            refine J.icmp_ge (μ := mX6_lay) (pc := 29) 97 dX6_lay_29 (by decide) (fun hc => ?_) (fun hc => ?_)
            · refine J.iconst (μ := mX6_lay) (pc := 97) (v := 0) dX6_lay_97 (by decide) ?_
              exact J.zret (μ := mX6_lay) (pc := 98) dX6_lay_98 rfl rfl (Nat.le_of_ble_eq_true rfl) (Nat.le_of_ble_eq_true rfl) (fun H h => ⟨by rw [ha]; rfl, fr, fun _ => rfl, h⟩)
            · exact absurd hc (nI_nlt_of (Nat.le_refl K) (by omega))
          · refine J.iload (μ := mX6_lay) (pc := 26) dX6_lay_26 rfl ?_
            refine J.iload_n (μ := mX6_lay) (pc := 28) dX6_lay_28 rfl ?_
            refine J.icmp_ge (μ := mX6_lay) (pc := 29) 97 dX6_lay_29 (by decide) (fun hc => ?_) (fun hc => ?_)
            · exact absurd hc (nI_nle_of hi (by omega))
            · refine J.aload_n (μ := mX6_lay) (pc := 32) dX6_lay_32 rfl ?_
              refine J.iload (μ := mX6_lay) (pc := 33) dX6_lay_33 rfl ?_
              refine J.cV (μ := mX6_lay) (pc := 35) (s_X7_get row298 _) rfl wm_X6_48 mi_X7_get rfl dX6_lay_35 (Rp.isa (T := TX7) rfl row298.1) rfl rfl (rmOK (by omega) (by decide)) ⟨(Nat.le_of_ble_eq_true rfl), (Nat.le_of_ble_eq_true rfl)⟩ (Nat.le_of_ble_eq_true rfl) ?_
              rw [show rg (pk v fc fv fr ff S T (298 + 1)) 8 (nI i) = fr i from rg_nI (by omega) (by omega)]
              refine J.istore (μ := mX6_lay) (pc := 38) dX6_lay_38 (Nat.le_of_ble_eq_true rfl) rfl ?_
              refine J.iload (μ := mX6_lay) (pc := 40) dX6_lay_40 rfl ?_
              refine J.iload (μ := mX6_lay) (pc := 42) dX6_lay_42 rfl ?_
              refine J.icmp_lt (μ := mX6_lay) (pc := 44) 91 dX6_lay_44 (by decide) (fun h3 => ?_) (fun h3 => ?_)
              · refine J.iinc (μ := mX6_lay) (pc := 91) (v := 1) dX6_lay_91 rfl (by decide) (Nat.le_of_ble_eq_true rfl) rfl ?_
                refine J.goto (μ := mX6_lay) (pc := 94) 26 dX6_lay_94 (by decide) ?_
                exact J.sub (by simp [lsub, fin3, nI_succ]) (J.of (fun H h => ⟨an_succ ha (by simp [Int32.not_le.mpr h3]), h⟩) ih2)
              · refine J.aload_n (μ := mX6_lay) (pc := 47) dX6_lay_47 rfl ?_
                refine J.iload (μ := mX6_lay) (pc := 48) dX6_lay_48 rfl ?_
                refine J.cS (μ := mX6_lay) (pc := 50) (s_X6_hasRoomBefore row298 (by omega)) rfl wm_X6_68 mi_X6_hasRoomBefore rfl dX6_lay_50 rfl rfl (rmOK (by omega) (by decide)) ⟨(Nat.le_of_ble_eq_true rfl), (Nat.le_of_ble_eq_true rfl)⟩ (Nat.le_of_ble_eq_true rfl) ?_
                by_cases hb : hrb fr i = true
                · refine J.if_ne (μ := mX6_lay) (pc := 53) 91 dX6_lay_53 (by decide) (fun _ => ?_) (fun q => absurd q (by show ¬ bi (hrb fr i) = 0; rw [hb]; decide))
                  refine J.iinc (μ := mX6_lay) (pc := 91) (v := 1) dX6_lay_91 rfl (by decide) (Nat.le_of_ble_eq_true rfl) rfl ?_
                  refine J.goto (μ := mX6_lay) (pc := 94) 26 dX6_lay_94 (by decide) ?_
                  exact J.sub (by simp [lsub, fin3, nI_succ]) (J.of (fun H h => ⟨an_succ ha (by simp [hb]), h⟩) ih2)
                · have hb2 : hrb fr i = false := by simpa using hb
                  refine J.if_ne (μ := mX6_lay) (pc := 53) 91 dX6_lay_53 (by decide) (fun q => absurd (show bi (hrb fr i) = 0 by rw [hb2]; rfl) q) (fun _ => ?_)
                  refine J.aload_n (μ := mX6_lay) (pc := 56) dX6_lay_56 rfl ?_
                  refine J.iload (μ := mX6_lay) (pc := 57) dX6_lay_57 rfl ?_
                  refine J.iload (μ := mX6_lay) (pc := 59) dX6_lay_59 rfl ?_
                  refine J.iload (μ := mX6_lay) (pc := 61) dX6_lay_61 rfl ?_
                  refine J.isub (μ := mX6_lay) (pc := 63) dX6_lay_63 ?_
                  refine J.cV0 (μ := mX6_lay) (pc := 64) (s_X7_set row298 _ _) rfl wm_X6_40 mi_X7_set rfl dX6_lay_64 (Rp.isa (T := TX7) rfl row298.1) rfl rfl (rmOK (by omega) (by decide)) ⟨(Nat.le_of_ble_eq_true rfl), (Nat.le_of_ble_eq_true rfl)⟩ (Nat.le_of_ble_eq_true rfl) ?_
                  rw [show rs (pk v fc fv fr ff S T) (298 + 1) 8 (nI i) (fr i - fv l) = pk v fc fv (upd fr i (fr i - fv l)) ff S T from (rs_nI (by omega) (by omega)).trans pk_2r]
                  refine J.aload_n (μ := mX6_lay) (pc := 67) dX6_lay_67 rfl ?_
                  refine J.iload_n (μ := mX6_lay) (pc := 68) dX6_lay_68 rfl ?_
                  refine J.aload_n (μ := mX6_lay) (pc := 69) dX6_lay_69 rfl ?_
                  refine J.iload_n (μ := mX6_lay) (pc := 70) dX6_lay_70 rfl ?_
                  refine J.iload (μ := mX6_lay) (pc := 71) dX6_lay_71 rfl ?_
                  refine J.iconst (μ := mX6_lay) (pc := 73) (v := 1) dX6_lay_73 (by decide) ?_
                  refine J.iadd (μ := mX6_lay) (pc := 74) dX6_lay_74 ?_
                  rw [nI_1]
                  refine J.callS (μ := mX6_lay) (pc := 75) (ih (l + 1) (by omega) (upd fr i (fr i - fv l))) rfl wm_X6_64 mi_X6_lay rfl dX6_lay_75 rfl rfl (rmOK (by omega) (by decide)) ⟨(Nat.le_of_ble_eq_true rfl), (Nat.le_of_ble_eq_true rfl)⟩ (Nat.le_of_ble_eq_true rfl) (fun w => J.and (fun e => ?_))
                  subst e
                  refine J.ex fun fr2 => J.and fun hfr => ?_
                  by_cases hl2 : layB fv T K f (l + 1) (upd fr i (fr i - fv l)) = true
                  · refine J.if_eq (μ := mX6_lay) (pc := 78) 83 dX6_lay_78 (by decide) (fun q => absurd q (by rw [hl2]; decide)) (fun _ => ?_)
                    have hall : an (fun k => decide (fv l ≤ fr k) && !hrb fr k && layB fv T K f (l + 1) (upd fr k (fr k - fv l))) K = true := an_at hi (by simp [h3, hb2, hl2])
                    refine J.iconst (μ := mX6_lay) (pc := 81) (v := 1) dX6_lay_81 (by decide) ?_
                    exact J.zret (μ := mX6_lay) (pc := 82) dX6_lay_82 rfl rfl (Nat.le_of_ble_eq_true rfl) (Nat.le_of_ble_eq_true rfl) (fun H h => ⟨by rw [hall]; rfl, fr2, fun q => absurd (hall.symm.trans q) (by decide), h⟩)
                  · have hl3 : layB fv T K f (l + 1) (upd fr i (fr i - fv l)) = false := by simpa using hl2
                    refine J.if_eq (μ := mX6_lay) (pc := 78) 83 dX6_lay_78 (by decide) (fun _ => ?_) (fun q => absurd (show bi (layB fv T K f (l + 1) (upd fr i (fr i - fv l))) = 0 by rw [hl3]; rfl) q)
                    rw [hfr hl3]
                    refine J.aload_n (μ := mX6_lay) (pc := 83) dX6_lay_83 rfl ?_
                    refine J.iload (μ := mX6_lay) (pc := 84) dX6_lay_84 rfl ?_
                    refine J.iload (μ := mX6_lay) (pc := 86) dX6_lay_86 rfl ?_
                    refine J.cV0 (μ := mX6_lay) (pc := 88) (s_X7_set row298 _ _) rfl wm_X6_40 mi_X7_set rfl dX6_lay_88 (Rp.isa (T := TX7) rfl row298.1) rfl rfl (rmOK (by omega) (by decide)) ⟨(Nat.le_of_ble_eq_true rfl), (Nat.le_of_ble_eq_true rfl)⟩ (Nat.le_of_ble_eq_true rfl) ?_
                    rw [show rs (pk v fc fv (upd fr i (fr i - fv l)) ff S T) (298 + 1) 8 (nI i) (fr i) = pk v fc fv fr ff S T from (rs_nI (by omega) (by omega)).trans (pk_2r.trans (by rw [upd_back]))]
                    refine J.iinc (μ := mX6_lay) (pc := 91) (v := 1) dX6_lay_91 rfl (by decide) (Nat.le_of_ble_eq_true rfl) rfl ?_
                    refine J.goto (μ := mX6_lay) (pc := 94) 26 dX6_lay_94 (by decide) ?_
                    exact J.sub (by simp [lsub, fin3, nI_succ]) (J.of (fun H h => ⟨an_succ ha (by simp [hl3]), h⟩) ih2)
        · exact absurd h2 (nI_nle_of (b := 8) (by omega) (by omega))
theorem cp_rooms {γ : Gm} {v : Vs} {fc fv fr ff : Nat → Int32} {S T : Nat} {H : Heap} (h : Rp γ (cpR (pk v fc fv fr ff S T) 298 294 2) H) : Rp γ (pk v fc fv fc ff S T) H := by
  refine h.congr (fun k x hk => ?_)
  by_cases e : k = 298
  · subst e
    cases Option.some.inj (hk.symm.trans row298.1)
    exact sameN_obj0
  · by_cases e2 : k = 299
    · subst e2
      cases Option.some.inj (hk.symm.trans row298.2)
      intro j _
      rfl
    · have e3 : cpR (pk v fc fv fr ff S T) 298 294 2 k = pk v fc fv fc ff S T k := by
        rw [cpR_out (by omega)]
        unfold pk
        simp only [e2, if_false]
      cases x <;> (intro j _; rw [e3])
theorem s_X6_fewestBySearch {γ : Gm} {v : Vs} {o : Nat} (ho : IsStk o) {N M : Nat} (hN : v (o + 8) 7 = nI N) (h20 : N ≤ 20) (hM : v (o + 1) 3 = nI M) (h8 : M ≤ 8) (z : Int32) : Ev γ mX6_fewestBySearch yX6_fewestBySearch 11 0 0 [.ref (gz γ + 293), .ref (gz γ + o), .int z] (Rp γ v) (fun w H => w = some (.int (nI (fd (fun k => layB (gL v o z N).1 (gL v o z N).2 k 8 0 (gC v o z M).1) (gC v o z M).2))) ∧ ∃ fr, Rp γ (pk v (gC v o z M).1 (gL v o z N).1 fr (v 301) (gC v o z M).2 (gL v o z N).2) H) := by
  have hT := gL_le (v := v) (o := o) (z := z) N
  have hS := gC_le (v := v) (o := o) (z := z) M
  refine Ev.ofJ (by decide) rfl (fun h => by cases h) (Nat.le_of_ble_eq_true rfl) ?_
  refine J.aload_n (μ := mX6_fewestBySearch) (pc := 0) dX6_fewestBySearch_0 rfl ?_
  refine J.aload_n (μ := mX6_fewestBySearch) (pc := 1) dX6_fewestBySearch_1 rfl ?_
  refine J.iload_n (μ := mX6_fewestBySearch) (pc := 2) dX6_fewestBySearch_2 rfl ?_
  refine J.cV0 (μ := mX6_fewestBySearch) (pc := 3) (s_X6_gather ho hN h20 hM h8 z) rfl wm_X6_36 mi_X6_gather rfl dX6_fewestBySearch_3 (Rp.isa (T := TX6) rfl sh293) rfl rfl ⟨(Nat.le_of_ble_eq_true rfl), (Nat.le_of_ble_eq_true rfl)⟩ ⟨(Nat.le_of_ble_eq_true rfl), (Nat.le_of_ble_eq_true rfl)⟩ (Nat.le_of_ble_eq_true rfl) ?_
  generalize hfc : (gC v o z M).1 = fc
  generalize hSS : (gC v o z M).2 = S
  generalize hfv : (gL v o z N).1 = fv
  generalize hTT : (gL v o z N).2 = T
  rw [hTT] at hT
  rw [hSS] at hS
  refine J.iconst (μ := mX6_fewestBySearch) (pc := 6) (v := 0) dX6_fewestBySearch_6 (by decide) ?_
  refine J.istore_n (μ := mX6_fewestBySearch) (pc := 7) dX6_fewestBySearch_7 (Nat.le_of_ble_eq_true rfl) rfl ?_
  refine J.of (P' := fun H => (∀ j, j < 0 → (fun k => layB fv T k 8 0 fc) j = false) ∧ ∃ fr, Rp γ (pk v fc fv fr (v 301) S T) H) (fun H h => ⟨fun j hj => absurd hj (Nat.not_lt_zero j), _, h⟩) ?_
  refine J.for (Lf := fun i => [some (.ref (gz γ + 293)), some (.ref (gz γ + o)), some (.int z), some (.int (nI i))]) (Pf := fun i H => (∀ j, j < i → (fun k => layB fv T k 8 0 fc) j = false) ∧ ∃ fr, Rp γ (pk v fc fv fr (v 301) S T) H) S (J.and fun hall => J.ex fun fr => ?_) (fun i hi ih => J.and fun hall => J.ex fun fr => ?_)
  · refine J.iload_n (μ := mX6_fewestBySearch) (pc := 8) dX6_fewestBySearch_8 rfl ?_
    refine J.aload_n (μ := mX6_fewestBySearch) (pc := 9) dX6_fewestBySearch_9 rfl ?_
    refine J.gi (μ := mX6_fewestBySearch) (pc := 10) (T := TX6) (ci := 9) (fks := _) rfl rfl in_X6 4 (by decide) wf_X6_29 dX6_fewestBySearch_10 sh293 rfl ?_
    rw [pk_S]
    refine J.icmp_ge (μ := mX6_fewestBySearch) (pc := 13) 55 dX6_fewestBySearch_13 (by decide) (fun hc => ?_) (fun hc => ?_)
    · refine J.aload_n (μ := mX6_fewestBySearch) (pc := 55) dX6_fewestBySearch_55 rfl ?_
      refine J.gi (μ := mX6_fewestBySearch) (pc := 56) (T := TX6) (ci := 9) (fks := _) rfl rfl in_X6 4 (by decide) wf_X6_29 dX6_fewestBySearch_56 sh293 rfl ?_
      rw [pk_S]
      exact J.iret (μ := mX6_fewestBySearch) (pc := 59) dX6_fewestBySearch_59 rfl (Nat.le_of_ble_eq_true rfl) (Nat.le_of_ble_eq_true rfl) (fun H h => ⟨by rw [fd_no hall], fr, h⟩)
    · exact absurd hc (nI_nlt_of (Nat.le_refl S) (by omega))
  · refine J.iload_n (μ := mX6_fewestBySearch) (pc := 8) dX6_fewestBySearch_8 rfl ?_
    refine J.aload_n (μ := mX6_fewestBySearch) (pc := 9) dX6_fewestBySearch_9 rfl ?_
    refine J.gi (μ := mX6_fewestBySearch) (pc := 10) (T := TX6) (ci := 9) (fks := _) rfl rfl in_X6 4 (by decide) wf_X6_29 dX6_fewestBySearch_10 sh293 rfl ?_
    rw [pk_S]
    refine J.icmp_ge (μ := mX6_fewestBySearch) (pc := 13) 55 dX6_fewestBySearch_13 (by decide) (fun hc => ?_) (fun hc => ?_)
    · exact absurd hc (nI_nle_of hi (by omega))
    · refine J.aload_n (μ := mX6_fewestBySearch) (pc := 16) dX6_fewestBySearch_16 rfl ?_
      refine J.gr (μ := mX6_fewestBySearch) (pc := 17) (T := TX6) (ci := 9) (fks := _) rfl rfl in_X6 2 (by decide) wf_X6_23 dX6_fewestBySearch_17 sh293 rfl ?_
      refine J.aload_n (μ := mX6_fewestBySearch) (pc := 20) dX6_fewestBySearch_20 rfl ?_
      refine J.gr (μ := mX6_fewestBySearch) (pc := 21) (T := TX6) (ci := 9) (fks := _) rfl rfl in_X6 0 (by decide) wf_X6_16 dX6_fewestBySearch_21 sh293 rfl ?_
      refine J.cV0 (μ := mX6_fewestBySearch) (pc := 24) (s_X7_copyFrom row298 row294) rfl wm_X6_60 mi_X7_copyFrom rfl dX6_fewestBySearch_24 (Rp.isa (T := TX7) rfl row298.1) rfl rfl ⟨(Nat.le_of_ble_eq_true rfl), (Nat.le_of_ble_eq_true rfl)⟩ ⟨(Nat.le_of_ble_eq_true rfl), (Nat.le_of_ble_eq_true rfl)⟩ (Nat.le_of_ble_eq_true rfl) ?_
      refine J.of (P' := Rp γ (pk v fc fv fc (v 301) S T)) (fun H h => cp_rooms h) ?_
      refine J.aload_n (μ := mX6_fewestBySearch) (pc := 27) dX6_fewestBySearch_27 rfl ?_
      refine J.gr (μ := mX6_fewestBySearch) (pc := 28) (T := TX6) (ci := 9) (fks := _) rfl rfl in_X6 1 (by decide) wf_X6_20 dX6_fewestBySearch_28 sh293 rfl ?_
      refine J.aload_n (μ := mX6_fewestBySearch) (pc := 31) dX6_fewestBySearch_31 rfl ?_
      refine J.gi (μ := mX6_fewestBySearch) (pc := 32) (T := TX6) (ci := 9) (fks := _) rfl rfl in_X6 5 (by decide) wf_X6_33 dX6_fewestBySearch_32 sh293 rfl ?_
      refine J.aload_n (μ := mX6_fewestBySearch) (pc := 35) dX6_fewestBySearch_35 rfl ?_
      refine J.gr (μ := mX6_fewestBySearch) (pc := 36) (T := TX6) (ci := 9) (fks := _) rfl rfl in_X6 2 (by decide) wf_X6_23 dX6_fewestBySearch_36 sh293 rfl ?_
      refine J.iload_n (μ := mX6_fewestBySearch) (pc := 39) dX6_fewestBySearch_39 rfl ?_
      refine J.iconst (μ := mX6_fewestBySearch) (pc := 40) (v := 0) dX6_fewestBySearch_40 (by decide) ?_
      rw [pk_T]
      refine J.callS (μ := mX6_fewestBySearch) (pc := 41) (s_X6_lay (v := v) (fc := fc) (fv := fv) (ff := v 301) (S := S) (T := T) (K := i) hT (by omega) 8 0 rfl fc) rfl wm_X6_64 mi_X6_lay rfl dX6_fewestBySearch_41 rfl rfl ⟨(Nat.le_of_ble_eq_true rfl), (Nat.le_of_ble_eq_true rfl)⟩ ⟨(Nat.le_of_ble_eq_true rfl), (Nat.le_of_ble_eq_true rfl)⟩ (Nat.le_of_ble_eq_true rfl) (fun w => J.and (fun e => ?_))
      subst e
      refine J.ex fun fr2 => J.and fun hfr => ?_
      by_cases hl2 : layB fv T i 8 0 fc = true
      · refine J.if_eq (μ := mX6_fewestBySearch) (pc := 44) 49 dX6_fewestBySearch_44 (by decide) (fun q => absurd q (by rw [hl2]; decide)) (fun _ => ?_)
        refine J.iload_n (μ := mX6_fewestBySearch) (pc := 47) dX6_fewestBySearch_47 rfl ?_
        exact J.iret (μ := mX6_fewestBySearch) (pc := 48) dX6_fewestBySearch_48 rfl (Nat.le_of_ble_eq_true rfl) (Nat.le_of_ble_eq_true rfl) (fun H h => ⟨by rw [fd_at hi hall hl2], fr2, h⟩)
      · have hl3 : layB fv T i 8 0 fc = false := by simpa using hl2
        refine J.if_eq (μ := mX6_fewestBySearch) (pc := 44) 49 dX6_fewestBySearch_44 (by decide) (fun _ => ?_) (fun q => absurd (show bi (layB fv T i 8 0 fc) = 0 by rw [hl3]; rfl) q)
        refine J.iinc (μ := mX6_fewestBySearch) (pc := 49) (v := 1) dX6_fewestBySearch_49 rfl (by decide) (Nat.le_of_ble_eq_true rfl) rfl ?_
        refine J.goto (μ := mX6_fewestBySearch) (pc := 52) 8 dX6_fewestBySearch_52 (by decide) ?_
        exact J.sub (by simp [lsub, fin3, nI_succ]) (J.of (fun H h => ⟨all_succ hall hl3, fr2, h⟩) ih)
