/-! descent: what follow, shelvedFamily and the table answer -/
theorem rmOK {d d' k n m : Nat} (h : d + 1 ≤ d') (hm : m ≤ 45) : d + 1 ≤ (rmD d' k n).frames ∧ 8 + (m + 11) + 64 * d ≤ (rmD d' k n).locals := ⟨h, by show _ ≤ 64 * d'; omega⟩
theorem stk_hi {o : Nat} (ho : IsStk o) : o + 26 ≤ 289 := by
  have h1 := (shape_lt (ho 25 (by decide))).1
  have h2 : ∀ o, o < 282 → shape o = some (stkSh o 0) → o + 26 ≤ 289 := by decide +kernel
  exact h2 o (by omega) (ho 0 (by decide))
theorem nI_mul (a b : Nat) : nI a * nI b = nI (a * b) := (Int32.ofNat_mul a b).symm
theorem nI_cell (i j : Nat) : nI i * 20 + nI j = nI (20 * i + j) := by
  rw [show (20 : Int32) = nI 20 from rfl, nI_mul, nI_add, Nat.mul_comm i 20]
def parB (v : Vs) (o a b : Nat) : Bool := decide (gP1 v o (nI b) = nI a ∨ gP2 v o (nI b) = nI a)
/-- the bit i of a set -/
abbrev bq (s : Int32) (i : Nat) : Int32 := (s >>> (nI i &&& 31)) &&& 1
def foS (p : Nat → Int32 → Int32) (a : Nat) : Nat → Int32 → Int32
  | 0, s => s
  | i + 1, s => p (a + 1 + i) (foS p a i s)
def fo (v : Vs) (o N : Nat) : Nat → Nat → Int32 → Int32
  | 0, _, s => s
  | f + 1, a, s => foS (fun i t => if (gP1 v o (nI i) = nI a ∨ gP2 v o (nI i) = nI a) ∧ bq t i = 0 then fo v o N f i (t ||| 1 <<< (nI i &&& 31)) else t) a (N - (a + 1)) s
theorem s_X2_follow {γ : Gm} {v : Vs} {o : Nat} (ho : IsStk o) {N : Nat} (hN : v (o + 8) 7 = nI N) (h20 : N ≤ 20) : ∀ (f : Nat), f ≤ 20 → ∀ (a : Nat), a ≤ 100 → ∀ (s : Int32), Er γ mX2_follow yX2_follow (f + 2) [.ref (gz γ + (o + 8)), .int (nI a), .int s, .int (nI (20 - f))] v (.int (fo v o N f a s)) := by
  intro f
  induction f with
  | zero =>
    intro _ a ha s
    refine Ev.ofJ (by decide) rfl (fun h => by cases h) (Nat.le_of_ble_eq_true rfl) ?_
    refine J.iload_n (μ := mX2_follow) (pc := 0) dX2_follow_0 rfl ?_
    refine J.istore (μ := mX2_follow) (pc := 1) dX2_follow_1 (Nat.le_of_ble_eq_true rfl) rfl ?_
    refine J.iload_n (μ := mX2_follow) (pc := 3) dX2_follow_3 rfl ?_
    refine J.bipush (μ := mX2_follow) (pc := 4) (v := 20) dX2_follow_4 (by decide) ?_
    refine J.icmp_ge (μ := mX2_follow) (pc := 6) 67 dX2_follow_6 (by decide) (fun hc => ?_) (fun hc => ?_)
    · refine J.iload (μ := mX2_follow) (pc := 67) dX2_follow_67 rfl ?_
      exact J.iret (μ := mX2_follow) (pc := 69) dX2_follow_69 rfl (Nat.le_of_ble_eq_true rfl) (Nat.le_of_ble_eq_true rfl) (fun H h => ⟨rfl, h⟩)
    · exact absurd hc (by decide)
  | succ f ih =>
    intro hf a ha s
    refine Ev.ofJ (by decide) rfl (fun h => by cases h) (Nat.le_of_ble_eq_true rfl) ?_
    refine J.iload_n (μ := mX2_follow) (pc := 0) dX2_follow_0 rfl ?_
    refine J.istore (μ := mX2_follow) (pc := 1) dX2_follow_1 (Nat.le_of_ble_eq_true rfl) rfl ?_
    refine J.iload_n (μ := mX2_follow) (pc := 3) dX2_follow_3 rfl ?_
    refine J.bipush (μ := mX2_follow) (pc := 4) (v := 20) dX2_follow_4 (by decide) ?_
    refine J.icmp_ge (μ := mX2_follow) (pc := 6) 67 dX2_follow_6 (by decide) (fun hc => ?_) (fun hc => ?_)
    · exact absurd hc (nI_nle_of (b := 20) (by omega) (by omega))
    · refine J.iload_n (μ := mX2_follow) (pc := 9) dX2_follow_9 rfl ?_
      refine J.iconst (μ := mX2_follow) (pc := 10) (v := 1) dX2_follow_10 (by decide) ?_
      refine J.iadd (μ := mX2_follow) (pc := 11) dX2_follow_11 ?_
      refine J.istore (μ := mX2_follow) (pc := 12) dX2_follow_12 (Nat.le_of_ble_eq_true rfl) rfl ?_
      rw [nI_1 a]
      refine J.for (Lf := fun i => [some (.ref (gz γ + (o + 8))), some (.int (nI a)), some (.int s), some (.int (nI (20 - (f + 1)))), some (.int (foS (fun i t => if (gP1 v o (nI i) = nI a ∨ gP2 v o (nI i) = nI a) ∧ bq t i = 0 then fo v o N f i (t ||| 1 <<< (nI i &&& 31)) else t) a i s)), some (.int (nI (a + 1 + i)))]) (Pf := fun _ => Rp γ v) (N - (a + 1)) ?_ (fun i hi ih2 => ?_)
      · refine J.iload (μ := mX2_follow) (pc := 14) dX2_follow_14 rfl ?_
        refine J.aload_n (μ := mX2_follow) (pc := 16) dX2_follow_16 rfl ?_
        refine J.gi (μ := mX2_follow) (pc := 17) (T := TX5) (ci := 8) (fks := _) rfl rfl in_X5 7 (by decide) wf_X2_24 dX2_follow_17 (ho 8 (by decide)) rfl ?_
        rw [hN]
        refine J.icmp_ge (μ := mX2_follow) (pc := 20) 67 dX2_follow_20 (by decide) (fun hc2 => ?_) (fun hc2 => ?_)
        · refine J.iload (μ := mX2_follow) (pc := 67) dX2_follow_67 rfl ?_
          exact J.iret (μ := mX2_follow) (pc := 69) dX2_follow_69 rfl (Nat.le_of_ble_eq_true rfl) (Nat.le_of_ble_eq_true rfl) (fun H h => ⟨rfl, h⟩)
        · exact absurd hc2 (nI_nlt_of (by omega) (by omega))
      · refine J.iload (μ := mX2_follow) (pc := 14) dX2_follow_14 rfl ?_
        refine J.aload_n (μ := mX2_follow) (pc := 16) dX2_follow_16 rfl ?_
        refine J.gi (μ := mX2_follow) (pc := 17) (T := TX5) (ci := 8) (fks := _) rfl rfl in_X5 7 (by decide) wf_X2_24 dX2_follow_17 (ho 8 (by decide)) rfl ?_
        rw [hN]
        refine J.icmp_ge (μ := mX2_follow) (pc := 20) 67 dX2_follow_20 (by decide) (fun hc2 => ?_) (fun hc2 => ?_)
        · exact absurd hc2 (nI_nle_of (by omega) (by omega))
        · refine J.aload_n (μ := mX2_follow) (pc := 23) dX2_follow_23 rfl ?_
          refine J.iload_n (μ := mX2_follow) (pc := 24) dX2_follow_24 rfl ?_
          refine J.iload (μ := mX2_follow) (pc := 25) dX2_follow_25 rfl ?_
          refine J.cV (μ := mX2_follow) (pc := 27) (s_X5_isParent ho  _ _) rfl wm_X2_30 mi_X5_isParent rfl dX2_follow_27 (Rp.isa (T := TX5) rfl (ho 8 (by decide))) rfl rfl (rmOK (by omega) (by decide)) ⟨(Nat.le_of_ble_eq_true rfl), (Nat.le_of_ble_eq_true rfl)⟩ (Nat.le_of_ble_eq_true rfl) ?_
          refine J.ifB_eq (μ := mX2_follow) (pc := 30) 61 dX2_follow_30 (by decide) (fun h1 => ?_) (fun h1 => ?_)
          · refine J.iinc (μ := mX2_follow) (pc := 61) (v := 1) dX2_follow_61 rfl (by decide) (Nat.le_of_ble_eq_true rfl) rfl ?_
            refine J.goto (μ := mX2_follow) (pc := 64) 14 dX2_follow_64 (by decide) ?_
            refine J.sub ?_ ih2
            exact ⟨rfl, rfl, rfl, rfl, by simp only [foS]; rw [if_neg (fun h => h1 h.1)], by rw [nI_1]; rfl, trivial⟩
          · refine J.iload (μ := mX2_follow) (pc := 33) dX2_follow_33 rfl ?_
            refine J.iload (μ := mX2_follow) (pc := 35) dX2_follow_35 rfl ?_
            refine J.ishr (μ := mX2_follow) (pc := 37) dX2_follow_37 ?_
            refine J.iconst (μ := mX2_follow) (pc := 38) (v := 1) dX2_follow_38 (by decide) ?_
            refine J.iand (μ := mX2_follow) (pc := 39) dX2_follow_39 ?_
            refine J.if_ne (μ := mX2_follow) (pc := 40) 61 dX2_follow_40 (by decide) (fun h2 => ?_) (fun h2 => ?_)
            · refine J.iinc (μ := mX2_follow) (pc := 61) (v := 1) dX2_follow_61 rfl (by decide) (Nat.le_of_ble_eq_true rfl) rfl ?_
              refine J.goto (μ := mX2_follow) (pc := 64) 14 dX2_follow_64 (by decide) ?_
              refine J.sub ?_ ih2
              exact ⟨rfl, rfl, rfl, rfl, by simp only [foS]; rw [if_neg (fun h => h2 h.2)], by rw [nI_1]; rfl, trivial⟩
            · refine J.aload_n (μ := mX2_follow) (pc := 43) dX2_follow_43 rfl ?_
              refine J.iload (μ := mX2_follow) (pc := 44) dX2_follow_44 rfl ?_
              refine J.iload (μ := mX2_follow) (pc := 46) dX2_follow_46 rfl ?_
              refine J.iconst (μ := mX2_follow) (pc := 48) (v := 1) dX2_follow_48 (by decide) ?_
              refine J.iload (μ := mX2_follow) (pc := 49) dX2_follow_49 rfl ?_
              refine J.ishl (μ := mX2_follow) (pc := 51) dX2_follow_51 ?_
              refine J.ior (μ := mX2_follow) (pc := 52) dX2_follow_52 ?_
              refine J.iload_n (μ := mX2_follow) (pc := 53) dX2_follow_53 rfl ?_
              refine J.iconst (μ := mX2_follow) (pc := 54) (v := 1) dX2_follow_54 (by decide) ?_
              refine J.iadd (μ := mX2_follow) (pc := 55) dX2_follow_55 ?_
              rw [show nI (20 - (f + 1)) + 1 = nI (20 - f) by rw [nI_1]; congr 1; omega]
              refine J.cS (μ := mX2_follow) (pc := 56) (ih (by omega) (a + 1 + i) (by omega) _) rfl wm_X2_20 mi_X2_follow rfl dX2_follow_56 rfl rfl (rmOK (by omega) (by decide)) ⟨(Nat.le_of_ble_eq_true rfl), (Nat.le_of_ble_eq_true rfl)⟩ (Nat.le_of_ble_eq_true rfl) ?_
              refine J.istore (μ := mX2_follow) (pc := 59) dX2_follow_59 (Nat.le_of_ble_eq_true rfl) rfl ?_
              refine J.iinc (μ := mX2_follow) (pc := 61) (v := 1) dX2_follow_61 rfl (by decide) (Nat.le_of_ble_eq_true rfl) rfl ?_
              refine J.goto (μ := mX2_follow) (pc := 64) 14 dX2_follow_64 (by decide) ?_
              refine J.sub ?_ ih2
              exact ⟨rfl, rfl, rfl, rfl, by simp only [foS]; rw [if_pos ⟨h1, h2⟩], by rw [nI_1]; rfl, trivial⟩
theorem s_X2_setInDepth {γ : Gm} {v : Vs} {o : Nat} (ho : IsStk o) {N : Nat} (hN : v (o + 8) 7 = nI N) (h20 : N ≤ 20) {a : Nat} (ha : a ≤ 100) : Er γ mX2_setInDepth yX2_setInDepth 23 [.ref (gz γ + (o + 8)), .int (nI a)] v (.int (fo v o N 20 a 0)) := by
  have hf := s_X2_follow (γ := γ) ho hN h20 20 (Nat.le_refl _) a ha 0
  rw [show nI (20 - 20) = 0 by decide +kernel] at hf
  refine Ev.ofJ (by decide) rfl (fun h => by cases h) (Nat.le_of_ble_eq_true rfl) ?_
  refine J.aload_n (μ := mX2_setInDepth) (pc := 0) dX2_setInDepth_0 rfl ?_
  refine J.iload_n (μ := mX2_setInDepth) (pc := 1) dX2_setInDepth_1 rfl ?_
  refine J.iconst (μ := mX2_setInDepth) (pc := 2) (v := 0) dX2_setInDepth_2 (by decide) ?_
  refine J.iconst (μ := mX2_setInDepth) (pc := 3) (v := 0) dX2_setInDepth_3 (by decide) ?_
  refine J.cS (μ := mX2_setInDepth) (pc := 4) (hf) rfl wm_X2_20 mi_X2_follow rfl dX2_setInDepth_4 rfl rfl ⟨(Nat.le_of_ble_eq_true rfl), (Nat.le_of_ble_eq_true rfl)⟩ ⟨(Nat.le_of_ble_eq_true rfl), (Nat.le_of_ble_eq_true rfl)⟩ (Nat.le_of_ble_eq_true rfl) ?_
  exact J.iret (μ := mX2_setInDepth) (pc := 7) dX2_setInDepth_7 rfl (Nat.le_of_ble_eq_true rfl) (Nat.le_of_ble_eq_true rfl) (fun H h => ⟨rfl, h⟩)
def fmS (v : Vs) (o : Nat) (s : Int32) : Nat → Int32
  | 0 => s
  | i + 1 => if 0 ≤ gPl v o (nI i) then fmS v o s i else fmS v o s i &&& (1 <<< (nI i &&& 31) ^^^ -1)
/-- a lot and its descendants, those on shelves -/
def fam (v : Vs) (o N a : Nat) : Int32 := fmS v o (fo v o N 20 a (1 <<< (nI a &&& 31))) N
theorem s_X2_shelvedFamily {γ : Gm} {v : Vs} {o : Nat} (ho : IsStk o) {N : Nat} (hN : v (o + 8) 7 = nI N) (h20 : N ≤ 20) {a : Nat} (ha : a ≤ 100) : Er γ mX2_shelvedFamily yX2_shelvedFamily 23 [.ref (gz γ + (o + 8)), .int (nI a)] v (.int (fam v o N a)) := by
  have hf := s_X2_follow (γ := γ) ho hN h20 20 (Nat.le_refl _) a ha (1 <<< (nI a &&& 31))
  rw [show nI (20 - 20) = 0 by decide +kernel] at hf
  refine Ev.ofJ (by decide) rfl (fun h => by cases h) (Nat.le_of_ble_eq_true rfl) ?_
  refine J.aload_n (μ := mX2_shelvedFamily) (pc := 0) dX2_shelvedFamily_0 rfl ?_
  refine J.iload_n (μ := mX2_shelvedFamily) (pc := 1) dX2_shelvedFamily_1 rfl ?_
  refine J.iconst (μ := mX2_shelvedFamily) (pc := 2) (v := 1) dX2_shelvedFamily_2 (by decide) ?_
  refine J.iload_n (μ := mX2_shelvedFamily) (pc := 3) dX2_shelvedFamily_3 rfl ?_
  refine J.ishl (μ := mX2_shelvedFamily) (pc := 4) dX2_shelvedFamily_4 ?_
  refine J.iconst (μ := mX2_shelvedFamily) (pc := 5) (v := 0) dX2_shelvedFamily_5 (by decide) ?_
  refine J.cS (μ := mX2_shelvedFamily) (pc := 6) (hf) rfl wm_X2_20 mi_X2_follow rfl dX2_shelvedFamily_6 rfl rfl ⟨(Nat.le_of_ble_eq_true rfl), (Nat.le_of_ble_eq_true rfl)⟩ ⟨(Nat.le_of_ble_eq_true rfl), (Nat.le_of_ble_eq_true rfl)⟩ (Nat.le_of_ble_eq_true rfl) ?_
  refine J.istore_n (μ := mX2_shelvedFamily) (pc := 9) dX2_shelvedFamily_9 (Nat.le_of_ble_eq_true rfl) rfl ?_
  refine J.iconst (μ := mX2_shelvedFamily) (pc := 10) (v := 0) dX2_shelvedFamily_10 (by decide) ?_
  refine J.istore_n (μ := mX2_shelvedFamily) (pc := 11) dX2_shelvedFamily_11 (Nat.le_of_ble_eq_true rfl) rfl ?_
  refine J.for (Lf := fun i => [some (.ref (gz γ + (o + 8))), some (.int (nI a)), some (.int (fmS v o (fo v o N 20 a (1 <<< (nI a &&& 31))) i)), some (.int (nI i))]) (Pf := fun _ => Rp γ v) N ?_ (fun i hi ih => ?_)
  · refine J.iload_n (μ := mX2_shelvedFamily) (pc := 12) dX2_shelvedFamily_12 rfl ?_
    refine J.aload_n (μ := mX2_shelvedFamily) (pc := 13) dX2_shelvedFamily_13 rfl ?_
    refine J.gi (μ := mX2_shelvedFamily) (pc := 14) (T := TX5) (ci := 8) (fks := _) rfl rfl in_X5 7 (by decide) wf_X2_24 dX2_shelvedFamily_14 (ho 8 (by decide)) rfl ?_
    rw [hN]
    refine J.icmp_ge (μ := mX2_shelvedFamily) (pc := 17) 42 dX2_shelvedFamily_17 (by decide) (fun hc => ?_) (fun hc => ?_)
    · refine J.iload_n (μ := mX2_shelvedFamily) (pc := 42) dX2_shelvedFamily_42 rfl ?_
      exact J.iret (μ := mX2_shelvedFamily) (pc := 43) dX2_shelvedFamily_43 rfl (Nat.le_of_ble_eq_true rfl) (Nat.le_of_ble_eq_true rfl) (fun H h => ⟨rfl, h⟩)
    · exact absurd hc (nI_nlt_of (Nat.le_refl N) (by omega))
  · refine J.iload_n (μ := mX2_shelvedFamily) (pc := 12) dX2_shelvedFamily_12 rfl ?_
    refine J.aload_n (μ := mX2_shelvedFamily) (pc := 13) dX2_shelvedFamily_13 rfl ?_
    refine J.gi (μ := mX2_shelvedFamily) (pc := 14) (T := TX5) (ci := 8) (fks := _) rfl rfl in_X5 7 (by decide) wf_X2_24 dX2_shelvedFamily_14 (ho 8 (by decide)) rfl ?_
    rw [hN]
    refine J.icmp_ge (μ := mX2_shelvedFamily) (pc := 17) 42 dX2_shelvedFamily_17 (by decide) (fun hc => ?_) (fun hc => ?_)
    · exact absurd hc (nI_nle_of hi (by omega))
    · refine J.aload_n (μ := mX2_shelvedFamily) (pc := 20) dX2_shelvedFamily_20 rfl ?_
      refine J.iload_n (μ := mX2_shelvedFamily) (pc := 21) dX2_shelvedFamily_21 rfl ?_
      refine J.cV (μ := mX2_shelvedFamily) (pc := 22) (s_X5_isShelved ho  _) rfl wm_X2_34 mi_X5_isShelved rfl dX2_shelvedFamily_22 (Rp.isa (T := TX5) rfl (ho 8 (by decide))) rfl rfl ⟨(Nat.le_of_ble_eq_true rfl), (Nat.le_of_ble_eq_true rfl)⟩ ⟨(Nat.le_of_ble_eq_true rfl), (Nat.le_of_ble_eq_true rfl)⟩ (Nat.le_of_ble_eq_true rfl) ?_
      refine J.ifB_ne (μ := mX2_shelvedFamily) (pc := 25) 36 dX2_shelvedFamily_25 (by decide) (fun c4 => ?_) (fun c4 => ?_)
      · refine J.iinc (μ := mX2_shelvedFamily) (pc := 36) (v := 1) dX2_shelvedFamily_36 rfl (by decide) (Nat.le_of_ble_eq_true rfl) rfl ?_
        refine J.goto (μ := mX2_shelvedFamily) (pc := 39) 12 dX2_shelvedFamily_39 (by decide) ?_
        exact J.sub (by simp [lsub, fmS, nI_succ, *]) ih
      · refine J.iload_n (μ := mX2_shelvedFamily) (pc := 28) dX2_shelvedFamily_28 rfl ?_
        refine J.iconst (μ := mX2_shelvedFamily) (pc := 29) (v := 1) dX2_shelvedFamily_29 (by decide) ?_
        refine J.iload_n (μ := mX2_shelvedFamily) (pc := 30) dX2_shelvedFamily_30 rfl ?_
        refine J.ishl (μ := mX2_shelvedFamily) (pc := 31) dX2_shelvedFamily_31 ?_
        refine J.iconst (μ := mX2_shelvedFamily) (pc := 32) (v := -1) dX2_shelvedFamily_32 (by decide) ?_
        refine J.ixor (μ := mX2_shelvedFamily) (pc := 33) dX2_shelvedFamily_33 ?_
        refine J.iand (μ := mX2_shelvedFamily) (pc := 34) dX2_shelvedFamily_34 ?_
        refine J.istore_n (μ := mX2_shelvedFamily) (pc := 35) dX2_shelvedFamily_35 (Nat.le_of_ble_eq_true rfl) rfl ?_
        refine J.iinc (μ := mX2_shelvedFamily) (pc := 36) (v := 1) dX2_shelvedFamily_36 rfl (by decide) (Nat.le_of_ble_eq_true rfl) rfl ?_
        refine J.goto (μ := mX2_shelvedFamily) (pc := 39) 12 dX2_shelvedFamily_39 (by decide) ?_
        exact J.sub (by simp [lsub, fmS, nI_succ, *]) ih
/-- the table's numbers are g -/
def upT (v : Vs) (g : Nat → Int32) : Vs := fun k => if k = 292 then g else v k
theorem upT_self (v : Vs) : upT v (v 292) = v := funext fun k => by
  unfold upT
  split
  · rename_i h; rw [h]
  · rfl
theorem upT_o (v : Vs) (g : Nat → Int32) {k : Nat} (h : k ≠ 292) : upT v g k = v k := if_neg h
theorem upT_s (v : Vs) (g : Nat → Int32) : upT v g 292 = g := if_pos rfl
theorem rg_nI {f : Nat → Int32} {n k : Nat} (h : k < n) (hn : n ≤ 1000) : rg f n (nI k) = f k := by
  unfold rg
  rw [if_pos ⟨nI_pos' (by omega), nI_lt h (by omega)⟩, nI_clamp (by omega)]
theorem rs_nI {v : Vs} {a n k : Nat} {x : Int32} (h : k < n) (hn : n ≤ 1000) : rs v a n (nI k) x = up2 v a k x := by
  unfold rs
  rw [if_pos ⟨nI_pos' (by omega), nI_lt h (by omega)⟩, nI_clamp (by omega)]
theorem rs_T {v : Vs} {g : Nat → Int32} {k : Nat} {x : Int32} (h : k < 400) : rs (upT v g) 292 400 (nI k) x = upT v (upd g k x) := by
  rw [rs_nI h (by omega)]
  funext k'
  unfold up2 upT
  by_cases e : k' = 292
  · rw [if_pos e, if_pos e, if_pos rfl]
  · rw [if_neg e, if_neg e, if_neg e]
theorem bi_1 {b : Bool} : bi b = 1 ↔ b = true := by cases b <;> simp [bi]
theorem s_X2_cell {γ : Gm} {v : Vs} (x y : Int32) : Er γ mX2_cell yX2_cell 0 [.int x, .int y] v (.int (x * 20 + y)) := by
  refine Ev.ofJ (by decide) rfl (fun h => by cases h) (Nat.le_of_ble_eq_true rfl) ?_
  refine J.iload_n (μ := mX2_cell) (pc := 0) dX2_cell_0 rfl ?_
  refine J.bipush (μ := mX2_cell) (pc := 1) (v := 20) dX2_cell_1 (by decide) ?_
  refine J.imul (μ := mX2_cell) (pc := 3) dX2_cell_3 ?_
  refine J.iload_n (μ := mX2_cell) (pc := 4) dX2_cell_4 rfl ?_
  refine J.iadd (μ := mX2_cell) (pc := 5) dX2_cell_5 ?_
  exact J.iret (μ := mX2_cell) (pc := 6) dX2_cell_6 rfl (Nat.le_of_ble_eq_true rfl) (Nat.le_of_ble_eq_true rfl) (fun H h => ⟨rfl, h⟩)
theorem s_X2_enterParents {γ : Gm} {v : Vs} {o : Nat} (ho : IsStk o) {N : Nat} (hN : v (o + 8) 7 = nI N) (h20 : N ≤ 20) : Ev γ mX2_enterParents yX2_enterParents 2 0 0 [.ref (gz γ + 290), .ref (gz γ + (o + 8))] (Rp γ v) (fun w H => w = none ∧ ∃ g, (∀ a, a < N → ∀ b, b < N → g (20 * a + b) = bi (parB v o a b)) ∧ Rp γ (upT v g) H) := by
  have hi9 := stk_hi ho
  have hNT : ∀ g, upT v g (o + 8) 7 = nI N := fun g => by rw [upT_o v g (by omega)]; exact hN
  have hpar : ∀ g (a b : Nat), (gP1 (upT v g) o (nI b) = nI a ∨ gP2 (upT v g) o (nI b) = nI a) ↔ parB v o a b = true := fun g a b => by
    unfold parB gP1 gP2
    rw [upT_o v g (by omega), upT_o v g (by omega), decide_eq_true_iff]
  refine Ev.ofJ (by decide) rfl (fun h => by cases h) (Nat.le_of_ble_eq_true rfl) ?_
  refine J.iconst (μ := mX2_enterParents) (pc := 0) (v := 0) dX2_enterParents_0 (by decide) ?_
  refine J.istore_n (μ := mX2_enterParents) (pc := 1) dX2_enterParents_1 (Nat.le_of_ble_eq_true rfl) rfl ?_
  refine J.of (P' := fun H => ∃ g, (∀ a, a < 0 → ∀ b, b < N → g (20 * a + b) = bi (parB v o a b)) ∧ Rp γ (upT v g) H) (fun H h => ⟨v 292, fun a ha => absurd ha (Nat.not_lt_zero a), by rw [upT_self]; exact h⟩) ?_
  refine J.for (Lf := fun i => [some (.ref (gz γ + 290)), some (.ref (gz γ + (o + 8))), some (.int (nI i)), none]) (Pf := fun i H => ∃ g, (∀ a, a < i → ∀ b, b < N → g (20 * a + b) = bi (parB v o a b)) ∧ Rp γ (upT v g) H) N (J.ex fun g => J.and fun hg => ?_) (fun i hi ih => J.ex fun g => J.and fun hg => ?_)
  · refine J.iload_n (μ := mX2_enterParents) (pc := 2) dX2_enterParents_2 rfl ?_
    refine J.aload_n (μ := mX2_enterParents) (pc := 3) dX2_enterParents_3 rfl ?_
    refine J.gi (μ := mX2_enterParents) (pc := 4) (T := TX5) (ci := 8) (fks := _) rfl rfl in_X5 7 (by decide) wf_X2_24 dX2_enterParents_4 (ho 8 (by decide)) rfl ?_
    rw [hNT]
    refine J.icmp_ge (μ := mX2_enterParents) (pc := 7) 58 dX2_enterParents_7 (by decide) (fun hc => ?_) (fun hc => ?_)
    · exact J.vret (μ := mX2_enterParents) (pc := 58) dX2_enterParents_58 rfl (Nat.le_of_ble_eq_true rfl) (Nat.le_of_ble_eq_true rfl) (fun H h => ⟨rfl, g, hg, h⟩)
    · exact absurd hc (nI_nlt_of (Nat.le_refl N) (by omega))
  · refine J.iload_n (μ := mX2_enterParents) (pc := 2) dX2_enterParents_2 rfl ?_
    refine J.aload_n (μ := mX2_enterParents) (pc := 3) dX2_enterParents_3 rfl ?_
    refine J.gi (μ := mX2_enterParents) (pc := 4) (T := TX5) (ci := 8) (fks := _) rfl rfl in_X5 7 (by decide) wf_X2_24 dX2_enterParents_4 (ho 8 (by decide)) rfl ?_
    rw [hNT]
    refine J.icmp_ge (μ := mX2_enterParents) (pc := 7) 58 dX2_enterParents_7 (by decide) (fun hc => ?_) (fun hc => ?_)
    · exact absurd hc (nI_nle_of hi (by omega))
    · refine J.iconst (μ := mX2_enterParents) (pc := 10) (v := 0) dX2_enterParents_10 (by decide) ?_
      refine J.istore_n (μ := mX2_enterParents) (pc := 11) dX2_enterParents_11 (Nat.le_of_ble_eq_true rfl) rfl ?_
      refine J.of (P' := fun H => ∃ g, ((∀ a, a < i → ∀ b, b < N → g (20 * a + b) = bi (parB v o a b)) ∧ ∀ b, b < 0 → g (20 * i + b) = bi (parB v o i b)) ∧ Rp γ (upT v g) H) (fun H h => ⟨g, ⟨hg, fun b hb => absurd hb (Nat.not_lt_zero b)⟩, h⟩) ?_
      refine J.for (Lf := fun j => [some (.ref (gz γ + 290)), some (.ref (gz γ + (o + 8))), some (.int (nI i)), some (.int (nI j))]) (Pf := fun j H => ∃ g, ((∀ a, a < i → ∀ b, b < N → g (20 * a + b) = bi (parB v o a b)) ∧ ∀ b, b < j → g (20 * i + b) = bi (parB v o i b)) ∧ Rp γ (upT v g) H) N (J.ex fun g => J.and fun hg => ?_) (fun j hj ih2 => J.ex fun g => J.and fun hg => ?_)
      · refine J.iload_n (μ := mX2_enterParents) (pc := 12) dX2_enterParents_12 rfl ?_
        refine J.aload_n (μ := mX2_enterParents) (pc := 13) dX2_enterParents_13 rfl ?_
        refine J.gi (μ := mX2_enterParents) (pc := 14) (T := TX5) (ci := 8) (fks := _) rfl rfl in_X5 7 (by decide) wf_X2_24 dX2_enterParents_14 (ho 8 (by decide)) rfl ?_
        rw [hNT]
        refine J.icmp_ge (μ := mX2_enterParents) (pc := 17) 52 dX2_enterParents_17 (by decide) (fun hc2 => ?_) (fun hc2 => ?_)
        · refine J.iinc (μ := mX2_enterParents) (pc := 52) (v := 1) dX2_enterParents_52 rfl (by decide) (Nat.le_of_ble_eq_true rfl) rfl ?_
          refine J.goto (μ := mX2_enterParents) (pc := 55) 2 dX2_enterParents_55 (by decide) ?_
          refine J.sub (by simp [lsub, nI_succ]) (J.of (fun H h => ⟨g, fun a ha b hb => ?_, h⟩) ih)
          rcases Nat.lt_succ_iff_lt_or_eq.mp ha with q | q
          · exact hg.1 a q b hb
          · rw [q]; exact hg.2 b hb
        · exact absurd hc2 (nI_nlt_of (Nat.le_refl N) (by omega))
      · have key : ∀ x, x = bi (parB v o i j) → ∀ H, Rp γ (rs (upT v g) 292 400 (nI i * 20 + nI j) x) H → ∃ g, ((∀ a, a < i → ∀ b, b < N → g (20 * a + b) = bi (parB v o a b)) ∧ ∀ b, b < j + 1 → g (20 * i + b) = bi (parB v o i b)) ∧ Rp γ (upT v g) H := by
          intro x hx H h
          rw [nI_cell, rs_T (by omega)] at h
          refine ⟨_, ⟨fun a ha b hb => ?_, fun b hb => ?_⟩, h⟩
          · unfold upd
            rw [if_neg (by omega)]
            exact hg.1 a ha b hb
          · unfold upd
            rcases Nat.lt_succ_iff_lt_or_eq.mp hb with q | q
            · rw [if_neg (by omega)]; exact hg.2 b q
            · rw [if_pos (by omega), q]; exact hx
        refine J.iload_n (μ := mX2_enterParents) (pc := 12) dX2_enterParents_12 rfl ?_
        refine J.aload_n (μ := mX2_enterParents) (pc := 13) dX2_enterParents_13 rfl ?_
        refine J.gi (μ := mX2_enterParents) (pc := 14) (T := TX5) (ci := 8) (fks := _) rfl rfl in_X5 7 (by decide) wf_X2_24 dX2_enterParents_14 (ho 8 (by decide)) rfl ?_
        rw [hNT]
        refine J.icmp_ge (μ := mX2_enterParents) (pc := 17) 52 dX2_enterParents_17 (by decide) (fun hc2 => ?_) (fun hc2 => ?_)
        · exact absurd hc2 (nI_nle_of hj (by omega))
        · refine J.aload_n (μ := mX2_enterParents) (pc := 20) dX2_enterParents_20 rfl ?_
          refine J.gr (μ := mX2_enterParents) (pc := 21) (T := TX2) (ci := 5) (fks := _) rfl rfl in_X2 0 (by decide) wf_X2_14 dX2_enterParents_21 sh290 rfl ?_
          refine J.iload_n (μ := mX2_enterParents) (pc := 24) dX2_enterParents_24 rfl ?_
          refine J.iload_n (μ := mX2_enterParents) (pc := 25) dX2_enterParents_25 rfl ?_
          refine J.cS (μ := mX2_enterParents) (pc := 26) (s_X2_cell _ _) rfl wm_X2_46 mi_X2_cell rfl dX2_enterParents_26 rfl rfl ⟨(Nat.le_of_ble_eq_true rfl), (Nat.le_of_ble_eq_true rfl)⟩ ⟨(Nat.le_of_ble_eq_true rfl), (Nat.le_of_ble_eq_true rfl)⟩ (Nat.le_of_ble_eq_true rfl) ?_
          refine J.aload_n (μ := mX2_enterParents) (pc := 29) dX2_enterParents_29 rfl ?_
          refine J.iload_n (μ := mX2_enterParents) (pc := 30) dX2_enterParents_30 rfl ?_
          refine J.iload_n (μ := mX2_enterParents) (pc := 31) dX2_enterParents_31 rfl ?_
          refine J.cV (μ := mX2_enterParents) (pc := 32) (s_X5_isParent ho  _ _) rfl wm_X2_30 mi_X5_isParent rfl dX2_enterParents_32 (Rp.isa (T := TX5) rfl (ho 8 (by decide))) rfl rfl ⟨(Nat.le_of_ble_eq_true rfl), (Nat.le_of_ble_eq_true rfl)⟩ ⟨(Nat.le_of_ble_eq_true rfl), (Nat.le_of_ble_eq_true rfl)⟩ (Nat.le_of_ble_eq_true rfl) ?_
          refine J.ifB_eq (μ := mX2_enterParents) (pc := 35) 42 dX2_enterParents_35 (by decide) (fun h1 => ?_) (fun h1 => ?_)
          · refine J.iconst (μ := mX2_enterParents) (pc := 42) (v := 0) dX2_enterParents_42 (by decide) ?_
            refine J.cV0 (μ := mX2_enterParents) (pc := 43) (s_X7_set row291 _ _) rfl wm_X2_54 mi_X7_set rfl dX2_enterParents_43 (Rp.isa (T := TX7) rfl row291.1) rfl rfl ⟨(Nat.le_of_ble_eq_true rfl), (Nat.le_of_ble_eq_true rfl)⟩ ⟨(Nat.le_of_ble_eq_true rfl), (Nat.le_of_ble_eq_true rfl)⟩ (Nat.le_of_ble_eq_true rfl) ?_
            refine J.iinc (μ := mX2_enterParents) (pc := 46) (v := 1) dX2_enterParents_46 rfl (by decide) (Nat.le_of_ble_eq_true rfl) rfl ?_
            refine J.goto (μ := mX2_enterParents) (pc := 49) 12 dX2_enterParents_49 (by decide) ?_
            exact J.sub (by simp [lsub, nI_succ]) (J.of (key 0 (by rw [hpar] at h1; simp [bi, h1])) ih2)
          · refine J.iconst (μ := mX2_enterParents) (pc := 38) (v := 1) dX2_enterParents_38 (by decide) ?_
            refine J.goto (μ := mX2_enterParents) (pc := 39) 43 dX2_enterParents_39 (by decide) ?_
            refine J.cV0 (μ := mX2_enterParents) (pc := 43) (s_X7_set row291 _ _) rfl wm_X2_54 mi_X7_set rfl dX2_enterParents_43 (Rp.isa (T := TX7) rfl row291.1) rfl rfl ⟨(Nat.le_of_ble_eq_true rfl), (Nat.le_of_ble_eq_true rfl)⟩ ⟨(Nat.le_of_ble_eq_true rfl), (Nat.le_of_ble_eq_true rfl)⟩ (Nat.le_of_ble_eq_true rfl) ?_
            refine J.iinc (μ := mX2_enterParents) (pc := 46) (v := 1) dX2_enterParents_46 rfl (by decide) (Nat.le_of_ble_eq_true rfl) rfl ?_
            refine J.goto (μ := mX2_enterParents) (pc := 49) 12 dX2_enterParents_49 (by decide) ?_
            exact J.sub (by simp [lsub, nI_succ]) (J.of (key 1 (by rw [hpar] at h1; simp [bi, h1])) ih2)
theorem s_X2_joinThrough {γ : Gm} {v : Vs} {g0 : Nat → Int32} {m N : Nat} (hm : m < N) (h20 : N ≤ 20) : Ev γ mX2_joinThrough yX2_joinThrough 2 0 0 [.ref (gz γ + 290), .int (nI m), .int (nI N)] (Rp γ (upT v g0)) (fun w H => w = none ∧ ∃ g, (∀ a, a < N → ∀ b, b < N → g (20 * a + b) = if g0 (20 * a + m) = 1 ∧ g0 (20 * m + b) = 1 then 1 else g0 (20 * a + b)) ∧ Rp γ (upT v g) H) := by
  have hrd : ∀ g k, k < 400 → rg (upT v g (291 + 1)) 400 (nI k) = g k := fun g k hk => by rw [rg_nI hk (by omega)]; exact congrFun (upT_s v g) k
  refine Ev.ofJ (by decide) rfl (fun h => by cases h) (Nat.le_of_ble_eq_true rfl) ?_
  refine J.iconst (μ := mX2_joinThrough) (pc := 0) (v := 0) dX2_joinThrough_0 (by decide) ?_
  refine J.istore_n (μ := mX2_joinThrough) (pc := 1) dX2_joinThrough_1 (Nat.le_of_ble_eq_true rfl) rfl ?_
  refine J.of (P' := fun H => ∃ g, (∀ a, a < N → ∀ b, b < N → g (20 * a + b) = if a < 0 ∧ g0 (20 * a + m) = 1 ∧ g0 (20 * m + b) = 1 then 1 else g0 (20 * a + b)) ∧ Rp γ (upT v g) H) (fun H h => ⟨g0, fun a ha b hb => by rw [if_neg (fun h => absurd h.1 (Nat.not_lt_zero _))], h⟩) ?_
  refine J.for (Lf := fun i => [some (.ref (gz γ + 290)), some (.int (nI m)), some (.int (nI N)), some (.int (nI i)), none]) (Pf := fun i H => ∃ g, (∀ a, a < N → ∀ b, b < N → g (20 * a + b) = if a < i ∧ g0 (20 * a + m) = 1 ∧ g0 (20 * m + b) = 1 then 1 else g0 (20 * a + b)) ∧ Rp γ (upT v g) H) N (J.ex fun g => J.and fun hg => ?_) (fun i hi ih => J.ex fun g => J.and fun hg => ?_)
  · refine J.iload_n (μ := mX2_joinThrough) (pc := 2) dX2_joinThrough_2 rfl ?_
    refine J.iload_n (μ := mX2_joinThrough) (pc := 3) dX2_joinThrough_3 rfl ?_
    refine J.icmp_ge (μ := mX2_joinThrough) (pc := 4) 75 dX2_joinThrough_4 (by decide) (fun hc => ?_) (fun hc => ?_)
    · exact J.vret (μ := mX2_joinThrough) (pc := 75) dX2_joinThrough_75 rfl (Nat.le_of_ble_eq_true rfl) (Nat.le_of_ble_eq_true rfl) (fun H h => ⟨rfl, g, fun a ha b hb => by rw [hg a ha b hb]; simp [ha], h⟩)
    · exact absurd hc (nI_nlt_of (Nat.le_refl N) (by omega))
  · refine J.iload_n (μ := mX2_joinThrough) (pc := 2) dX2_joinThrough_2 rfl ?_
    refine J.iload_n (μ := mX2_joinThrough) (pc := 3) dX2_joinThrough_3 rfl ?_
    refine J.icmp_ge (μ := mX2_joinThrough) (pc := 4) 75 dX2_joinThrough_4 (by decide) (fun hc => ?_) (fun hc => ?_)
    · exact absurd hc (nI_nle_of hi (by omega))
    · refine J.aload_n (μ := mX2_joinThrough) (pc := 7) dX2_joinThrough_7 rfl ?_
      refine J.gr (μ := mX2_joinThrough) (pc := 8) (T := TX2) (ci := 5) (fks := _) rfl rfl in_X2 0 (by decide) wf_X2_14 dX2_joinThrough_8 sh290 rfl ?_
      refine J.iload_n (μ := mX2_joinThrough) (pc := 11) dX2_joinThrough_11 rfl ?_
      refine J.iload_n (μ := mX2_joinThrough) (pc := 12) dX2_joinThrough_12 rfl ?_
      refine J.cS (μ := mX2_joinThrough) (pc := 13) (s_X2_cell _ _) rfl wm_X2_46 mi_X2_cell rfl dX2_joinThrough_13 rfl rfl ⟨(Nat.le_of_ble_eq_true rfl), (Nat.le_of_ble_eq_true rfl)⟩ ⟨(Nat.le_of_ble_eq_true rfl), (Nat.le_of_ble_eq_true rfl)⟩ (Nat.le_of_ble_eq_true rfl) ?_
      rw [nI_cell]
      refine J.cV (μ := mX2_joinThrough) (pc := 16) (s_X7_get row291 _) rfl wm_X2_50 mi_X7_get rfl dX2_joinThrough_16 (Rp.isa (T := TX7) rfl row291.1) rfl rfl ⟨(Nat.le_of_ble_eq_true rfl), (Nat.le_of_ble_eq_true rfl)⟩ ⟨(Nat.le_of_ble_eq_true rfl), (Nat.le_of_ble_eq_true rfl)⟩ (Nat.le_of_ble_eq_true rfl) ?_
      rw [hrd g _ (by omega), hg i hi m hm, if_neg (fun h => absurd h.1 (Nat.lt_irrefl _))]
      refine J.iconst (μ := mX2_joinThrough) (pc := 19) (v := 1) dX2_joinThrough_19 (by decide) ?_
      refine J.icmp_ne (μ := mX2_joinThrough) (pc := 20) 69 dX2_joinThrough_20 (by decide) (fun h1 => ?_) (fun h1 => ?_)
      · refine J.iinc (μ := mX2_joinThrough) (pc := 69) (v := 1) dX2_joinThrough_69 rfl (by decide) (Nat.le_of_ble_eq_true rfl) rfl ?_
        refine J.goto (μ := mX2_joinThrough) (pc := 72) 2 dX2_joinThrough_72 (by decide) ?_
        refine J.sub (by simp [lsub, nI_succ]) (J.of (fun H h => ⟨g, fun a ha b hb => ?_, h⟩) ih)
        rw [hg a ha b hb]
        by_cases e : a = i
        · subst e
          simp [h1]
        · simp [show a < i + 1 ↔ a < i by omega]
      · refine J.iconst (μ := mX2_joinThrough) (pc := 23) (v := 0) dX2_joinThrough_23 (by decide) ?_
        refine J.istore (μ := mX2_joinThrough) (pc := 24) dX2_joinThrough_24 (Nat.le_of_ble_eq_true rfl) rfl ?_
        refine J.of (P' := fun H => ∃ g, (∀ a, a < N → ∀ b, b < N → g (20 * a + b) = if (a < i ∧ g0 (20 * a + m) = 1 ∨ a = i ∧ b < 0) ∧ g0 (20 * m + b) = 1 then 1 else g0 (20 * a + b)) ∧ Rp γ (upT v g) H) (fun H h => ⟨g, fun a ha b hb => by rw [hg a ha b hb]; simp [and_assoc], h⟩) ?_
        refine J.for (Lf := fun j => [some (.ref (gz γ + 290)), some (.int (nI m)), some (.int (nI N)), some (.int (nI i)), some (.int (nI j))]) (Pf := fun j H => ∃ g, (∀ a, a < N → ∀ b, b < N → g (20 * a + b) = if (a < i ∧ g0 (20 * a + m) = 1 ∨ a = i ∧ b < j) ∧ g0 (20 * m + b) = 1 then 1 else g0 (20 * a + b)) ∧ Rp γ (upT v g) H) N (J.ex fun g => J.and fun hg => ?_) (fun j hj ih2 => J.ex fun g => J.and fun hg => ?_)
        · refine J.iload (μ := mX2_joinThrough) (pc := 26) dX2_joinThrough_26 rfl ?_
          refine J.iload_n (μ := mX2_joinThrough) (pc := 28) dX2_joinThrough_28 rfl ?_
          refine J.icmp_ge (μ := mX2_joinThrough) (pc := 29) 69 dX2_joinThrough_29 (by decide) (fun hc2 => ?_) (fun hc2 => ?_)
          · refine J.iinc (μ := mX2_joinThrough) (pc := 69) (v := 1) dX2_joinThrough_69 rfl (by decide) (Nat.le_of_ble_eq_true rfl) rfl ?_
            refine J.goto (μ := mX2_joinThrough) (pc := 72) 2 dX2_joinThrough_72 (by decide) ?_
            refine J.sub (by simp [lsub, nI_succ]) (J.of (fun H h => ⟨g, fun a ha b hb => ?_, h⟩) ih)
            rw [hg a ha b hb]
            by_cases e : a = i
            · subst e
              simp [h1, hb]
            · simp [show a < i + 1 ↔ a < i by omega, e, and_assoc]
          · exact absurd hc2 (nI_nlt_of (Nat.le_refl N) (by omega))
        · refine J.iload (μ := mX2_joinThrough) (pc := 26) dX2_joinThrough_26 rfl ?_
          refine J.iload_n (μ := mX2_joinThrough) (pc := 28) dX2_joinThrough_28 rfl ?_
          refine J.icmp_ge (μ := mX2_joinThrough) (pc := 29) 69 dX2_joinThrough_29 (by decide) (fun hc2 => ?_) (fun hc2 => ?_)
          · exact absurd hc2 (nI_nle_of hj (by omega))
          · refine J.aload_n (μ := mX2_joinThrough) (pc := 32) dX2_joinThrough_32 rfl ?_
            refine J.gr (μ := mX2_joinThrough) (pc := 33) (T := TX2) (ci := 5) (fks := _) rfl rfl in_X2 0 (by decide) wf_X2_14 dX2_joinThrough_33 sh290 rfl ?_
            refine J.iload_n (μ := mX2_joinThrough) (pc := 36) dX2_joinThrough_36 rfl ?_
            refine J.iload (μ := mX2_joinThrough) (pc := 37) dX2_joinThrough_37 rfl ?_
            refine J.cS (μ := mX2_joinThrough) (pc := 39) (s_X2_cell _ _) rfl wm_X2_46 mi_X2_cell rfl dX2_joinThrough_39 rfl rfl ⟨(Nat.le_of_ble_eq_true rfl), (Nat.le_of_ble_eq_true rfl)⟩ ⟨(Nat.le_of_ble_eq_true rfl), (Nat.le_of_ble_eq_true rfl)⟩ (Nat.le_of_ble_eq_true rfl) ?_
            rw [nI_cell]
            refine J.cV (μ := mX2_joinThrough) (pc := 42) (s_X7_get row291 _) rfl wm_X2_50 mi_X7_get rfl dX2_joinThrough_42 (Rp.isa (T := TX7) rfl row291.1) rfl rfl ⟨(Nat.le_of_ble_eq_true rfl), (Nat.le_of_ble_eq_true rfl)⟩ ⟨(Nat.le_of_ble_eq_true rfl), (Nat.le_of_ble_eq_true rfl)⟩ (Nat.le_of_ble_eq_true rfl) ?_
            rw [hrd g _ (by omega), hg m hm j hj]
            have hif : (if (m < i ∧ g0 (20 * m + m) = 1 ∨ m = i ∧ j < j) ∧ g0 (20 * m + j) = 1 then (1 : Int32) else g0 (20 * m + j)) = g0 (20 * m + j) := by
              split
              · rename_i h; exact h.2.symm
              · rfl
            rw [hif]
            refine J.iconst (μ := mX2_joinThrough) (pc := 45) (v := 1) dX2_joinThrough_45 (by decide) ?_
            refine J.icmp_ne (μ := mX2_joinThrough) (pc := 46) 63 dX2_joinThrough_46 (by decide) (fun h2 => ?_) (fun h2 => ?_)
            · refine J.iinc (μ := mX2_joinThrough) (pc := 63) (v := 1) dX2_joinThrough_63 rfl (by decide) (Nat.le_of_ble_eq_true rfl) rfl ?_
              refine J.goto (μ := mX2_joinThrough) (pc := 66) 26 dX2_joinThrough_66 (by decide) ?_
              refine J.sub (by simp [lsub, nI_succ]) (J.of (fun H h => ⟨g, fun a ha b hb => ?_, h⟩) ih2)
              rw [hg a ha b hb]
              by_cases e : b = j
              · subst e
                simp [h2]
              · simp [show b < j + 1 ↔ b < j by omega]
            · refine J.aload_n (μ := mX2_joinThrough) (pc := 49) dX2_joinThrough_49 rfl ?_
              refine J.gr (μ := mX2_joinThrough) (pc := 50) (T := TX2) (ci := 5) (fks := _) rfl rfl in_X2 0 (by decide) wf_X2_14 dX2_joinThrough_50 sh290 rfl ?_
              refine J.iload_n (μ := mX2_joinThrough) (pc := 53) dX2_joinThrough_53 rfl ?_
              refine J.iload (μ := mX2_joinThrough) (pc := 54) dX2_joinThrough_54 rfl ?_
              refine J.cS (μ := mX2_joinThrough) (pc := 56) (s_X2_cell _ _) rfl wm_X2_46 mi_X2_cell rfl dX2_joinThrough_56 rfl rfl ⟨(Nat.le_of_ble_eq_true rfl), (Nat.le_of_ble_eq_true rfl)⟩ ⟨(Nat.le_of_ble_eq_true rfl), (Nat.le_of_ble_eq_true rfl)⟩ (Nat.le_of_ble_eq_true rfl) ?_
              rw [nI_cell]
              refine J.iconst (μ := mX2_joinThrough) (pc := 59) (v := 1) dX2_joinThrough_59 (by decide) ?_
              refine J.cV0 (μ := mX2_joinThrough) (pc := 60) (s_X7_set row291 _ _) rfl wm_X2_54 mi_X7_set rfl dX2_joinThrough_60 (Rp.isa (T := TX7) rfl row291.1) rfl rfl ⟨(Nat.le_of_ble_eq_true rfl), (Nat.le_of_ble_eq_true rfl)⟩ ⟨(Nat.le_of_ble_eq_true rfl), (Nat.le_of_ble_eq_true rfl)⟩ (Nat.le_of_ble_eq_true rfl) ?_
              rw [rs_T (by omega)]
              refine J.iinc (μ := mX2_joinThrough) (pc := 63) (v := 1) dX2_joinThrough_63 rfl (by decide) (Nat.le_of_ble_eq_true rfl) rfl ?_
              refine J.goto (μ := mX2_joinThrough) (pc := 66) 26 dX2_joinThrough_66 (by decide) ?_
              refine J.sub (by simp [lsub, nI_succ]) (J.of (fun H h => ⟨_, fun a ha b hb => ?_, h⟩) ih2)
              unfold upd
              by_cases e : 20 * a + b = 20 * i + j
              · have e1 : a = i := by omega
                have e2 : b = j := by omega
                subst e1 e2
                rw [if_pos rfl, if_pos ⟨.inr ⟨rfl, by omega⟩, h2⟩]
              · rw [if_neg e, hg a ha b hb]
                by_cases e1 : a = i
                · subst e1
                  simp [show b < j + 1 ↔ b < j by omega]
                · simp [e1]
/-- a descends from b through lots below m alone -/
def fw (par : Nat → Nat → Bool) : Nat → Nat → Nat → Bool
  | 0, a, b => par a b
  | m + 1, a, b => fw par m a b || (fw par m a m && fw par m m b)
theorem s_X2_countByTable {γ : Gm} {v : Vs} {o : Nat} (ho : IsStk o) {N : Nat} (hN : v (o + 8) 7 = nI N) (h20 : N ≤ 20) {x : Nat} (hx : x < N) : Ev γ mX2_countByTable yX2_countByTable 3 0 0 [.ref (gz γ + 290), .ref (gz γ + (o + 8)), .int (nI x)] (Rp γ v) (fun w H => w = some (.int (nI (cn (fun j => fw (parB v o) N x j) N))) ∧ ∃ g, Rp γ (upT v g) H) := by
  have hi9 := stk_hi ho
  have hNT : ∀ g, upT v g (o + 8) 7 = nI N := fun g => by rw [upT_o v g (by omega)]; exact hN
  have hrd : ∀ g k, k < 400 → rg (upT v g (291 + 1)) 400 (nI k) = g k := fun g k hk => by rw [rg_nI hk (by omega)]; exact congrFun (upT_s v g) k
  refine Ev.ofJ (by decide) rfl (fun h => by cases h) (Nat.le_of_ble_eq_true rfl) ?_
  refine J.aload_n (μ := mX2_countByTable) (pc := 0) dX2_countByTable_0 rfl ?_
  refine J.aload_n (μ := mX2_countByTable) (pc := 1) dX2_countByTable_1 rfl ?_
  refine J.callV (μ := mX2_countByTable) (pc := 2) (s_X2_enterParents ho hN h20) rfl wm_X2_38 mi_X2_enterParents rfl dX2_countByTable_2 (Rp.isa (T := TX2) rfl sh290) rfl rfl ⟨(Nat.le_of_ble_eq_true rfl), (Nat.le_of_ble_eq_true rfl)⟩ ⟨(Nat.le_of_ble_eq_true rfl), (Nat.le_of_ble_eq_true rfl)⟩ (Nat.le_of_ble_eq_true rfl) (fun w => J.and (fun e => ?_))
  subst e
  refine J.iconst (μ := mX2_countByTable) (pc := 5) (v := 0) dX2_countByTable_5 (by decide) ?_
  refine J.istore_n (μ := mX2_countByTable) (pc := 6) dX2_countByTable_6 (Nat.le_of_ble_eq_true rfl) rfl ?_
  refine J.for (Lf := fun i => [some (.ref (gz γ + 290)), some (.ref (gz γ + (o + 8))), some (.int (nI x)), some (.int (nI i)), none]) (Pf := fun i H => ∃ g, (∀ a, a < N → ∀ b, b < N → g (20 * a + b) = bi (fw (parB v o) i a b)) ∧ Rp γ (upT v g) H) N (J.ex fun g => J.and fun hg => ?_) (fun i hi ih => J.ex fun g => J.and fun hg => ?_)
  · refine J.iload_n (μ := mX2_countByTable) (pc := 7) dX2_countByTable_7 rfl ?_
    refine J.aload_n (μ := mX2_countByTable) (pc := 8) dX2_countByTable_8 rfl ?_
    refine J.gi (μ := mX2_countByTable) (pc := 9) (T := TX5) (ci := 8) (fks := _) rfl rfl in_X5 7 (by decide) wf_X2_24 dX2_countByTable_9 (ho 8 (by decide)) rfl ?_
    rw [hNT]
    refine J.icmp_ge (μ := mX2_countByTable) (pc := 12) 30 dX2_countByTable_12 (by decide) (fun hc => ?_) (fun hc => ?_)
    · refine J.iconst (μ := mX2_countByTable) (pc := 30) (v := 0) dX2_countByTable_30 (by decide) ?_
      refine J.istore_n (μ := mX2_countByTable) (pc := 31) dX2_countByTable_31 (Nat.le_of_ble_eq_true rfl) rfl ?_
      refine J.iconst (μ := mX2_countByTable) (pc := 32) (v := 0) dX2_countByTable_32 (by decide) ?_
      refine J.istore (μ := mX2_countByTable) (pc := 33) dX2_countByTable_33 (Nat.le_of_ble_eq_true rfl) rfl ?_
      refine J.for (Lf := fun i => [some (.ref (gz γ + 290)), some (.ref (gz γ + (o + 8))), some (.int (nI x)), some (.int (nI (cn (fun j => fw (parB v o) N x j) i))), some (.int (nI i))]) (Pf := fun i => Rp γ (upT v g)) N ?_ (fun i hi ih => ?_)
      · refine J.iload (μ := mX2_countByTable) (pc := 35) dX2_countByTable_35 rfl ?_
        refine J.aload_n (μ := mX2_countByTable) (pc := 37) dX2_countByTable_37 rfl ?_
        refine J.gi (μ := mX2_countByTable) (pc := 38) (T := TX5) (ci := 8) (fks := _) rfl rfl in_X5 7 (by decide) wf_X2_24 dX2_countByTable_38 (ho 8 (by decide)) rfl ?_
        rw [hNT]
        refine J.icmp_ge (μ := mX2_countByTable) (pc := 41) 66 dX2_countByTable_41 (by decide) (fun hc2 => ?_) (fun hc2 => ?_)
        · refine J.iload_n (μ := mX2_countByTable) (pc := 66) dX2_countByTable_66 rfl ?_
          exact J.iret (μ := mX2_countByTable) (pc := 67) dX2_countByTable_67 rfl (Nat.le_of_ble_eq_true rfl) (Nat.le_of_ble_eq_true rfl) (fun H h => ⟨rfl, g, h⟩)
        · exact absurd hc2 (nI_nlt_of (Nat.le_refl N) (by omega))
      · refine J.iload (μ := mX2_countByTable) (pc := 35) dX2_countByTable_35 rfl ?_
        refine J.aload_n (μ := mX2_countByTable) (pc := 37) dX2_countByTable_37 rfl ?_
        refine J.gi (μ := mX2_countByTable) (pc := 38) (T := TX5) (ci := 8) (fks := _) rfl rfl in_X5 7 (by decide) wf_X2_24 dX2_countByTable_38 (ho 8 (by decide)) rfl ?_
        rw [hNT]
        refine J.icmp_ge (μ := mX2_countByTable) (pc := 41) 66 dX2_countByTable_41 (by decide) (fun hc2 => ?_) (fun hc2 => ?_)
        · exact absurd hc2 (nI_nle_of hi (by omega))
        · refine J.iload_n (μ := mX2_countByTable) (pc := 44) dX2_countByTable_44 rfl ?_
          refine J.aload_n (μ := mX2_countByTable) (pc := 45) dX2_countByTable_45 rfl ?_
          refine J.gr (μ := mX2_countByTable) (pc := 46) (T := TX2) (ci := 5) (fks := _) rfl rfl in_X2 0 (by decide) wf_X2_14 dX2_countByTable_46 sh290 rfl ?_
          refine J.iload_n (μ := mX2_countByTable) (pc := 49) dX2_countByTable_49 rfl ?_
          refine J.iload (μ := mX2_countByTable) (pc := 50) dX2_countByTable_50 rfl ?_
          refine J.cS (μ := mX2_countByTable) (pc := 52) (s_X2_cell _ _) rfl wm_X2_46 mi_X2_cell rfl dX2_countByTable_52 rfl rfl ⟨(Nat.le_of_ble_eq_true rfl), (Nat.le_of_ble_eq_true rfl)⟩ ⟨(Nat.le_of_ble_eq_true rfl), (Nat.le_of_ble_eq_true rfl)⟩ (Nat.le_of_ble_eq_true rfl) ?_
          rw [nI_cell]
          refine J.cV (μ := mX2_countByTable) (pc := 55) (s_X7_get row291 _) rfl wm_X2_50 mi_X7_get rfl dX2_countByTable_55 (Rp.isa (T := TX7) rfl row291.1) rfl rfl ⟨(Nat.le_of_ble_eq_true rfl), (Nat.le_of_ble_eq_true rfl)⟩ ⟨(Nat.le_of_ble_eq_true rfl), (Nat.le_of_ble_eq_true rfl)⟩ (Nat.le_of_ble_eq_true rfl) ?_
          rw [hrd g _ (by omega), hg x hx i hi]
          refine J.iadd (μ := mX2_countByTable) (pc := 58) dX2_countByTable_58 ?_
          refine J.istore_n (μ := mX2_countByTable) (pc := 59) dX2_countByTable_59 (Nat.le_of_ble_eq_true rfl) rfl ?_
          refine J.iinc (μ := mX2_countByTable) (pc := 60) (v := 1) dX2_countByTable_60 rfl (by decide) (Nat.le_of_ble_eq_true rfl) rfl ?_
          refine J.goto (μ := mX2_countByTable) (pc := 63) 35 dX2_countByTable_63 (by decide) ?_
          refine J.sub ?_ ih
          by_cases q : fw (parB v o) N x i = true
          · exact ⟨rfl, rfl, rfl, by simp [cn, q, bi, nI_succ], by rw [nI_succ], trivial⟩
          · exact ⟨rfl, rfl, rfl, by simp [cn, q, bi], by rw [nI_succ], trivial⟩
    · exact absurd hc (nI_nlt_of (Nat.le_refl N) (by omega))
  · refine J.iload_n (μ := mX2_countByTable) (pc := 7) dX2_countByTable_7 rfl ?_
    refine J.aload_n (μ := mX2_countByTable) (pc := 8) dX2_countByTable_8 rfl ?_
    refine J.gi (μ := mX2_countByTable) (pc := 9) (T := TX5) (ci := 8) (fks := _) rfl rfl in_X5 7 (by decide) wf_X2_24 dX2_countByTable_9 (ho 8 (by decide)) rfl ?_
    rw [hNT]
    refine J.icmp_ge (μ := mX2_countByTable) (pc := 12) 30 dX2_countByTable_12 (by decide) (fun hc => ?_) (fun hc => ?_)
    · exact absurd hc (nI_nle_of hi (by omega))
    · refine J.aload_n (μ := mX2_countByTable) (pc := 15) dX2_countByTable_15 rfl ?_
      refine J.iload_n (μ := mX2_countByTable) (pc := 16) dX2_countByTable_16 rfl ?_
      refine J.aload_n (μ := mX2_countByTable) (pc := 17) dX2_countByTable_17 rfl ?_
      refine J.gi (μ := mX2_countByTable) (pc := 18) (T := TX5) (ci := 8) (fks := _) rfl rfl in_X5 7 (by decide) wf_X2_24 dX2_countByTable_18 (ho 8 (by decide)) rfl ?_
      rw [hNT]
      refine J.callV (μ := mX2_countByTable) (pc := 21) (s_X2_joinThrough (v := v) (g0 := g) hi h20) rfl wm_X2_42 mi_X2_joinThrough rfl dX2_countByTable_21 (Rp.isa (T := TX2) rfl sh290) rfl rfl ⟨(Nat.le_of_ble_eq_true rfl), (Nat.le_of_ble_eq_true rfl)⟩ ⟨(Nat.le_of_ble_eq_true rfl), (Nat.le_of_ble_eq_true rfl)⟩ (Nat.le_of_ble_eq_true rfl) (fun w => J.and (fun e => ?_))
      subst e
      refine J.iinc (μ := mX2_countByTable) (pc := 24) (v := 1) dX2_countByTable_24 rfl (by decide) (Nat.le_of_ble_eq_true rfl) rfl ?_
      refine J.goto (μ := mX2_countByTable) (pc := 27) 7 dX2_countByTable_27 (by decide) ?_
      refine J.sub (by simp [lsub, nI_succ]) (J.of (fun H h => ?_) ih)
      obtain ⟨g2, h2, h3⟩ := h
      refine ⟨g2, fun a ha b hb => ?_, h3⟩
      rw [h2 a ha b hb, hg a ha i hi, hg i hi b hb, hg a ha b hb]
      simp only [fw, bi_1]
      cases fw (parB v o) i a b <;> cases fw (parB v o) i a i <;> cases fw (parB v o) i i b <;> simp [bi]
