/-! reading the depot's numbers while more is known of the heap; a number comes behind the line -/
section JP
variable {γ : Gm} {μ : Mu} {R : Room} {Q : Fin_} {k n pc : Nat} {L : List (Option Value)} {rest : List Value} {v : Vs} {P : Heap → Prop}
theorem J.giP {own C : String} {T : u_T} {N ci index a : Nat} {fks : List (Option Nat)} (hP : ∀ H, P H → Rc γ v H) (hown : μ.1 = own) (hc : vwCl[ci]? = some (C, T, N)) (hin : ∀ w ∈ u_ws C T N, w ∈ WSA) (j : Nat) (hj : j < N) (w : Cond.fieldLink own index (T j).1 (T j).2.1 (T j).2.2.1 ∈ WSA) (d : decode μ.2.1 pc = .ok (.getfield index, 3)) (hs : shape a = some (.inl (ci, fks))) (hf : fks[j]? = some none)
    (kk : J γ μ R Q k n (pc + 3) L (.int (v a j) :: rest) P) : J γ μ R Q k n pc L (.ref (gz γ + a) :: rest) P :=
  J.getf hown hc hin j hj w d (fun H h => (hP H h).1 _ _ hs) (by rw [fvs_int fks 0 j hf, Nat.zero_add]) kk
theorem J.grP {own C : String} {T : u_T} {N ci index a r : Nat} {fks : List (Option Nat)} (hP : ∀ H, P H → Rc γ v H) (hown : μ.1 = own) (hc : vwCl[ci]? = some (C, T, N)) (hin : ∀ w ∈ u_ws C T N, w ∈ WSA) (j : Nat) (hj : j < N) (w : Cond.fieldLink own index (T j).1 (T j).2.1 (T j).2.2.1 ∈ WSA) (d : decode μ.2.1 pc = .ok (.getfield index, 3)) (hs : shape a = some (.inl (ci, fks))) (hf : fks[j]? = some (some r))
    (kk : J γ μ R Q k n (pc + 3) L (.ref (gz γ + r) :: rest) P) : J γ μ R Q k n pc L (.ref (gz γ + a) :: rest) P :=
  J.getf hown hc hin j hj w d (fun H h => (hP H h).1 _ _ hs) (fvs_ref fks 0 j hf) kk
theorem J.aiP {a len : Nat} {i : Int32} (hP : ∀ H, P H → Rc γ v H) (d : decode μ.2.1 pc = .ok (.iaload, 1)) (hs : shape a = some (.inr len)) (hin : vp_in i len) (kk : J γ μ R Q k n (pc + 1) L (.int (v a i.toNatClampNeg) :: rest) P) : J γ μ R Q k n pc L (.int i :: .ref (gz γ + a) :: rest) P := J.iald d (fun H h => (hP H h).1 _ _ hs) hin kk
theorem J.alP {a len : Nat} {y : Int32} (hP : ∀ H, P H → Rc γ v H) (d : decode μ.2.1 pc = .ok (.arraylength, 1)) (hs : shape a = some (.inr len)) (hv : Int32.ofNat len = y) (kk : J γ μ R Q k n (pc + 1) L (.int y :: rest) P) : J γ μ R Q k n pc L (.ref (gz γ + a) :: rest) P := J.alenI d (fun H h => (hP H h).1 _ _ hs) hv kk
theorem Rc.isa {C : String} {T : u_T} {N ci a : Nat} {fks : List (Option Nat)} (hP : ∀ H, P H → Rc γ v H) (hc : vwCl[ci]? = some (C, T, N)) (hs : shape a = some (.inl (ci, fks))) : Isa γ C (gz γ + a) P := Isa.of hc (fun H h => (hP H h).1 _ _ hs)
end JP

theorem s_X7_getP {γ : Gm} {v : Vs} {P : Heap → Prop} (hP : ∀ H, P H → Rc γ v H) {r n : Nat} (hr : IsRow r n) (x : Int32) : Ep γ mX7_get yX7_get 0 [.ref (gz γ + r), .int x] P (some (.int (rg (v (r + 1)) n x))) := by
  refine Ev.ofJ (by decide) rfl (fun h => by cases h) (Nat.le_of_ble_eq_true rfl) ?_
  refine J.iload_n (μ := mX7_get) (pc := 0) dX7_get_0 rfl ?_
  refine J.if_lt (μ := mX7_get) (pc := 1) 22 dX7_get_1 (by decide) (fun h0 => ?_) (fun h0 => ?_)
  · refine J.iconst (μ := mX7_get) (pc := 22) (v := 0) dX7_get_22 (by decide) ?_
    rw [show rg (v (r + 1)) n x = 0 from if_neg (fun h => absurd h.1 (Int32.not_le.mpr h0))]
    exact J.iret (μ := mX7_get) (pc := 23) dX7_get_23 rfl (Nat.le_of_ble_eq_true rfl) (Nat.le_of_ble_eq_true rfl) (fun H h => ⟨rfl, h⟩)
  · refine J.iload_n (μ := mX7_get) (pc := 4) dX7_get_4 rfl ?_
    refine J.aload_n (μ := mX7_get) (pc := 5) dX7_get_5 rfl ?_
    refine J.grP (μ := mX7_get) (pc := 6) hP (T := TX7) (ci := 10) (fks := _) rfl rfl in_X7 0 (by decide) wf_X7_7 dX7_get_6 hr.1 rfl ?_
    refine J.alP (μ := mX7_get) (pc := 9) hP dX7_get_9 hr.2 rfl ?_
    refine J.icmp_ge (μ := mX7_get) (pc := 10) 22 dX7_get_10 (by decide) (fun h1 => ?_) (fun h1 => ?_)
    · refine J.iconst (μ := mX7_get) (pc := 22) (v := 0) dX7_get_22 (by decide) ?_
      rw [show rg (v (r + 1)) n x = 0 from if_neg (fun h => absurd h.2 (Int32.not_lt.mpr h1))]
      exact J.iret (μ := mX7_get) (pc := 23) dX7_get_23 rfl (Nat.le_of_ble_eq_true rfl) (Nat.le_of_ble_eq_true rfl) (fun H h => ⟨rfl, h⟩)
    · refine J.aload_n (μ := mX7_get) (pc := 13) dX7_get_13 rfl ?_
      refine J.grP (μ := mX7_get) (pc := 14) hP (T := TX7) (ci := 10) (fks := _) rfl rfl in_X7 0 (by decide) wf_X7_7 dX7_get_14 hr.1 rfl ?_
      refine J.iload_n (μ := mX7_get) (pc := 17) dX7_get_17 rfl ?_
      refine J.aiP (μ := mX7_get) (pc := 18) hP dX7_get_18 hr.2 (vp_in_of2 hr.small h0 h1) ?_
      refine J.goto (μ := mX7_get) (pc := 19) 23 dX7_get_19 (by decide) ?_
      rw [show rg (v (r + 1)) n x = v (r + 1) x.toNatClampNeg from if_pos ⟨h0, h1⟩]
      exact J.iret (μ := mX7_get) (pc := 23) dX7_get_23 rfl (Nat.le_of_ble_eq_true rfl) (Nat.le_of_ble_eq_true rfl) (fun H h => ⟨rfl, h⟩)

theorem s_X9_hasExpiredP {γ : Gm} {v : Vs} {P : Heap → Prop} (hP : ∀ H, P H → Rc γ v H) {o : Nat} (ho : IsStk o) (x : Int32) : Ep γ mX9_hasExpired yX9_hasExpired 1 [.ref (gz γ + o), .int x] P (some (.int (bi (decide (gEp v o x < v o 3))))) := by
  refine Ev.ofJ (by decide) rfl (fun h => by cases h) (Nat.le_of_ble_eq_true rfl) ?_
  refine J.aload_n (μ := mX9_hasExpired) (pc := 0) dX9_hasExpired_0 rfl ?_
  refine J.giP (μ := mX9_hasExpired) (pc := 1) hP (T := TX9) (ci := 12) (fks := _) rfl rfl in_X9 3 (by decide) wf_X9_32 dX9_hasExpired_1 (ho 0 (by decide)) rfl ?_
  refine J.aload_n (μ := mX9_hasExpired) (pc := 4) dX9_hasExpired_4 rfl ?_
  refine J.grP (μ := mX9_hasExpired) (pc := 5) hP (T := TX9) (ci := 12) (fks := _) rfl rfl in_X9 1 (by decide) wf_X9_21 dX9_hasExpired_5 (ho 0 (by decide)) rfl ?_
  refine J.grP (μ := mX9_hasExpired) (pc := 8) hP (T := TX5) (ci := 8) (fks := _) rfl rfl in_X5 3 (by decide) wf_X9_55 dX9_hasExpired_8 (ho 8 (by decide)) rfl ?_
  refine J.iload_n (μ := mX9_hasExpired) (pc := 11) dX9_hasExpired_11 rfl ?_
  refine J.cV (μ := mX9_hasExpired) (pc := 12) ((show Ep γ mX7_get yX7_get 0 [.ref (gz γ + (o + 15)), .int x] P (some (.int (gEp v o x))) from s_X7_getP hP ho.ep x)) rfl wm_X9_59 mi_X7_get rfl dX9_hasExpired_12 (Rc.isa hP (T := TX7) rfl (ho 15 (by decide))) rfl rfl ⟨(Nat.le_of_ble_eq_true rfl), (Nat.le_of_ble_eq_true rfl)⟩ ⟨(Nat.le_of_ble_eq_true rfl), (Nat.le_of_ble_eq_true rfl)⟩ (Nat.le_of_ble_eq_true rfl) ?_
  refine J.icmp_le (μ := mX9_hasExpired) (pc := 15) 22 dX9_hasExpired_15 (by decide) (fun c8 => ?_) (fun c8 => ?_)
  · refine J.iconst (μ := mX9_hasExpired) (pc := 22) (v := 0) dX9_hasExpired_22 (by decide) ?_
    exact J.zret (μ := mX9_hasExpired) (pc := 23) dX9_hasExpired_23 rfl (by first | rfl | decide | exact nar_bi _) (Nat.le_of_ble_eq_true rfl) (Nat.le_of_ble_eq_true rfl) (fun H h => ⟨congrArg some (congrArg Value.int (by simp [bi, *])), h⟩)
  · refine J.iconst (μ := mX9_hasExpired) (pc := 18) (v := 1) dX9_hasExpired_18 (by decide) ?_
    refine J.goto (μ := mX9_hasExpired) (pc := 19) 23 dX9_hasExpired_19 (by decide) ?_
    exact J.zret (μ := mX9_hasExpired) (pc := 23) dX9_hasExpired_23 rfl (by first | rfl | decide | exact nar_bi _) (Nat.le_of_ble_eq_true rfl) (Nat.le_of_ble_eq_true rfl) (fun H h => ⟨congrArg some (congrArg Value.int (by simp [bi, *])), h⟩)
theorem dg_of {w i : Nat} (h0 : 1 ≤ i) (h9 : i ≤ 9) (h1 : i = 1 ∨ 10 ^ (i - 1) ≤ w) (h2 : w < 10 ^ i) : sb_dg w = i := by
  rcases (show i = 1 ∨ i = 2 ∨ i = 3 ∨ i = 4 ∨ i = 5 ∨ i = 6 ∨ i = 7 ∨ i = 8 ∨ i = 9 by omega) with rfl | rfl | rfl | rfl | rfl | rfl | rfl | rfl | rfl <;> (unfold sb_dg; simp at h1 h2; (repeat' split) <;> omega)
theorem pw10 : ∀ i, i < 10 → 10 ^ i < 2 ^ 31 := by decide +kernel
theorem s_J6_stringSize {γ : Gm} {P : Heap → Prop} {w : Nat} (hw : w < 1000000000) : Ep γ mJ6_stringSize_0f7a4 yJ6_stringSize_0f7a4 0 [.int (nI w)] P (some (.int (nI (sb_dg w)))) := by
  refine Ev.ofJ (by decide) rfl (fun h => by cases h) (Nat.le_of_ble_eq_true rfl) ?_
  have key : ∀ (f i : Nat) (y : Int32), i + f = 10 → 1 ≤ i → (i ≤ 9 → y = -nI (10 ^ i)) → (i = 1 ∨ 10 ^ (i - 1) ≤ w) → J γ mJ6_stringSize_0f7a4 (rmD 0 0 0) (fEv γ 0 0 (fun r H => r = some (.int (nI (sb_dg w))) ∧ P H)) 0 0 16 [some (.int (-nI w)), some (.int 0), some (.int y), some (.int (nI i))] [] P := by
    intro f
    induction f with
    | zero =>
      intro i y hi h1 hy hb
      have h10 : i = 10 := by omega
      subst h10
      rcases hb with h | h
      · omega
      · simp at h; omega
    | succ f ih =>
      intro i y hi h1 hy hb
      have hy9 := hy (by omega)
      subst hy9
      refine J.iload_n (μ := mJ6_stringSize_0f7a4) (pc := 16) dJ6_stringSize_0f7a4_16 rfl ?_
      refine J.bipush (μ := mJ6_stringSize_0f7a4) (pc := 17) (v := 10) dJ6_stringSize_0f7a4_17 (by decide) ?_
      refine J.icmp_ge (μ := mJ6_stringSize_0f7a4) (pc := 19) 42 dJ6_stringSize_0f7a4_19 (by decide) (fun hc => ?_) (fun hc => ?_)
      · exact absurd hc (nI_nle_of (b := 10) (by omega) (by omega))
      · refine J.iload_n (μ := mJ6_stringSize_0f7a4) (pc := 22) dJ6_stringSize_0f7a4_22 rfl ?_
        refine J.iload_n (μ := mJ6_stringSize_0f7a4) (pc := 23) dJ6_stringSize_0f7a4_23 rfl ?_
        refine J.icmp_le (μ := mJ6_stringSize_0f7a4) (pc := 24) 31 dJ6_stringSize_0f7a4_24 (by decide) (fun hd => ?_) (fun hd => ?_)
        · have h2 : 10 ^ i ≤ w := (sb_nle (by omega) (pw10 i (by omega))).mp hd
          refine J.bipush (μ := mJ6_stringSize_0f7a4) (pc := 31) (v := 10) dJ6_stringSize_0f7a4_31 (by decide) ?_
          refine J.iload_n (μ := mJ6_stringSize_0f7a4) (pc := 33) dJ6_stringSize_0f7a4_33 rfl ?_
          refine J.imul (μ := mJ6_stringSize_0f7a4) (pc := 34) dJ6_stringSize_0f7a4_34 ?_
          refine J.istore_n (μ := mJ6_stringSize_0f7a4) (pc := 35) dJ6_stringSize_0f7a4_35 (Nat.le_of_ble_eq_true rfl) rfl ?_
          refine J.iinc (μ := mJ6_stringSize_0f7a4) (pc := 36) (v := 1) dJ6_stringSize_0f7a4_36 rfl (by decide) (Nat.le_of_ble_eq_true rfl) rfl ?_
          refine J.goto (μ := mJ6_stringSize_0f7a4) (pc := 39) 16 dJ6_stringSize_0f7a4_39 (by decide) ?_
          refine J.sub ?_ (ih (i + 1) (10 * -nI (10 ^ i)) (by omega) (by omega) (fun h9 => ?_) (.inr h2))
          · exact ⟨rfl, rfl, rfl, by rw [nI_1], trivial⟩
          · rw [Int32.mul_neg, show (10 : Int32) = nI 10 from rfl, nI_mul, Nat.pow_succ, Nat.mul_comm]
        · have h2 : w < 10 ^ i := by
            rcases Nat.lt_or_ge w (10 ^ i) with q | q
            · exact q
            · exact absurd ((sb_nle (by omega) (pw10 i (by omega))).mpr q) (Int32.not_le.mpr hd)
          refine J.iload_n (μ := mJ6_stringSize_0f7a4) (pc := 27) dJ6_stringSize_0f7a4_27 rfl ?_
          refine J.iload_n (μ := mJ6_stringSize_0f7a4) (pc := 28) dJ6_stringSize_0f7a4_28 rfl ?_
          refine J.iadd (μ := mJ6_stringSize_0f7a4) (pc := 29) dJ6_stringSize_0f7a4_29 ?_
          rw [Int32.add_zero, dg_of h1 (by omega) hb h2]
          exact J.iret (μ := mJ6_stringSize_0f7a4) (pc := 30) dJ6_stringSize_0f7a4_30 rfl (Nat.le_of_ble_eq_true rfl) (Nat.le_of_ble_eq_true rfl) (fun H h => ⟨rfl, h⟩)
  refine J.iconst (μ := mJ6_stringSize_0f7a4) (pc := 0) (v := 1) dJ6_stringSize_0f7a4_0 (by decide) ?_
  refine J.istore_n (μ := mJ6_stringSize_0f7a4) (pc := 1) dJ6_stringSize_0f7a4_1 (Nat.le_of_ble_eq_true rfl) rfl ?_
  refine J.iload_n (μ := mJ6_stringSize_0f7a4) (pc := 2) dJ6_stringSize_0f7a4_2 rfl ?_
  refine J.if_lt (μ := mJ6_stringSize_0f7a4) (pc := 3) 11 dJ6_stringSize_0f7a4_3 (by decide) (fun h1 => ?_) (fun h1 => ?_)
  · exact absurd h1 (nI_pos (by omega))
  · refine J.iconst (μ := mJ6_stringSize_0f7a4) (pc := 6) (v := 0) dJ6_stringSize_0f7a4_6 (by decide) ?_
    refine J.istore_n (μ := mJ6_stringSize_0f7a4) (pc := 7) dJ6_stringSize_0f7a4_7 (Nat.le_of_ble_eq_true rfl) rfl ?_
    refine J.iload_n (μ := mJ6_stringSize_0f7a4) (pc := 8) dJ6_stringSize_0f7a4_8 rfl ?_
    refine J.ineg (μ := mJ6_stringSize_0f7a4) (pc := 9) dJ6_stringSize_0f7a4_9 ?_
    refine J.istore_n (μ := mJ6_stringSize_0f7a4) (pc := 10) dJ6_stringSize_0f7a4_10 (Nat.le_of_ble_eq_true rfl) rfl ?_
    refine J.bipush (μ := mJ6_stringSize_0f7a4) (pc := 11) (v := -10) dJ6_stringSize_0f7a4_11 (by decide) ?_
    refine J.istore_n (μ := mJ6_stringSize_0f7a4) (pc := 13) dJ6_stringSize_0f7a4_13 (Nat.le_of_ble_eq_true rfl) rfl ?_
    refine J.iconst (μ := mJ6_stringSize_0f7a4) (pc := 14) (v := 1) dJ6_stringSize_0f7a4_14 (by decide) ?_
    refine J.istore_n (μ := mJ6_stringSize_0f7a4) (pc := 15) dJ6_stringSize_0f7a4_15 (Nat.le_of_ble_eq_true rfl) rfl ?_
    refine J.sub ?_ (key 9 1 (-10) rfl (Nat.le_refl 1) (fun _ => by decide +kernel) (.inl rfl))
    exact ⟨rfl, rfl, rfl, rfl, trivial⟩
theorem m100 {w : Nat} (hw : w < 2 ^ 31) : (-nI w ≤ (-100 : Int32) ↔ 100 ≤ w) := by rw [show (-100 : Int32) = -nI 100 by decide +kernel]; exact sb_nle hw (by decide)
theorem m9 {w : Nat} (hw : w < 2 ^ 31) : ((-9 : Int32) ≤ -nI w ↔ w ≤ 9) := by rw [show (-9 : Int32) = -nI 9 by decide +kernel]; exact sb_nle (by decide) hw
theorem dg_small {w : Nat} (h : w < 100) : sb_dg w = if 10 ≤ w then 2 else 1 := by
  unfold sb_dg
  (repeat' split) <;> omega
theorem dig_fit : ∀ c, c < 128 → fits .byte (.int (vp_nar .byte (nI c))) = true := by_fit
theorem s_J6_getChars {γ : Gm} {v : Vs} {q cap cnt : Nat} {ml : Int32} {f : Nat → Int32} (hcap : cap < 60) {w p : Nat} (hw : w < 2 ^ 31) (hp : sb_dg w ≤ p) (hp2 : p ≤ cap) : Ev γ mJ6_getChars_ba4f3 yJ6_getChars_ba4f3 0 0 0 [.int (nI w), .int (nI p), .ref q] (Bq γ v q cap cnt ml f) (fun r H => ∃ y f', r = some (.int y) ∧ Bq γ v q cap cnt ml f' H) := by
  refine Ev.ofJ (by decide) rfl (fun h => by cases h) (Nat.le_of_ble_eq_true rfl) ?_
  have key : ∀ (w p : Nat) (f : Nat → Int32) (x y z : Int32), w < 2 ^ 31 → sb_dg w ≤ p → p ≤ cap → J γ mJ6_getChars_ba4f3 (rmD 0 0 0) (fEv γ 0 0 (fun r H => ∃ y f', r = some (.int y) ∧ Bq γ v q cap cnt ml f' H)) 0 0 22 [some (.int (-nI w)), some (.int x), some (.ref q), none, none, some (.int (nI p)), some (.int 0)] [] (Bq γ v q cap cnt ml f) := by
    intro w
    induction w using Nat.strongRecOn with
    | ind w ih =>
      intro p f x y z hw hp hp2
      refine J.iload_n (μ := mJ6_getChars_ba4f3) (pc := 22) dJ6_getChars_ba4f3_22 rfl ?_
      refine J.bipush (μ := mJ6_getChars_ba4f3) (pc := 23) (v := -100) dJ6_getChars_ba4f3_23 (by decide) ?_
      refine J.icmp_gt (μ := mJ6_getChars_ba4f3) (pc := 25) 72 dJ6_getChars_ba4f3_25 (by decide) (fun h1 => ?_) (fun h1 => ?_)
      · have hlt : w < 100 := by
          rcases Nat.lt_or_ge w 100 with q | q
          · exact q
          · exact absurd ((m100 hw).mpr q) (Int32.not_le.mpr h1)
        have hdg := dg_small hlt
        have hp0 : 0 < p := by rw [hdg] at hp; split at hp <;> omega
        refine J.aload_n (μ := mJ6_getChars_ba4f3) (pc := 72) dJ6_getChars_ba4f3_72 rfl ?_
        refine J.iinc (μ := mJ6_getChars_ba4f3) (pc := 73) (v := -1) dJ6_getChars_ba4f3_73 rfl (by decide) (Nat.le_of_ble_eq_true rfl) rfl ?_
        rw [sb_m1 hp0]
        refine J.iload (μ := mJ6_getChars_ba4f3) (pc := 76) dJ6_getChars_ba4f3_76 rfl ?_
        refine J.getZ (μ := mJ6_getChars_ba4f3) (pc := 78) (fun s hK => hK.ko.2.2.2.2.2.2.1) rfl wf_J6_83 dJ6_getChars_ba4f3_78 ?_
        refine J.iload_n (μ := mJ6_getChars_ba4f3) (pc := 81) dJ6_getChars_ba4f3_81 rfl ?_
        refine J.ineg (μ := mJ6_getChars_ba4f3) (pc := 82) dJ6_getChars_ba4f3_82 ?_
        rw [Int32.neg_neg]
        refine J.tb (μ := mJ6_getChars_ba4f3) (pc := 83) (v := .int (nI (48 + w % 10))) (fun s hK => hK.ko.2.2.2.2.2.2.2.1) (vp_in_nI hlt (by decide)) (by rw [nI_clamp hw]) dJ6_getChars_ba4f3_83 ?_
        refine J.bst (μ := mJ6_getChars_ba4f3) (pc := 84) dJ6_getChars_ba4f3_84 (by omega) (by omega) (dig_fit _ (by omega)) (fun f2 => ?_)
        refine J.iload_n (μ := mJ6_getChars_ba4f3) (pc := 85) dJ6_getChars_ba4f3_85 rfl ?_
        refine J.bipush (μ := mJ6_getChars_ba4f3) (pc := 86) (v := -9) dJ6_getChars_ba4f3_86 (by decide) ?_
        refine J.icmp_ge (μ := mJ6_getChars_ba4f3) (pc := 88) 104 dJ6_getChars_ba4f3_88 (by decide) (fun h2 => ?_) (fun h2 => ?_)
        · refine J.iload (μ := mJ6_getChars_ba4f3) (pc := 104) dJ6_getChars_ba4f3_104 rfl ?_
          refine J.if_eq (μ := mJ6_getChars_ba4f3) (pc := 106) 118 dJ6_getChars_ba4f3_106 (by decide) (fun _ => ?_) (fun h => absurd rfl h)
          refine J.iload (μ := mJ6_getChars_ba4f3) (pc := 118) dJ6_getChars_ba4f3_118 rfl ?_
          exact J.iret (μ := mJ6_getChars_ba4f3) (pc := 120) dJ6_getChars_ba4f3_120 rfl (Nat.le_of_ble_eq_true rfl) (Nat.le_of_ble_eq_true rfl) (fun H h => ⟨_, f2, rfl, h⟩)
        · have h10 : 10 ≤ w := by
            rcases Nat.lt_or_ge w 10 with q | q
            · exact absurd ((m9 hw).mpr (by omega)) (Int32.not_le.mpr h2)
            · exact q
          have hp1 : 0 < p - 1 := by rw [hdg, if_pos h10] at hp; omega
          refine J.aload_n (μ := mJ6_getChars_ba4f3) (pc := 91) dJ6_getChars_ba4f3_91 rfl ?_
          refine J.iinc (μ := mJ6_getChars_ba4f3) (pc := 92) (v := -1) dJ6_getChars_ba4f3_92 rfl (by decide) (Nat.le_of_ble_eq_true rfl) rfl ?_
          rw [sb_m1 hp1]
          refine J.iload (μ := mJ6_getChars_ba4f3) (pc := 95) dJ6_getChars_ba4f3_95 rfl ?_
          refine J.getZ (μ := mJ6_getChars_ba4f3) (pc := 97) (fun s hK => hK.ko.2.2.2.2.1) rfl wf_J6_87 dJ6_getChars_ba4f3_97 ?_
          refine J.iload_n (μ := mJ6_getChars_ba4f3) (pc := 100) dJ6_getChars_ba4f3_100 rfl ?_
          refine J.ineg (μ := mJ6_getChars_ba4f3) (pc := 101) dJ6_getChars_ba4f3_101 ?_
          rw [Int32.neg_neg]
          refine J.tb (μ := mJ6_getChars_ba4f3) (pc := 102) (v := .int (nI (48 + w / 10))) (fun s hK => hK.ko.2.2.2.2.2.1) (vp_in_nI hlt (by decide)) (by rw [nI_clamp hw]) dJ6_getChars_ba4f3_102 ?_
          refine J.bst (μ := mJ6_getChars_ba4f3) (pc := 103) dJ6_getChars_ba4f3_103 (by omega) (by omega) (dig_fit _ (by omega)) (fun f3 => ?_)
          refine J.iload (μ := mJ6_getChars_ba4f3) (pc := 104) dJ6_getChars_ba4f3_104 rfl ?_
          refine J.if_eq (μ := mJ6_getChars_ba4f3) (pc := 106) 118 dJ6_getChars_ba4f3_106 (by decide) (fun _ => ?_) (fun h => absurd rfl h)
          refine J.iload (μ := mJ6_getChars_ba4f3) (pc := 118) dJ6_getChars_ba4f3_118 rfl ?_
          exact J.iret (μ := mJ6_getChars_ba4f3) (pc := 120) dJ6_getChars_ba4f3_120 rfl (Nat.le_of_ble_eq_true rfl) (Nat.le_of_ble_eq_true rfl) (fun H h => ⟨_, f3, rfl, h⟩)
      · have hge : 100 ≤ w := (m100 hw).mp h1
        have hdg := sb_dg100 hge hw
        have hd1 := (sb_dg_in (w / 100)).1
        have hp0 : 0 < p := by omega
        have hp1 : 0 < p - 1 := by omega
        refine J.iload_n (μ := mJ6_getChars_ba4f3) (pc := 28) dJ6_getChars_ba4f3_28 rfl ?_
        refine J.bipush (μ := mJ6_getChars_ba4f3) (pc := 29) (v := 100) dJ6_getChars_ba4f3_29 (by decide) ?_
        refine J.idiv (μ := mJ6_getChars_ba4f3) (pc := 31) dJ6_getChars_ba4f3_31 (by decide) ?_
        rw [sb_ndiv hw]
        refine J.istore_n (μ := mJ6_getChars_ba4f3) (pc := 32) dJ6_getChars_ba4f3_32 (Nat.le_of_ble_eq_true rfl) rfl ?_
        refine J.iload_n (μ := mJ6_getChars_ba4f3) (pc := 33) dJ6_getChars_ba4f3_33 rfl ?_
        refine J.bipush (μ := mJ6_getChars_ba4f3) (pc := 34) (v := 100) dJ6_getChars_ba4f3_34 (by decide) ?_
        refine J.imul (μ := mJ6_getChars_ba4f3) (pc := 36) dJ6_getChars_ba4f3_36 ?_
        refine J.iload_n (μ := mJ6_getChars_ba4f3) (pc := 37) dJ6_getChars_ba4f3_37 rfl ?_
        refine J.isub (μ := mJ6_getChars_ba4f3) (pc := 38) dJ6_getChars_ba4f3_38 ?_
        rw [sb_nrem hw]
        refine J.istore (μ := mJ6_getChars_ba4f3) (pc := 39) dJ6_getChars_ba4f3_39 (Nat.le_of_ble_eq_true rfl) rfl ?_
        refine J.iload_n (μ := mJ6_getChars_ba4f3) (pc := 41) dJ6_getChars_ba4f3_41 rfl ?_
        refine J.istore_n (μ := mJ6_getChars_ba4f3) (pc := 42) dJ6_getChars_ba4f3_42 (Nat.le_of_ble_eq_true rfl) rfl ?_
        refine J.aload_n (μ := mJ6_getChars_ba4f3) (pc := 43) dJ6_getChars_ba4f3_43 rfl ?_
        refine J.iinc (μ := mJ6_getChars_ba4f3) (pc := 44) (v := -1) dJ6_getChars_ba4f3_44 rfl (by decide) (Nat.le_of_ble_eq_true rfl) rfl ?_
        rw [sb_m1 hp0]
        refine J.iload (μ := mJ6_getChars_ba4f3) (pc := 47) dJ6_getChars_ba4f3_47 rfl ?_
        refine J.getZ (μ := mJ6_getChars_ba4f3) (pc := 49) (fun s hK => hK.ko.2.2.2.2.2.2.1) rfl wf_J6_83 dJ6_getChars_ba4f3_49 ?_
        refine J.iload (μ := mJ6_getChars_ba4f3) (pc := 52) dJ6_getChars_ba4f3_52 rfl ?_
        refine J.tb (μ := mJ6_getChars_ba4f3) (pc := 54) (v := .int (nI (48 + w % 100 % 10))) (fun s hK => hK.ko.2.2.2.2.2.2.2.1) (vp_in_nI (Nat.mod_lt _ (by decide)) (by decide)) (by rw [nI_clamp (by have := Nat.mod_lt w (show 0 < 100 by decide); omega)]) dJ6_getChars_ba4f3_54 ?_
        refine J.bst (μ := mJ6_getChars_ba4f3) (pc := 55) dJ6_getChars_ba4f3_55 (by omega) (by omega) (dig_fit _ (by omega)) (fun f2 => ?_)
        refine J.aload_n (μ := mJ6_getChars_ba4f3) (pc := 56) dJ6_getChars_ba4f3_56 rfl ?_
        refine J.iinc (μ := mJ6_getChars_ba4f3) (pc := 57) (v := -1) dJ6_getChars_ba4f3_57 rfl (by decide) (Nat.le_of_ble_eq_true rfl) rfl ?_
        rw [sb_m1 hp1]
        refine J.iload (μ := mJ6_getChars_ba4f3) (pc := 60) dJ6_getChars_ba4f3_60 rfl ?_
        refine J.getZ (μ := mJ6_getChars_ba4f3) (pc := 62) (fun s hK => hK.ko.2.2.2.2.1) rfl wf_J6_87 dJ6_getChars_ba4f3_62 ?_
        refine J.iload (μ := mJ6_getChars_ba4f3) (pc := 65) dJ6_getChars_ba4f3_65 rfl ?_
        refine J.tb (μ := mJ6_getChars_ba4f3) (pc := 67) (v := .int (nI (48 + w % 100 / 10))) (fun s hK => hK.ko.2.2.2.2.2.1) (vp_in_nI (Nat.mod_lt _ (by decide)) (by decide)) (by rw [nI_clamp (by have := Nat.mod_lt w (show 0 < 100 by decide); omega)]) dJ6_getChars_ba4f3_67 ?_
        refine J.bst (μ := mJ6_getChars_ba4f3) (pc := 68) dJ6_getChars_ba4f3_68 (by omega) (by omega) (dig_fit _ (by have := Nat.mod_lt w (show 0 < 100 by decide); omega)) (fun f3 => ?_)
        refine J.goto (μ := mJ6_getChars_ba4f3) (pc := 69) 22 dJ6_getChars_ba4f3_69 (by decide) ?_
        refine J.sub ?_ (ih (w / 100) (by omega) (p - 1 - 1) f3 x 0 0 (by omega) (by omega) (by omega))
        exact ⟨rfl, rfl, rfl, rfl, rfl, trivial⟩
  refine J.iload_n (μ := mJ6_getChars_ba4f3) (pc := 0) dJ6_getChars_ba4f3_0 rfl ?_
  refine J.istore (μ := mJ6_getChars_ba4f3) (pc := 1) dJ6_getChars_ba4f3_1 (Nat.le_of_ble_eq_true rfl) rfl ?_
  refine J.iload_n (μ := mJ6_getChars_ba4f3) (pc := 3) dJ6_getChars_ba4f3_3 rfl ?_
  refine J.if_ge (μ := mJ6_getChars_ba4f3) (pc := 4) 11 dJ6_getChars_ba4f3_4 (by decide) (fun h1 => ?_) (fun h1 => ?_)
  · refine J.iconst (μ := mJ6_getChars_ba4f3) (pc := 11) (v := 0) dJ6_getChars_ba4f3_11 (by decide) ?_
    refine J.istore (μ := mJ6_getChars_ba4f3) (pc := 12) dJ6_getChars_ba4f3_12 (Nat.le_of_ble_eq_true rfl) rfl ?_
    refine J.iload (μ := mJ6_getChars_ba4f3) (pc := 14) dJ6_getChars_ba4f3_14 rfl ?_
    refine J.if_ne (μ := mJ6_getChars_ba4f3) (pc := 16) 22 dJ6_getChars_ba4f3_16 (by decide) (fun h => absurd rfl h) (fun _ => ?_)
    refine J.iload_n (μ := mJ6_getChars_ba4f3) (pc := 19) dJ6_getChars_ba4f3_19 rfl ?_
    refine J.ineg (μ := mJ6_getChars_ba4f3) (pc := 20) dJ6_getChars_ba4f3_20 ?_
    refine J.istore_n (μ := mJ6_getChars_ba4f3) (pc := 21) dJ6_getChars_ba4f3_21 (Nat.le_of_ble_eq_true rfl) rfl ?_
    refine J.sub ?_ (key w p f (nI p) 0 0 hw hp hp2)
    exact ⟨rfl, rfl, rfl, rfl, rfl, trivial⟩
  · exact absurd h1 (nI_pos (by omega))
