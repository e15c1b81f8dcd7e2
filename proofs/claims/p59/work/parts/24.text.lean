/-! the text buffer and the reading of its commands -/
/-- the buffer holds the letters t -/
def tx (v : Vs) (t : List Nat) : Prop := v 302 2 = nI t.length ∧ t.length ≤ 60 ∧ (∀ j, j < t.length → v 304 j = nI (t.getD j 0)) ∧ ∀ c ∈ t, c < 128
/-- nothing but what is read has changed: the parameters, the command, the position, the fault -/
def tq (u u' : Vs) : Prop := (∀ k, k ≠ 302 → k ≠ 306 → u' k = u k) ∧ u' 302 2 = u 302 2
theorem tq.rf {u : Vs} : tq u u := ⟨fun _ _ _ => rfl, rfl⟩
theorem tq.tr {u v w : Vs} (h : tq u v) (h2 : tq v w) : tq u w := ⟨fun k a b => (h2.1 k a b).trans (h.1 k a b), h2.2.trans h.2⟩
theorem tx.q {u u' : Vs} {t : List Nat} (h : tx u t) (q : tq u u') : tx u' t := ⟨q.2.trans h.1, h.2.1, fun j hj => by rw [q.1 304 (by decide) (by decide)]; exact h.2.2.1 j hj, h.2.2.2⟩
theorem tq_5 {u : Vs} {x : Int32} : tq u (up2 u 302 5 x) := ⟨fun k a _ => up2_o _ _ _ a, up2_sn (by decide)⟩
theorem tq_4 {u : Vs} {x : Int32} : tq u (up2 u 302 4 x) := ⟨fun k a _ => up2_o _ _ _ a, up2_sn (by decide)⟩
theorem tq_3 {u : Vs} {x : Int32} : tq u (up2 u 302 3 x) := ⟨fun k a _ => up2_o _ _ _ a, up2_sn (by decide)⟩
theorem tq_p {u : Vs} {j : Nat} {x : Int32} : tq u (up2 u 306 j x) := ⟨fun k _ b => up2_o _ _ _ b, by rw [up2_o _ _ _ (by decide)]⟩
def cAt (t : List Nat) (p : Nat) : Int32 := if p < t.length then nI (t.getD p 0) else -1
theorem cAt_in {t : List Nat} {p : Nat} (h : p < t.length) : cAt t p = nI (t.getD p 0) := if_pos h
theorem getD_lt {t : List Nat} {p m : Nat} (ht : ∀ c ∈ t, c < m) (hp : p < t.length) : t.getD p 0 < m := by
  rw [List.getD_eq_getElem?_getD, List.getElem?_eq_getElem hp]
  exact ht _ (List.getElem_mem hp)
theorem s_X10_characterAt {γ : Gm} {v : Vs} {t : List Nat} (ht : tx v t) {p : Nat} (hp : p ≤ 100) : Er γ mX10_characterAt yX10_characterAt 1 [.ref (gz γ + 302), .int (nI p)] v (.int (cAt t p)) := by
  have h60 := ht.2.1
  refine Ev.ofJ (by decide) rfl (fun h => by cases h) (Nat.le_of_ble_eq_true rfl) ?_
  refine J.iload_n (μ := mX10_characterAt) (pc := 0) dX10_characterAt_0 rfl ?_
  refine J.aload_n (μ := mX10_characterAt) (pc := 1) dX10_characterAt_1 rfl ?_
  refine J.gi (μ := mX10_characterAt) (pc := 2) (T := TX10) (ci := 13) (fks := _) rfl rfl in_X10 2 (by decide) wf_X10_23 dX10_characterAt_2 sh302 rfl ?_
  rw [ht.1]
  refine J.icmp_ge (μ := mX10_characterAt) (pc := 5) 19 dX10_characterAt_5 (by decide) (fun h1 => ?_) (fun h1 => ?_)
  · have h2 : ¬ p < t.length := fun q => absurd h1 (nI_ge q (by omega))
    rw [show cAt t p = -1 from if_neg h2]
    refine J.iconst (μ := mX10_characterAt) (pc := 19) (v := -1) dX10_characterAt_19 (by decide) ?_
    exact J.iret (μ := mX10_characterAt) (pc := 20) dX10_characterAt_20 rfl (Nat.le_of_ble_eq_true rfl) (Nat.le_of_ble_eq_true rfl) (fun H h => ⟨rfl, h⟩)
  · have h2 : p < t.length := (nI_ltI (by omega) (by omega)).mp h1
    refine J.aload_n (μ := mX10_characterAt) (pc := 8) dX10_characterAt_8 rfl ?_
    refine J.gr (μ := mX10_characterAt) (pc := 9) (T := TX10) (ci := 13) (fks := _) rfl rfl in_X10 0 (by decide) wf_X10_14 dX10_characterAt_9 sh302 rfl ?_
    refine J.iload_n (μ := mX10_characterAt) (pc := 12) dX10_characterAt_12 rfl ?_
    refine J.cV (μ := mX10_characterAt) (pc := 13) (s_X7_get row303 _) rfl wm_X10_98 mi_X7_get rfl dX10_characterAt_13 (Rp.isa (T := TX7) rfl row303.1) rfl rfl ⟨(Nat.le_of_ble_eq_true rfl), (Nat.le_of_ble_eq_true rfl)⟩ ⟨(Nat.le_of_ble_eq_true rfl), (Nat.le_of_ble_eq_true rfl)⟩ (Nat.le_of_ble_eq_true rfl) ?_
    rw [show rg (v (303 + 1)) 60 (nI p) = cAt t p by rw [rg_nI (by omega) (by omega), cAt_in h2]; exact ht.2.2.1 p h2]
    refine J.goto (μ := mX10_characterAt) (pc := 16) 20 dX10_characterAt_16 (by decide) ?_
    exact J.iret (μ := mX10_characterAt) (pc := 20) dX10_characterAt_20 rfl (Nat.le_of_ble_eq_true rfl) (Nat.le_of_ble_eq_true rfl) (fun H h => ⟨rfl, h⟩)
abbrev isD (x : Int32) : Prop := 48 ≤ x ∧ x ≤ 57
theorem s_X10_isDigit {γ : Gm} {v : Vs} (x : Int32) : Er γ mX10_isDigit yX10_isDigit 0 [.int x] v (.int (bi (decide (isD x)))) := by
  refine Ev.ofJ (by decide) rfl (fun h => by cases h) (Nat.le_of_ble_eq_true rfl) ?_
  refine J.iload_n (μ := mX10_isDigit) (pc := 0) dX10_isDigit_0 rfl ?_
  refine J.bipush (μ := mX10_isDigit) (pc := 1) (v := 48) dX10_isDigit_1 (by decide) ?_
  refine J.icmp_lt (μ := mX10_isDigit) (pc := 3) 16 dX10_isDigit_3 (by decide) (fun c3 => ?_) (fun c3 => ?_)
  · refine J.iconst (μ := mX10_isDigit) (pc := 16) (v := 0) dX10_isDigit_16 (by decide) ?_
    exact J.zret (μ := mX10_isDigit) (pc := 17) dX10_isDigit_17 rfl (by first | rfl | decide) (Nat.le_of_ble_eq_true rfl) (Nat.le_of_ble_eq_true rfl) (fun H h => ⟨congrArg some (congrArg Value.int (by first | (simp [bi, isD, *]; done) | (simp [bi, isD, nlt_of_le, nle_of_lt, *]; done) | (simp_all [bi, isD, Int32.le_iff_toInt_le, Int32.lt_iff_toInt_lt]; omega))), h⟩)
  · refine J.iload_n (μ := mX10_isDigit) (pc := 6) dX10_isDigit_6 rfl ?_
    refine J.bipush (μ := mX10_isDigit) (pc := 7) (v := 57) dX10_isDigit_7 (by decide) ?_
    refine J.icmp_gt (μ := mX10_isDigit) (pc := 9) 16 dX10_isDigit_9 (by decide) (fun c7 => ?_) (fun c7 => ?_)
    · refine J.iconst (μ := mX10_isDigit) (pc := 16) (v := 0) dX10_isDigit_16 (by decide) ?_
      exact J.zret (μ := mX10_isDigit) (pc := 17) dX10_isDigit_17 rfl (by first | rfl | decide) (Nat.le_of_ble_eq_true rfl) (Nat.le_of_ble_eq_true rfl) (fun H h => ⟨congrArg some (congrArg Value.int (by first | (simp [bi, isD, *]; done) | (simp [bi, isD, nlt_of_le, nle_of_lt, *]; done) | (simp_all [bi, isD, Int32.le_iff_toInt_le, Int32.lt_iff_toInt_lt]; omega))), h⟩)
    · refine J.iconst (μ := mX10_isDigit) (pc := 12) (v := 1) dX10_isDigit_12 (by decide) ?_
      refine J.goto (μ := mX10_isDigit) (pc := 13) 17 dX10_isDigit_13 (by decide) ?_
      exact J.zret (μ := mX10_isDigit) (pc := 17) dX10_isDigit_17 rfl (by first | rfl | decide) (Nat.le_of_ble_eq_true rfl) (Nat.le_of_ble_eq_true rfl) (fun H h => ⟨congrArg some (congrArg Value.int (by first | (simp [bi, isD, *]; done) | (simp [bi, isD, nlt_of_le, nle_of_lt, *]; done) | (simp_all [bi, isD, Int32.le_iff_toInt_le, Int32.lt_iff_toInt_lt]; omega))), h⟩)
/-- at most m digits from p on: the value, how many, the place behind them -/
def tdN (t : List Nat) : Nat → Nat → Nat → Nat → Nat × Nat × Nat
  | 0, p, x, d => (x, d, p)
  | m + 1, p, x, d => if p < t.length ∧ 48 ≤ t.getD p 0 ∧ t.getD p 0 ≤ 57 then tdN t m (p + 1) (10 * x + t.getD p 0 - 48) (d + 1) else (x, d, p)
theorem tdN_le {t : List Nat} : ∀ m p x d, p ≤ t.length → (tdN t m p x d).2.2 ≤ t.length
  | 0, _, _, _, h => h
  | m + 1, p, x, d, h => by
    unfold tdN
    split
    · rename_i q; exact tdN_le m _ _ _ (by omega)
    · exact h
theorem isD_iff {t : List Nat} (ht : ∀ c ∈ t, c < 128) {p : Nat} : isD (cAt t p) ↔ p < t.length ∧ 48 ≤ t.getD p 0 ∧ t.getD p 0 ≤ 57 := by
  by_cases h : p < t.length
  · have := getD_lt ht h
    rw [cAt_in h]
    unfold isD
    rw [show (48 : Int32) = nI 48 from rfl, show (57 : Int32) = nI 57 from rfl, nI_leI (by omega) (by omega), nI_leI (by omega) (by omega)]
    exact ⟨fun q => ⟨h, q⟩, fun q => q.2⟩
  · rw [show cAt t p = -1 from if_neg h]
    exact ⟨fun q => absurd q (by decide), fun q => absurd q.1 h⟩
theorem s_X10_takeDigits {γ : Gm} {u : Vs} {t : List Nat} (ht : tx u t) {p m k : Nat} (hp : u 302 5 = nI p) (hpl : p ≤ t.length) (hm : m ≤ 2) (hk : k < 4) : Ev γ mX10_takeDigits yX10_takeDigits 2 0 0 [.ref (gz γ + 302), .int (nI m), .int (nI k)] (Rp γ u) (fun w H => w = some (.int (bi (decide (0 < (tdN t m p 0 0).2.1)))) ∧ ∃ u', (tq u u' ∧ u' 302 5 = nI (tdN t m p 0 0).2.2 ∧ u' 306 k = nI (tdN t m p 0 0).1 ∧ ∀ j, j ≠ k → u' 306 j = u 306 j) ∧ Rp γ u' H) := by
  have h60 := ht.2.1
  refine Ev.ofJ (by decide) rfl (fun h => by cases h) (Nat.le_of_ble_eq_true rfl) ?_
  have out : ∀ (w : Vs) (q x d : Nat), tq u w → w 302 5 = nI q → (∀ j, w 306 j = u 306 j) → d ≤ 2 → tdN t m p 0 0 = (x, d, q) → J γ mX10_takeDigits (rmD 2 0 0) (fEv γ 0 0 (fun w H => w = some (.int (bi (decide (0 < (tdN t m p 0 0).2.1)))) ∧ ∃ u', (tq u u' ∧ u' 302 5 = nI (tdN t m p 0 0).2.2 ∧ u' 306 k = nI (tdN t m p 0 0).1 ∧ ∀ j, j ≠ k → u' 306 j = u 306 j) ∧ Rp γ u' H)) 0 0 58 [some (.ref (gz γ + 302)), some (.int (nI m)), some (.int (nI k)), some (.int (nI x)), some (.int (nI d))] [] (Rp γ w) := by
    intro w q x d h1 h2 h3 hd2 he
    rw [he]
    refine J.aload_n (μ := mX10_takeDigits) (pc := 58) dX10_takeDigits_58 rfl ?_
    refine J.gr (μ := mX10_takeDigits) (pc := 59) (T := TX10) (ci := 13) (fks := _) rfl rfl in_X10 1 (by decide) wf_X10_20 dX10_takeDigits_59 sh302 rfl ?_
    refine J.iload_n (μ := mX10_takeDigits) (pc := 62) dX10_takeDigits_62 rfl ?_
    refine J.iload_n (μ := mX10_takeDigits) (pc := 63) dX10_takeDigits_63 rfl ?_
    refine J.cV0 (μ := mX10_takeDigits) (pc := 64) (s_X7_set row305 _ _) rfl wm_X10_36 mi_X7_set rfl dX10_takeDigits_64 (Rp.isa (T := TX7) rfl row305.1) rfl rfl ⟨(Nat.le_of_ble_eq_true rfl), (Nat.le_of_ble_eq_true rfl)⟩ ⟨(Nat.le_of_ble_eq_true rfl), (Nat.le_of_ble_eq_true rfl)⟩ (Nat.le_of_ble_eq_true rfl) ?_
    rw [show rs w (305 + 1) 4 (nI k) (nI x) = up2 w 306 k (nI x) from rs_nI hk (by omega)]
    have hu : tq u (up2 w 306 k (nI x)) ∧ up2 w 306 k (nI x) 302 5 = nI q ∧ up2 w 306 k (nI x) 306 k = nI x ∧ ∀ j, j ≠ k → up2 w 306 k (nI x) 306 j = u 306 j := ⟨h1.tr tq_p, by rw [up2_o _ _ _ (by decide)]; exact h2, up2_ss, fun j hj => by rw [up2_sn hj]; exact h3 j⟩
    refine J.iload (μ := mX10_takeDigits) (pc := 67) dX10_takeDigits_67 rfl ?_
    refine J.if_le (μ := mX10_takeDigits) (pc := 69) 76 dX10_takeDigits_69 (by decide) (fun hd => ?_) (fun hd => ?_)
    · have h0 : ¬ 0 < d := fun z => absurd hd (nI_nle z (by omega))
      refine J.iconst (μ := mX10_takeDigits) (pc := 76) (v := 0) dX10_takeDigits_76 (by decide) ?_
      exact J.zret (μ := mX10_takeDigits) (pc := 77) dX10_takeDigits_77 rfl rfl (Nat.le_of_ble_eq_true rfl) (Nat.le_of_ble_eq_true rfl) (fun H h => ⟨by simp [bi, h0], _, hu, h⟩)
    · have h0 : 0 < d := by
        rcases Nat.eq_zero_or_pos d with z | z
        · subst z; exact absurd hd (by decide)
        · exact z
      refine J.iconst (μ := mX10_takeDigits) (pc := 72) (v := 1) dX10_takeDigits_72 (by decide) ?_
      refine J.goto (μ := mX10_takeDigits) (pc := 73) 77 dX10_takeDigits_73 (by decide) ?_
      exact J.zret (μ := mX10_takeDigits) (pc := 77) dX10_takeDigits_77 rfl rfl (Nat.le_of_ble_eq_true rfl) (Nat.le_of_ble_eq_true rfl) (fun H h => ⟨by simp [bi, h0], _, hu, h⟩)
  have key : ∀ (f : Nat) (w : Vs) (q x d : Nat), d + f = m → tq u w → w 302 5 = nI q → q ≤ t.length → (∀ j, w 306 j = u 306 j) → tdN t f q x d = tdN t m p 0 0 → J γ mX10_takeDigits (rmD 2 0 0) (fEv γ 0 0 (fun w H => w = some (.int (bi (decide (0 < (tdN t m p 0 0).2.1)))) ∧ ∃ u', (tq u u' ∧ u' 302 5 = nI (tdN t m p 0 0).2.2 ∧ u' 306 k = nI (tdN t m p 0 0).1 ∧ ∀ j, j ≠ k → u' 306 j = u 306 j) ∧ Rp γ u' H)) 0 0 5 [some (.ref (gz γ + 302)), some (.int (nI m)), some (.int (nI k)), some (.int (nI x)), some (.int (nI d))] [] (Rp γ w) := by
    intro f
    induction f with
    | zero =>
      intro w q x d hd h1 h2 hq h3 he
      refine J.iload (μ := mX10_takeDigits) (pc := 5) dX10_takeDigits_5 rfl ?_
      refine J.iload_n (μ := mX10_takeDigits) (pc := 7) dX10_takeDigits_7 rfl ?_
      refine J.icmp_ge (μ := mX10_takeDigits) (pc := 8) 58 dX10_takeDigits_8 (by decide) (fun hc => ?_) (fun hc => ?_)
      · exact out w q x d h1 h2 h3 (by omega) he.symm
      · exact absurd hc (nI_nlt_of (by omega) (by omega))
    | succ f ih =>
      intro w q x d hd h1 h2 hq h3 he
      have hwt := ht.q h1
      refine J.iload (μ := mX10_takeDigits) (pc := 5) dX10_takeDigits_5 rfl ?_
      refine J.iload_n (μ := mX10_takeDigits) (pc := 7) dX10_takeDigits_7 rfl ?_
      refine J.icmp_ge (μ := mX10_takeDigits) (pc := 8) 58 dX10_takeDigits_8 (by decide) (fun hc => ?_) (fun hc => ?_)
      · exact absurd hc (nI_nle_of (by omega) (by omega))
      · refine J.aload_n (μ := mX10_takeDigits) (pc := 11) dX10_takeDigits_11 rfl ?_
        refine J.aload_n (μ := mX10_takeDigits) (pc := 12) dX10_takeDigits_12 rfl ?_
        refine J.gi (μ := mX10_takeDigits) (pc := 13) (T := TX10) (ci := 13) (fks := _) rfl rfl in_X10 5 (by decide) wf_X10_33 dX10_takeDigits_13 sh302 rfl ?_
        rw [h2]
        refine J.cV (μ := mX10_takeDigits) (pc := 16) (s_X10_characterAt hwt (by omega)) rfl wm_X10_44 mi_X10_characterAt rfl dX10_takeDigits_16 (Rp.isa (T := TX10) rfl sh302) rfl rfl ⟨(Nat.le_of_ble_eq_true rfl), (Nat.le_of_ble_eq_true rfl)⟩ ⟨(Nat.le_of_ble_eq_true rfl), (Nat.le_of_ble_eq_true rfl)⟩ (Nat.le_of_ble_eq_true rfl) ?_
        refine J.cS (μ := mX10_takeDigits) (pc := 19) (s_X10_isDigit _) rfl wm_X10_95 mi_X10_isDigit rfl dX10_takeDigits_19 rfl rfl ⟨(Nat.le_of_ble_eq_true rfl), (Nat.le_of_ble_eq_true rfl)⟩ ⟨(Nat.le_of_ble_eq_true rfl), (Nat.le_of_ble_eq_true rfl)⟩ (Nat.le_of_ble_eq_true rfl) ?_
        refine J.ifB_eq (μ := mX10_takeDigits) (pc := 22) 58 dX10_takeDigits_22 (by decide) (fun h4 => ?_) (fun h4 => ?_)
        · have he2 : tdN t (f + 1) q x d = (x, d, q) := if_neg (fun z => h4 ((isD_iff ht.2.2.2).mpr z))
          exact out w q x d h1 h2 h3 (by omega) (he.symm.trans he2)
        · have h5 := (isD_iff ht.2.2.2).mp h4
          have he2 : tdN t (f + 1) q x d = tdN t f (q + 1) (10 * x + t.getD q 0 - 48) (d + 1) := if_pos h5
          rw [he2] at he
          refine J.bipush (μ := mX10_takeDigits) (pc := 25) (v := 10) dX10_takeDigits_25 (by decide) ?_
          refine J.iload_n (μ := mX10_takeDigits) (pc := 27) dX10_takeDigits_27 rfl ?_
          refine J.imul (μ := mX10_takeDigits) (pc := 28) dX10_takeDigits_28 ?_
          refine J.aload_n (μ := mX10_takeDigits) (pc := 29) dX10_takeDigits_29 rfl ?_
          refine J.aload_n (μ := mX10_takeDigits) (pc := 30) dX10_takeDigits_30 rfl ?_
          refine J.gi (μ := mX10_takeDigits) (pc := 31) (T := TX10) (ci := 13) (fks := _) rfl rfl in_X10 5 (by decide) wf_X10_33 dX10_takeDigits_31 sh302 rfl ?_
          rw [h2]
          refine J.cV (μ := mX10_takeDigits) (pc := 34) (s_X10_characterAt hwt (by omega)) rfl wm_X10_44 mi_X10_characterAt rfl dX10_takeDigits_34 (Rp.isa (T := TX10) rfl sh302) rfl rfl ⟨(Nat.le_of_ble_eq_true rfl), (Nat.le_of_ble_eq_true rfl)⟩ ⟨(Nat.le_of_ble_eq_true rfl), (Nat.le_of_ble_eq_true rfl)⟩ (Nat.le_of_ble_eq_true rfl) ?_
          rw [cAt_in h5.1]
          refine J.iadd (μ := mX10_takeDigits) (pc := 37) dX10_takeDigits_37 ?_
          refine J.bipush (μ := mX10_takeDigits) (pc := 38) (v := 48) dX10_takeDigits_38 (by decide) ?_
          refine J.isub (μ := mX10_takeDigits) (pc := 40) dX10_takeDigits_40 ?_
          rw [show (10 : Int32) * nI x + nI (t.getD q 0) - 48 = nI (10 * x + t.getD q 0 - 48) by
            rw [show (10 : Int32) = nI 10 from rfl, nI_mul, nI_add]
            obtain ⟨z, hz⟩ : ∃ z, 10 * x + t.getD q 0 = z + 48 := ⟨10 * x + t.getD q 0 - 48, by omega⟩
            rw [hz, ← nI_add, show nI 48 = (48 : Int32) from rfl, Nat.add_sub_cancel, Int32.add_sub_cancel]]
          refine J.istore_n (μ := mX10_takeDigits) (pc := 41) dX10_takeDigits_41 (Nat.le_of_ble_eq_true rfl) rfl ?_
          refine J.aload_n (μ := mX10_takeDigits) (pc := 42) dX10_takeDigits_42 rfl ?_
          refine J.dup (μ := mX10_takeDigits) (pc := 43) dX10_takeDigits_43 rfl ?_
          refine J.gi (μ := mX10_takeDigits) (pc := 44) (T := TX10) (ci := 13) (fks := _) rfl rfl in_X10 5 (by decide) wf_X10_33 dX10_takeDigits_44 sh302 rfl ?_
          rw [h2]
          refine J.iconst (μ := mX10_takeDigits) (pc := 47) (v := 1) dX10_takeDigits_47 (by decide) ?_
          refine J.iadd (μ := mX10_takeDigits) (pc := 48) dX10_takeDigits_48 ?_
          rw [nI_1]
          refine J.pi (μ := mX10_takeDigits) (pc := 49) (T := TX10) (ci := 13) (ty0 := tyX10) (fks := _) rfl rfl in_X10 tyX10_ok nmX10 5 (by decide) wf_X10_33 dX10_takeDigits_49 rfl rfl rfl sh302 rfl ?_
          refine J.iinc (μ := mX10_takeDigits) (pc := 52) (v := 1) dX10_takeDigits_52 rfl (by decide) (Nat.le_of_ble_eq_true rfl) rfl ?_
          refine J.goto (μ := mX10_takeDigits) (pc := 55) 5 dX10_takeDigits_55 (by decide) ?_
          refine J.sub ?_ (ih _ (q + 1) _ (d + 1) (by omega) (h1.tr tq_5) up2_ss (by omega) (fun j => by rw [up2_o _ _ _ (by decide)]; exact h3 j) he)
          exact ⟨rfl, rfl, rfl, rfl, by rw [nI_1], trivial⟩
  refine J.iconst (μ := mX10_takeDigits) (pc := 0) (v := 0) dX10_takeDigits_0 (by decide) ?_
  refine J.istore_n (μ := mX10_takeDigits) (pc := 1) dX10_takeDigits_1 (Nat.le_of_ble_eq_true rfl) rfl ?_
  refine J.iconst (μ := mX10_takeDigits) (pc := 2) (v := 0) dX10_takeDigits_2 (by decide) ?_
  refine J.istore (μ := mX10_takeDigits) (pc := 3) dX10_takeDigits_3 (Nat.le_of_ble_eq_true rfl) rfl ?_
  refine J.sub ?_ (key m u p 0 0 (by omega) tq.rf hp hpl (fun _ => rfl) rfl)
  exact ⟨rfl, rfl, rfl, rfl, rfl, trivial⟩
/-- does a pattern fit from p on: the place behind it, the values -/
def fitF (t : List Nat) : List Nat → Nat → List Nat → Bool × Nat × List Nat
  | [], p, vs => (true, p, vs)
  | c :: cs, p, vs => if c = 35 ∨ c = 42 then (if 0 < (tdN t (if c = 35 then 1 else 2) p 0 0).2.1 then fitF t cs (tdN t (if c = 35 then 1 else 2) p 0 0).2.2 (vs ++ [(tdN t (if c = 35 then 1 else 2) p 0 0).1]) else (false, (tdN t (if c = 35 then 1 else 2) p 0 0).2.2, vs))
    else if p < t.length ∧ t.getD p 0 = c then fitF t cs (p + 1) vs else (false, p, vs)
theorem fitF_le {t : List Nat} : ∀ cs p vs, p ≤ t.length → (fitF t cs p vs).2.1 ≤ t.length
  | [], _, _, h => h
  | c :: cs, p, vs, h => by
    unfold fitF
    by_cases hc : c = 35 ∨ c = 42
    · rw [if_pos hc]
      generalize (if c = 35 then 1 else 2) = m
      split
      · exact fitF_le cs _ _ (tdN_le _ _ _ _ h)
      · exact tdN_le _ _ _ _ h
    · rw [if_neg hc]
      split
      · rename_i q; exact fitF_le cs _ _ (by omega)
      · exact h
/-- how many values a pattern takes -/
def wc : List Nat → Nat
  | [] => 0
  | c :: cs => (if c = 35 ∨ c = 42 then 1 else 0) + wc cs
theorem cAt_eq {t : List Nat} (ht : ∀ c ∈ t, c < 128) {p c : Nat} (hc : c < 128) : cAt t p = nI c ↔ p < t.length ∧ t.getD p 0 = c := by
  by_cases h : p < t.length
  · have := getD_lt ht h
    rw [cAt_in h, nI_eq (by omega) (by omega)]
    exact ⟨fun q => ⟨h, q⟩, fun q => q.2⟩
  · rw [show cAt t p = -1 from if_neg h]
    have : ∀ c, c < 128 → (-1 : Int32) ≠ nI c := by decide +kernel
    exact ⟨fun q => absurd q (this c hc), fun q => absurd q.1 h⟩
theorem s_X10_fits {γ : Gm} {u : Vs} {t bs : List Nat} (ht : tx u t) {si s : Nat} (hq : SK si bs) (hbl : bs.length ≤ 100) (hb : ∀ c ∈ bs, c < 128) (hw : wc bs ≤ 4) (hs : s ≤ t.length) : Ev γ mX10_fits yX10_fits 4 0 0 [.ref (gz γ + 302), .ref (go γ (2 * si)), .int (nI s)] (Rp γ u) (fun w H => w = some (.int (bi (fitF t bs s []).1)) ∧ ∃ u', (tq u u' ∧ u' 302 5 = nI (fitF t bs s []).2.1 ∧ ∀ j, j < (fitF t bs s []).2.2.length → u' 306 j = nI ((fitF t bs s []).2.2.getD j 0)) ∧ Rp γ u' H) := by
  have h60 := ht.2.1
  refine Ev.ofJ (by decide) rfl (fun h => by cases h) (Nat.le_of_ble_eq_true rfl) ?_
  generalize hR : fitF t bs s [] = R
  have key : ∀ (cs : List Nat) (i : Nat) (w : Vs) (p : Nat) (vs : List Nat), bs.drop i = cs → i ≤ bs.length → fitF t cs p vs = R → tq u w → w 302 5 = nI p → p ≤ t.length → wc cs + vs.length ≤ 4 → (∀ j, j < vs.length → w 306 j = nI (vs.getD j 0)) → J γ mX10_fits (rmD 4 0 0) (fEv γ 0 0 (fun w H => w = some (.int (bi R.1)) ∧ ∃ u', (tq u u' ∧ u' 302 5 = nI R.2.1 ∧ ∀ j, j < R.2.2.length → u' 306 j = nI (R.2.2.getD j 0)) ∧ Rp γ u' H)) 0 0 10 [some (.ref (gz γ + 302)), some (.ref (go γ (2 * si))), some (.int (nI s)), some (.int (nI vs.length)), some (.int (nI i)), none] [] (Rp γ w) := by
    intro cs
    induction cs with
    | nil =>
      intro i w p vs hd hi he h1 h2 h3 h4 h5
      have hi2 : i = bs.length := by
        have := congrArg List.length hd
        simp only [List.length_drop, List.length_nil] at this
        omega
      subst hi2
      refine J.iload (μ := mX10_fits) (pc := 10) dX10_fits_10 rfl ?_
      refine J.aload_n (μ := mX10_fits) (pc := 12) dX10_fits_12 rfl ?_
      refine J.callO (μ := mX10_fits) (pc := 13) (s_J0_length hq) rfl wm_X10_82 mi_J0_length_8abf5 rfl dX10_fits_13 (fun s hK => (hq.ko hK).1) rfl rfl ⟨(Nat.le_of_ble_eq_true rfl), (Nat.le_of_ble_eq_true rfl)⟩ ⟨(Nat.le_of_ble_eq_true rfl), (Nat.le_of_ble_eq_true rfl)⟩ (Nat.le_of_ble_eq_true rfl) (fun w => J.and (fun e => ?_))
      subst e
      refine J.icmp_ge (μ := mX10_fits) (pc := 16) 103 dX10_fits_16 (by decide) (fun hc => ?_) (fun hc => ?_)
      · refine J.iconst (μ := mX10_fits) (pc := 103) (v := 1) dX10_fits_103 (by decide) ?_
        exact J.zret (μ := mX10_fits) (pc := 104) dX10_fits_104 rfl rfl (Nat.le_of_ble_eq_true rfl) (Nat.le_of_ble_eq_true rfl) (fun H h => by rw [← he]; exact ⟨rfl, w, ⟨h1, h2, h5⟩, h⟩)
      · exact absurd hc (nI_nlt (Nat.le_refl _) (by omega))
    | cons c cs ih =>
      intro i w p vs hd hi he h1 h2 h3 h4 h5
      have hi2 : i < bs.length := by
        have := congrArg List.length hd
        simp only [List.length_drop, List.length_cons] at this
        omega
      have hci : bs.getD i 0 = c := by
        have h0 : bs[i]? = some c := by rw [← List.head?_drop, hd]; rfl
        rw [List.getD_eq_getElem?_getD, h0]; rfl
      have hcs : bs.drop (i + 1) = cs := by rw [← List.tail_drop, hd]; rfl
      have hc128 : c < 128 := by rw [← hci]; exact getD_lt hb hi2
      have hwt := ht.q h1
      have hwc : wc (c :: cs) = (if c = 35 ∨ c = 42 then 1 else 0) + wc cs := rfl
      refine J.iload (μ := mX10_fits) (pc := 10) dX10_fits_10 rfl ?_
      refine J.aload_n (μ := mX10_fits) (pc := 12) dX10_fits_12 rfl ?_
      refine J.callO (μ := mX10_fits) (pc := 13) (s_J0_length hq) rfl wm_X10_82 mi_J0_length_8abf5 rfl dX10_fits_13 (fun s hK => (hq.ko hK).1) rfl rfl ⟨(Nat.le_of_ble_eq_true rfl), (Nat.le_of_ble_eq_true rfl)⟩ ⟨(Nat.le_of_ble_eq_true rfl), (Nat.le_of_ble_eq_true rfl)⟩ (Nat.le_of_ble_eq_true rfl) (fun w => J.and (fun e => ?_))
      subst e
      refine J.icmp_ge (μ := mX10_fits) (pc := 16) 103 dX10_fits_16 (by decide) (fun hc => ?_) (fun hc => ?_)
      · exact absurd hc (nI_ge hi2 (by omega))
      · refine J.aload_n (μ := mX10_fits) (pc := 19) dX10_fits_19 rfl ?_
        refine J.iload (μ := mX10_fits) (pc := 20) dX10_fits_20 rfl ?_
        refine J.callO (μ := mX10_fits) (pc := 22) (s_J0_charAt hq hi2 (by omega) hb) rfl wm_X10_87 mi_J0_charAt_5068e rfl dX10_fits_22 (fun s hK => (hq.ko hK).1) rfl rfl ⟨(Nat.le_of_ble_eq_true rfl), (Nat.le_of_ble_eq_true rfl)⟩ ⟨(Nat.le_of_ble_eq_true rfl), (Nat.le_of_ble_eq_true rfl)⟩ (Nat.le_of_ble_eq_true rfl) (fun w => J.and (fun e => ?_))
        subst e
        rw [hci]
        have hwild : ∀ m : Nat, m ≤ 2 → (c = 35 ∨ c = 42) → (m = if c = 35 then 1 else 2) → J γ mX10_fits (rmD 4 0 0) (fEv γ 0 0 (fun w H => w = some (.int (bi R.1)) ∧ ∃ u', (tq u u' ∧ u' 302 5 = nI R.2.1 ∧ ∀ j, j < R.2.2.length → u' 306 j = nI (R.2.2.getD j 0)) ∧ Rp γ u' H)) 0 0 54 [some (.ref (gz γ + 302)), some (.ref (go γ (2 * si))), some (.int (nI s)), some (.int (nI vs.length)), some (.int (nI i)), some (.int (nI c))] [.int (nI m), .ref (gz γ + 302)] (Rp γ w) := by
          intro m hm hcc hmm
          rw [if_pos hcc] at hwc
          have he2 : fitF t (c :: cs) p vs = if 0 < (tdN t m p 0 0).2.1 then fitF t cs (tdN t m p 0 0).2.2 (vs ++ [(tdN t m p 0 0).1]) else (false, (tdN t m p 0 0).2.2, vs) := by
            rw [hmm]; exact if_pos hcc
          refine J.iload_n (μ := mX10_fits) (pc := 54) dX10_fits_54 rfl ?_
          refine J.callV (μ := mX10_fits) (pc := 55) (s_X10_takeDigits hwt h2 h3 hm (by omega)) rfl wm_X10_91 mi_X10_takeDigits rfl dX10_fits_55 (Rp.isa (T := TX10) rfl sh302) rfl rfl ⟨(Nat.le_of_ble_eq_true rfl), (Nat.le_of_ble_eq_true rfl)⟩ ⟨(Nat.le_of_ble_eq_true rfl), (Nat.le_of_ble_eq_true rfl)⟩ (Nat.le_of_ble_eq_true rfl) (fun w => J.and (fun e => ?_))
          subst e
          refine J.ex fun w2 => J.and fun hw2 => ?_
          refine J.ifB_ne (μ := mX10_fits) (pc := 58) 63 dX10_fits_58 (by decide) (fun h6 => ?_) (fun h6 => ?_)
          · rw [if_pos h6] at he2
            rw [he2] at he
            refine J.iinc (μ := mX10_fits) (pc := 63) (v := 1) dX10_fits_63 rfl (by decide) (Nat.le_of_ble_eq_true rfl) rfl ?_
            refine J.goto (μ := mX10_fits) (pc := 66) 97 dX10_fits_66 (by decide) ?_
            refine J.iinc (μ := mX10_fits) (pc := 97) (v := 1) dX10_fits_97 rfl (by decide) (Nat.le_of_ble_eq_true rfl) rfl ?_
            refine J.goto (μ := mX10_fits) (pc := 100) 10 dX10_fits_100 (by decide) ?_
            refine J.sub ?_ (ih (i + 1) w2 _ (vs ++ [(tdN t m p 0 0).1]) hcs hi2 he (h1.tr hw2.1) hw2.2.1 (tdN_le _ _ _ _ h3) (by simp only [List.length_append, List.length_cons, List.length_nil]; omega) (fun j hj => ?_))
            · exact ⟨rfl, rfl, rfl, by rw [nI_1]; simp, by rw [nI_1], trivial⟩
            · simp only [List.length_append, List.length_cons, List.length_nil] at hj
              by_cases hjv : j < vs.length
              · rw [hw2.2.2.2 j (by omega), h5 j hjv, List.getD_eq_getElem?_getD, List.getD_eq_getElem?_getD, List.getElem?_append_left hjv]
              · have : j = vs.length := by omega
                subst this
                rw [hw2.2.2.1]
                simp [List.getD_eq_getElem?_getD]
          · rw [if_neg h6] at he2
            rw [he2] at he
            refine J.iconst (μ := mX10_fits) (pc := 61) (v := 0) dX10_fits_61 (by decide) ?_
            have h7 : ∀ j, j < vs.length → w2 306 j = nI (vs.getD j 0) := fun j hj => by
              rw [hw2.2.2.2 j (by omega)]
              exact h5 j hj
            exact J.zret (μ := mX10_fits) (pc := 62) dX10_fits_62 rfl rfl (Nat.le_of_ble_eq_true rfl) (Nat.le_of_ble_eq_true rfl) (fun H h => by rw [← he]; exact ⟨rfl, w2, ⟨h1.tr hw2.1, hw2.2.1, h7⟩, h⟩)
        refine J.istore (μ := mX10_fits) (pc := 25) dX10_fits_25 (Nat.le_of_ble_eq_true rfl) rfl ?_
        refine J.iload (μ := mX10_fits) (pc := 27) dX10_fits_27 rfl ?_
        refine J.bipush (μ := mX10_fits) (pc := 29) (v := 35) dX10_fits_29 (by decide) ?_
        refine J.icmp_eq (μ := mX10_fits) (pc := 31) 41 dX10_fits_31 (by decide) (fun h6 => ?_) (fun h6 => ?_)
        · have hc35 : c = 35 := (nI_eq (by omega) (by decide)).mp h6
          refine J.aload_n (μ := mX10_fits) (pc := 41) dX10_fits_41 rfl ?_
          refine J.iload (μ := mX10_fits) (pc := 42) dX10_fits_42 rfl ?_
          refine J.bipush (μ := mX10_fits) (pc := 44) (v := 35) dX10_fits_44 (by decide) ?_
          refine J.icmp_ne (μ := mX10_fits) (pc := 46) 53 dX10_fits_46 (by decide) (fun h7 => ?_) (fun h7 => ?_)
          · exact absurd h6 h7
          · refine J.iconst (μ := mX10_fits) (pc := 49) (v := 1) dX10_fits_49 (by decide) ?_
            refine J.goto (μ := mX10_fits) (pc := 50) 54 dX10_fits_50 (by decide) ?_
            exact J.sub (by simp [lsub]) (hwild 1 (by omega) (.inl hc35) (by rw [if_pos hc35]))
        · have hc35 : c ≠ 35 := fun z => h6 (by rw [z]; rfl)
          refine J.iload (μ := mX10_fits) (pc := 34) dX10_fits_34 rfl ?_
          refine J.bipush (μ := mX10_fits) (pc := 36) (v := 42) dX10_fits_36 (by decide) ?_
          refine J.icmp_ne (μ := mX10_fits) (pc := 38) 69 dX10_fits_38 (by decide) (fun h7 => ?_) (fun h7 => ?_)
          · have hc42 : c ≠ 42 := fun z => h7 (by rw [z]; rfl)
            have hno : ¬ (c = 35 ∨ c = 42) := fun z => z.elim hc35 hc42
            rw [if_neg hno] at hwc
            have he2 : fitF t (c :: cs) p vs = if p < t.length ∧ t.getD p 0 = c then fitF t cs (p + 1) vs else (false, p, vs) := if_neg hno
            refine J.aload_n (μ := mX10_fits) (pc := 69) dX10_fits_69 rfl ?_
            refine J.aload_n (μ := mX10_fits) (pc := 70) dX10_fits_70 rfl ?_
            refine J.gi (μ := mX10_fits) (pc := 71) (T := TX10) (ci := 13) (fks := _) rfl rfl in_X10 5 (by decide) wf_X10_33 dX10_fits_71 sh302 rfl ?_
            rw [h2]
            refine J.cV (μ := mX10_fits) (pc := 74) (s_X10_characterAt hwt (by omega)) rfl wm_X10_44 mi_X10_characterAt rfl dX10_fits_74 (Rp.isa (T := TX10) rfl sh302) rfl rfl ⟨(Nat.le_of_ble_eq_true rfl), (Nat.le_of_ble_eq_true rfl)⟩ ⟨(Nat.le_of_ble_eq_true rfl), (Nat.le_of_ble_eq_true rfl)⟩ (Nat.le_of_ble_eq_true rfl) ?_
            refine J.iload (μ := mX10_fits) (pc := 77) dX10_fits_77 rfl ?_
            refine J.icmp_ne (μ := mX10_fits) (pc := 79) 95 dX10_fits_79 (by decide) (fun h8 => ?_) (fun h8 => ?_)
            · rw [if_neg (fun z => h8 ((cAt_eq ht.2.2.2 hc128).mpr z))] at he2
              rw [he2] at he
              refine J.iconst (μ := mX10_fits) (pc := 95) (v := 0) dX10_fits_95 (by decide) ?_
              exact J.zret (μ := mX10_fits) (pc := 96) dX10_fits_96 rfl rfl (Nat.le_of_ble_eq_true rfl) (Nat.le_of_ble_eq_true rfl) (fun H h => by rw [← he]; exact ⟨rfl, w, ⟨h1, h2, h5⟩, h⟩)
            · have h9 := (cAt_eq ht.2.2.2 hc128).mp h8
              rw [if_pos h9] at he2
              rw [he2] at he
              refine J.aload_n (μ := mX10_fits) (pc := 82) dX10_fits_82 rfl ?_
              refine J.dup (μ := mX10_fits) (pc := 83) dX10_fits_83 rfl ?_
              refine J.gi (μ := mX10_fits) (pc := 84) (T := TX10) (ci := 13) (fks := _) rfl rfl in_X10 5 (by decide) wf_X10_33 dX10_fits_84 sh302 rfl ?_
              rw [h2]
              refine J.iconst (μ := mX10_fits) (pc := 87) (v := 1) dX10_fits_87 (by decide) ?_
              refine J.iadd (μ := mX10_fits) (pc := 88) dX10_fits_88 ?_
              rw [nI_1]
              refine J.pi (μ := mX10_fits) (pc := 89) (T := TX10) (ci := 13) (ty0 := tyX10) (fks := _) rfl rfl in_X10 tyX10_ok nmX10 5 (by decide) wf_X10_33 dX10_fits_89 rfl rfl rfl sh302 rfl ?_
              refine J.goto (μ := mX10_fits) (pc := 92) 97 dX10_fits_92 (by decide) ?_
              refine J.iinc (μ := mX10_fits) (pc := 97) (v := 1) dX10_fits_97 rfl (by decide) (Nat.le_of_ble_eq_true rfl) rfl ?_
              refine J.goto (μ := mX10_fits) (pc := 100) 10 dX10_fits_100 (by decide) ?_
              refine J.sub ?_ (ih (i + 1) _ (p + 1) vs hcs hi2 he (h1.tr tq_5) up2_ss (by omega) (by omega) (fun j hj => by rw [up2_o _ _ _ (by decide)]; exact h5 j hj))
              exact ⟨rfl, rfl, rfl, rfl, by rw [nI_1], trivial⟩
          · have hc42 : c = 42 := (nI_eq (by omega) (by decide)).mp h7
            refine J.aload_n (μ := mX10_fits) (pc := 41) dX10_fits_41 rfl ?_
            refine J.iload (μ := mX10_fits) (pc := 42) dX10_fits_42 rfl ?_
            refine J.bipush (μ := mX10_fits) (pc := 44) (v := 35) dX10_fits_44 (by decide) ?_
            refine J.icmp_ne (μ := mX10_fits) (pc := 46) 53 dX10_fits_46 (by decide) (fun h8 => ?_) (fun h8 => ?_)
            · refine J.iconst (μ := mX10_fits) (pc := 53) (v := 2) dX10_fits_53 (by decide) ?_
              exact J.sub (by simp [lsub]) (hwild 2 (by omega) (.inr hc42) (by rw [if_neg hc35]))
            · exact absurd h8 h6
  refine J.aload_n (μ := mX10_fits) (pc := 0) dX10_fits_0 rfl ?_
  refine J.iload_n (μ := mX10_fits) (pc := 1) dX10_fits_1 rfl ?_
  refine J.pi (μ := mX10_fits) (pc := 2) (T := TX10) (ci := 13) (ty0 := tyX10) (fks := _) rfl rfl in_X10 tyX10_ok nmX10 5 (by decide) wf_X10_33 dX10_fits_2 rfl rfl rfl sh302 rfl ?_
  refine J.iconst (μ := mX10_fits) (pc := 5) (v := 0) dX10_fits_5 (by decide) ?_
  refine J.istore_n (μ := mX10_fits) (pc := 6) dX10_fits_6 (Nat.le_of_ble_eq_true rfl) rfl ?_
  refine J.iconst (μ := mX10_fits) (pc := 7) (v := 0) dX10_fits_7 (by decide) ?_
  refine J.istore (μ := mX10_fits) (pc := 8) dX10_fits_8 (Nat.le_of_ble_eq_true rfl) rfl ?_
  refine J.sub ?_ (key bs 0 _ s [] rfl (Nat.zero_le _) hR tq_5 up2_ss hs (by simpa using hw) (fun j hj => absurd hj (Nat.not_lt_zero j)))
  exact ⟨rfl, rfl, rfl, rfl, rfl, trivial⟩
