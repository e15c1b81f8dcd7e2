/-! the law: a cell of the script -/
theorem div_nI {a b : Nat} (ha : a < 1000000) (hb : b < 1000000) : nI a / nI b = nI (a / b) := by
  have h1 : a / b ≤ a := Nat.div_le_self _ _
  have h2 : ((a / b : Nat) : Int) = (a : Int) / (b : Int) := Int.natCast_ediv a b
  rw [t_eq, Int32.toInt_div, t_nI (n := a) (by omega), t_nI (n := b) (by omega), t_nI (n := a / b) (by omega), Int.tdiv_eq_ediv_of_nonneg (by omega), ← h2]
  generalize a / b = c at h1
  exact Int.bmod_eq_of_le (by omega) (by omega)
theorem rem_nI {a b : Nat} (ha : a < 1000000) (hb : b < 1000000) : nI a - nI a / nI b * nI b = nI (a % b) := by
  rw [div_nI ha hb, nI_mul, nI_subN (Nat.div_mul_le_self a b)]
  congr 1
  have := Nat.div_add_mod a b
  rw [Nat.mul_comm] at this
  omega
theorem l_cell {γ : Gm} {P : Heap → Prop} (hL : go γ 1004 ≤ 260) {q : Nat} (hq : q < 60000) : Ev γ mL_cell yL_cell 0 0 0 [.ref (go γ 1003), .int (nI q)] P (fun w K => (∃ x : Int32, w = some (.int x)) ∧ P K) := by
  refine Ev.ofJ (by decide) rfl (fun h => by cases h) (Nat.le_of_ble_eq_true rfl) ?_
  have hs : ∀ s, Kn γ s → va_T .int (go γ 1003) (go γ 1004) (fun j => .int (nI (go γ (2000 + j)))) (gA γ) s s.heap := fun s hK => hK.2.2.2.2.2.2.2.2.2.2.2.2.2.2.2.2.2
  refine J.aload_n (μ := mL_cell) (pc := 0) dL_cell_0 rfl ?_
  refine J.tlen (μ := mL_cell) (pc := 1) hs rfl dL_cell_1 ?_
  refine J.if_ne (μ := mL_cell) (pc := 2) 13 dL_cell_2 (by decide) (fun h1 => ?_) (fun h1 => ?_)
  · have hne : go γ 1004 ≠ 0 := fun z => h1 (by rw [z]; rfl)
    refine J.aload_n (μ := mL_cell) (pc := 13) dL_cell_13 rfl ?_
    refine J.iload_n (μ := mL_cell) (pc := 14) dL_cell_14 rfl ?_
    refine J.ldc (μ := mL_cell) (pc := 15) rfl wo_L_7 dL_cell_15 ?_
    refine J.iand (μ := mL_cell) (pc := 17) dL_cell_17 ?_
    refine J.aload_n (μ := mL_cell) (pc := 18) dL_cell_18 rfl ?_
    refine J.tlen (μ := mL_cell) (pc := 19) hs rfl dL_cell_19 ?_
    refine J.irem (μ := mL_cell) (pc := 20) dL_cell_20 (fun z => hne (by
      have z : nI (go γ 1004) = 0 := z
      rw [t_eq, t_nI (by omega), t_0] at z; omega)) ?_
    have e1 : nI q &&& 65535 = nI q := by
      rw [show (65535 : Int32) = nI 65535 from rfl, nI_and, show (65535 : Nat) = 2 ^ 16 - 1 from rfl, and_low, Nat.mod_eq_of_lt (by omega)]
    have hm : q % go γ 1004 < go γ 1004 := Nat.mod_lt _ (by omega)
    rw [e1, show Int32.ofNat (go γ 1004) = nI (go γ 1004) from rfl, rem_nI (by omega) (by omega)]
    refine J.ti (μ := mL_cell) (pc := 21) hs (vp_in_of2 (by omega) (by rw [t_le, t_nI (by omega), t_0]; omega) (nI_lt hm (by omega))) rfl dL_cell_21 ?_
    exact J.iret (μ := mL_cell) (pc := 22) dL_cell_22 rfl (Nat.le_of_ble_eq_true rfl) (Nat.le_of_ble_eq_true rfl) (fun K k => ⟨⟨_, rfl⟩, k⟩)
  · refine J.sipush (μ := mL_cell) (pc := 5) (v := 577) dL_cell_5 (by decide) ?_
    refine J.iload_n (μ := mL_cell) (pc := 8) dL_cell_8 rfl ?_
    refine J.imul (μ := mL_cell) (pc := 9) dL_cell_9 ?_
    refine J.goto (μ := mL_cell) (pc := 10) 22 dL_cell_10 (by decide) ?_
    exact J.iret (μ := mL_cell) (pc := 22) dL_cell_22 rfl (Nat.le_of_ble_eq_true rfl) (Nat.le_of_ble_eq_true rfl) (fun K k => ⟨⟨_, rfl⟩, k⟩)
