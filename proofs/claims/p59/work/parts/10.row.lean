theorem sh0 : shape 0 = some (.inl (14, [some 1, some 27, some 53, some 79, some 289, some 290, some 293, some 302, some 307, none, none, none, none])) := rfl
theorem sh79 : shape 79 = some (.inl (7, [some 80, none, none])) := rfl
theorem sh289 : shape 289 = some (.inl (6, [none])) := rfl
theorem sh290 : shape 290 = some (.inl (5, [some 291])) := rfl
theorem sh293 : shape 293 = some (.inl (9, [some 294, some 296, some 298, some 300, none, none])) := rfl
theorem sh302 : shape 302 = some (.inl (13, [some 303, some 305, none, none, none, none])) := rfl
theorem st1 : IsStk 1 := isStk_main 0 (by decide)
theorem st27 : IsStk 27 := isStk_main 1 (by decide)
theorem st53 : IsStk 53 := isStk_main 2 (by decide)
theorem row291 : IsRow 291 400 := ⟨rfl, rfl⟩
theorem row294 : IsRow 294 8 := ⟨rfl, rfl⟩
theorem row296 : IsRow 296 8 := ⟨rfl, rfl⟩
theorem row298 : IsRow 298 8 := ⟨rfl, rfl⟩
theorem row300 : IsRow 300 256 := ⟨rfl, rfl⟩
theorem row303 : IsRow 303 60 := ⟨rfl, rfl⟩
theorem row305 : IsRow 305 4 := ⟨rfl, rfl⟩
/-- what a row of n numbers f answers at x; what it holds when x is set to y -/
def rg (f : Nat → Int32) (n : Nat) (x : Int32) : Int32 := if 0 ≤ x ∧ x < nI n then f x.toNatClampNeg else 0
def rs (v : Vs) (a n : Nat) (x y : Int32) : Vs := if 0 ≤ x ∧ x < nI n then up2 v a x.toNatClampNeg y else v
theorem vp_in_of2 {x : Int32} {n : Nat} (hn : n < 2 ^ 31) (h0 : 0 ≤ x) (h1 : x < nI n) : vp_in x n := by
  rw [vp_in_iff]
  have a := Int32.le_iff_toInt_le.mp h0
  have b := Int32.lt_iff_toInt_lt.mp h1
  rw [nI_toInt hn] at b
  rw [Int32.toInt_zero] at a
  exact ⟨a, b⟩
theorem IsRow.small {r n : Nat} (h : IsRow r n) : n < 2 ^ 31 := by
  have hk := (shape_lt h.2).1
  have : ∀ k x, shape k = some (.inr x) → x < 2 ^ 31 := by
    intro k x hx
    unfold shape at hx
    have hs : ∀ o c, stkSh o c = .inr x → x < 2 ^ 31 := by
      intro o c hc
      unfold stkSh at hc
      split at hc <;> simp at hc <;> omega
    have ht : ∀ c, tailSh c = some (.inr x) → x < 2 ^ 31 := by
      intro c hc
      unfold tailSh at hc
      split at hc <;> simp at hc <;> omega
    split at hx
    · simp at hx
    split at hx
    · exact hs _ _ (Option.some.inj hx)
    split at hx
    · simp at hx
    split at hx
    · simp at hx
    split at hx
    · exact hs _ _ (Option.some.inj hx)
    · exact ht _ hx
  exact this _ _ h.2
theorem s_X7_get {γ : Gm} {v : Vs} {r n : Nat} (hr : IsRow r n) (x : Int32) : Er γ mX7_get yX7_get 0 [.ref (gz γ + r), .int x] v (.int (rg (v (r + 1)) n x)) := by
  refine Ev.ofJ (by decide) rfl (fun h => by cases h) (Nat.le_of_ble_eq_true rfl) ?_
  refine J.iload_n (μ := mX7_get) (pc := 0) dX7_get_0 rfl ?_
  refine J.if_lt (μ := mX7_get) (pc := 1) 22 dX7_get_1 (by decide) (fun h0 => ?_) (fun h0 => ?_)
  · refine J.iconst (μ := mX7_get) (pc := 22) (v := 0) dX7_get_22 (by decide) ?_
    rw [show rg (v (r + 1)) n x = 0 from if_neg (fun h => absurd h.1 (Int32.not_le.mpr h0))]
    exact J.iret (μ := mX7_get) (pc := 23) dX7_get_23 rfl (Nat.le_of_ble_eq_true rfl) (Nat.le_of_ble_eq_true rfl) (fun H h => ⟨rfl, h⟩)
  · refine J.iload_n (μ := mX7_get) (pc := 4) dX7_get_4 rfl ?_
    refine J.aload_n (μ := mX7_get) (pc := 5) dX7_get_5 rfl ?_
    refine J.gr (μ := mX7_get) (pc := 6) (T := TX7) (ci := 10) (fks := _) rfl rfl in_X7 0 (by decide) wf_X7_7 dX7_get_6 hr.1 rfl ?_
    refine J.al (μ := mX7_get) (pc := 9) dX7_get_9 hr.2 rfl ?_
    refine J.icmp_ge (μ := mX7_get) (pc := 10) 22 dX7_get_10 (by decide) (fun h1 => ?_) (fun h1 => ?_)
    · refine J.iconst (μ := mX7_get) (pc := 22) (v := 0) dX7_get_22 (by decide) ?_
      rw [show rg (v (r + 1)) n x = 0 from if_neg (fun h => absurd h.2 (Int32.not_lt.mpr h1))]
      exact J.iret (μ := mX7_get) (pc := 23) dX7_get_23 rfl (Nat.le_of_ble_eq_true rfl) (Nat.le_of_ble_eq_true rfl) (fun H h => ⟨rfl, h⟩)
    · refine J.aload_n (μ := mX7_get) (pc := 13) dX7_get_13 rfl ?_
      refine J.gr (μ := mX7_get) (pc := 14) (T := TX7) (ci := 10) (fks := _) rfl rfl in_X7 0 (by decide) wf_X7_7 dX7_get_14 hr.1 rfl ?_
      refine J.iload_n (μ := mX7_get) (pc := 17) dX7_get_17 rfl ?_
      refine J.ai (μ := mX7_get) (pc := 18) dX7_get_18 hr.2 (vp_in_of2 hr.small h0 h1) ?_
      refine J.goto (μ := mX7_get) (pc := 19) 23 dX7_get_19 (by decide) ?_
      rw [show rg (v (r + 1)) n x = v (r + 1) x.toNatClampNeg from if_pos ⟨h0, h1⟩]
      exact J.iret (μ := mX7_get) (pc := 23) dX7_get_23 rfl (Nat.le_of_ble_eq_true rfl) (Nat.le_of_ble_eq_true rfl) (fun H h => ⟨rfl, h⟩)
theorem s_X7_set {γ : Gm} {v : Vs} {r n : Nat} (hr : IsRow r n) (x y : Int32) : Ew γ mX7_set yX7_set 0 [.ref (gz γ + r), .int x, .int y] v none (rs v (r + 1) n x y) := by
  refine Ev.ofJ (by decide) rfl (fun h => by cases h) (Nat.le_of_ble_eq_true rfl) ?_
  refine J.iload_n (μ := mX7_set) (pc := 0) dX7_set_0 rfl ?_
  refine J.if_lt (μ := mX7_set) (pc := 1) 20 dX7_set_1 (by decide) (fun h0 => ?_) (fun h0 => ?_)
  · rw [show rs v (r + 1) n x y = v from if_neg (fun h => absurd h.1 (Int32.not_le.mpr h0))]
    exact J.vret (μ := mX7_set) (pc := 20) dX7_set_20 rfl (Nat.le_of_ble_eq_true rfl) (Nat.le_of_ble_eq_true rfl) (fun H h => ⟨rfl, h⟩)
  · refine J.iload_n (μ := mX7_set) (pc := 4) dX7_set_4 rfl ?_
    refine J.aload_n (μ := mX7_set) (pc := 5) dX7_set_5 rfl ?_
    refine J.gr (μ := mX7_set) (pc := 6) (T := TX7) (ci := 10) (fks := _) rfl rfl in_X7 0 (by decide) wf_X7_7 dX7_set_6 hr.1 rfl ?_
    refine J.al (μ := mX7_set) (pc := 9) dX7_set_9 hr.2 rfl ?_
    refine J.icmp_ge (μ := mX7_set) (pc := 10) 20 dX7_set_10 (by decide) (fun h1 => ?_) (fun h1 => ?_)
    · rw [show rs v (r + 1) n x y = v from if_neg (fun h => absurd h.2 (Int32.not_lt.mpr h1))]
      exact J.vret (μ := mX7_set) (pc := 20) dX7_set_20 rfl (Nat.le_of_ble_eq_true rfl) (Nat.le_of_ble_eq_true rfl) (fun H h => ⟨rfl, h⟩)
    · refine J.aload_n (μ := mX7_set) (pc := 13) dX7_set_13 rfl ?_
      refine J.gr (μ := mX7_set) (pc := 14) (T := TX7) (ci := 10) (fks := _) rfl rfl in_X7 0 (by decide) wf_X7_7 dX7_set_14 hr.1 rfl ?_
      refine J.iload_n (μ := mX7_set) (pc := 17) dX7_set_17 rfl ?_
      refine J.iload_n (μ := mX7_set) (pc := 18) dX7_set_18 rfl ?_
      refine J.as (μ := mX7_set) (pc := 19) dX7_set_19 hr.2 (vp_in_of2 hr.small h0 h1) ?_
      rw [show rs v (r + 1) n x y = up2 v (r + 1) x.toNatClampNeg y from if_pos ⟨h0, h1⟩]
      exact J.vret (μ := mX7_set) (pc := 20) dX7_set_20 rfl (Nat.le_of_ble_eq_true rfl) (Nat.le_of_ble_eq_true rfl) (fun H h => ⟨rfl, h⟩)
