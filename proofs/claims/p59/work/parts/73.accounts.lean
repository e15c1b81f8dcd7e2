/-! the accounts, as the law reads them -/
section AZ
variable {T N M H : Nat} {v : Vs}
theorem acc_eq (h : Inv 0 T N M H (iv v 1)) (hT : T ≤ 1000000000) : v 1 4 = sm (fun i => decide (0 ≤ gPl v 1 (nI i))) (fun i => gVo v 1 (nI i)) N + sm (fun i => decide (gPl v 1 (nI i) = -1)) (fun i => gVo v 1 (nI i)) N + v 1 5 + v 1 6 := by
  have h20 := h.1.1.2
  have ac := h.2.1
  have st := h.stored_le
  have hv : ∀ i, i < N → 0 ≤ (gVo v 1 (nI i)).toInt ∧ (gVo v 1 (nI i)).toInt ≤ (40 : Nat) := fun i hi => by
    rw [zVo (by omega)]; exact (h.lot hi).2.2.2.1.vo
  have a1 := sm_Z (p := fun i => decide (0 ≤ gPl v 1 (nI i))) (f := fun i => gVo v 1 (nI i)) (B := 40) (n := N) (fun i hi _ => hv i hi) (by omega)
  have a2 := sm_Z (p := fun i => decide (gPl v 1 (nI i) = -1)) (f := fun i => gVo v 1 (nI i)) (B := 40) (n := N) (fun i hi _ => hv i hi) (by omega)
  have e : su (iv v 1 14) N = su (fun i => if decide (0 ≤ gPl v 1 (nI i)) = true then (gVo v 1 (nI i)).toInt else 0) N + su (fun i => if decide (gPl v 1 (nI i) = -1) = true then (gVo v 1 (nI i)).toInt else 0) N := by
    rw [← su_add]
    refine su_congr (fun i hi => ?_)
    have p1 : 0 ≤ gPl v 1 (nI i) ↔ 0 ≤ iv v 1 18 i := by rw [t_le, zPl (by omega), t_0]
    have p2 : gPl v 1 (nI i) = -1 ↔ iv v 1 18 i = -1 := by rw [t_eq, zPl (by omega), t_m1]
    simp only [decide_eq_true_iff, p1, p2]
    rw [zVo (by omega)]
    rcases (h.lot hi).2.2.2.1 with ⟨q, q2⟩ | ⟨q, q2⟩ | ⟨j, -, q, -⟩
    · rw [if_neg (by omega), if_neg (by omega), q2]; rfl
    · rw [if_neg (by omega), if_pos q]; omega
    · rw [if_pos (by omega), if_neg (by omega)]; omega
  have b1 : 0 ≤ su (fun i => if decide (0 ≤ gPl v 1 (nI i)) = true then (gVo v 1 (nI i)).toInt else 0) N := su_nonneg (fun i hi => by
    show 0 ≤ (if decide (0 ≤ gPl v 1 (nI i)) = true then (gVo v 1 (nI i)).toInt else 0)
    split
    · exact (hv i hi).1
    · exact Int.le_refl _)
  have b2 : 0 ≤ su (fun i => if decide (gPl v 1 (nI i) = -1) = true then (gVo v 1 (nI i)).toInt else 0) N := su_nonneg (fun i hi => by
    show 0 ≤ (if decide (gPl v 1 (nI i) = -1) = true then (gVo v 1 (nI i)).toInt else 0)
    split
    · exact (hv i hi).1
    · exact Int.le_refl _)
  have r4 : (v 1 4).toInt = iv v 1 0 4 := rfl
  have r5 : (v 1 5).toInt = iv v 1 0 5 := rfl
  have r6 : (v 1 6).toInt = iv v 1 0 6 := rfl
  rw [t_eq]
  generalize sm (fun i => decide (0 ≤ gPl v 1 (nI i))) (fun i => gVo v 1 (nI i)) N = x at *
  generalize sm (fun i => decide (gPl v 1 (nI i) = -1)) (fun i => gVo v 1 (nI i)) N = y at *
  have s1 : (x + y).toInt = x.toInt + y.toInt := t_add (by omega) (by omega)
  have s2 : (x + y + v 1 5).toInt = x.toInt + y.toInt + iv v 1 0 5 := by rw [t_add (by omega) (by omega), s1, r5]
  rw [t_add (by omega) (by omega), s2, r6, r4]
  omega
/-- who has a parent has one at least -/
theorem pc_pos (h : Inv 0 T N M H (iv v 1)) {b : Nat} (hb : b < N) (hp : iv v 1 20 b ≠ -1) : 0 < pcN v (nI b) := by
  have h20 := h.1.1.2
  have e : ¬ gP1 v 1 (nI b) = -1 := fun q => hp (by rw [t_eq, zP1 (by omega), t_m1] at q; exact q)
  unfold pcN
  rw [if_neg e]
  split <;> decide
end AZ
