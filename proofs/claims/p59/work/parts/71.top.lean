/-! the top of the heap is the one that the scan finds -/
section TZ
variable {D : Int} {T N M H : Nat} {v : Vs} {o : Nat}
theorem Inv.fscZ (h : Inv D T N M H (iv v o)) : ∀ m, m ≤ N → (fsc v o m = -1 ∧ ∀ i, i < m → iv v o 18 i ≠ -1) ∨ ∃ i, i < m ∧ fsc v o m = nI i ∧ iv v o 18 i = -1 ∧ ∀ k, k < m → iv v o 18 k = -1 → k ≠ i → hb (iv v o) i k
  | 0, _ => .inl ⟨rfl, fun i hi => absurd hi (Nat.not_lt_zero _)⟩
  | m + 1, hm => by
    have h20 := h.1.1.2
    have ih := h.fscZ m (by omega)
    have e : gPl v o (nI m) = -1 ↔ iv v o 18 m = -1 := by rw [t_eq, zPl (by omega), t_m1]
    have ho := hb_ord (iv v o)
    rw [show fsc v o (m + 1) = if gPl v o (nI m) = -1 ∧ (fsc v o m = -1 ∨ cmpB v o (nI m) (fsc v o m)) then nI m else fsc v o m from rfl]
    by_cases q : gPl v o (nI m) = -1 ∧ (fsc v o m = -1 ∨ cmpB v o (nI m) (fsc v o m))
    · rw [if_pos q]
      refine .inr ⟨m, by omega, rfl, e.mp q.1, fun k hk k1 k2 => ?_⟩
      rcases ih with ⟨i1, i2⟩ | ⟨i, i1, i2, i3, i4⟩
      · exact absurd k1 (i2 k (by omega))
      · have h1 : cmpB v o (nI m) (nI i) := by
          rcases q.2 with q2 | q2
          · rw [i2, t_eq, t_nI (by omega), t_m1] at q2; omega
          · rw [i2] at q2; exact q2
        rw [cmpB_Z (by omega) (by omega), hbB_iff] at h1
        by_cases z : k = i
        · subst z; exact h1
        · exact ho.1 _ _ _ h1 (i4 k (by omega) k1 z)
    · rw [if_neg q]
      rcases ih with ⟨i1, i2⟩ | ⟨i, i1, i2, i3, i4⟩
      · refine .inl ⟨i1, fun k hk z => ?_⟩
        by_cases y : k = m
        · subst y; exact q ⟨e.mpr z, .inl i1⟩
        · exact i2 k (by omega) z
      · refine .inr ⟨i, by omega, i2, i3, fun k hk k1 k2 => ?_⟩
        by_cases y : k = m
        · subst y
          refine ho.2 _ _ k2 (fun w => q ⟨e.mpr k1, .inr ?_⟩)
          rw [i2, cmpB_Z (by omega) (by omega), hbB_iff]; exact w
        · exact i4 k (by omega) k1 k2
/-- both ways to the next lot that is composted -/
theorem Inv.top (h : Inv D T N M H (iv v o)) : (if 0 < v (o + 23) 1 then gHp v o 0 else -1) = fsc v o N ∧ (H = 0 → fsc v o N = -1) ∧ (0 < H → ∃ t, t < N ∧ fsc v o N = nI t ∧ iv v o 18 t = -1 ∧ gHp v o 0 = nI t) := by
  have h20 := h.1.1.2
  have hH := h.H20
  have ho := hb_ord (iv v o)
  have ev : 0 < v (o + 23) 1 ↔ 0 < H := by rw [h.vH, t_lt, t_0, t_nI (by omega)]; omega
  rcases Nat.eq_zero_or_pos H with z | z
  · have h1 := h.2.2.2.2.2
    have hf : fsc v o N = -1 := by
      rcases h.fscZ N (Nat.le_refl N) with ⟨q, -⟩ | ⟨i, i1, -, i3, -⟩
      · exact q
      · obtain ⟨c, hc, -⟩ := h1.2.2.2.1 i i1 i3
        omega
    exact ⟨by rw [if_neg (fun q => by have := ev.mp q; omega), hf], fun _ => hf, fun q => by omega⟩
  · obtain ⟨h', rfl⟩ : ∃ h', H = h' + 1 := ⟨H - 1, by omega⟩
    obtain ⟨t, t1, t2, t3, t4, -⟩ := h.pop
    have hf : fsc v o N = nI t := by
      rcases h.fscZ N (Nat.le_refl N) with ⟨-, q⟩ | ⟨i, i1, i2, i3, i4⟩
      · exact absurd t3 (q t t1)
      · by_cases y : i = t
        · subst y; exact i2
        · have a1 := t4 i i1 i3 y
          have a2 := i4 t t1 t3 (fun w => y w.symm)
          unfold hb at a1 a2
          omega
    exact ⟨by rw [if_pos (ev.mpr z), hf]; exact t2, fun q => by omega, fun _ => ⟨t, t1, hf, t3, t2⟩⟩
end TZ
