/-! the questions, on whole numbers -/
theorem ite0 {c : Prop} [Decidable c] {a : Int32 × Vs} {y : Int32} {w : Vs} (hy : y ≠ 0) (h : (if c then a else (y, w)).1 = 0) : c ∧ a.1 = 0 := by
  by_cases q : c
  · rw [if_pos q] at h; exact ⟨q, h⟩
  · rw [if_neg q] at h; exact absurd h hy
theorem iteN {c : Prop} [Decidable c] {a : Int32 × Vs} {y : Int32} {w : Vs} (hy : y ≠ 0) (h : (if c then (y, w) else a).1 = 0) : ¬ c ∧ a.1 = 0 := by
  by_cases q : c
  · rw [if_pos q] at h; exact absurd h hy
  · rw [if_neg q] at h; exact ⟨q, h⟩

theorem zZn {v : Vs} {o i : Nat} (h : i < 8) : (gZn v o (nI i)).toInt = iv v o 3 i := iv_rg h (by omega)

theorem zCp {v : Vs} {o i : Nat} (h : i < 8) : (gCp v o (nI i)).toInt = iv v o 5 i := iv_rg h (by omega)

theorem zCd {v : Vs} {o i : Nat} (h : i < 8) : (gCd v o (nI i)).toInt = iv v o 7 i := iv_rg h (by omega)

theorem zKi {v : Vs} {o i : Nat} (h : i < 20) : (gKi v o (nI i)).toInt = iv v o 10 i := iv_rg h (by omega)

theorem zLz {v : Vs} {o i : Nat} (h : i < 20) : (gLz v o (nI i)).toInt = iv v o 12 i := iv_rg h (by omega)

theorem zVo {v : Vs} {o i : Nat} (h : i < 20) : (gVo v o (nI i)).toInt = iv v o 14 i := iv_rg h (by omega)

theorem zEp {v : Vs} {o i : Nat} (h : i < 20) : (gEp v o (nI i)).toInt = iv v o 16 i := iv_rg h (by omega)

theorem zPl {v : Vs} {o i : Nat} (h : i < 20) : (gPl v o (nI i)).toInt = iv v o 18 i := iv_rg h (by omega)

theorem zP1 {v : Vs} {o i : Nat} (h : i < 20) : (gP1 v o (nI i)).toInt = iv v o 20 i := iv_rg h (by omega)

theorem zP2 {v : Vs} {o i : Nat} (h : i < 20) : (gP2 v o (nI i)).toInt = iv v o 22 i := iv_rg h (by omega)

section QZ
variable {D : Int} {T N M H : Nat} {v : Vs} {o : Nat}
theorem Inv.vN (h : Inv D T N M H (iv v o)) : v (o + 8) 7 = nI N := by
  have h1 : (v (o + 8) 7).toInt = N := h.1.1.1
  have := h.1.1.2
  rw [t_eq, t_nI (by omega)]; exact h1
theorem Inv.vM (h : Inv D T N M H (iv v o)) : v (o + 1) 3 = nI M := by
  have h1 : (v (o + 1) 3).toInt = M := h.1.2.1.1
  have := h.1.2.1.2
  rw [t_eq, t_nI (by omega)]; exact h1
theorem Inv.vH (h : Inv D T N M H (iv v o)) : v (o + 23) 1 = nI H := by
  have h1 : (v (o + 23) 1).toInt = H := h.1.2.2
  have := h.H20
  have := h.1.1.2
  rw [t_eq, t_nI (by omega)]; exact h1
theorem Inv.hsL (h : Inv D T N M H (iv v o)) {x : Int32} : hasL v o x ↔ ∃ i, i < N ∧ x = nI i := by
  have h1 := h.1.1.2
  show 0 ≤ x ∧ x < v (o + 8) 7 ↔ _
  rw [h.vN, t_le, t_lt, t_nI (by omega), t_0]
  constructor
  · intro ⟨a, b⟩
    exact ⟨x.toInt.toNat, by omega, t_of a⟩
  · rintro ⟨i, hi, rfl⟩
    rw [t_nI (by omega)]; omega
theorem Inv.hsS (h : Inv D T N M H (iv v o)) {x : Int32} : hasS v o x ↔ ∃ i, i < M ∧ x = nI i := by
  have h1 := h.1.2.1.2
  show 0 ≤ x ∧ x < v (o + 1) 3 ↔ _
  rw [h.vM, t_le, t_lt, t_nI (by omega), t_0]
  constructor
  · intro ⟨a, b⟩
    exact ⟨x.toInt.toNat, by omega, t_of a⟩
  · rintro ⟨i, hi, rfl⟩
    rw [t_nI (by omega)]; omega
theorem Inv.lot (h : Inv D T N M H (iv v o)) {i : Nat} (hi : i < N) : LotI T (iv v o) M i := h.2.2.2.1 i hi
theorem Inv.shf (h : Inv D T N M H (iv v o)) {j : Nat} (hj : j < M) : ShI (iv v o) j ∧ 0 ≤ room (iv v o) N j := h.2.2.1 j hj
theorem Inv.rmW (h : Inv D T N M H (iv v o)) {j : Nat} (hj : j < M) (a b : Int32) : (roomW v o N (nI j) a b).toInt = rX (iv v o) N j a.toInt b.toInt := by
  have h20 := h.1.1.2
  have h8 := h.1.2.1.2
  have hc := (h.shf hj).1.2.1
  have e : (gCp v o (nI j)).toInt = iv v o 5 j := zCp (by omega)
  show (sd _ _ _ N).toInt = _
  rw [sd_Z (B := 40) (fun i hi _ => by
    show 0 ≤ (gVo v o (nI i)).toInt ∧ (gVo v o (nI i)).toInt ≤ _
    rw [zVo (by omega)]
    exact (h.lot hi).2.2.2.1.vo) (by omega) (by rw [e]; omega) (by rw [e]; omega), e]
  unfold rX
  congr 1
  refine su_congr (fun i hi => ?_)
  show (if decide (gPl v o (nI i) = nI j ∧ nI i ≠ a ∧ nI i ≠ b) = true then (gVo v o (nI i)).toInt else 0) = if (i : Int) = a.toInt ∨ (i : Int) = b.toInt then 0 else onZ (iv v o) j i
  have p1 : gPl v o (nI i) = nI j ↔ iv v o 18 i = j := by rw [t_eq, zPl (by omega), t_nI (by omega)]
  have p2 : ∀ a : Int32, nI i = a ↔ (i : Int) = a.toInt := fun a => by rw [t_eq, t_nI (by omega)]
  rw [zVo (by omega)]
  unfold onZ
  by_cases q : (i : Int) = a.toInt ∨ (i : Int) = b.toInt
  · rw [if_pos q, if_neg]
    intro z
    have z := of_decide_eq_true z
    exact q.elim (fun w => z.2.1 ((p2 a).mpr w)) (fun w => z.2.2 ((p2 b).mpr w))
  · rw [if_neg q]
    by_cases q2 : iv v o 18 i = j
    · rw [if_pos q2, if_pos]
      exact decide_eq_true ⟨p1.mpr q2, fun w => q (.inl ((p2 a).mp w)), fun w => q (.inr ((p2 b).mp w))⟩
    · rw [if_neg q2, if_neg]
      intro z
      exact q2 (p1.mp (of_decide_eq_true z).1)
theorem Inv.rmW0 (h : Inv D T N M H (iv v o)) {j : Nat} (hj : j < M) : (roomW v o N (nI j) (-1) (-1)).toInt = room (iv v o) N j := by
  rw [h.rmW hj, t_m1, rX_none (by omega) (by omega)]
/-- does a volume fit on the shelf j -/
def fitZ (S : Zs) (N : Nat) (z w a b : Int) (j : Nat) : Prop := S 3 j = z ∧ w ≤ rX S N j a b
theorem Inv.pfZ (h : Inv D T N M H (iv v o)) (z w a b : Int32) : ∀ m, m ≤ M → ((pfs v o N z w a b m).1 = -1 ∧ ∀ j, j < m → ¬ fitZ (iv v o) N z.toInt w.toInt a.toInt b.toInt j) ∨ ∃ j, j < m ∧ pfs v o N z w a b m = (nI j, roomW v o N (nI j) a b) ∧ fitZ (iv v o) N z.toInt w.toInt a.toInt b.toInt j ∧ ∀ k, k < m → fitZ (iv v o) N z.toInt w.toInt a.toInt b.toInt k → rX (iv v o) N j a.toInt b.toInt < rX (iv v o) N k a.toInt b.toInt ∨ rX (iv v o) N j a.toInt b.toInt = rX (iv v o) N k a.toInt b.toInt ∧ j ≤ k
  | 0, _ => .inl ⟨rfl, fun j hj => absurd hj (Nat.not_lt_zero _)⟩
  | m + 1, hm => by
    have h8 := h.1.2.1.2
    have ih := h.pfZ z w a b m (by omega)
    have hf : (gZn v o (nI m) = z ∧ w ≤ roomW v o N (nI m) a b) ↔ fitZ (iv v o) N z.toInt w.toInt a.toInt b.toInt m := by
      unfold fitZ
      rw [t_eq, zZn (by omega), t_le, h.rmW (by omega)]
    rw [show pfs v o N z w a b (m + 1) = if gZn v o (nI m) = z ∧ w ≤ roomW v o N (nI m) a b ∧ ((pfs v o N z w a b m).1 = -1 ∨ roomW v o N (nI m) a b < (pfs v o N z w a b m).2) then (nI m, roomW v o N (nI m) a b) else pfs v o N z w a b m from rfl]
    by_cases q : gZn v o (nI m) = z ∧ w ≤ roomW v o N (nI m) a b ∧ ((pfs v o N z w a b m).1 = -1 ∨ roomW v o N (nI m) a b < (pfs v o N z w a b m).2)
    · rw [if_pos q]
      refine .inr ⟨m, by omega, rfl, hf.mp ⟨q.1, q.2.1⟩, fun k hk hfk => ?_⟩
      by_cases e : k = m
      · subst e; exact .inr ⟨rfl, Nat.le_refl _⟩
      · rcases ih with ⟨-, ih⟩ | ⟨j, hj, e1, e2, e3⟩
        · exact absurd hfk (ih k (by omega))
        · have q3 := q.2.2
          rw [e1] at q3
          rcases q3 with q3 | q3
          · exfalso
            have q4 : nI j = -1 := q3
            rw [t_eq, t_nI (by omega), t_m1] at q4
            omega
          · have q5 : roomW v o N (nI m) a b < roomW v o N (nI j) a b := q3
            rw [t_lt, h.rmW (by omega), h.rmW (by omega)] at q5
            have := e3 k (by omega) hfk
            omega
    · rw [if_neg q]
      rcases ih with ⟨e0, ih⟩ | ⟨j, hj, e1, e2, e3⟩
      · refine .inl ⟨e0, fun j hj hfj => ?_⟩
        by_cases e : j = m
        · subst e; exact q ⟨(hf.mpr hfj).1, (hf.mpr hfj).2, .inl e0⟩
        · exact ih j (by omega) hfj
      · refine .inr ⟨j, by omega, e1, e2, fun k hk hfk => ?_⟩
        by_cases e : k = m
        · subst e
          have q2 : ¬ roomW v o N (nI k) a b < roomW v o N (nI j) a b := fun z => q ⟨(hf.mpr hfk).1, (hf.mpr hfk).2, .inr (by rw [e1]; exact z)⟩
          rw [t_lt, h.rmW (by omega), h.rmW (by omega)] at q2
          omega
        · exact e3 k (by omega) hfk
theorem Inv.shNZ (h : Inv D T N M H (iv v o)) : ((shN v o N : Nat) : Int) = su (isS (iv v o)) N := by
  have h20 := h.1.1.2
  unfold shN
  rw [cn_Z]
  refine su_congr (fun i hi => ?_)
  unfold isS
  have e : decide (0 ≤ gPl v o (nI i)) = true ↔ 0 ≤ iv v o 18 i := by rw [decide_eq_true_iff, t_le, zPl (by omega), t_0]
  by_cases q : 0 ≤ iv v o 18 i
  · rw [if_pos q, if_pos (e.mpr q)]
  · rw [if_neg q, if_neg (fun z => q (e.mp z))]
end QZ
