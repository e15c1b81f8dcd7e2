/-! the commands, on whole numbers, 2 -/
theorem less_of (a b : Int) : ∃ d : Int, d = (if b < a then b else a) ∧ d ≤ a ∧ d ≤ b ∧ (d = a ∨ d = b) := by
  by_cases h : b < a
  · exact ⟨b, (if_pos h).symm, by omega, by omega, .inr rfl⟩
  · exact ⟨a, (if_neg h).symm, by omega, by omega, .inl rfl⟩
section CY
variable {T N M H : Nat} {v : Vs} {o : Nat}
theorem Inv.ny (h : Inv 0 T N M H (iv v o)) {i : Nat} (hi : i < N) : 0 ≤ gPl v o (nI i) ↔ 0 ≤ iv v o 18 i := by
  have h20 := h.1.1.2
  rw [t_le, zPl (by omega), t_0]
theorem Inv.ex (h : Inv 0 T N M H (iv v o)) {i : Nat} (hi : i < N) : expd v o (nI i) ↔ iv v o 16 i < iv v o 0 3 := by
  have h20 := h.1.1.2
  show gEp v o (nI i) < v o 3 ↔ _
  rw [t_lt, zEp (by omega)]
  exact Iff.rfl
theorem Inv.cSplit (h : Inv 0 T N M H (iv v o)) {x w : Int32} (hv : (vdSplit v o N x w).1 = 0) : N < 20 ∧ (∃ i, i < N ∧ x = nI i ∧ 0 ≤ iv v o 18 i ∧ iv v o 0 3 ≤ iv v o 16 i ∧ 1 ≤ w.toInt ∧ w.toInt < iv v o 14 i ∧ iv (divV v o x w).2 o = adZ (uz (iv v o) 14 i (iv v o 14 i - w.toInt)) N (iv v o 10 i) (iv v o 12 i) w.toInt (iv v o 16 i) (iv v o 18 i) i (-1)) ∧ (divV v o x w).1 = nI N ∧ Inv 0 T (N + 1) M H (iv (divV v o x w).2 o) ∧ Out v (divV v o x w).2 o := by
  have h20 := h.1.1.2
  have h8 := h.1.2.1.2
  unfold vdSplit at hv
  obtain ⟨c1, hv⟩ := ite0 (by decide) hv
  obtain ⟨c2, hv⟩ := ite0 (by decide) hv
  obtain ⟨c3, hv⟩ := ite0 (by decide) hv
  obtain ⟨c4, hv⟩ := iteN (by decide) hv
  obtain ⟨c5, hv⟩ := ite0 (by decide) hv
  obtain ⟨c6, hv⟩ := ite0 (by decide) hv
  obtain ⟨c7, -⟩ := ite0 (by decide) hv
  obtain ⟨i, hi, rfl⟩ := h.hsL.mp c1
  simp only [t_le] at c2
  have c2 : 1 ≤ w.toInt ∧ w.toInt ≤ 40 := c2
  rw [h.ny hi] at c3
  rw [h.ex hi] at c4
  rw [t_lt, zVo (by omega)] at c5
  rw [h.vN, t_lt, t_nI (by omega)] at c6
  have c6 : (N : Int) < 20 := c6
  have c7 := h.both c7
  obtain ⟨k1, k2, k3, k4, k5⟩ := h.lot hi
  obtain ⟨p, hp, e18, e3, e14⟩ := k4.on c3
  let S1 := uz (iv v o) 14 i (iv v o 14 i - w.toInt)
  have e1 : iv (sVo v o (nI i) (gVo v o (nI i) - w)) o = S1 := by
    unfold sVo
    rw [iv_rs (by omega) (by omega), t_sub (by rw [zVo (by omega)]; omega) (by rw [zVo (by omega)]; omega), zVo (by omega)]
  have v1N : sVo v o (nI i) (gVo v o (nI i) - w) (o + 8) 7 = nI N := by
    unfold sVo
    rw [rs_o (by omega)]; exact h.vN
  have l1 := h.less hi c3 (y := iv v o 14 i - w.toInt) (by omega) (by omega)
  have hr : w.toInt ≤ room S1 N p := by
    have h1 := (h.shf hp).2
    have h2 := su_pt (g := onZ (iv v o) p) (g' := onZ S1 p) hi (fun j _ ne => by
      unfold onZ
      rw [show S1 14 j = iv v o 14 j from (uz_at (S := iv v o)).trans (if_neg ne)]
      rfl)
    have h3 : onZ S1 p i = iv v o 14 i - w.toInt := by
      unfold onZ
      rw [show S1 18 i = p from e18, if_pos rfl]
      exact uz_s
    have h4 : onZ (iv v o) p i = iv v o 14 i := by unfold onZ; rw [e18, if_pos rfl]
    unfold room at h1 ⊢
    show _ ≤ iv v o 5 p - _
    omega
  have hA := l1.add (k := iv v o 10 i) (z := iv v o 12 i) (w := w.toInt) (d := iv v o 16 i) (p := p) (p1 := i) (p2 := -1) (by omega) k1 c2 k3 hp e3 hr c7 (.inr ⟨i, hi, rfl, Int.le_refl _, .inl rfl⟩)
  rw [show (0 : Int) + iv v o 14 i - (iv v o 14 i - w.toInt) - w.toInt = 0 by omega] at hA
  have u10 : gKi (sVo v o (nI i) (gVo v o (nI i) - w)) o (nI i) = gKi v o (nI i) := by unfold gKi sVo; rw [rs_o (by omega)]
  have u12 : gLz (sVo v o (nI i) (gVo v o (nI i) - w)) o (nI i) = gLz v o (nI i) := by unfold gLz sVo; rw [rs_o (by omega)]
  have u16 : gEp (sVo v o (nI i) (gVo v o (nI i) - w)) o (nI i) = gEp v o (nI i) := by unfold gEp sVo; rw [rs_o (by omega)]
  have u18 : gPl (sVo v o (nI i) (gVo v o (nI i) - w)) o (nI i) = gPl v o (nI i) := by unfold gPl sVo; rw [rs_o (by omega)]
  obtain ⟨e5, o5⟩ := addL_Z v1N (by omega) (gKi v o (nI i)) (gLz v o (nI i)) w (gEp v o (nI i)) (gPl v o (nI i))
  rw [e1, zKi (by omega), zLz (by omega), zEp (by omega), zPl (by omega)] at e5
  obtain ⟨e6, o6⟩ := par_Z (by omega) e5 (nI i) (-1)
  rw [t_nI (by omega), t_m1] at e6
  have e7 : divV v o (nI i) w = (nI N, sP2 (sP1 (addL (sVo v o (nI i) (gVo v o (nI i) - w)) o (gKi v o (nI i)) (gLz v o (nI i)) w (gEp v o (nI i)) (gPl v o (nI i))) o (nI N) (nI i)) o (nI N) (-1)) := by
    unfold divV
    dsimp only
    rw [v1N, u10, u12, u16, u18]
  rw [e7]
  refine ⟨by omega, ⟨i, hi, rfl, c3, by omega, by omega, c5, e6⟩, rfl, ?_, ?_⟩
  · show Inv 0 T (N + 1) M H (iv (sP2 _ _ _ _) o)
    rw [e6, e18]; exact hA
  · exact ((show Out v (sVo v o (nI i) (gVo v o (nI i) - w)) o from Out.rs (by decide)).tr o5).tr o6
theorem Inv.cMove (h : Inv 0 T N M H (iv v o)) {x y : Int32} (hv : (vdMove v o N x y).1 = 0) : (∃ i j, i < N ∧ j < M ∧ x = nI i ∧ y = nI j ∧ 0 ≤ iv v o 18 i ∧ iv (moveV v o N x y).2 o = uz (iv v o) 18 i j ∧ 0 ≤ (moveV v o N x y).1.toInt) ∧ Inv 0 T N M H (iv (moveV v o N x y).2 o) ∧ Out v (moveV v o N x y).2 o := by
  have h20 := h.1.1.2
  have h8 := h.1.2.1.2
  unfold vdMove at hv
  obtain ⟨c1, hv⟩ := ite0 (by decide) hv
  obtain ⟨c2, hv⟩ := ite0 (by decide) hv
  obtain ⟨c3, hv⟩ := ite0 (by decide) hv
  obtain ⟨c4, hv⟩ := iteN (by decide) hv
  obtain ⟨c5, hv⟩ := ite0 (by decide) hv
  obtain ⟨c6, -⟩ := ite0 (by decide) hv
  obtain ⟨i, hi, rfl⟩ := h.hsL.mp c1
  obtain ⟨j, hj, rfl⟩ := h.hsS.mp c2
  rw [h.ny hi] at c3
  rw [t_eq, zLz (by omega), zZn (by omega)] at c5
  rw [t_le, zVo (by omega), h.rmW hj, t_nI (by omega), t_m1] at c6
  have e : iv (sPl v o (nI i) (nI j)) o = uz (iv v o) 18 i j := by
    unfold sPl
    rw [iv_rs (by omega) (by omega), t_nI (by omega)]
  have hI := h.moved hi c3 hj c5.symm c6
  rw [← e] at hI
  refine ⟨⟨i, j, hi, hj, rfl, rfl, c3, e, ?_⟩, hI, Out.rs (by decide)⟩
  show 0 ≤ (roomW (sPl v o (nI i) (nI j)) o N (nI j) (-1) (-1)).toInt
  rw [hI.rmW0 hj]
  exact (hI.shf hj).2
theorem Inv.cCount (h : Inv 0 T N M H (iv v o)) {x : Int32} (hx : hasS v o x) : iv (countV v o N x).2 o = uz (iv v o) 7 x.toInt.toNat (iv v o 0 3) ∧ Inv 0 T N M H (iv (countV v o N x).2 o) ∧ Out v (countV v o N x).2 o ∧ 0 ≤ (countV v o N x).1.toInt := by
  have h20 := h.1.1.2
  have h8 := h.1.2.1.2
  obtain ⟨j, hj, rfl⟩ := h.hsS.mp hx
  have e : iv (sCd v o (nI j) (v o 3)) o = uz (iv v o) 7 j (iv v o 0 3) := by
    unfold sCd
    rw [iv_rs (by omega) (by omega)]
    rfl
  refine ⟨by rw [t_nI (by omega)]; exact e, by show Inv 0 T N M H (iv (sCd v o (nI j) (v o 3)) o); rw [e]; exact h.counted, Out.rs (by decide), ?_⟩
  have := cn_le (fun i => decide (gPl (sCd v o (nI j) (v o 3)) o (nI i) = nI j)) N
  show 0 ≤ (nI _).toInt
  rw [t_nI (by omega)]
  omega
theorem Inv.cPass (h : Inv 0 T N M H (iv v o)) (hT : T ≤ 1000000000) {d : Int32} (hd : 1 ≤ d ∧ d ≤ 99) : iv (passV v o N d).2 o = uz (iv v o) 0 3 (iv v o 0 3 + d.toInt) ∧ Inv 0 (T + 99) N M H (iv (passV v o N d).2 o) ∧ Out v (passV v o N d).2 o ∧ -1000 ≤ (passV v o N d).1.toInt := by
  have h20 := h.1.1.2
  simp only [t_le] at hd
  have hd : 1 ≤ d.toInt ∧ d.toInt ≤ 99 := hd
  have a := h.2.1
  have a3 : (v o 3).toInt = iv v o 0 3 := rfl
  have e : iv (up2 v o 3 (v o 3 + d)) o = uz (iv v o) 0 3 (iv v o 0 3 + d.toInt) := by
    have := iv_up2 (v := v) (o := o) (c := 0) (j := 3) (x := v o 3 + d)
    rw [Nat.add_zero] at this
    rw [this, t_add (by omega) (by omega)]
    rfl
  refine ⟨e, ?_, (Out.up2 (c := 0) (by decide) : Out v (up2 v (o + 0) 3 _) o), ?_⟩
  · show Inv 0 (T + 99) N M H (iv (up2 v o 3 (v o 3 + d)) o)
    rw [e]
    exact h.day (by omega) (by omega)
  · have h1 := cn_le (fun i => decide (0 ≤ gPl (up2 v o 3 (v o 3 + d)) o (nI i) ∧ gEp (up2 v o 3 (v o 3 + d)) o (nI i) < up2 v o 3 (v o 3 + d) o 3)) N
    have h2 := cn_le (fun i => decide (0 ≤ gPl v o (nI i) ∧ gEp v o (nI i) < v o 3)) N
    show -1000 ≤ (nI (xpN _ o N) - nI (xpN v o N)).toInt
    unfold xpN
    rw [t_sub (by rw [t_nI (by omega), t_nI (by omega)]; omega) (by rw [t_nI (by omega), t_nI (by omega)]; omega), t_nI (by omega), t_nI (by omega)]
    omega
theorem Inv.cMix (h : Inv 0 T N M H (iv v o)) {x y : Int32} (hv : (vdMix v o N M x y).1 = 0) : N < 20 ∧ (∃ i j p, i < N ∧ j < N ∧ i ≠ j ∧ p < M ∧ x = nI i ∧ y = nI j ∧ 0 ≤ iv v o 18 i ∧ 0 ≤ iv v o 18 j ∧ iv (uniV v o N M x y).2 o = adZ (rmZ (rmZ (iv v o) i) j) N (iv v o 10 i) (iv v o 12 i) (iv v o 14 i + iv v o 14 j) (if iv v o 16 j < iv v o 16 i then iv v o 16 j else iv v o 16 i) p i j) ∧ (uniV v o N M x y).1 = nI N ∧ Inv 0 T (N + 1) M H (iv (uniV v o N M x y).2 o) ∧ Out v (uniV v o N M x y).2 o := by
  have h20 := h.1.1.2
  have h8 := h.1.2.1.2
  unfold vdMix at hv
  obtain ⟨c1, hv⟩ := ite0 (by decide) hv
  obtain ⟨c2, hv⟩ := ite0 (by decide) hv
  obtain ⟨c3, hv⟩ := iteN (by decide) hv
  obtain ⟨c4, hv⟩ := ite0 (by decide) hv
  obtain ⟨c5, hv⟩ := ite0 (by decide) hv
  obtain ⟨c6, hv⟩ := iteN (by decide) hv
  obtain ⟨c7, hv⟩ := iteN (by decide) hv
  obtain ⟨c8, hv⟩ := ite0 (by decide) hv
  obtain ⟨c9, hv⟩ := ite0 (by decide) hv
  obtain ⟨c10, hv⟩ := ite0 (by decide) hv
  obtain ⟨c11, -⟩ := iteN (by decide) hv
  obtain ⟨i, hi, rfl⟩ := h.hsL.mp c1
  obtain ⟨j, hj, rfl⟩ := h.hsL.mp c2
  have hij : i ≠ j := fun q => c3 (by rw [q])
  rw [h.ny hi] at c4
  rw [h.ny hj] at c5
  rw [t_eq, zLz (by omega), zLz (by omega)] at c8
  rw [h.vN, t_lt, t_nI (by omega)] at c10
  have c10 : (N : Int) < 20 := c10
  obtain ⟨k1, k2, k3, k4, k5⟩ := h.lot hi
  obtain ⟨l1, l2, l3, l4, l5⟩ := h.lot hj
  obtain ⟨p1, hp1, i18, i3, i14⟩ := k4.on c4
  obtain ⟨p2, hp2, j18, j3, j14⟩ := l4.on c5
  have w1 : (gVo v o (nI i) + gVo v o (nI j)).toInt = iv v o 14 i + iv v o 14 j := by
    rw [t_add (by rw [zVo (by omega), zVo (by omega)]; omega) (by rw [zVo (by omega), zVo (by omega)]; omega), zVo (by omega), zVo (by omega)]
  -- the two lots are gone
  obtain ⟨e1, o1⟩ := rmv_Z (v := v) (o := o) (x := i) (by omega)
  obtain ⟨e2, o2⟩ := rmv_Z (v := rmv v o (nI i)) (o := o) (x := j) (by omega)
  rw [e1] at e2
  have g1 := h.gone hi c4
  have c5' : 0 ≤ rmZ (iv v o) i 18 j := by rw [rmZ_18, if_neg (fun z => hij z.symm)]; exact c5
  have g2 := g1.gone hj c5'
  rw [rmZ_14, if_neg (fun z => hij z.symm)] at g2
  obtain ⟨v2, hv2⟩ : ∃ v2, v2 = rmv (rmv v o (nI i)) o (nI j) := ⟨_, rfl⟩
  rw [← hv2] at e2 o2
  have g2' : Inv (0 + iv v o 14 i + iv v o 14 j) T N M H (iv v2 o) := by rw [e2]; exact g2
  have v2N : v2 (o + 8) 7 = nI N := g2'.vN
  -- room
  have hrm : ∀ k, rX (iv v o) N k i j = room (rmZ (rmZ (iv v o) i) j) N k := by
    intro k
    unfold rX room
    rw [show rmZ (rmZ (iv v o) i) j 5 k = iv v o 5 k by rw [rmZ_o (by decide) (by decide), rmZ_o (by decide) (by decide)]]
    congr 1
    refine su_congr (fun a ha => ?_)
    unfold onZ
    rw [rmZ_18, rmZ_18, rmZ_14, rmZ_14]
    by_cases q1 : a = j
    · subst q1
      rw [if_pos (.inr rfl), if_pos rfl, if_pos rfl, if_neg (by omega)]
    · by_cases q2 : a = i
      · subst q2
        rw [if_pos (.inl rfl), if_neg q1, if_pos rfl, if_neg q1, if_pos rfl, if_neg (by omega)]
      · rw [if_neg (by omega), if_neg q1, if_neg q2, if_neg q1, if_neg q2]
  obtain ⟨q, hq, -, f1, -⟩ := (h.pfZ (gLz v o (nI j)) (gVo v o (nI i) + gVo v o (nI j)) (nI i) (nI j) M (Nat.le_refl _)).resolve_left (fun z => c11 z.1)
  rw [t_nI (by omega), t_nI (by omega), w1, zLz (by omega)] at f1
  have s8 : su (isS (rmZ (rmZ (iv v o) i) j)) N < 8 := by
    have := su_pt2 (g := isS (iv v o)) (g' := isS (rmZ (rmZ (iv v o) i) j)) hi hj hij (fun a _ n1 n2 => by
      unfold isS
      rw [rmZ_18, if_neg n2, rmZ_18, if_neg n1])
    have t1 : isS (iv v o) i = 1 := if_pos c4
    have t2 : isS (iv v o) j = 1 := if_pos c5
    have t3 : isS (rmZ (rmZ (iv v o) i) j) i = 0 := by unfold isS; rw [rmZ_18, if_neg hij, rmZ_18, if_pos rfl]; rfl
    have t4 : isS (rmZ (rmZ (iv v o) i) j) j = 0 := by unfold isS; rw [rmZ_18, if_pos rfl]; rfl
    have := h.2.2.2.2.1
    omega
  obtain ⟨p, hp, e3, f2, -⟩ := (g2'.pfZ (gLz v o (nI i)) (gVo v o (nI i) + gVo v o (nI j)) (-1) (-1) M (Nat.le_refl _)).resolve_left (fun z => z.2 q hq (by
    unfold fitZ
    rw [w1, zLz (by omega), t_m1, rX_none (by decide) (by decide), e2, ← hrm q]
    refine ⟨?_, f1.2⟩
    rw [rmZ_o (by decide) (by decide), rmZ_o (by decide) (by decide), c8]
    exact f1.1))
  unfold fitZ at f2
  rw [w1, zLz (by omega), t_m1, rX_none (by decide) (by decide), e2] at f2
  have r10 : ∀ c a, c ≠ 14 → c ≠ 18 → rmZ (rmZ (iv v o) i) j c a = iv v o c a := fun c a h1 h2 => by rw [rmZ_o h1 h2, rmZ_o h1 h2]
  have cap : room (rmZ (rmZ (iv v o) i) j) N p ≤ 40 := by
    have h1 : 0 ≤ su (onZ (rmZ (rmZ (iv v o) i) j) p) N := su_nonneg (fun a ha => by
      unfold onZ
      split
      · exact (g2.2.2.2.1 a ha).2.2.2.1.vo.1
      · exact Int.le_refl _)
    have h2 := (h.shf hp).1.2.1
    unfold room
    rw [r10 5 p (by decide) (by decide)]
    omega
  obtain ⟨d, hd0, hd⟩ := less_of (iv v o 16 i) (iv v o 16 j)
  have hA := g2.add (k := iv v o 10 i) (z := iv v o 12 i) (w := iv v o 14 i + iv v o 14 j) (d := d) (p := p) (p1 := i) (p2 := j) (by omega) k1 (by omega) (by omega) hp f2.1 f2.2 s8 (.inr ⟨i, hi, rfl, by rw [r10 16 i (by decide) (by decide)]; exact hd.1, .inr ⟨j, hj, fun z => hij z.symm, rfl, by rw [r10 16 j (by decide) (by decide)]; exact hd.2.1⟩⟩)
  rw [show (0 : Int) + iv v o 14 i + iv v o 14 j - (iv v o 14 i + iv v o 14 j) = 0 by omega] at hA
  have u10 : gKi v2 o (nI i) = gKi v o (nI i) := by
    rw [t_eq, zKi (by omega), zKi (by omega), e2, r10 10 i (by decide) (by decide)]
  have tm : (if gEp v o (nI j) < gEp v o (nI i) then gEp v o (nI j) else gEp v o (nI i)).toInt = d := by
    rw [hd0]
    by_cases z : iv v o 16 j < iv v o 16 i
    · rw [if_pos z, if_pos (by rw [t_lt, zEp (by omega), zEp (by omega)]; exact z), zEp (by omega)]
    · rw [if_neg z, if_neg (by rw [t_lt, zEp (by omega), zEp (by omega)]; exact z), zEp (by omega)]
  obtain ⟨e5, o5⟩ := addL_Z v2N (by omega) (gKi v o (nI i)) (gLz v o (nI i)) (gVo v o (nI i) + gVo v o (nI j)) (if gEp v o (nI j) < gEp v o (nI i) then gEp v o (nI j) else gEp v o (nI i)) (nI p)
  rw [e2, zKi (by omega), zLz (by omega), w1, tm, t_nI (by omega)] at e5
  obtain ⟨e6, o6⟩ := par_Z (by omega) e5 (nI i) (nI j)
  rw [t_nI (by omega), t_nI (by omega)] at e6
  have e7 : uniV v o N M (nI i) (nI j) = (nI N, sP2 (sP1 (addL v2 o (gKi v o (nI i)) (gLz v o (nI i)) (gVo v o (nI i) + gVo v o (nI j)) (if gEp v o (nI j) < gEp v o (nI i) then gEp v o (nI j) else gEp v o (nI i)) (nI p)) o (nI N) (nI i)) o (nI N) (nI j)) := by
    unfold uniV
    dsimp only
    rw [← hv2, v2N, u10, e3]
  rw [e7]
  refine ⟨by omega, ⟨i, j, p, hi, hj, hij, hp, rfl, rfl, c4, c5, by rw [← hd0]; exact e6⟩, rfl, ?_, (((o1.tr o2)).tr o5).tr o6⟩
  show Inv 0 T (N + 1) M H (iv (sP2 _ _ _ _) o)
  rw [e6]; exact hA
end CY
