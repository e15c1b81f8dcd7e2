/-! the commands, on whole numbers, 3: shipping, composting -/
/-- what of a lot can be shipped -/
def shpZ (S : Zs) (k : Int) (i : Nat) : Prop := 0 ≤ S 18 i ∧ S 10 i = k ∧ ¬ S 16 i < S 0 3
def shZ (S : Zs) (k : Int) (i : Nat) : Int := if 0 ≤ S 18 i ∧ S 10 i = k ∧ ¬ S 16 i < S 0 3 then S 14 i else 0
theorem shZ_y {S : Zs} {k : Int} {i : Nat} (h : shpZ S k i) : shZ S k i = S 14 i := if_pos h
theorem shZ_n {S : Zs} {k : Int} {i : Nat} (h : ¬ shpZ S k i) : shZ S k i = 0 := if_neg h
section CX
variable {D : Int} {T N M H : Nat} {v : Vs} {o : Nat}
theorem Inv.sh1 (h : Inv D T N M H (iv v o)) {i : Nat} (hi : i < N) (k : Int32) : shipP v o (nI i) k ↔ shpZ (iv v o) k.toInt i := by
  have h20 := h.1.1.2
  unfold shipP shpZ
  rw [t_le, t_eq, t_lt, zPl (by omega), zKi (by omega), zEp (by omega), t_0]
  exact Iff.rfl
theorem Inv.sh0 (h : Inv D T N M H (iv v o)) (k : Int) {i : Nat} (hi : i < N) : 0 ≤ shZ (iv v o) k i := by
  unfold shZ
  split
  · exact (h.lot hi).2.2.2.1.vo.1
  · exact Int.le_refl _
theorem Inv.shp (h : Inv D T N M H (iv v o)) (k : Int32) : (shpV v o N k).toInt = su (shZ (iv v o) k.toInt) N := by
  have h20 := h.1.1.2
  unfold shpV
  rw [sm_Z (B := 40) (fun i hi _ => by rw [zVo (by omega)]; exact (h.lot hi).2.2.2.1.vo) (by omega)]
  refine su_congr (fun i hi => ?_)
  rw [zVo (by omega)]
  by_cases q : shpZ (iv v o) k.toInt i
  · rw [shZ_y q, if_pos (decide_eq_true ((h.sh1 hi k).mpr q))]
  · rw [shZ_n q, if_neg (fun z => q ((h.sh1 hi k).mp (of_decide_eq_true z)))]
theorem Inv.eshZ (h : Inv D T N M H (iv v o)) (k : Int32) : ∀ m, m ≤ N → (esh v o k m = -1 ∧ ∀ i, i < m → ¬ shpZ (iv v o) k.toInt i) ∨ ∃ i, i < m ∧ esh v o k m = nI i ∧ shpZ (iv v o) k.toInt i
  | 0, _ => .inl ⟨rfl, fun i hi => absurd hi (Nat.not_lt_zero _)⟩
  | m + 1, hm => by
    have ih := h.eshZ k m (by omega)
    rw [show esh v o k (m + 1) = if shipP v o (nI m) k ∧ (esh v o k m = -1 ∨ expB v o (nI m) (esh v o k m)) then nI m else esh v o k m from rfl]
    by_cases q : shipP v o (nI m) k ∧ (esh v o k m = -1 ∨ expB v o (nI m) (esh v o k m))
    · rw [if_pos q]
      exact .inr ⟨m, by omega, rfl, (h.sh1 (by omega) k).mp q.1⟩
    · rw [if_neg q]
      rcases ih with ⟨e, ih⟩ | ⟨i, hi, e, ih⟩
      · refine .inl ⟨e, fun i hi z => ?_⟩
        by_cases q2 : i = m
        · subst q2; exact q ⟨(h.sh1 (by omega) k).mpr z, .inl e⟩
        · exact ih i (by omega) z
      · exact .inr ⟨i, by omega, e, ih⟩
/-- something can be shipped: the first of it -/
theorem Inv.esh1 (h : Inv D T N M H (iv v o)) {k : Int32} (h0 : 0 < su (shZ (iv v o) k.toInt) N) : ∃ i, i < N ∧ esh v o k N = nI i ∧ shpZ (iv v o) k.toInt i := by
  rcases h.eshZ k N (Nat.le_refl _) with ⟨-, q⟩ | q
  · obtain ⟨i, hi, z⟩ := su_pos h0
    rw [shZ_n (q i hi)] at z
    exact absurd z (Int.lt_irrefl 0)
  · exact q
/-- nothing can be shipped -/
theorem Inv.esh0 (h : Inv D T N M H (iv v o)) {k : Int32} (h0 : su (shZ (iv v o) k.toInt) N = 0) : esh v o k N = -1 := by
  rcases h.eshZ k N (Nat.le_refl _) with ⟨q, -⟩ | ⟨i, hi, -, q⟩
  · exact q
  · exfalso
    have h1 := su_le_of (g := shZ (iv v o) k.toInt) hi (fun j hj => h.sh0 _ hj)
    rw [shZ_y q] at h1
    obtain ⟨-, -, -, -, h2, -⟩ := (h.lot hi).2.2.2.1.on q.1
    omega
/-- a part of the first lot goes -/
theorem Inv.soL (h : Inv D T N M H (iv v o)) {k : Int32} {i : Nat} (hi : i < N) (hs : shpZ (iv v o) k.toInt i) {l : Int32} (h0 : 0 < l.toInt) (hl : l < gVo v o (nI i)) : Inv (D + l.toInt) T N M H (iv (sVo v o (nI i) (gVo v o (nI i) - l)) o) ∧ iv (sVo v o (nI i) (gVo v o (nI i) - l)) o = uz (iv v o) 14 i (iv v o 14 i - l.toInt) ∧ su (shZ (iv (sVo v o (nI i) (gVo v o (nI i) - l)) o) k.toInt) N = su (shZ (iv v o) k.toInt) N - l.toInt := by
  have h20 := h.1.1.2
  rw [t_lt, zVo (by omega)] at hl
  have hb := (h.lot hi).2.2.2.1.vo
  have e : iv (sVo v o (nI i) (gVo v o (nI i) - l)) o = uz (iv v o) 14 i (iv v o 14 i - l.toInt) := by
    unfold sVo
    rw [iv_rs (by omega) (by omega), t_sub (by rw [zVo (by omega)]; omega) (by rw [zVo (by omega)]; omega), zVo (by omega)]
  have hI := h.less hi hs.1 (y := iv v o 14 i - l.toInt) (by omega) (by omega)
  rw [show D + iv v o 14 i - (iv v o 14 i - l.toInt) = D + l.toInt by omega] at hI
  rw [e]
  refine ⟨hI, rfl, ?_⟩
  rw [su_pt (g := shZ (iv v o) k.toInt) (g' := shZ (uz (iv v o) 14 i (iv v o 14 i - l.toInt)) k.toInt) hi (fun j _ ne => by
    unfold shZ
    rw [show uz (iv v o) 14 i (iv v o 14 i - l.toInt) 14 j = iv v o 14 j from (uz_at (S := iv v o)).trans (if_neg ne)]
    rfl)]
  rw [shZ_y hs, shZ_y (S := uz (iv v o) 14 i (iv v o 14 i - l.toInt)) (k := k.toInt) (i := i) hs, uz_s]
  omega
/-- the first lot goes -/
theorem Inv.soR (h : Inv D T N M H (iv v o)) {k : Int32} {i : Nat} (hi : i < N) (hs : shpZ (iv v o) k.toInt i) : Inv (D + iv v o 14 i) T N M H (iv (rmv v o (nI i)) o) ∧ iv (rmv v o (nI i)) o = rmZ (iv v o) i ∧ Out v (rmv v o (nI i)) o ∧ su (shZ (iv (rmv v o (nI i)) o) k.toInt) N = su (shZ (iv v o) k.toInt) N - iv v o 14 i ∧ su (isS (iv (rmv v o (nI i)) o)) N = su (isS (iv v o)) N - 1 := by
  have h20 := h.1.1.2
  obtain ⟨e, ho⟩ := rmv_Z (v := v) (o := o) (x := i) (by omega)
  have hI := h.gone hi hs.1
  rw [e]
  refine ⟨hI, rfl, ho, ?_, ?_⟩
  · rw [su_pt (g := shZ (iv v o) k.toInt) (g' := shZ (rmZ (iv v o) i) k.toInt) hi (fun j _ ne => by
      unfold shZ
      rw [rmZ_18, rmZ_14, if_neg ne, if_neg ne]
      rfl)]
    rw [shZ_y hs, shZ_n (fun z => by
      have := z.1
      rw [rmZ_18, if_pos rfl] at this
      exact absurd this (by decide))]
    omega
  · rw [su_pt (g := isS (iv v o)) (g' := isS (rmZ (iv v o) i)) hi (fun j _ ne => by unfold isS; rw [rmZ_18, if_neg ne])]
    rw [show isS (iv v o) i = 1 from if_pos hs.1, show isS (rmZ (iv v o) i) i = 0 by unfold isS; rw [rmZ_18, if_pos rfl]; rfl]
    omega
end CX
theorem soF_0 {o N : Nat} {k : Int32} {f : Nat} {v : Vs} {l : Int32} {t : Nat} (h : l.toInt = 0) : soF o N k f v l t = (v, t) := by
  cases f with
  | zero => rfl
  | succ f =>
    unfold soF
    rw [if_neg (by rw [t_lt, t_0]; omega)]
theorem Inv.soG {T N M H o : Nat} {k : Int32} : ∀ (f : Nat) (v : Vs) (l : Int32) (t : Nat) (D : Int), Inv D T N M H (iv v o) → 0 ≤ l.toInt → l.toInt ≤ su (shZ (iv v o) k.toInt) N → su (isS (iv v o)) N ≤ f → Inv (D + l.toInt) T N M H (iv (soF o N k f v l t).1 o) ∧ Out v (soF o N k f v l t).1 o ∧ su (shZ (iv (soF o N k f v l t).1 o) k.toInt) N = su (shZ (iv v o) k.toInt) N - l.toInt ∧ iv (soF o N k f v l t).1 o 0 = iv v o 0 ∧ t ≤ (soF o N k f v l t).2 ∧ (soF o N k f v l t).2 ≤ t + f ∧ (0 < l.toInt → t < (soF o N k f v l t).2)
  | f, v, l, t, D, h, h0, hl, hf => by
    by_cases z : l.toInt = 0
    · rw [soF_0 z, z, Int.add_zero, Int.sub_zero]
      exact ⟨h, Out.rf, rfl, rfl, Nat.le_refl _, Nat.le_add_right _ _, fun q => by omega⟩
    obtain ⟨i, hi, e, hs⟩ := h.esh1 (k := k) (by omega)
    have h20 := h.1.1.2
    have i1 : isS (iv v o) i = 1 := if_pos hs.1
    have i2 := su_le_of (g := isS (iv v o)) hi (fun j _ => by unfold isS; split <;> omega)
    cases f with
    | zero => omega
    | succ f =>
      have eq : soF o N k (f + 1) v l t = soF o N k f (if l < gVo v o (nI i) then sVo v o (nI i) (gVo v o (nI i) - l) else rmv v o (nI i)) (l - (if l < gVo v o (nI i) then l else gVo v o (nI i))) (t + 1) := by
        rw [soF, if_pos (by rw [t_lt, t_0]; omega), e]
      rw [eq]
      by_cases q : l < gVo v o (nI i)
      · rw [if_pos q, if_pos q]
        obtain ⟨a1, a2, a3⟩ := h.soL hi hs (by omega) q
        have z2 : (l - l).toInt = 0 := by rw [Int32.sub_self]; rfl
        rw [soF_0 z2]
        refine ⟨a1, Out.rs (by decide), a3, ?_, by omega, by omega, fun _ => by omega⟩
        rw [a2]
        rfl
      · rw [if_neg q, if_neg q]
        obtain ⟨a1, a2, a3, a4, a5⟩ := h.soR hi hs
        have hb := (h.lot hi).2.2.2.1.vo
        rw [t_lt, zVo (by omega)] at q
        have hs1 := su_le_of (g := shZ (iv v o) k.toInt) hi (fun j hj => h.sh0 _ hj)
        rw [shZ_y hs] at hs1
        have hl2 : (l - gVo v o (nI i)).toInt = l.toInt - iv v o 14 i := by
          have hb2 := su_bd (g := shZ (iv v o) k.toInt) (b := 40) (n := N) (fun j hj => by
            unfold shZ
            split
            · exact (h.lot hj).2.2.2.1.vo.2
            · omega)
          rw [t_sub (by rw [zVo (by omega)]; omega) (by rw [zVo (by omega)]; omega), zVo (by omega)]
        obtain ⟨b1, b2, b3, b4, b5, b6, b7⟩ := Inv.soG (k := k) f (rmv v o (nI i)) (l - gVo v o (nI i)) (t + 1) _ a1 (by omega) (by omega) (by omega)
        refine ⟨?_, a3.tr b2, by omega, ?_, by omega, by omega, fun _ => by omega⟩
        · rw [hl2, show D + iv v o 14 i + (l.toInt - iv v o 14 i) = D + l.toInt by omega] at b1
          exact b1
        · rw [b4, a2]; rfl
  termination_by f => f
section CW
variable {T N M H : Nat} {v : Vs} {o : Nat}
theorem Inv.cShip (h : Inv 0 T N M H (iv v o)) (hT : T ≤ 1000000000) {k w : Int32} (hv : (vdShip v o N k w).1 = 0) : Inv 0 T N M H (iv (sendV v o N k w).2 o) ∧ Out v (sendV v o N k w).2 o ∧ su (shZ (iv (sendV v o N k w).2 o) k.toInt) N = su (shZ (iv v o) k.toInt) N - w.toInt ∧ (∃ n, 1 ≤ n ∧ n ≤ 8 ∧ (sendV v o N k w).1 = nI n) ∧ iv (sendV v o N k w).2 o 0 5 = iv v o 0 5 + w.toInt ∧ (∀ j, j ≠ 5 → iv (sendV v o N k w).2 o 0 j = iv v o 0 j) := by
  unfold vdShip at hv
  obtain ⟨c1, hv⟩ := ite0 (by decide) hv
  obtain ⟨c2, hv⟩ := ite0 (by decide) hv
  obtain ⟨c3, -⟩ := ite0 (by decide) hv
  simp only [t_le] at c2
  have c2 : 1 ≤ w.toInt ∧ w.toInt ≤ 99 := c2
  rw [t_le, h.shp] at c3
  obtain ⟨b1, b2, b3, b4, b5, b6, b7⟩ := Inv.soG (k := k) 8 v w 0 0 h (by omega) c3 h.2.2.2.2.1
  have b7 := b7 (by omega)
  generalize hr : soF o N k 8 v w 0 = r at b1 b2 b3 b4 b5 b6 b7
  have ac := h.2.1
  have st := h.stored_le
  have r5 : (r.1 o 5).toInt = iv v o 0 5 := congrFun b4 5
  have e1 : iv (up2 r.1 o 5 (r.1 o 5 + w)) o = uz (iv r.1 o) 0 5 (iv v o 0 5 + w.toInt) := by
    have := iv_up2 (v := r.1) (o := o) (c := 0) (j := 5) (x := r.1 o 5 + w)
    rw [Nat.add_zero] at this
    rw [this, t_add (by omega) (by omega), r5]
  have e0 : sendV v o N k w = (nI r.2, up2 r.1 o 5 (r.1 o 5 + w)) := by unfold sendV; rw [hr]
  rw [e0]
  have q4 : iv r.1 o 0 4 = iv v o 0 4 := congrFun b4 4
  have q6 : iv r.1 o 0 6 = iv v o 0 6 := congrFun b4 6
  have q5 : iv r.1 o 0 5 = iv v o 0 5 := congrFun b4 5
  refine ⟨?_, b2.tr (Out.up2 (c := 0) (by decide)), ?_, ⟨r.2, by omega, by omega, rfl⟩, ?_, fun j hj => ?_⟩
  · show Inv 0 T N M H (iv (up2 r.1 o 5 (r.1 o 5 + w)) o)
    rw [e1]
    refine b1.acc (Nat.le_refl _) (fun c j hc => if_neg (by omega)) ?_ ?_
    · show iv r.1 o 0 4 ≤ _ ∧ 0 ≤ uz (iv r.1 o) 0 5 (iv v o 0 5 + w.toInt) 0 5 ∧ 0 ≤ iv r.1 o 0 6
      rw [uz_s]; omega
    · show iv r.1 o 0 4 - uz (iv r.1 o) 0 5 (iv v o 0 5 + w.toInt) 0 5 - iv r.1 o 0 6 - 0 = _
      rw [uz_s]; omega
  · show su (shZ (iv (up2 r.1 o 5 (r.1 o 5 + w)) o) k.toInt) N = _
    rw [e1, ← b3]
    refine su_congr (fun i _ => ?_)
    unfold shZ
    rfl
  · show iv (up2 r.1 o 5 (r.1 o 5 + w)) o 0 5 = _
    rw [e1, uz_s]
  · show iv (up2 r.1 o 5 (r.1 o 5 + w)) o 0 j = _
    rw [e1, uz_j hj, b4]
/-- one volume of a kind is shipped: of the first lot -/
theorem Inv.cShip1 (h : Inv 0 T N M H (iv v o)) {k : Int32} (h0 : 0 < su (shZ (iv v o) k.toInt) N) : ∃ i, i < N ∧ esh v o k N = nI i ∧ shpZ (iv v o) k.toInt i ∧ (sendV v o N k 1).1 = nI 1 ∧ iv (sendV v o N k 1).2 o 14 i = iv v o 14 i - 1 := by
  have h20 := h.1.1.2
  obtain ⟨i, hi, e, hs⟩ := h.esh1 h0
  obtain ⟨-, -, -, -, hp, -⟩ := (h.lot hi).2.2.2.1.on hs.1
  refine ⟨i, hi, e, hs, ?_⟩
  have eq : soF o N k 8 v 1 0 = soF o N k 7 (if 1 < gVo v o (nI i) then sVo v o (nI i) (gVo v o (nI i) - 1) else rmv v o (nI i)) (1 - (if 1 < gVo v o (nI i) then 1 else gVo v o (nI i))) 1 := by
    rw [soF, if_pos (by decide), e]
  by_cases q : 1 < gVo v o (nI i)
  · obtain ⟨a1, a2, a3⟩ := h.soL hi hs (by decide) q
    rw [if_pos q, if_pos q, soF_0 (f := 7) (l := 1 - 1) rfl] at eq
    unfold sendV
    rw [eq]
    refine ⟨rfl, ?_⟩
    show (up2 _ o 5 _ (o + 14) i).toInt = _
    rw [up2_o _ _ _ (by omega)]
    show iv (sVo v o (nI i) (gVo v o (nI i) - 1)) o 14 i = _
    rw [a2, uz_s, t_1]
  · obtain ⟨a1, a2, a3, a4, a5⟩ := h.soR (k := k) hi hs
    rw [t_lt, zVo (by omega), t_1] at q
    have q1 : iv v o 14 i = 1 := by omega
    rw [if_neg (by rw [t_lt, zVo (by omega), t_1]; exact q), if_neg (by rw [t_lt, zVo (by omega), t_1]; exact q), soF_0 (f := 7) (l := 1 - gVo v o (nI i)) (by
      have : gVo v o (nI i) = 1 := by rw [t_eq, zVo (by omega), q1]; rfl
      rw [this]; rfl)] at eq
    unfold sendV
    rw [eq]
    refine ⟨rfl, ?_⟩
    show (up2 _ o 5 _ (o + 14) i).toInt = _
    rw [up2_o _ _ _ (by omega)]
    show iv (rmv v o (nI i)) o 14 i = _
    rw [a2, rmZ_14, if_pos rfl, q1]
    rfl
theorem Inv.cCompost {h : Nat} (hI : Inv 0 T N M (h + 1) (iv v o)) (hT : T ≤ 1000000000) : ∃ t, t < N ∧ gHp v o 0 = nI t ∧ iv v o 18 t = -1 ∧ (∀ i, i < N → iv v o 18 i = -1 → i ≠ t → hb (iv v o) t i) ∧ (takeTop v o h).1.toInt = iv v o 14 t ∧ iv (takeTop v o h).2 o 14 t = 0 ∧ Inv 0 T N M h (iv (takeTop v o h).2 o) ∧ Out v (takeTop v o h).2 o := by
  have h20 := hI.1.1.2
  obtain ⟨t, ht, e1, e2, e3, e4, e5⟩ := hI.pop
  have ac := hI.2.1
  have st := hI.stored_le
  have hb := (hI.lot ht).2.2.2.1.vo
  have eT : takeTop v o h = (gVo v o (nI t), up2 (poV v o h) o 6 (poV v o h o 6 + gVo v o (nI t))) := by
    unfold takeTop
    dsimp only
    rw [e1]
    unfold poV
    rw [e1]
  have p0 : poV v o h o = v o := by rw [e5 o (by omega), if_neg (by omega), if_neg (by omega), if_neg (by omega)]
  have r0 : iv (poV v o h) o 0 = iv v o 0 := by funext j; show (poV v o h (o + 0) j).toInt = _; rw [Nat.add_zero, p0]; rfl
  have e6 : iv (up2 (poV v o h) o 6 (poV v o h o 6 + gVo v o (nI t))) o = uz (iv (poV v o h) o) 0 6 (iv v o 0 6 + iv v o 14 t) := by
    have := iv_up2 (v := poV v o h) (o := o) (c := 0) (j := 6) (x := poV v o h o 6 + gVo v o (nI t))
    rw [Nat.add_zero] at this
    have a6 : (v o 6).toInt = iv v o 0 6 := rfl
    rw [this, p0, t_add (by rw [zVo (by omega)]; omega) (by rw [zVo (by omega)]; omega), zVo (by omega)]
    rfl
  rw [eT]
  refine ⟨t, ht, e1, e2, e3, zVo (by omega), ?_, ?_, ?_⟩
  · show iv (up2 (poV v o h) o 6 _) o 14 t = 0
    rw [e6]
    show iv (poV v o h) o 14 t = 0
    show (poV v o h (o + 14) t).toInt = 0
    rw [e5 _ (by omega), if_neg (by omega), if_neg (by omega), if_pos rfl]
    unfold upd
    rw [if_pos rfl]; rfl
  · show Inv 0 T N M h (iv (up2 (poV v o h) o 6 _) o)
    rw [e6]
    refine e4.acc (Nat.le_refl _) (fun c j hc => if_neg (by omega)) ?_ ?_
    · show iv (poV v o h) o 0 4 ≤ _ ∧ 0 ≤ iv (poV v o h) o 0 5 ∧ 0 ≤ uz _ 0 6 _ 0 6
      rw [uz_s, r0]; omega
    · show iv (poV v o h) o 0 4 - iv (poV v o h) o 0 5 - uz _ 0 6 _ 0 6 - 0 = iv (poV v o h) o 0 4 - iv (poV v o h) o 0 5 - iv (poV v o h) o 0 6 - _
      rw [uz_s, r0]; omega
  · refine Out.tr (v := poV v o h) (fun k hk => ?_) (Out.up2 (c := 0) (by decide))
    rw [e5 k (by omega), if_neg (by omega), if_neg (by omega), if_neg (by omega)]
end CW
