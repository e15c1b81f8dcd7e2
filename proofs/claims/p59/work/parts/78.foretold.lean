/-! what splitting, mixing and shipping are foretold to do -/
section FZ
variable {u v k w : Vs} {T n s N M H a b : Nat}
theorem rX_two {S : Zs} {j : Nat} (ha : a < N) (hb : b < N) (hab : a ≠ b) : rX S N j a b = room S N j + onZ S j a + onZ S j b := by
  unfold rX room
  have h := su_pt2 (g := onZ S j) (g' := fun i : Nat => if (i : Int) = (a : Int) ∨ (i : Int) = (b : Int) then 0 else onZ S j i) ha hb hab (fun i _ h1 h2 => if_neg (by omega))
  rw [h]
  show S 5 j - (su (onZ S j) N + ((if (a : Int) = (a : Int) ∨ (a : Int) = (b : Int) then 0 else onZ S j a) - onZ S j a) + ((if (b : Int) = (a : Int) ∨ (b : Int) = (b : Int) then 0 else onZ S j b) - onZ S j b)) = _
  rw [if_pos (.inl rfl), if_pos (.inr rfl)]
  omega
theorem pf_2 {x y : Int32} : pfOf k 1 N M H 2 x y 0 0 = divV k 1 x y := by
  unfold pfOf
  rw [if_neg (by decide), if_neg (by decide), if_pos rfl]
theorem pf_3 {x y : Int32} : pfOf k 1 N M H 3 x y 0 0 = uniV k 1 N M x y := by
  unfold pfOf
  rw [if_neg (by decide), if_neg (by decide), if_neg (by decide), if_pos rfl]
theorem pf_5 {x y : Int32} : pfOf k 1 N M H 5 x y 0 0 = sendV k 1 N x y := by
  unfold pfOf
  rw [if_neg (by decide), if_neg (by decide), if_neg (by decide), if_neg (by decide), if_neg (by decide), if_pos rfl]
theorem vd_2 {x y : Int32} : vdOf v 1 N M 2 x y 0 0 = vdSplit v 1 N x y := by
  unfold vdOf
  rw [if_neg (by decide), if_neg (by decide), if_pos rfl]
theorem vd_3 {x y : Int32} : vdOf v 1 N M 3 x y 0 0 = vdMix v 1 N M x y := by
  unfold vdOf
  rw [if_neg (by decide), if_neg (by decide), if_neg (by decide), if_pos rfl]
theorem vd_5 {x y : Int32} : vdOf v 1 N M 5 x y 0 0 = vdShip v 1 N x y := by
  unfold vdOf
  rw [if_neg (by decide), if_neg (by decide), if_neg (by decide), if_neg (by decide), if_neg (by decide), if_pos rfl]
theorem iv_sq (q : Stq v k 1 1) {c j : Nat} (hc : c < 26) : iv k 1 c j = iv v 1 c j := by unfold iv; rw [q c hc]
/-- a part of one is split off -/
theorem spl_1 (hI : Inv 0 T N M H (iv v 1)) (ha : a < N) (hk : Stq v k 1 1) {r : Int32} (hv : (vdOf v 1 N M 2 (nI a) 1 0 0).1 = 0) (e1 : r = (pfOf k 1 N M H 2 (nI a) 1 0 0).1) (e2 : u = (pfOf k 1 N M H 2 (nI a) 1 0 0).2) :
    N < 20 ∧ r = nI N ∧ Inv 0 T (N + 1) M H (iv u 1) ∧ (∃ p, p < M ∧ iv v 1 18 a = (p : Nat) ∧ iv v 1 3 p = iv v 1 12 a) ∧ iv v 1 0 3 ≤ iv v 1 16 a ∧ 1 < iv v 1 14 a ∧ (iv u 1 14 N = 1 ∧ iv u 1 14 a = iv v 1 14 a - 1) ∧ (iv u 1 18 N = iv v 1 18 a ∧ iv u 1 18 a = iv v 1 18 a) ∧ (iv u 1 16 N = iv v 1 16 a ∧ iv u 1 16 a = iv v 1 16 a) ∧ (iv u 1 10 N = iv u 1 10 a ∧ iv u 1 12 N = iv v 1 12 a ∧ iv u 1 12 a = iv v 1 12 a) ∧ (iv u 1 20 N = (a : Nat) ∧ iv u 1 22 N = -1) ∧ iv u 1 0 3 = iv v 1 0 3 ∧ ∀ p, p < M → iv u 1 3 p = iv v 1 3 p := by
  have h20 := hI.1.1.2
  have h8 := hI.1.2.1.2
  have hIk := hI.sq hk
  rw [pf_2] at e1 e2
  rw [← vd_sq hk, vd_2] at hv
  obtain ⟨hN, ⟨i, hi, ei, c1, c2, -, c3, c4⟩, c5, c6, -⟩ := hIk.cSplit hv
  have eai : i = a := by
    rw [t_eq, t_nI (by omega), t_nI (by omega)] at ei
    omega
  subst eai
  rw [← e1] at c5
  rw [← e2] at c4 c6
  have c3 : (1 : Int) < iv k 1 14 i := c3
  have c4 : iv u 1 = adZ (uz (iv k 1) 14 i (iv k 1 14 i - 1)) N (iv k 1 10 i) (iv k 1 12 i) 1 (iv k 1 16 i) (iv k 1 18 i) i (-1) := c4
  obtain ⟨p, hp, p1, p2, -⟩ := (hIk.lot hi).2.2.2.1.on c1
  have q := fun (c j : Nat) (hc : c < 26) => iv_sq (j := j) hk hc
  have old : ∀ c, c ≠ 8 → iv u 1 c i = uz (iv k 1) 14 i (iv k 1 14 i - 1) c i := fun c h8 => by rw [c4, adZ_old (by omega) h8]
  rw [q 0 3 (by decide), q 16 i (by decide)] at c2
  rw [q 14 i (by decide)] at c3
  rw [q 18 i (by decide)] at p1
  rw [q 3 p (by decide), q 12 i (by decide)] at p2
  refine ⟨hN, c5, c6, ⟨p, hp, p1, p2⟩, c2, c3, ⟨?_, ?_⟩, ⟨?_, ?_⟩, ⟨?_, ?_⟩, ⟨?_, ?_, ?_⟩, ⟨?_, ?_⟩, ?_, fun p hp => ?_⟩
  · rw [c4]; unfold adZ; rw [if_neg (by omega), if_pos rfl, if_neg (by decide), if_neg (by decide), if_pos rfl]
  · rw [old 14 (by decide), uz_s, q 14 i (by decide)]
  · rw [c4]; unfold adZ; rw [if_neg (by omega), if_pos rfl, if_neg (by decide), if_neg (by decide), if_neg (by decide), if_neg (by decide), if_pos rfl, q 18 i (by decide)]
  · rw [old 18 (by decide), uz_c (by decide), q 18 i (by decide)]
  · rw [c4]; unfold adZ; rw [if_neg (by omega), if_pos rfl, if_neg (by decide), if_neg (by decide), if_neg (by decide), if_pos rfl, q 16 i (by decide)]
  · rw [old 16 (by decide), uz_c (by decide), q 16 i (by decide)]
  · rw [old 10 (by decide), uz_c (by decide), c4]; unfold adZ; rw [if_neg (by omega), if_pos rfl, if_pos rfl]
  · rw [c4]; unfold adZ; rw [if_neg (by omega), if_pos rfl, if_neg (by decide), if_pos rfl, q 12 i (by decide)]
  · rw [old 12 (by decide), uz_c (by decide), q 12 i (by decide)]
  · rw [c4]; unfold adZ; rw [if_neg (by omega), if_pos rfl, if_neg (by decide), if_neg (by decide), if_neg (by decide), if_neg (by decide), if_neg (by decide), if_pos rfl]
  · rw [c4]; unfold adZ; rw [if_neg (by omega), if_pos rfl, if_neg (by decide), if_neg (by decide), if_neg (by decide), if_neg (by decide), if_neg (by decide), if_neg (by decide), if_pos rfl]
  · rw [c4, adZ_lo (by decide), uz_c (by decide), q 0 3 (by decide)]
  · rw [c4, adZ_lo (by decide), uz_c (by decide), q 3 p (by decide)]
/-- two lots on one shelf, of one kind, can be mixed -/
theorem mix_0 (hJ : Inv 0 T N M H (iv u 1)) (ha : a < N) (hb : b < N) (hab : a ≠ b) (hN : N < 20) {p : Nat} (hp : p < M) (pa : iv u 1 18 a = (p : Nat)) (pb : iv u 1 18 b = (p : Nat)) (xa : iv u 1 0 3 ≤ iv u 1 16 a) (xb : iv u 1 0 3 ≤ iv u 1 16 b) (z1 : iv u 1 12 a = iv u 1 12 b) (k1 : iv u 1 10 a = iv u 1 10 b) (z2 : iv u 1 3 p = iv u 1 12 b) : (vdOf u 1 N M 3 (nI a) (nI b) 0 0).1 = 0 := by
  have h8 := hJ.1.2.1.2
  have va := (hJ.lot ha).2.2.2.1.vo
  have vb := (hJ.lot hb).2.2.2.1.vo
  have w1 : (gVo u 1 (nI a) + gVo u 1 (nI b)).toInt = iv u 1 14 a + iv u 1 14 b := by
    rw [t_add (by rw [zVo (by omega), zVo (by omega)]; omega) (by rw [zVo (by omega), zVo (by omega)]; omega), zVo (by omega), zVo (by omega)]
  have nf : ¬ (pfs u 1 N (gLz u 1 (nI b)) (gVo u 1 (nI a) + gVo u 1 (nI b)) (nI a) (nI b) M).1 = -1 := fun q => by
    rcases hJ.pfZ (gLz u 1 (nI b)) (gVo u 1 (nI a) + gVo u 1 (nI b)) (nI a) (nI b) M (Nat.le_refl M) with ⟨-, f⟩ | ⟨j, hj, f, -⟩
    · apply f p hp
      rw [w1, zLz (by omega), t_nI (by omega), t_nI (by omega)]
      refine ⟨z2, ?_⟩
      rw [rX_two ha hb hab]
      have hr := (hJ.shf hp).2
      unfold onZ
      rw [if_pos pa, if_pos pb]
      omega
    · rw [f] at q
      have q : nI j = -1 := q
      rw [t_eq, t_nI (by omega), t_m1] at q
      omega
  rw [vd_3]
  unfold vdMix
  rw [if_pos (hJ.hsL.mpr ⟨a, ha, rfl⟩), if_pos (hJ.hsL.mpr ⟨b, hb, rfl⟩), if_neg (fun q => by rw [t_eq, t_nI (by omega), t_nI (by omega)] at q; omega), if_pos ((hJ.ny ha).mpr (by omega)), if_pos ((hJ.ny hb).mpr (by omega)), if_neg (fun q => by rw [hJ.ex ha] at q; omega), if_neg (fun q => by rw [hJ.ex hb] at q; omega),
    if_pos (by rw [t_eq, zLz (by omega), zLz (by omega)]; exact z1), if_pos (by rw [t_eq, zKi (by omega), zKi (by omega)]; exact k1), if_pos (by rw [hJ.vN, t_lt, t_nI (by omega)]; show (N : Int) < 20; omega), if_neg nf]
/-- two lots are mixed -/
theorem mix_1 (hJ : Inv 0 T N M H (iv u 1)) (ha : a < N) (hb : b < N) (hk : Stq u k 1 1) {r : Int32} (hv : (vdOf u 1 N M 3 (nI a) (nI b) 0 0).1 = 0) (e1 : r = (pfOf k 1 N M H 3 (nI a) (nI b) 0 0).1) (e2 : w = (pfOf k 1 N M H 3 (nI a) (nI b) 0 0).2) :
    N < 20 ∧ r = nI N ∧ Inv 0 T (N + 1) M H (iv w 1) ∧ iv w 1 14 N = iv u 1 14 a + iv u 1 14 b ∧ iv w 1 16 N = (if iv u 1 16 b < iv u 1 16 a then iv u 1 16 b else iv u 1 16 a) ∧ iv w 1 16 a = iv u 1 16 a ∧ iv w 1 14 a = 0 ∧ iv w 1 20 N = (a : Nat) ∧ iv w 1 22 N = (b : Nat) := by
  have h20 := hJ.1.1.2
  have h8 := hJ.1.2.1.2
  have hIk := hJ.sq hk
  rw [pf_3] at e1 e2
  rw [← vd_sq hk, vd_3] at hv
  obtain ⟨hN, ⟨i, j, p, hi, hj, hij, hp, ei, ej, -, -, c4⟩, c5, c6, -⟩ := hIk.cMix hv
  have eai : i = a := by
    rw [t_eq, t_nI (by omega), t_nI (by omega)] at ei
    omega
  have ebj : j = b := by
    rw [t_eq, t_nI (by omega), t_nI (by omega)] at ej
    omega
  subst eai ebj
  rw [← e1] at c5
  rw [← e2] at c4 c6
  have q := fun (c j : Nat) (hc : c < 26) => iv_sq (j := j) hk hc
  rw [q 14 i (by decide), q 14 j (by decide), q 16 i (by decide), q 16 j (by decide)] at c4
  refine ⟨hN, c5, c6, ?_, ?_, ?_, ?_, ?_, ?_⟩
  · rw [c4]; unfold adZ; rw [if_neg (by omega), if_pos rfl, if_neg (by decide), if_neg (by decide), if_pos rfl]
  · rw [c4]; unfold adZ; rw [if_neg (by omega), if_pos rfl, if_neg (by decide), if_neg (by decide), if_neg (by decide), if_pos rfl]
  · rw [c4, adZ_old (by omega) (by decide), rmZ_o (by decide) (by decide), rmZ_o (by decide) (by decide), q 16 i (by decide)]
  · rw [c4, adZ_old (by omega) (by decide), rmZ_14, if_neg hij, rmZ_14, if_pos rfl]
  · rw [c4]; unfold adZ; rw [if_neg (by omega), if_pos rfl, if_neg (by decide), if_neg (by decide), if_neg (by decide), if_neg (by decide), if_neg (by decide), if_pos rfl]
  · rw [c4]; unfold adZ; rw [if_neg (by omega), if_pos rfl, if_neg (by decide), if_neg (by decide), if_neg (by decide), if_neg (by decide), if_neg (by decide), if_neg (by decide), if_pos rfl]
/-- a parent: it is descended from -/
theorem fw_one (hN : N ≤ 20) (ha : a < 20) (hb : b < 20) (hp : iv u 1 20 b = (a : Nat)) : fw (parB u 1) N a b = true := by
  refine fw_par _ ?_ N
  unfold parB
  rw [decide_eq_true_iff]
  exact .inl (by rw [t_eq, zP1 (by omega), t_nI (by omega)]; exact hp)
theorem descY (hJ : Inv 0 T N M H (iv u 1)) (ha : a < N) (hb : b < N) (hp : iv u 1 20 b = (a : Nat)) : decide ((fo u 1 N 20 a 0 >>> (nI b &&& 31)) &&& 1 = 1) = true := by
  have h20 := hJ.1.1.2
  rw [decide_eq_true_iff]
  exact (hJ.descB ha hb).mpr (fw_one h20 (by omega) (by omega) hp)
/-- of a denied splitting: why -/
theorem spl_no (hI : Inv 0 T N M H (iv v 1)) (ha : a < N) (h0 : (vdOf v 1 N M 2 (nI a) 1 0 0).1 ≠ 0) (h1 : 0 ≤ gPl v 1 (nI a)) (h2 : ¬ gEp v 1 (nI a) < v 1 3) (h3 : 2 ≤ gVo v 1 (nI a)) (h4 : ¬ nI N = 20) : (rfV (vdOf v 1 N M 2 (nI a) 1 0 0).2 (vdOf v 1 N M 2 (nI a) 1 0 0).1) 0 10 = 1 := by
  have h20 := hI.1.1.2
  have hN : N < 20 := by
    rw [t_eq, t_nI (by omega)] at h4
    have : (20 : Int32).toInt = 20 := by decide
    omega
  have h3' : (1 : Int32) < gVo v 1 (nI a) := by
    rw [t_le] at h3
    rw [t_lt, t_1]
    have : (2 : Int32).toInt = 2 := by decide
    omega
  rw [vd_2] at h0 ⊢
  unfold vdSplit at h0 ⊢
  rw [if_pos (hI.hsL.mpr ⟨a, ha, rfl⟩), if_pos (by decide), if_pos h1, if_neg (show ¬ expd v 1 (nI a) from h2), if_pos h3', if_pos (show v (1 + 8) 7 < 20 by rw [hI.vN, t_lt, t_nI (by omega)]; show (N : Int) < 20; omega)] at h0 ⊢
  by_cases c : nI (shN v 1 N) < 8
  · rw [if_pos c] at h0
    exact absurd rfl h0
  · rw [if_neg c]
    rfl
end FZ
