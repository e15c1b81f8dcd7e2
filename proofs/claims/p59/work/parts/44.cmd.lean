/-! the commands, on whole numbers -/
/-- nothing outside the stock at o has changed -/
def Out (v w : Vs) (o : Nat) : Prop := ∀ k, k < o ∨ o + 26 ≤ k → w k = v k
theorem Out.rf {v : Vs} {o : Nat} : Out v v o := fun _ _ => rfl
theorem Out.tr {u v w : Vs} {o : Nat} (h : Out u v o) (h2 : Out v w o) : Out u w o := fun k hk => (h2 k hk).trans (h k hk)
theorem Out.up2 {v : Vs} {o c j : Nat} {x : Int32} (h : c < 26) : Out v (up2 v (o + c) j x) o := fun k hk => up2_o _ _ _ (by omega)
theorem Out.rs {v : Vs} {o c n : Nat} {x y : Int32} (h : c < 26) : Out v (rs v (o + c) n x y) o := fun k hk => rs_o (by omega)
theorem iv_row {v : Vs} {o c : Nat} : iv v o c = fun j => (v (o + c) j).toInt := rfl
theorem addL_Z {v : Vs} {o N : Nat} (hN : v (o + 8) 7 = nI N) (h20 : N < 20) (a b c d e : Int32) : iv (addL v o a b c d e) o = adZ (iv v o) N a.toInt b.toInt c.toInt d.toInt e.toInt (-1) (-1) ∧ Out v (addL v o a b c d e) o := by
  unfold addL
  dsimp only
  rw [hN]
  unfold sP2 sP1 sPl sEp sVo sLz sKi
  rw [show (rs (rs (rs (rs (rs (rs (rs v (o + 10) 20 (nI N) a) (o + 12) 20 (nI N) b) (o + 14) 20 (nI N) c) (o + 16) 20 (nI N) d) (o + 18) 20 (nI N) e) (o + 20) 20 (nI N) (-1)) (o + 22) 20 (nI N) (-1)) (o + 8) 7 = nI N by
    rw [rs_o (by omega), rs_o (by omega), rs_o (by omega), rs_o (by omega), rs_o (by omega), rs_o (by omega), rs_o (by omega)]; exact hN]
  refine ⟨?_, (((((((Out.rs (by decide)).tr (Out.rs (by decide))).tr (Out.rs (by decide))).tr (Out.rs (by decide))).tr (Out.rs (by decide))).tr (Out.rs (by decide))).tr (Out.rs (by decide))).tr (Out.up2 (by decide))⟩
  rw [iv_up2, iv_rs h20 (by omega), iv_rs h20 (by omega), iv_rs h20 (by omega), iv_rs h20 (by omega), iv_rs h20 (by omega), iv_rs h20 (by omega), iv_rs h20 (by omega), ← nI_succ, t_nI (by omega), t_m1]
  generalize iv v o = S
  funext c' j
  unfold uz adZ
  by_cases q : c' = 8 ∧ j = 7
  · rw [if_pos q, if_pos q]
  · rw [if_neg q, if_neg q]
    by_cases q2 : j = N
    · rw [if_pos q2]
      (repeat' split) <;> first | rfl | (exfalso; omega)
    · rw [if_neg q2, if_neg (fun z => q2 z.2), if_neg (fun z => q2 z.2), if_neg (fun z => q2 z.2), if_neg (fun z => q2 z.2), if_neg (fun z => q2 z.2), if_neg (fun z => q2 z.2), if_neg (fun z => q2 z.2)]
theorem addS_Z {v : Vs} {o M : Nat} (hM : v (o + 1) 3 = nI M) (h8 : M < 8) (a b : Int32) : iv (addS v o a b) o = ashZ (iv v o) M a.toInt b.toInt ∧ Out v (addS v o a b) o := by
  unfold addS
  dsimp only
  rw [hM]
  unfold sCd sCp sZn
  rw [show (rs (rs (rs v (o + 3) 8 (nI M) a) (o + 5) 8 (nI M) b) (o + 7) 8 (nI M) (-1)) (o + 1) 3 = nI M by
    rw [rs_o (by omega), rs_o (by omega), rs_o (by omega)]; exact hM]
  refine ⟨?_, (((Out.rs (by decide)).tr (Out.rs (by decide))).tr (Out.rs (by decide))).tr (Out.up2 (by decide))⟩
  rw [iv_up2, iv_rs h8 (by omega), iv_rs h8 (by omega), iv_rs h8 (by omega), ← nI_succ, t_nI (by omega), t_m1]
  generalize iv v o = S
  funext c' j
  unfold uz ashZ
  by_cases q : c' = 1 ∧ j = 3
  · rw [if_pos q, if_pos q]
  · rw [if_neg q, if_neg q]
    by_cases q2 : j = M
    · rw [if_pos q2]
      (repeat' split) <;> first | rfl | (exfalso; omega)
    · rw [if_neg q2, if_neg (fun z => q2 z.2), if_neg (fun z => q2 z.2), if_neg (fun z => q2 z.2)]
theorem rmv_Z {v : Vs} {o x : Nat} (hx : x < 20) : iv (rmv v o (nI x)) o = rmZ (iv v o) x ∧ Out v (rmv v o (nI x)) o := by
  unfold rmv sPl sVo rmZ
  refine ⟨?_, (Out.rs (by decide)).tr (Out.rs (by decide))⟩
  rw [iv_rs hx (by omega), iv_rs hx (by omega), t_m2, t_0]
theorem adZ_lo {S : Zs} {N : Nat} {k z w d p p1 p2 : Int} {c j : Nat} (h : c < 8) : adZ S N k z w d p p1 p2 c j = S c j := by
  unfold adZ
  rw [if_neg (by omega)]
  by_cases q : j = N
  · rw [if_pos q, if_neg (by omega), if_neg (by omega), if_neg (by omega), if_neg (by omega), if_neg (by omega), if_neg (by omega), if_neg (by omega)]
  · rw [if_neg q]
theorem adZ_hi {S : Zs} {N : Nat} {k z w d p p1 p2 : Int} {c j : Nat} (h : 22 < c) : adZ S N k z w d p p1 p2 c j = S c j := by
  unfold adZ
  rw [if_neg (by omega)]
  by_cases q : j = N
  · rw [if_pos q, if_neg (by omega), if_neg (by omega), if_neg (by omega), if_neg (by omega), if_neg (by omega), if_neg (by omega), if_neg (by omega)]
  · rw [if_neg q]
/-- the two parents of the newest lot are told -/
theorem par_Z {v : Vs} {o N : Nat} {S : Zs} {k z w d p : Int} (h20 : N < 20) (h : iv v o = adZ S N k z w d p (-1) (-1)) (a b : Int32) : iv (sP2 (sP1 v o (nI N) a) o (nI N) b) o = adZ S N k z w d p a.toInt b.toInt ∧ Out v (sP2 (sP1 v o (nI N) a) o (nI N) b) o := by
  unfold sP2 sP1
  refine ⟨?_, (Out.rs (by decide)).tr (Out.rs (by decide))⟩
  rw [iv_rs h20 (by omega), iv_rs h20 (by omega), h]
  funext c' j
  unfold uz adZ
  by_cases q : c' = 8 ∧ j = 7
  · rw [if_neg (by omega), if_neg (by omega), if_pos q, if_pos q]
  · rw [if_neg q, if_neg q]
    by_cases q2 : j = N
    · rw [if_pos q2, if_pos q2]
      (repeat' split) <;> first | rfl | (exfalso; omega)
    · rw [if_neg q2, if_neg q2, if_neg (fun z => q2 z.2), if_neg (fun z => q2 z.2)]
section CZ
variable {T N M H : Nat} {v : Vs} {o : Nat}
theorem Inv.cShelf (h : Inv 0 T N M H (iv v o)) {a b : Int32} (hv : (vdShelf v o a b).1 = 0) : M < 8 ∧ Inv 0 T N (M + 1) H (iv (addS v o a b) o) ∧ Out v (addS v o a b) o := by
  have h8 := h.1.2.1.2
  unfold vdShelf at hv
  obtain ⟨c1, hv⟩ := ite0 (by decide) hv
  obtain ⟨c2, hv⟩ := ite0 (by decide) hv
  obtain ⟨c3, hv⟩ := ite0 (by decide) hv
  rw [h.vM, t_lt, t_nI (by omega)] at c3
  simp only [t_le] at c1 c2
  have c3 : (M : Int) < 8 := c3
  have c1 : 0 ≤ a.toInt ∧ a.toInt ≤ 2 := c1
  have c2 : 1 ≤ b.toInt ∧ b.toInt ≤ 40 := c2
  obtain ⟨e, ho⟩ := addS_Z h.vM (by omega) a b
  refine ⟨by omega, ?_, ho⟩
  rw [e]
  exact h.shelf (by omega) c1 c2
theorem Inv.both (h : Inv 0 T N M H (iv v o)) (c : nI (shN v o N) < 8) : su (isS (iv v o)) N < 8 := by
  have h1 : shN v o N ≤ N := cn_le _ _
  have h2 := h.1.1.2
  rw [t_lt, t_nI (by omega)] at c
  have c : ((shN v o N : Nat) : Int) < 8 := c
  rw [h.shNZ] at c
  exact c
theorem Inv.cRecv (h : Inv 0 T N M H (iv v o)) (hT : T ≤ 1000000000) {k w z d : Int32} (hv : (vdRecv v o N M k w z d).1 = 0) : N < 20 ∧ (∃ p, p < M ∧ fitZ (iv v o) N z.toInt w.toInt (-1) (-1) p ∧ iv (takeV v o N M k w z d).2 o = adZ (uz (iv v o) 0 4 (iv v o 0 4 + w.toInt)) N k.toInt z.toInt w.toInt (iv v o 0 3 + d.toInt) p (-1) (-1)) ∧ (takeV v o N M k w z d).1 = nI N ∧ Inv 0 (T + 99) (N + 1) M H (iv (takeV v o N M k w z d).2 o) ∧ Out v (takeV v o N M k w z d).2 o := by
  have h20 := h.1.1.2
  have h8 := h.1.2.1.2
  unfold vdRecv at hv
  obtain ⟨c1, hv⟩ := ite0 (by decide) hv
  obtain ⟨c2, hv⟩ := ite0 (by decide) hv
  obtain ⟨c3, hv⟩ := ite0 (by decide) hv
  obtain ⟨c4, hv⟩ := ite0 (by decide) hv
  obtain ⟨c5, hv⟩ := ite0 (by decide) hv
  obtain ⟨c6, hv⟩ := ite0 (by decide) hv
  obtain ⟨c7, -⟩ := iteN (by decide) hv
  simp only [t_le] at c1 c2 c3 c4
  have c1 : 0 ≤ k.toInt ∧ k.toInt ≤ 5 := c1
  have c2 : 1 ≤ w.toInt ∧ w.toInt ≤ 40 := c2
  have c3 : 0 ≤ z.toInt ∧ z.toInt ≤ 2 := c3
  have c4 : 0 ≤ d.toInt ∧ d.toInt ≤ 99 := c4
  rw [h.vN, t_lt, t_nI (by omega)] at c5
  have c5 : (N : Int) < 20 := c5
  have c6 := h.both c6
  obtain ⟨p, hp, e1, e2, -⟩ := (h.pfZ z w (-1) (-1) M (Nat.le_refl _)).resolve_left (fun q => c7 q.1)
  rw [t_m1] at e2
  have ac := h.2.1
  have a3 : (v o 3).toInt = iv v o 0 3 := rfl
  have a4 : (v o 4).toInt = iv v o 0 4 := rfl
  have st := h.stored_le
  have s1 : up2 v o 4 (v o 4 + w) (o + 8) 7 = nI N := by rw [up2_o _ _ _ (by omega)]; exact h.vN
  have s2 : up2 v o 4 (v o 4 + w) o 3 = v o 3 := up2_sn (by decide)
  have s3 : iv (up2 v o 4 (v o 4 + w)) o = uz (iv v o) 0 4 (iv v o 0 4 + w.toInt) := by
    have := iv_up2 (v := v) (o := o) (c := 0) (j := 4) (x := v o 4 + w)
    rw [Nat.add_zero] at this
    rw [this, t_add (by omega) (by omega)]
    rfl
  obtain ⟨e3, ho⟩ := addL_Z s1 (by omega) k z w (v o 3 + d) (nI p)
  rw [s3, t_add (by omega) (by omega), t_nI (by omega), a3] at e3
  have e4 : (takeV v o N M k w z d).2 = addL (up2 v o 4 (v o 4 + w)) o k z w (v o 3 + d) (nI p) := by
    unfold takeV
    rw [s2, e1]
  have hA := h.add (k := k.toInt) (z := z.toInt) (w := w.toInt) (d := iv v o 0 3 + d.toInt) (p := p) (p1 := -1) (p2 := -1) (by omega) c1 c2 (by omega) hp e2.1 (by have := e2.2; rw [rX_none (by decide) (by decide)] at this; exact this) c6 (.inl ⟨rfl, rfl⟩)
  refine ⟨by omega, ⟨p, hp, e2, by rw [e4]; exact e3⟩, ?_, ?_, ?_⟩
  · exact s1
  · rw [e4]
    refine hA.acc (S' := iv (addL (up2 v o 4 (v o 4 + w)) o k z w (v o 3 + d) (nI p)) o) (by omega) (fun c j hc => ?_) ?_ ?_
    · rw [e3]
      unfold adZ
      rw [show uz (iv v o) 0 4 (iv v o 0 4 + w.toInt) c j = iv v o c j from if_neg (by omega)]
    · rw [e3, adZ_lo (by decide), adZ_lo (by decide), adZ_lo (by decide)]
      show iv v o 0 4 + w.toInt ≤ _ ∧ 0 ≤ iv v o 0 5 ∧ 0 ≤ iv v o 0 6
      omega
    · rw [e3, adZ_lo (by decide), adZ_lo (by decide), adZ_lo (by decide), adZ_lo (by decide), adZ_lo (by decide), adZ_lo (by decide)]
      show iv v o 0 4 + w.toInt - iv v o 0 5 - iv v o 0 6 - 0 = iv v o 0 4 - iv v o 0 5 - iv v o 0 6 - (0 - w.toInt)
      omega
  · rw [e4]
    have : Out v (up2 v o 4 (v o 4 + w)) o := Out.up2 (c := 0) (by decide)
    exact this.tr ho

end CZ
