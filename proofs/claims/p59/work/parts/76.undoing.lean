/-! one change away, two changes away, and back -/
section UZ
variable {v u z w : Vs} {T T' n s N M H : Nat}
/-- u is one change away from v -/
def U1 (T : Nat) (v u : Vs) (n s : Nat) : Prop := 1 ≤ s ∧ DI T u n s ∧ Stq v u 1 (rng ((n + 7) % 8)) ∧ Stq v u 53 53 ∧ u 0 9 = v 0 9
/-- z is one change away from u, and u is one change away from v -/
def U2 (T : Nat) (v u z : Vs) (n s : Nat) : Prop := 2 ≤ s ∧ DI T z n s ∧ Stq u z 1 (rng ((n + 7) % 8)) ∧ Stq v z 1 (rng ((n + 6) % 8)) ∧ Stq v z 53 53 ∧ z 0 9 = v 0 9
/-- w is as v was, the history aside -/
def Bk (T : Nat) (v w : Vs) : Prop := (∃ n s, DI T w n s) ∧ Stq v w 1 1 ∧ Stq v w 53 53 ∧ w 0 9 = v 0 9
theorem Bk.tr (h : Bk T v u) (h2 : Bk T' u w) : Bk T' v w := ⟨h2.1, h.2.1.tr h2.2.1, h.2.2.1.tr h2.2.2.1, h2.2.2.2.trans h.2.2.2⟩
theorem Bk.mono (h : Bk T v u) (hT : T ≤ T') : Bk T' v u := by
  obtain ⟨⟨n, s, h1⟩, h2⟩ := h
  exact ⟨⟨n, s, h1.mono hT⟩, h2⟩
theorem DI.bk (h : DI T v n s) (q : Sam v u) : Bk T v u := ⟨⟨n, s, h.sam q⟩, q.sq (by decide) (by decide) (by decide), q.sq (by decide) (by decide) (by decide), q.2.2⟩
theorem Sam.ring (q : Sam v u) {j : Nat} (hj : j < 8) : Stq v u (rng j) (rng j) := q.sq (by unfold rng; omega) (by unfold rng; omega) (by unfold rng; omega)
/-- a change that is not denied -/
theorem DI.app (h : DI T v n s) (hT : T ≤ 1000000000) (hI0 : Inv 0 T' N M H (iv v 1)) (hT2 : T' ≤ T) {c a b e f r : Int32} (hC : CmdR v N M H n s c a b e f r u) (h0 : (vdOf v 1 N M c a b e f).1 = 0) : ∃ k, Stq v k 1 1 ∧ r = (pfOf k 1 N M H c a b e f).1 ∧ u = (pfOf k 1 N M H c a b e f).2 ∧ Kpt v u n s ∧ DI (T + 99) u ((n + 1) % 8) (min (s + 1) 8) := by
  have hI := hI0.mono hT2
  rcases hC with ⟨h1, e1, e2⟩ | ⟨h1, -, -⟩
  · obtain ⟨k1, k2⟩ := keepV_kpt (v := v) (s := s) h.2.1.1
    have hI2 := hI.sq k2
    obtain ⟨f1, f2, f3, -, -⟩ := hI2.pf hT (c := c) (a := a) (b := b) (e := e) (f := f) (by rw [vd_sq k2]; exact h1)
    rcases h.cmd hT hI (.inl ⟨h1, e1, e2⟩) with ⟨q, -⟩ | ⟨-, q1, q2⟩
    · exfalso
      rw [← e1, q] at f3
      have : (-100000000 : Int32).toInt = -100000000 := by decide
      omega
    · exact ⟨_, k2, e1, e2, q1, q2⟩
  · exact absurd h0 h1
/-- a change that is denied -/
theorem DI.den (h : DI T v n s) {c a b e f r : Int32} (hC : CmdR v N M H n s c a b e f r u) (h0 : (vdOf v 1 N M c a b e f).1 ≠ 0) : r = -100000000 ∧ Sam v u ∧ u = rfV (vdOf v 1 N M c a b e f).2 (vdOf v 1 N M c a b e f).1 := by
  rcases hC with ⟨h1, -, -⟩ | ⟨h1, rfl, rfl⟩
  · exact absurd h1 h0
  · exact ⟨rfl, Sam.deny (fun k hk => vdOf_k hk), rfl⟩
theorem U1.of (hn : n < 8) (hk : Kpt v u n s) (hd : DI T u ((n + 1) % 8) (min (s + 1) 8)) : U1 T v u ((n + 1) % 8) (min (s + 1) 8) := by
  obtain ⟨k1, k2, k3, k4, k5, k6⟩ := hk
  refine ⟨by omega, hd, ?_, k3, k6⟩
  rw [show ((n + 1) % 8 + 7) % 8 = n by omega]
  exact k1
theorem U1.sam (h : U1 T v u n s) (q : Sam u w) : U1 T v w n s := by
  obtain ⟨h1, h2, h3, h4, h5⟩ := h
  exact ⟨h1, h2.sam q, h3.tr (q.ring (by omega)), h4.tr (q.sq (by decide) (by decide) (by decide)), q.2.2.trans h5⟩
theorem U1.undo (h : U1 T v u n s) : Bk T v (giveV u n s) := by
  obtain ⟨h1, h2, h3, h4, h5⟩ := h
  obtain ⟨⟨g1, g2, g3, g4, g5, g6⟩, -⟩ := giveV_gvn (v := u) (n := n) (s := s)
  exact ⟨⟨_, _, h2.undo⟩, h3.tr g1, h4.tr g3, g6.trans h5⟩
theorem U1.mono (h : U1 T v u n s) (hT : T ≤ T') : U1 T' v u n s := ⟨h.1, h.2.1.mono hT, h.2.2⟩
theorem U2.mono (h : U2 T v u z n s) (hT : T ≤ T') : U2 T' v u z n s := ⟨h.1, h.2.1.mono hT, h.2.2⟩
theorem U1.cmd (h : U1 T v u n s) (hk : Kpt u z n s) (hd : DI T' z ((n + 1) % 8) (min (s + 1) 8)) : U2 T' v u z ((n + 1) % 8) (min (s + 1) 8) := by
  obtain ⟨h1, h2, h3, h4, h5⟩ := h
  have hn := h2.2.1.1
  obtain ⟨k1, k2, k3, k4, k5, k6⟩ := hk
  refine ⟨by omega, hd, ?_, ?_, h4.tr k3, k6.trans h5⟩
  · rw [show ((n + 1) % 8 + 7) % 8 = n by omega]
    exact k1
  · rw [show ((n + 1) % 8 + 6) % 8 = (n + 7) % 8 by omega]
    exact h3.tr (k2 _ (by omega) (by omega))
theorem U2.sam (h : U2 T v u z n s) (q : Sam z w) : U2 T v u w n s := by
  obtain ⟨h1, h2, h3, h3b, h4, h5⟩ := h
  exact ⟨h1, h2.sam q, h3.tr (q.ring (by omega)), h3b.tr (q.ring (by omega)), h4.tr (q.sq (by decide) (by decide) (by decide)), q.2.2.trans h5⟩
theorem U2.undo (h : U2 T v u z n s) : U1 T v (giveV z n s) ((n + 7) % 8) (s - 1) ∧ Stq u (giveV z n s) 1 1 := by
  obtain ⟨h1, h2, h3, h3b, h4, h5⟩ := h
  obtain ⟨⟨g1, g2, g3, g4, g5, g6⟩, -⟩ := giveV_gvn (v := z) (n := n) (s := s)
  refine ⟨⟨by omega, h2.undo, ?_, h4.tr g3, g6.trans h5⟩, h3.tr g1⟩
  rw [show ((n + 7) % 8 + 7) % 8 = (n + 6) % 8 by omega]
  exact h3b.tr (g2 _ (by omega))
theorem cn_none : ∀ n, cn (fun _ => false) n = 0
  | 0 => rfl
  | n + 1 => by
    simp only [cn]
    rw [cn_none n]
    rfl
theorem tc_nI {a : Nat} (h : a < 1000) : (nI a).toNatClampNeg = a := by
  rw [Int32.toNatClampNeg, t_nI (by omega)]; rfl
theorem fmP_sq {o : Nat} (q : Stq v w 1 1) (a : Nat) : fmP w 1 N a = fmP v 1 N a := by
  funext j
  unfold fmP
  rw [parB_sq (fun c hc => q c hc), show iv w 1 18 j = iv v 1 18 j by unfold iv; rw [q 18 (by decide)]]
/-- a recall that is not denied, as it is foretold -/
theorem rec_1 (hI : Inv 0 T N M H (iv v 1)) {a : Nat} (ha : a < N) {k : Vs} (hk : Stq v k 1 1) {r : Int32} (e1 : r = (pfOf k 1 N M H 6 (nI a) 0 0 0).1) (e2 : u = (pfOf k 1 N M H 6 (nI a) 0 0 0).2) : r = nI (cn (fmP v 1 N a) N) ∧ Inv 0 T N M (H + cn (fmP v 1 N a) N) (iv u 1) ∧ ¬ 0 ≤ iv u 1 18 a ∧ cn (fmP u 1 N a) N = 0 := by
  have h20 := hI.1.1.2
  obtain ⟨c1, c2, c3, c4⟩ := (hI.sq hk).cRecall ha
  have ef := fmP_sq (N := N) (o := 1) hk a
  rw [ef] at c1 c2 c4
  have ep : pfOf k 1 N M H 6 (nI a) 0 0 0 = recV k 1 N H a := by
    unfold pfOf
    rw [if_neg (by decide), if_neg (by decide), if_neg (by decide), if_neg (by decide), if_neg (by decide), if_neg (by decide), if_pos rfl, tc_nI (by omega)]
  rw [ep] at e1 e2
  subst e1 e2
  have e18 : ∀ j, j < N → ((decide (j = a) || fw (parB v 1) N a j) = true) → ¬ 0 ≤ iv (recV k 1 N H a).2 1 18 j := fun j hj hp q => by
    rw [c4 j hj] at q
    by_cases z : fmP v 1 N a j = true
    · rw [if_pos z] at q; omega
    · rw [if_neg z] at q
      apply z
      unfold fmP
      rw [hp, Bool.true_and, decide_eq_true_iff]
      have : iv k 1 18 j = iv v 1 18 j := by unfold iv; rw [hk 18 (by decide)]
      omega
  refine ⟨c1, c2, e18 a ha (by rw [decide_eq_true rfl]; rfl), ?_⟩
  have epar : parB (recV k 1 N H a).2 1 = parB v 1 := by
    funext x y
    unfold parB gP1 gP2
    rw [c3 (1 + 20) (by decide) (by decide) (by decide), c3 (1 + 22) (by decide) (by decide) (by decide), hk 20 (by decide), hk 22 (by decide)]
  refine Nat.le_zero.mp (Nat.le_trans (Nat.le_of_eq (cn_congr (q := fun _ => false) (fun j hj => ?_))) (Nat.le_of_eq (cn_none N)))
  unfold fmP
  rw [epar]
  cases q : (decide (j = a) || fw (parB v 1) N a j) with
  | false => rfl
  | true => rw [decide_eq_false (e18 j hj q)]; rfl
/-- a composting that is not denied: the heap's top goes -/
theorem com_1 {h : Nat} (hI : Inv 0 T N M (h + 1) (iv v 1)) (hT : T ≤ 1000000000) {k : Vs} (hk : Stq v k 1 1) {r : Int32} (e1 : r = (pfOf k 1 N M (h + 1) 7 0 0 0 0).1) (e2 : u = (pfOf k 1 N M (h + 1) 7 0 0 0 0).2) : ∃ t, t < N ∧ gHp v 1 0 = nI t ∧ iv v 1 18 t = -1 ∧ r = gVo v 1 (nI t) ∧ iv u 1 14 t = 0 ∧ Inv 0 T N M h (iv u 1) := by
  have h20 := hI.1.1.2
  obtain ⟨t, c1, c2, c3, c4, c5, c6, c7, c8⟩ := (hI.sq hk).cCompost hT
  have ep : pfOf k 1 N M (h + 1) 7 0 0 0 0 = takeTop k 1 h := by
    unfold pfOf
    rw [if_neg (by decide), if_neg (by decide), if_neg (by decide), if_neg (by decide), if_neg (by decide), if_neg (by decide), if_neg (by decide), if_pos rfl, Nat.add_sub_cancel]
  rw [ep] at e1 e2
  subst e1 e2
  have e18 : iv k 1 18 t = iv v 1 18 t := by unfold iv; rw [hk 18 (by decide)]
  have e14 : iv k 1 14 t = iv v 1 14 t := by unfold iv; rw [hk 14 (by decide)]
  refine ⟨t, c1, ?_, by omega, ?_, c6, c7⟩
  · rw [← c2]; unfold gHp; rw [hk 25 (by decide)]
  · rw [t_eq, c5, zVo (by omega), e14]
end UZ
