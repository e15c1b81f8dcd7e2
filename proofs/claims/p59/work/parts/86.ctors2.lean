/-! the constructors: the history, the line, the depot -/
def rgF (γ : Gm) (m : Nat) : Nat → Option Nat := fun j => if j < m then some (gz γ + (81 + 26 * j)) else none
/-- the ring of which m stocks are there -/
def Rg (γ : Gm) (m : Nat) (H : Heap) : Prop := va_at γ.1 vwCl (gz γ + 80, .inl (γ.2.1.2.2, 8, .inr (.inr (.inr (.inr (rgF γ m)))))) H
theorem rgF_up {γ : Gm} {m : Nat} : va_up (rgF γ m) m (some (gz γ + (81 + 26 * m))) = rgF γ (m + 1) := by
  funext j
  unfold rgF
  by_cases q : j = m
  · subst q
    rw [va_up_self, if_pos (by omega)]
  · rw [va_up_ne _ _ q]
    by_cases q2 : j < m
    · rw [if_pos q2, if_pos (by omega)]
    · rw [if_neg q2, if_neg (by omega)]
theorem Rg.full {γ : Gm} {H : Heap} (h : Rg γ 8 H) : va_at γ.1 vwCl (gz γ + 80, .inl (γ.2.1.2.2, 8, .inr (.inr (.inr (.inr (fun j => some (gz γ + (81 + 26 * j)))))))) H := by
  have h : H[gz γ + 80]? = some (vp_cell _ _) := h
  show H[gz γ + 80]? = some (vp_cell _ _)
  rw [h, vp_cell_q, vp_cell_q]
  unfold arrV
  congr 2
section XZ
variable {γ : Gm} {v : Vs} {H0 H H1 : Heap} {fs : List Value} {kc : Nat}
theorem Cn.ring (h : Cn γ v H0 79 7 fs kc H) (hz : H1.size = H.size) (hq : ∀ q : Nat, q ≠ gz γ + 80 → H1[q]? = H[q]?) : Cn γ v H0 79 7 fs kc H1 :=
  ⟨hz.trans h.1, fun q hlt => (hq q (by omega)).trans (h.2.1 q hlt), h.2.2.1.kept (hq _ (by show gz γ + 79 ≠ _; omega)), fun k x h1 h2 h3 => (h.2.2.2 k x h1 h2 h3).kept (hq _ (by have := (shape_lt h3).2; show gz γ + k ≠ _; omega))⟩
end XZ
theorem c_X4 {γ : Gm} {v : Vs} {H0 : Heap} (hz : Zr v 81 289) (h79 : v 79 = fun _ => 0) : Ev γ mX4_init yX4_init 4 209 1736 [.ref (gz γ + 79)] (Cn γ v H0 79 7 [.null, .int 0, .int 0] 80) (fun w H => w = none ∧ Cn γ v H0 79 7 (fvs (gz γ) (v 79) 0 [some 80, none, none]) 289 H ∧ Rg γ 8 H) := by
  refine Ev.ofJ (by decide) rfl (fun _ => rfl) (Nat.le_of_ble_eq_true rfl) ?_
  refine J.aload_n (μ := mX4_init) (pc := 0) dX4_init_0 rfl ?_
  refine J.objI (μ := mX4_init) (pc := 1) rfl wm_X4_3 dX4_init_1 ⟨(Nat.le_of_ble_eq_true rfl), (Nat.le_of_ble_eq_true rfl)⟩ (Nat.le_of_ble_eq_true rfl) ?_
  refine J.aload_n (μ := mX4_init) (pc := 4) dX4_init_4 rfl ?_
  refine J.bipush (μ := mX4_init) (pc := 5) (v := 8) dX4_init_5 (by decide) ?_
  refine J.newQ (μ := mX4_init) (pc := 7) (len := 8) rfl wk_X4_9 dX4_init_7 rfl (by decide) (Nat.le_of_ble_eq_true rfl) (Nat.le_of_ble_eq_true rfl) (fun H7 hH => ?_)
  rw [hH.1]
  refine J.of (P' := fun H => Cn γ v H0 79 7 ([.null, .int 0, .int 0] : List Value) 81 H ∧ Rg γ 0 H) (fun H h => ⟨hH.skip (by omega) h.1 h.2.1 rfl, h.2.2⟩) ?_
  refine J.putF (μ := mX4_init) (pc := 10) (T := TX4) (ci := 7) (ty0 := tyX4) (P' := fun H => Cn γ v H0 79 7 (([.null, .int 0, .int 0] : List Value).set 0 (.ref (gz γ + 80))) 81 H ∧ Rg γ 0 H) rfl rfl rfl in_X4 tyX4_ok nmX4 0 (by decide) wf_X4_11 dX4_init_10 rfl rfl rfl rfl (Nat.le_add_right _ _) (fun H h => h.1.2.2.1) (by simp) (fun H H' h a b c => ⟨h.1.put a b c, h.2.kept (c _ (by show gz γ + 80 ≠ _; omega))⟩) ?_
  refine J.aload_n (μ := mX4_init) (pc := 13) dX4_init_13 rfl ?_
  refine J.iconst (μ := mX4_init) (pc := 14) (v := 0) dX4_init_14 (by decide) ?_
  refine J.putf (μ := mX4_init) (pc := 15) (T := TX4) (ci := 7) (ty0 := tyX4) (P' := fun H => Cn γ v H0 79 7 ((([.null, .int 0, .int 0] : List Value).set 0 (.ref (gz γ + 80))).set 1 (.int 0)) 81 H ∧ Rg γ 0 H) rfl rfl in_X4 tyX4_ok nmX4 1 (by decide) wf_X4_17 dX4_init_15 rfl rfl rfl (Nat.le_add_right _ _) (fun H h => h.1.2.2.1) (by simp) (fun H H' h a b c => ⟨h.1.put a b c, h.2.kept (c _ (by show gz γ + 80 ≠ _; omega))⟩) ?_
  refine J.aload_n (μ := mX4_init) (pc := 18) dX4_init_18 rfl ?_
  refine J.iconst (μ := mX4_init) (pc := 19) (v := 0) dX4_init_19 (by decide) ?_
  refine J.putf (μ := mX4_init) (pc := 20) (T := TX4) (ci := 7) (ty0 := tyX4) (P' := fun H => Cn γ v H0 79 7 (((([.null, .int 0, .int 0] : List Value).set 0 (.ref (gz γ + 80))).set 1 (.int 0)).set 2 (.int 0)) 81 H ∧ Rg γ 0 H) rfl rfl in_X4 tyX4_ok nmX4 2 (by decide) wf_X4_21 dX4_init_20 rfl rfl rfl (Nat.le_add_right _ _) (fun H h => h.1.2.2.1) (by simp) (fun H H' h a b c => ⟨h.1.put a b c, h.2.kept (c _ (by show gz γ + 80 ≠ _; omega))⟩) ?_
  refine J.iconst (μ := mX4_init) (pc := 23) (v := 0) dX4_init_23 (by decide) ?_
  refine J.istore_n (μ := mX4_init) (pc := 24) dX4_init_24 (Nat.le_of_ble_eq_true rfl) rfl ?_
  refine J.sub ?_ (J.forK (μ := mX4_init) (hd := 25) (kf := fun i => 1 + 26 * i) (nf := fun i => 8 + 216 * i) (Lf := fun i => [some (.ref (gz γ + 79)), some (.int (nI i))]) (Pf := fun i => (fun H => Cn γ v H0 79 7 (((([.null, .int 0, .int 0] : List Value).set 0 (.ref (gz γ + 80))).set 1 (.int 0)).set 2 (.int 0)) (81 + 26 * i) H ∧ Rg γ i H)) 8 ?_ (fun i hi ih => ?_))
  · exact ⟨rfl, rfl, trivial⟩
  · refine J.iload_n (μ := mX4_init) (pc := 25) dX4_init_25 rfl ?_
    refine J.aload_n (μ := mX4_init) (pc := 26) dX4_init_26 rfl ?_
    refine J.getf (μ := mX4_init) (pc := 27) (T := TX4) (ci := 7) rfl rfl in_X4 0 (by decide) wf_X4_11 dX4_init_27 (fun H h => h.1.2.2.1) rfl ?_
    refine J.alenQ (μ := mX4_init) (pc := 30) dX4_init_30 (fun H h => h.2) rfl ?_
    refine J.icmp_ge (μ := mX4_init) (pc := 31) 53 dX4_init_31 (by decide) (fun h1 => ?_) (fun h1 => ?_)
    · exact J.vret (μ := mX4_init) (pc := 53) dX4_init_53 rfl (Nat.le_of_ble_eq_true rfl) (Nat.le_of_ble_eq_true rfl) (fun H h => ⟨rfl, by rw [h79]; exact h.1, h.2⟩)
    · exact (Int32.lt_irrefl h1).elim
  · have hst := isStk_ring i hi
    have hzi : Zr v (81 + 26 * i) (81 + 26 * i + 26) := hz.sub (by omega) (by omega)
    refine J.iload_n (μ := mX4_init) (pc := 25) dX4_init_25 rfl ?_
    refine J.aload_n (μ := mX4_init) (pc := 26) dX4_init_26 rfl ?_
    refine J.getf (μ := mX4_init) (pc := 27) (T := TX4) (ci := 7) rfl rfl in_X4 0 (by decide) wf_X4_11 dX4_init_27 (fun H h => h.1.2.2.1) rfl ?_
    refine J.alenQ (μ := mX4_init) (pc := 30) dX4_init_30 (fun H h => h.2) rfl ?_
    refine J.icmp_ge (μ := mX4_init) (pc := 31) 53 dX4_init_31 (by decide) (fun h1 => ?_) (fun h1 => ?_)
    · exact absurd h1 (nI_ge (b := 8) hi (by omega))
    refine J.aload_n (μ := mX4_init) (pc := 34) dX4_init_34 rfl ?_
    refine J.getf (μ := mX4_init) (pc := 35) (T := TX4) (ci := 7) rfl rfl in_X4 0 (by decide) wf_X4_11 dX4_init_35 (fun H h => h.1.2.2.1) rfl ?_
    refine J.iload_n (μ := mX4_init) (pc := 38) dX4_init_38 rfl ?_
    refine J.nw (μ := mX4_init) (pc := 39) (T := TX9) (ci := 12) (fs0 := [.null, .null, .null, .int 0, .int 0, .int 0, .int 0]) (ty0 := tyX9) rfl rfl in_X9 tyX9_ok (fun j hj => by rcases (show j = 0 ∨ j = 1 ∨ j = 2 ∨ j = 3 ∨ j = 4 ∨ j = 5 ∨ j = 6 by omega) with rfl | rfl | rfl | rfl | rfl | rfl | rfl <;> rfl) wk_X4_9 wj_X9 wn_X9 dX4_init_39 (by show _ ≤ 209; omega) (by show _ ≤ 1736; omega) (fun H39 hH => ?_)
    rw [hH.1.1]
    refine J.of (P' := Cn γ v H39 (81 + 26 * i) 12 [.null, .null, .null, .int 0, .int 0, .int 0, .int 0] (81 + 26 * i + 1)) (fun H h => hH.1.new h.1 h.2.1 h.2.2) ?_
    refine J.dup (μ := mX4_init) (pc := 42) dX4_init_42 rfl ?_
    refine J.callN (μ := mX4_init) (pc := 43) (c_X9 hst hzi) rfl wq_X4_24 mi_X9_init rfl rfl dX4_init_43 rfl rfl ⟨(Nat.le_of_ble_eq_true rfl), (Nat.le_of_ble_eq_true rfl)⟩ ⟨(by show _ ≤ 209; omega), (by show _ ≤ 1736; omega)⟩ (Nat.le_of_ble_eq_true rfl) (fun w => J.and fun e => ?_)
    subst e
    refine J.of (P' := fun H => Cn γ v H0 79 7 (((([.null, .int 0, .int 0] : List Value).set 0 (.ref (gz γ + 80))).set 1 (.int 0)).set 2 (.int 0)) (81 + 26 * i + 26) H ∧ Rg γ i H) (fun H h => ⟨hH.1.back (by omega) h (hst 0 (by decide)) rfl (by omega), hH.2.kept (h.2.1 _ (by show gz γ + 80 < _; omega))⟩) ?_
    have hni : (nI i).toNatClampNeg = i := tc_nI (by omega)
    refine J.astQ (μ := mX4_init) (pc := 46) (vs := fvs (gz γ) (v (81 + 26 * i)) 0 [some (81 + 26 * i + 1), some (81 + 26 * i + 8), some (81 + 26 * i + 23), none, none, none, none]) (P' := (fun H => Cn γ v H0 79 7 (((([.null, .int 0, .int 0] : List Value).set 0 (.ref (gz γ + 80))).set 1 (.int 0)).set 2 (.int 0)) (81 + 26 * (i + 1)) H ∧ Rg γ (i + 1) H)) dX4_init_46 (fun H h => h.2) (fun H h => h.1.2.2.2 _ _ (by omega) (by omega) (hst 0 (by decide))) (vp_in_of2 (by omega) (by rw [t_le, t_nI (by omega), t_0]; omega) (nI_lt (b := 8) hi (by omega))) (Nat.le_add_right _ _) (fun H H' h a b c => ⟨by rw [show 81 + 26 * (i + 1) = 81 + 26 * i + 26 by omega]; exact h.1.ring b c, by
      rw [hni, rgF_up] at a
      exact a⟩) ?_
    refine J.iinc (μ := mX4_init) (pc := 47) (v := 1) dX4_init_47 rfl (by decide) (Nat.le_of_ble_eq_true rfl) rfl ?_
    refine J.goto (μ := mX4_init) (pc := 50) 25 dX4_init_50 (by decide) ?_
    refine J.widen (k' := 1 + 26 * (i + 1)) (n' := 8 + 216 * (i + 1)) (by omega) (by show _ + 7 + 209 ≤ _; omega) (J.sub ?_ ih)
    exact ⟨rfl, by rw [← nI_1], trivial⟩

def LnS (γ : Gm) (H0 H : Heap) : Prop := (∀ q : Nat, q < gz γ + 307 → H[q]? = H0[q]?) ∧ LnR γ H
theorem c_J5 {γ : Gm} {v : Vs} {H0 : Heap} : Ev γ mJ5_init_d00df yJ5_init_d00df 1 1 16 [.ref (gz γ + 307), .int 16] (Cn γ v H0 307 1 [.null, .int 0, .int 0, .int 0] 308) (fun w H => w = none ∧ LnS γ H0 H) := by
  refine Ev.ofJ (by decide) rfl (fun _ => rfl) (Nat.le_of_ble_eq_true rfl) ?_
  refine J.aload_n (μ := mJ5_init_d00df) (pc := 0) dJ5_init_d00df_0 rfl ?_
  refine J.objI (μ := mJ5_init_d00df) (pc := 1) rfl wm_J5_3 dJ5_init_d00df_1 ⟨(Nat.le_of_ble_eq_true rfl), (Nat.le_of_ble_eq_true rfl)⟩ (Nat.le_of_ble_eq_true rfl) ?_
  refine J.getZ (μ := mJ5_init_d00df) (pc := 4) (fun s hK => hK.ko.2.1) rfl wf_J5_18 dJ5_init_d00df_4 ?_
  refine J.if_eq (μ := mJ5_init_d00df) (pc := 7) 25 dJ5_init_d00df_7 (by decide) (fun h1 => absurd h1 (by decide)) (fun h1 => ?_)
  refine J.aload_n (μ := mJ5_init_d00df) (pc := 10) dJ5_init_d00df_10 rfl ?_
  refine J.iload_n (μ := mJ5_init_d00df) (pc := 11) dJ5_init_d00df_11 rfl ?_
  refine J.newB (μ := mJ5_init_d00df) (pc := 12) (len := 16) dJ5_init_d00df_12 rfl (by decide) (Nat.le_of_ble_eq_true rfl) (Nat.le_of_ble_eq_true rfl) (fun q => J.ex fun H1 => J.and fun hH => J.and fun g1 => J.and fun g2 => ?_)
  have hz := hH.1
  have g3 : gz γ + 307 < q := by omega
  have PS : ∀ H : Heap, ((∀ a : Nat, a < H1.size → H[a]? = H1[a]?) ∧ va_at γ.1 vwCl (q, .inl (γ.2.1.2.1, 16, .inl (fun _ => 0))) H) → ((∀ a : Nat, a < gz γ + 307 → H[a]? = H0[a]?) ∧ va_at γ.1 vwCl (gz γ + 307, .inr (1, ([.null, .int 0, .int 0, .int 0] : List Value))) H ∧ va_at γ.1 vwCl (q, .inl (γ.2.1.2.1, 16, .inl (fun _ => 0))) H) := fun H h =>
    ⟨fun a ha => (h.1 a (by omega)).trans (hH.2.1 a ha), hH.2.2.1.kept (h.1 _ (by show gz γ + 307 < _; omega)), h.2⟩
  refine J.of PS ?_
  refine J.putf (μ := mJ5_init_d00df) (pc := 14) (T := TJ4) (ci := 1) (ty0 := tyJ4) (P' := fun H => (∀ a : Nat, a < gz γ + 307 → H[a]? = H0[a]?) ∧ va_at γ.1 vwCl (gz γ + 307, .inr (1, ([.null, .int 0, .int 0, .int 0] : List Value).set 0 (.ref q))) H ∧ va_at γ.1 vwCl (q, .inl (γ.2.1.2.1, 16, .inl (fun _ => 0))) H) rfl rfl in_J4 tyJ4_ok nmJ4 0 (by decide) wf_J5_15 dJ5_init_d00df_14 rfl rfl rfl (Nat.le_add_right _ _) (fun H h => h.2.1) (by simp) (fun H H' h a b c => ⟨fun (x : Nat) (hx : x < gz γ + 307) => (c x (Nat.ne_of_lt hx)).trans (h.1 x hx), a, h.2.2.kept (c _ (Nat.ne_of_gt g3))⟩) ?_
  refine J.aload_n (μ := mJ5_init_d00df) (pc := 17) dJ5_init_d00df_17 rfl ?_
  refine J.iconst (μ := mJ5_init_d00df) (pc := 18) (v := 0) dJ5_init_d00df_18 (by decide) ?_
  refine J.putf (μ := mJ5_init_d00df) (pc := 19) (T := TJ4) (ci := 1) (ty0 := tyJ4) (P' := fun H => (∀ a : Nat, a < gz γ + 307 → H[a]? = H0[a]?) ∧ va_at γ.1 vwCl (gz γ + 307, .inr (1, (([.null, .int 0, .int 0, .int 0] : List Value).set 0 (.ref q)).set 1 (.int 0))) H ∧ va_at γ.1 vwCl (q, .inl (γ.2.1.2.1, 16, .inl (fun _ => 0))) H) rfl rfl in_J4 tyJ4_ok nmJ4 1 (by decide) wf_J5_22 dJ5_init_d00df_19 rfl rfl rfl (Nat.le_add_right _ _) (fun H h => h.2.1) (by simp) (fun H H' h a b c => ⟨fun (x : Nat) (hx : x < gz γ + 307) => (c x (Nat.ne_of_lt hx)).trans (h.1 x hx), a, h.2.2.kept (c _ (Nat.ne_of_gt g3))⟩) ?_
  refine J.goto (μ := mJ5_init_d00df) (pc := 22) 38 dJ5_init_d00df_22 (by decide) ?_
  exact J.vret (μ := mJ5_init_d00df) (pc := 38) dJ5_init_d00df_38 rfl (Nat.le_of_ble_eq_true rfl) (Nat.le_of_ble_eq_true rfl) (fun H h => ⟨rfl, h.1, q, 16, 0, 0, fun _ => 0, h.2.1, h.2.2, by omega, .inl rfl, by decide, fun _ => rfl⟩)
theorem c_J4 {γ : Gm} {v : Vs} {H0 : Heap} : Ev γ mJ4_init_da8c8 yJ4_init_da8c8 2 1 16 [.ref (gz γ + 307)] (Cn γ v H0 307 1 [.null, .int 0, .int 0, .int 0] 308) (fun w H => w = none ∧ LnS γ H0 H) := by
  refine Ev.ofJ (by decide) rfl (fun _ => rfl) (Nat.le_of_ble_eq_true rfl) ?_
  refine J.aload_n (μ := mJ4_init_da8c8) (pc := 0) dJ4_init_da8c8_0 rfl ?_
  refine J.bipush (μ := mJ4_init_da8c8) (pc := 1) (v := 16) dJ4_init_da8c8_1 (by decide) ?_
  refine J.callC (μ := mJ4_init_da8c8) (pc := 3) (c_J5 (v := v) (H0 := H0)) rfl wm_J4_1 mi_J5_init_d00df rfl rfl dJ4_init_da8c8_3 rfl rfl ⟨(Nat.le_of_ble_eq_true rfl), (Nat.le_of_ble_eq_true rfl)⟩ ⟨(Nat.le_of_ble_eq_true rfl), (Nat.le_of_ble_eq_true rfl)⟩ (Nat.le_of_ble_eq_true rfl) (fun w => J.and fun e => ?_)
  subst e
  exact J.vret (μ := mJ4_init_da8c8) (pc := 6) dJ4_init_da8c8_6 rfl (Nat.le_of_ble_eq_true rfl) (Nat.le_of_ble_eq_true rfl) (fun H h => ⟨rfl, h⟩)

/-- the numbers of a fresh depot -/
def v00 : Vs := fun k j => if (k = 0 ∧ (j = 10 ∨ j = 12)) ∨ (k = 302 ∧ (j = 3 ∨ j = 4)) then -1 else 0
theorem v00_z : Zr v00 1 302 := fun k h1 h2 => by
  funext j
  unfold v00
  rw [if_neg (by omega)]
theorem v00_y : Zr v00 303 400 := fun k h1 h2 => by
  funext j
  unfold v00
  rw [if_neg (by omega)]
theorem v00_302 : v00 302 = fun j => if j = 3 ∨ j = 4 then -1 else 0 := by
  funext j
  unfold v00
  by_cases q : j = 3 ∨ j = 4
  · rw [if_pos (.inr ⟨rfl, q⟩), if_pos q]
  · rw [if_neg (by omega), if_neg q]
/-- the depot with its line, its own fields apart -/
def Cq (γ : Gm) (fs : List Value) (H : Heap) : Prop := va_at γ.1 vwCl (gz γ + 0, .inr (14, fs)) H ∧ (∀ (k : Nat) (x : Sh), 0 < k → shape k = some x → va_at γ.1 vwCl (gz γ + k, shE γ v00 k x) H) ∧ Rg γ 8 H ∧ LnR γ H
theorem Cq.put {γ : Gm} {fs : List Value} {H H1 : Heap} {j : Nat} {x : Value} (h : Cq γ fs H) (hat : va_at γ.1 vwCl (gz γ + 0, .inr (14, fs.set j x)) H1) (hq : ∀ q : Nat, q ≠ gz γ + 0 → H1[q]? = H[q]?) : Cq γ (fs.set j x) H1 :=
  ⟨hat, fun k y h1 h2 => (h.2.1 k y h1 h2).kept (hq _ (by show gz γ + k ≠ _; omega)), h.2.2.1.kept (hq _ (by show gz γ + 80 ≠ _; omega)), h.2.2.2.keep (fun q h1 _ => hq q (by omega))⟩
theorem Cq.rp {γ : Gm} {H : Heap} (h : Cq γ (fvs (gz γ) (v00 0) 0 [some 1, some 27, some 53, some 79, some 289, some 290, some 293, some 302, some 307, none, none, none, none]) H) : Rp γ v00 H := by
  refine ⟨fun k x hx => ?_, h.2.2.1.full, h.2.2.2⟩
  rcases Nat.eq_zero_or_pos k with q | q
  · subst q
    cases (show shape 0 = some _ from rfl).symm.trans hx
    exact h.1
  · exact h.2.1 k x q hx
set_option maxHeartbeats 1000000 in
theorem c_X11 {γ : Gm} {H0 : Heap} : Ev γ mX11_init yX11_init 5 308 3200 [.ref (gz γ + 0)] (Cn γ v00 H0 0 14 [.null, .null, .null, .null, .null, .null, .null, .null, .null, .int 0, .int 0, .int 0, .int 0] 1) (fun w H => w = none ∧ Rp γ v00 H) := by
  refine Ev.ofJ (by decide) rfl (fun _ => rfl) (Nat.le_of_ble_eq_true rfl) ?_
  refine J.aload_n (μ := mX11_init) (pc := 0) dX11_init_0 rfl ?_
  refine J.objI (μ := mX11_init) (pc := 1) rfl wm_X11_1 dX11_init_1 ⟨(Nat.le_of_ble_eq_true rfl), (Nat.le_of_ble_eq_true rfl)⟩ (Nat.le_of_ble_eq_true rfl) ?_
  refine J.aload_n (μ := mX11_init) (pc := 4) dX11_init_4 rfl ?_
  refine J.nw (μ := mX11_init) (pc := 5) (T := TX9) (ci := 12) (fs0 := [.null, .null, .null, .int 0, .int 0, .int 0, .int 0]) (ty0 := tyX9) rfl rfl in_X9 tyX9_ok (fun j hj => by rcases (show j = 0 ∨ j = 1 ∨ j = 2 ∨ j = 3 ∨ j = 4 ∨ j = 5 ∨ j = 6 by omega) with rfl | rfl | rfl | rfl | rfl | rfl | rfl <;> rfl) wk_X11_7 wj_X9 wn_X9 dX11_init_5 (Nat.le_of_ble_eq_true rfl) (Nat.le_of_ble_eq_true rfl) (fun H5 hH5 => ?_)
  rw [hH5.1]
  refine J.of (P' := Cn γ v00 H5 1 12 [.null, .null, .null, .int 0, .int 0, .int 0, .int 0] 2) (fun H h => hH5.new h.1 h.2.1 h.2.2) ?_
  refine J.dup (μ := mX11_init) (pc := 8) dX11_init_8 rfl ?_
  refine J.callN (μ := mX11_init) (pc := 9) (c_X9 (o := 1) (isStk_main 0 (by decide)) (v00_z.sub (by decide) (by decide))) rfl wq_X11_9 mi_X9_init rfl rfl dX11_init_9 rfl rfl ⟨(Nat.le_of_ble_eq_true rfl), (Nat.le_of_ble_eq_true rfl)⟩ ⟨(Nat.le_of_ble_eq_true rfl), (Nat.le_of_ble_eq_true rfl)⟩ (Nat.le_of_ble_eq_true rfl) (fun w => J.and fun e => ?_)
  subst e
  refine J.of (P' := Cn γ v00 H0 0 14 [.null, .null, .null, .null, .null, .null, .null, .null, .null, .int 0, .int 0, .int 0, .int 0] 27) (fun H h => hH5.back (by decide) h (isStk_main 0 (by decide) 0 (by decide)) rfl (by decide)) ?_
  refine J.putF (μ := mX11_init) (pc := 12) (T := TX11) (ci := 14) (ty0 := tyX11) (P' := Cn γ v00 H0 0 14 (([.null, .null, .null, .null, .null, .null, .null, .null, .null, .int 0, .int 0, .int 0, .int 0] : List Value).set 0 (.ref (gz γ + 1))) 27) rfl rfl rfl in_X11 tyX11_ok nmX11 0 (by decide) wf_X11_10 dX11_init_12 rfl rfl rfl rfl (Nat.le_add_right _ _) (fun H h => h.2.2.1) (by simp) (fun H H' h a b c => h.put a b c) ?_
  refine J.aload_n (μ := mX11_init) (pc := 15) dX11_init_15 rfl ?_
  refine J.nw (μ := mX11_init) (pc := 16) (T := TX9) (ci := 12) (fs0 := [.null, .null, .null, .int 0, .int 0, .int 0, .int 0]) (ty0 := tyX9) rfl rfl in_X9 tyX9_ok (fun j hj => by rcases (show j = 0 ∨ j = 1 ∨ j = 2 ∨ j = 3 ∨ j = 4 ∨ j = 5 ∨ j = 6 by omega) with rfl | rfl | rfl | rfl | rfl | rfl | rfl <;> rfl) wk_X11_7 wj_X9 wn_X9 dX11_init_16 (Nat.le_of_ble_eq_true rfl) (Nat.le_of_ble_eq_true rfl) (fun H16 hH16 => ?_)
  rw [hH16.1]
  refine J.of (P' := Cn γ v00 H16 27 12 [.null, .null, .null, .int 0, .int 0, .int 0, .int 0] 28) (fun H h => hH16.new h.1 h.2.1 h.2.2) ?_
  refine J.dup (μ := mX11_init) (pc := 19) dX11_init_19 rfl ?_
  refine J.callN (μ := mX11_init) (pc := 20) (c_X9 (o := 27) (isStk_main 1 (by decide)) (v00_z.sub (by decide) (by decide))) rfl wq_X11_9 mi_X9_init rfl rfl dX11_init_20 rfl rfl ⟨(Nat.le_of_ble_eq_true rfl), (Nat.le_of_ble_eq_true rfl)⟩ ⟨(Nat.le_of_ble_eq_true rfl), (Nat.le_of_ble_eq_true rfl)⟩ (Nat.le_of_ble_eq_true rfl) (fun w => J.and fun e => ?_)
  subst e
  refine J.of (P' := Cn γ v00 H0 0 14 (([.null, .null, .null, .null, .null, .null, .null, .null, .null, .int 0, .int 0, .int 0, .int 0] : List Value).set 0 (.ref (gz γ + 1))) 53) (fun H h => hH16.back (by decide) h (isStk_main 1 (by decide) 0 (by decide)) rfl (by decide)) ?_
  refine J.putF (μ := mX11_init) (pc := 23) (T := TX11) (ci := 14) (ty0 := tyX11) (P' := Cn γ v00 H0 0 14 ((([.null, .null, .null, .null, .null, .null, .null, .null, .null, .int 0, .int 0, .int 0, .int 0] : List Value).set 0 (.ref (gz γ + 1))).set 1 (.ref (gz γ + 27))) 53) rfl rfl rfl in_X11 tyX11_ok nmX11 1 (by decide) wf_X11_16 dX11_init_23 rfl rfl rfl rfl (Nat.le_add_right _ _) (fun H h => h.2.2.1) (by simp) (fun H H' h a b c => h.put a b c) ?_
  refine J.aload_n (μ := mX11_init) (pc := 26) dX11_init_26 rfl ?_
  refine J.nw (μ := mX11_init) (pc := 27) (T := TX9) (ci := 12) (fs0 := [.null, .null, .null, .int 0, .int 0, .int 0, .int 0]) (ty0 := tyX9) rfl rfl in_X9 tyX9_ok (fun j hj => by rcases (show j = 0 ∨ j = 1 ∨ j = 2 ∨ j = 3 ∨ j = 4 ∨ j = 5 ∨ j = 6 by omega) with rfl | rfl | rfl | rfl | rfl | rfl | rfl <;> rfl) wk_X11_7 wj_X9 wn_X9 dX11_init_27 (Nat.le_of_ble_eq_true rfl) (Nat.le_of_ble_eq_true rfl) (fun H27 hH27 => ?_)
  rw [hH27.1]
  refine J.of (P' := Cn γ v00 H27 53 12 [.null, .null, .null, .int 0, .int 0, .int 0, .int 0] 54) (fun H h => hH27.new h.1 h.2.1 h.2.2) ?_
  refine J.dup (μ := mX11_init) (pc := 30) dX11_init_30 rfl ?_
  refine J.callN (μ := mX11_init) (pc := 31) (c_X9 (o := 53) (isStk_main 2 (by decide)) (v00_z.sub (by decide) (by decide))) rfl wq_X11_9 mi_X9_init rfl rfl dX11_init_31 rfl rfl ⟨(Nat.le_of_ble_eq_true rfl), (Nat.le_of_ble_eq_true rfl)⟩ ⟨(Nat.le_of_ble_eq_true rfl), (Nat.le_of_ble_eq_true rfl)⟩ (Nat.le_of_ble_eq_true rfl) (fun w => J.and fun e => ?_)
  subst e
  refine J.of (P' := Cn γ v00 H0 0 14 ((([.null, .null, .null, .null, .null, .null, .null, .null, .null, .int 0, .int 0, .int 0, .int 0] : List Value).set 0 (.ref (gz γ + 1))).set 1 (.ref (gz γ + 27))) 79) (fun H h => hH27.back (by decide) h (isStk_main 2 (by decide) 0 (by decide)) rfl (by decide)) ?_
  refine J.putF (μ := mX11_init) (pc := 34) (T := TX11) (ci := 14) (ty0 := tyX11) (P' := Cn γ v00 H0 0 14 (((([.null, .null, .null, .null, .null, .null, .null, .null, .null, .int 0, .int 0, .int 0, .int 0] : List Value).set 0 (.ref (gz γ + 1))).set 1 (.ref (gz γ + 27))).set 2 (.ref (gz γ + 53))) 79) rfl rfl rfl in_X11 tyX11_ok nmX11 2 (by decide) wf_X11_19 dX11_init_34 rfl rfl rfl rfl (Nat.le_add_right _ _) (fun H h => h.2.2.1) (by simp) (fun H H' h a b c => h.put a b c) ?_
  refine J.aload_n (μ := mX11_init) (pc := 37) dX11_init_37 rfl ?_
  refine J.nw (μ := mX11_init) (pc := 38) (T := TX4) (ci := 7) (fs0 := [.null, .int 0, .int 0]) (ty0 := tyX4) rfl rfl in_X4 tyX4_ok (fun j hj => by rcases (show j = 0 ∨ j = 1 ∨ j = 2 by omega) with rfl | rfl | rfl <;> rfl) wk_X11_22 wj_X4 wn_X4 dX11_init_38 (Nat.le_of_ble_eq_true rfl) (Nat.le_of_ble_eq_true rfl) (fun H38 hH38 => ?_)
  rw [hH38.1]
  refine J.of (P' := Cn γ v00 H38 79 7 [.null, .int 0, .int 0] 80) (fun H h => hH38.new h.1 h.2.1 h.2.2) ?_
  refine J.dup (μ := mX11_init) (pc := 41) dX11_init_41 rfl ?_
  refine J.callC (μ := mX11_init) (pc := 42) (c_X4 (v00_z.sub (by decide) (by decide)) (v00_z 79 (by decide) (by decide))) rfl wm_X11_24 mi_X4_init rfl rfl dX11_init_42 rfl rfl ⟨(Nat.le_of_ble_eq_true rfl), (Nat.le_of_ble_eq_true rfl)⟩ ⟨(Nat.le_of_ble_eq_true rfl), (Nat.le_of_ble_eq_true rfl)⟩ (Nat.le_of_ble_eq_true rfl) (fun w => J.and fun e => ?_)
  subst e
  refine J.of (P' := fun H => Cn γ v00 H0 0 14 (((([.null, .null, .null, .null, .null, .null, .null, .null, .null, .int 0, .int 0, .int 0, .int 0] : List Value).set 0 (.ref (gz γ + 1))).set 1 (.ref (gz γ + 27))).set 2 (.ref (gz γ + 53))) 289 H ∧ Rg γ 8 H) (fun H h => ⟨hH38.back (by decide) h.1 rfl rfl (by decide), h.2⟩) ?_
  refine J.putF (μ := mX11_init) (pc := 45) (T := TX11) (ci := 14) (ty0 := tyX11) (P' := fun H => Cn γ v00 H0 0 14 ((((([.null, .null, .null, .null, .null, .null, .null, .null, .null, .int 0, .int 0, .int 0, .int 0] : List Value).set 0 (.ref (gz γ + 1))).set 1 (.ref (gz γ + 27))).set 2 (.ref (gz γ + 53))).set 3 (.ref (gz γ + 79))) 289 H ∧ Rg γ 8 H) rfl rfl rfl in_X11 tyX11_ok nmX11 3 (by decide) wf_X11_25 dX11_init_45 rfl rfl rfl rfl (Nat.le_add_right _ _) (fun H h => h.1.2.2.1) (by simp) (fun H H' h a b c => ⟨h.1.put a b c, h.2.kept (c _ (by show gz γ + 80 ≠ _; omega))⟩) ?_
  refine J.aload_n (μ := mX11_init) (pc := 48) dX11_init_48 rfl ?_
  refine J.nw (μ := mX11_init) (pc := 49) (T := TX3) (ci := 6) (fs0 := [.int 0]) (ty0 := tyX3) rfl rfl in_X3 tyX3_ok (fun j hj => by rcases (show j = 0 by omega) with rfl; rfl) wk_X11_29 wj_X3 wn_X3 dX11_init_49 (Nat.le_of_ble_eq_true rfl) (Nat.le_of_ble_eq_true rfl) (fun H49 hH49 => ?_)
  rw [hH49.1.1]
  refine J.of (P' := Cn γ v00 H49 289 6 [.int 0] 290) (fun H h => hH49.1.new h.1 h.2.1 h.2.2) ?_
  refine J.dup (μ := mX11_init) (pc := 52) dX11_init_52 rfl ?_
  refine J.callN (μ := mX11_init) (pc := 53) (c_X3 (v00_z 289 (by decide) (by decide))) rfl wq_X11_31 mi_X3_init rfl rfl dX11_init_53 rfl rfl ⟨(Nat.le_of_ble_eq_true rfl), (Nat.le_of_ble_eq_true rfl)⟩ ⟨(Nat.le_of_ble_eq_true rfl), (Nat.le_of_ble_eq_true rfl)⟩ (Nat.le_of_ble_eq_true rfl) (fun w => J.and fun e => ?_)
  subst e
  refine J.of (P' := fun H => Cn γ v00 H0 0 14 ((((([.null, .null, .null, .null, .null, .null, .null, .null, .null, .int 0, .int 0, .int 0, .int 0] : List Value).set 0 (.ref (gz γ + 1))).set 1 (.ref (gz γ + 27))).set 2 (.ref (gz γ + 53))).set 3 (.ref (gz γ + 79))) 290 H ∧ Rg γ 8 H) (fun H h => ⟨hH49.1.back (by decide) h rfl rfl (by decide), hH49.2.kept (h.2.1 _ (by show gz γ + 80 < _; omega))⟩) ?_
  refine J.putF (μ := mX11_init) (pc := 56) (T := TX11) (ci := 14) (ty0 := tyX11) (P' := fun H => Cn γ v00 H0 0 14 (((((([.null, .null, .null, .null, .null, .null, .null, .null, .null, .int 0, .int 0, .int 0, .int 0] : List Value).set 0 (.ref (gz γ + 1))).set 1 (.ref (gz γ + 27))).set 2 (.ref (gz γ + 53))).set 3 (.ref (gz γ + 79))).set 4 (.ref (gz γ + 289))) 290 H ∧ Rg γ 8 H) rfl rfl rfl in_X11 tyX11_ok nmX11 4 (by decide) wf_X11_32 dX11_init_56 rfl rfl rfl rfl (Nat.le_add_right _ _) (fun H h => h.1.2.2.1) (by simp) (fun H H' h a b c => ⟨h.1.put a b c, h.2.kept (c _ (by show gz γ + 80 ≠ _; omega))⟩) ?_
  refine J.aload_n (μ := mX11_init) (pc := 59) dX11_init_59 rfl ?_
  refine J.nw (μ := mX11_init) (pc := 60) (T := TX2) (ci := 5) (fs0 := [.null]) (ty0 := tyX2) rfl rfl in_X2 tyX2_ok (fun j hj => by rcases (show j = 0 by omega) with rfl; rfl) wk_X11_36 wj_X2 wn_X2 dX11_init_60 (Nat.le_of_ble_eq_true rfl) (Nat.le_of_ble_eq_true rfl) (fun H60 hH60 => ?_)
  rw [hH60.1.1]
  refine J.of (P' := Cn γ v00 H60 290 5 [.null] 291) (fun H h => hH60.1.new h.1 h.2.1 h.2.2) ?_
  refine J.dup (μ := mX11_init) (pc := 63) dX11_init_63 rfl ?_
  refine J.callN (μ := mX11_init) (pc := 64) (c_X2 (v00_z.sub (by decide) (by decide))) rfl wq_X11_38 mi_X2_init rfl rfl dX11_init_64 rfl rfl ⟨(Nat.le_of_ble_eq_true rfl), (Nat.le_of_ble_eq_true rfl)⟩ ⟨(Nat.le_of_ble_eq_true rfl), (Nat.le_of_ble_eq_true rfl)⟩ (Nat.le_of_ble_eq_true rfl) (fun w => J.and fun e => ?_)
  subst e
  refine J.of (P' := fun H => Cn γ v00 H0 0 14 (((((([.null, .null, .null, .null, .null, .null, .null, .null, .null, .int 0, .int 0, .int 0, .int 0] : List Value).set 0 (.ref (gz γ + 1))).set 1 (.ref (gz γ + 27))).set 2 (.ref (gz γ + 53))).set 3 (.ref (gz γ + 79))).set 4 (.ref (gz γ + 289))) 293 H ∧ Rg γ 8 H) (fun H h => ⟨hH60.1.back (by decide) h rfl rfl (by decide), hH60.2.kept (h.2.1 _ (by show gz γ + 80 < _; omega))⟩) ?_
  refine J.putF (μ := mX11_init) (pc := 67) (T := TX11) (ci := 14) (ty0 := tyX11) (P' := fun H => Cn γ v00 H0 0 14 ((((((([.null, .null, .null, .null, .null, .null, .null, .null, .null, .int 0, .int 0, .int 0, .int 0] : List Value).set 0 (.ref (gz γ + 1))).set 1 (.ref (gz γ + 27))).set 2 (.ref (gz γ + 53))).set 3 (.ref (gz γ + 79))).set 4 (.ref (gz γ + 289))).set 5 (.ref (gz γ + 290))) 293 H ∧ Rg γ 8 H) rfl rfl rfl in_X11 tyX11_ok nmX11 5 (by decide) wf_X11_39 dX11_init_67 rfl rfl rfl rfl (Nat.le_add_right _ _) (fun H h => h.1.2.2.1) (by simp) (fun H H' h a b c => ⟨h.1.put a b c, h.2.kept (c _ (by show gz γ + 80 ≠ _; omega))⟩) ?_
  refine J.aload_n (μ := mX11_init) (pc := 70) dX11_init_70 rfl ?_
  refine J.nw (μ := mX11_init) (pc := 71) (T := TX6) (ci := 9) (fs0 := [.null, .null, .null, .null, .int 0, .int 0]) (ty0 := tyX6) rfl rfl in_X6 tyX6_ok (fun j hj => by rcases (show j = 0 ∨ j = 1 ∨ j = 2 ∨ j = 3 ∨ j = 4 ∨ j = 5 by omega) with rfl | rfl | rfl | rfl | rfl | rfl <;> rfl) wk_X11_43 wj_X6 wn_X6 dX11_init_71 (Nat.le_of_ble_eq_true rfl) (Nat.le_of_ble_eq_true rfl) (fun H71 hH71 => ?_)
  rw [hH71.1.1]
  refine J.of (P' := Cn γ v00 H71 293 9 [.null, .null, .null, .null, .int 0, .int 0] 294) (fun H h => hH71.1.new h.1 h.2.1 h.2.2) ?_
  refine J.dup (μ := mX11_init) (pc := 74) dX11_init_74 rfl ?_
  refine J.callN (μ := mX11_init) (pc := 75) (c_X6 (v00_z.sub (by decide) (by decide))) rfl wq_X11_45 mi_X6_init rfl rfl dX11_init_75 rfl rfl ⟨(Nat.le_of_ble_eq_true rfl), (Nat.le_of_ble_eq_true rfl)⟩ ⟨(Nat.le_of_ble_eq_true rfl), (Nat.le_of_ble_eq_true rfl)⟩ (Nat.le_of_ble_eq_true rfl) (fun w => J.and fun e => ?_)
  subst e
  refine J.of (P' := fun H => Cn γ v00 H0 0 14 ((((((([.null, .null, .null, .null, .null, .null, .null, .null, .null, .int 0, .int 0, .int 0, .int 0] : List Value).set 0 (.ref (gz γ + 1))).set 1 (.ref (gz γ + 27))).set 2 (.ref (gz γ + 53))).set 3 (.ref (gz γ + 79))).set 4 (.ref (gz γ + 289))).set 5 (.ref (gz γ + 290))) 302 H ∧ Rg γ 8 H) (fun H h => ⟨hH71.1.back (by decide) h rfl rfl (by decide), hH71.2.kept (h.2.1 _ (by show gz γ + 80 < _; omega))⟩) ?_
  refine J.putF (μ := mX11_init) (pc := 78) (T := TX11) (ci := 14) (ty0 := tyX11) (P' := fun H => Cn γ v00 H0 0 14 (((((((([.null, .null, .null, .null, .null, .null, .null, .null, .null, .int 0, .int 0, .int 0, .int 0] : List Value).set 0 (.ref (gz γ + 1))).set 1 (.ref (gz γ + 27))).set 2 (.ref (gz γ + 53))).set 3 (.ref (gz γ + 79))).set 4 (.ref (gz γ + 289))).set 5 (.ref (gz γ + 290))).set 6 (.ref (gz γ + 293))) 302 H ∧ Rg γ 8 H) rfl rfl rfl in_X11 tyX11_ok nmX11 6 (by decide) wf_X11_46 dX11_init_78 rfl rfl rfl rfl (Nat.le_add_right _ _) (fun H h => h.1.2.2.1) (by simp) (fun H H' h a b c => ⟨h.1.put a b c, h.2.kept (c _ (by show gz γ + 80 ≠ _; omega))⟩) ?_
  refine J.aload_n (μ := mX11_init) (pc := 81) dX11_init_81 rfl ?_
  refine J.nw (μ := mX11_init) (pc := 82) (T := TX10) (ci := 13) (fs0 := [.null, .null, .int 0, .int 0, .int 0, .int 0]) (ty0 := tyX10) rfl rfl in_X10 tyX10_ok (fun j hj => by rcases (show j = 0 ∨ j = 1 ∨ j = 2 ∨ j = 3 ∨ j = 4 ∨ j = 5 by omega) with rfl | rfl | rfl | rfl | rfl | rfl <;> rfl) wk_X11_50 wj_X10 wn_X10 dX11_init_82 (Nat.le_of_ble_eq_true rfl) (Nat.le_of_ble_eq_true rfl) (fun H82 hH82 => ?_)
  rw [hH82.1.1]
  refine J.of (P' := Cn γ v00 H82 302 13 [.null, .null, .int 0, .int 0, .int 0, .int 0] 303) (fun H h => hH82.1.new h.1 h.2.1 h.2.2) ?_
  refine J.dup (μ := mX11_init) (pc := 85) dX11_init_85 rfl ?_
  refine J.callN (μ := mX11_init) (pc := 86) (c_X10 (v00_y.sub (by decide) (by decide)) v00_302) rfl wq_X11_52 mi_X10_init rfl rfl dX11_init_86 rfl rfl ⟨(Nat.le_of_ble_eq_true rfl), (Nat.le_of_ble_eq_true rfl)⟩ ⟨(Nat.le_of_ble_eq_true rfl), (Nat.le_of_ble_eq_true rfl)⟩ (Nat.le_of_ble_eq_true rfl) (fun w => J.and fun e => ?_)
  subst e
  refine J.of (P' := fun H => Cn γ v00 H0 0 14 (((((((([.null, .null, .null, .null, .null, .null, .null, .null, .null, .int 0, .int 0, .int 0, .int 0] : List Value).set 0 (.ref (gz γ + 1))).set 1 (.ref (gz γ + 27))).set 2 (.ref (gz γ + 53))).set 3 (.ref (gz γ + 79))).set 4 (.ref (gz γ + 289))).set 5 (.ref (gz γ + 290))).set 6 (.ref (gz γ + 293))) 307 H ∧ Rg γ 8 H) (fun H h => ⟨hH82.1.back (by decide) h rfl rfl (by decide), hH82.2.kept (h.2.1 _ (by show gz γ + 80 < _; omega))⟩) ?_
  refine J.putF (μ := mX11_init) (pc := 89) (T := TX11) (ci := 14) (ty0 := tyX11) (P' := fun H => Cn γ v00 H0 0 14 ((((((((([.null, .null, .null, .null, .null, .null, .null, .null, .null, .int 0, .int 0, .int 0, .int 0] : List Value).set 0 (.ref (gz γ + 1))).set 1 (.ref (gz γ + 27))).set 2 (.ref (gz γ + 53))).set 3 (.ref (gz γ + 79))).set 4 (.ref (gz γ + 289))).set 5 (.ref (gz γ + 290))).set 6 (.ref (gz γ + 293))).set 7 (.ref (gz γ + 302))) 307 H ∧ Rg γ 8 H) rfl rfl rfl in_X11 tyX11_ok nmX11 7 (by decide) wf_X11_53 dX11_init_89 rfl rfl rfl rfl (Nat.le_add_right _ _) (fun H h => h.1.2.2.1) (by simp) (fun H H' h a b c => ⟨h.1.put a b c, h.2.kept (c _ (by show gz γ + 80 ≠ _; omega))⟩) ?_
  refine J.aload_n (μ := mX11_init) (pc := 92) dX11_init_92 rfl ?_
  refine J.nw (μ := mX11_init) (pc := 93) (T := TJ4) (ci := 1) (fs0 := [.null, .int 0, .int 0, .int 0]) (ty0 := tyJ4) rfl rfl in_J4 tyJ4_ok (fun j hj => by rcases (show j = 0 ∨ j = 1 ∨ j = 2 ∨ j = 3 by omega) with rfl | rfl | rfl | rfl <;> rfl) wk_X11_57 wj_J4 wn_J4 dX11_init_93 (Nat.le_of_ble_eq_true rfl) (Nat.le_of_ble_eq_true rfl) (fun H93 hH93 => ?_)
  rw [hH93.1.1]
  refine J.of (P' := Cn γ v00 H93 307 1 [.null, .int 0, .int 0, .int 0] 308) (fun H h => hH93.1.new h.1 h.2.1 h.2.2) ?_
  refine J.dup (μ := mX11_init) (pc := 96) dX11_init_96 rfl ?_
  refine J.callC (μ := mX11_init) (pc := 97) (c_J4 (v := v00)) rfl wm_X11_59 mi_J4_init_da8c8 rfl rfl dX11_init_97 rfl rfl ⟨(Nat.le_of_ble_eq_true rfl), (Nat.le_of_ble_eq_true rfl)⟩ ⟨(Nat.le_of_ble_eq_true rfl), (Nat.le_of_ble_eq_true rfl)⟩ (Nat.le_of_ble_eq_true rfl) (fun w => J.and fun e => ?_)
  subst e
  refine J.of (P' := Cq γ ((((((((([.null, .null, .null, .null, .null, .null, .null, .null, .null, .int 0, .int 0, .int 0, .int 0] : List Value).set 0 (.ref (gz γ + 1))).set 1 (.ref (gz γ + 27))).set 2 (.ref (gz γ + 53))).set 3 (.ref (gz γ + 79))).set 4 (.ref (gz γ + 289))).set 5 (.ref (gz γ + 290))).set 6 (.ref (gz γ + 293))).set 7 (.ref (gz γ + 302)))) (fun H h => ⟨hH93.1.2.2.1.kept (h.1 _ (by show gz γ + 0 < _; omega)), fun k x a b => (hH93.1.2.2.2 k x a (shape_lt b).1 b).kept (h.1 _ (by have := (shape_lt b).1; show gz γ + k < _; omega)), hH93.2.kept (h.1 _ (by show gz γ + 80 < _; omega)), h.2⟩) ?_
  refine J.putF (μ := mX11_init) (pc := 100) (T := TX11) (ci := 14) (ty0 := tyX11) (P' := Cq γ (((((((((([.null, .null, .null, .null, .null, .null, .null, .null, .null, .int 0, .int 0, .int 0, .int 0] : List Value).set 0 (.ref (gz γ + 1))).set 1 (.ref (gz γ + 27))).set 2 (.ref (gz γ + 53))).set 3 (.ref (gz γ + 79))).set 4 (.ref (gz γ + 289))).set 5 (.ref (gz γ + 290))).set 6 (.ref (gz γ + 293))).set 7 (.ref (gz γ + 302))).set 8 (.ref (gz γ + 307)))) rfl rfl rfl in_X11 tyX11_ok nmX11 8 (by decide) wf_X11_60 dX11_init_100 rfl rfl rfl rfl (Nat.le_add_right _ _) (fun H h => h.1) (by simp) (fun H H' h a b c => h.put a c) ?_
  refine J.aload_n (μ := mX11_init) (pc := 103) dX11_init_103 rfl ?_
  refine J.iconst (μ := mX11_init) (pc := 104) (v := 0) dX11_init_104 (by decide) ?_
  refine J.putf (μ := mX11_init) (pc := 105) (T := TX11) (ci := 14) (ty0 := tyX11) (P' := Cq γ ((((((((((([.null, .null, .null, .null, .null, .null, .null, .null, .null, .int 0, .int 0, .int 0, .int 0] : List Value).set 0 (.ref (gz γ + 1))).set 1 (.ref (gz γ + 27))).set 2 (.ref (gz γ + 53))).set 3 (.ref (gz γ + 79))).set 4 (.ref (gz γ + 289))).set 5 (.ref (gz γ + 290))).set 6 (.ref (gz γ + 293))).set 7 (.ref (gz γ + 302))).set 8 (.ref (gz γ + 307))).set 9 (.int (0)))) rfl rfl in_X11 tyX11_ok nmX11 9 (by decide) wf_X11_64 dX11_init_105 rfl rfl rfl (Nat.le_add_right _ _) (fun H h => h.1) (by simp) (fun H H' h a b c => h.put a c) ?_
  refine J.aload_n (μ := mX11_init) (pc := 108) dX11_init_108 rfl ?_
  refine J.iconst (μ := mX11_init) (pc := 109) (v := -1) dX11_init_109 (by decide) ?_
  refine J.putf (μ := mX11_init) (pc := 110) (T := TX11) (ci := 14) (ty0 := tyX11) (P' := Cq γ (((((((((((([.null, .null, .null, .null, .null, .null, .null, .null, .null, .int 0, .int 0, .int 0, .int 0] : List Value).set 0 (.ref (gz γ + 1))).set 1 (.ref (gz γ + 27))).set 2 (.ref (gz γ + 53))).set 3 (.ref (gz γ + 79))).set 4 (.ref (gz γ + 289))).set 5 (.ref (gz γ + 290))).set 6 (.ref (gz γ + 293))).set 7 (.ref (gz γ + 302))).set 8 (.ref (gz γ + 307))).set 9 (.int (0))).set 10 (.int (-1)))) rfl rfl in_X11 tyX11_ok nmX11 10 (by decide) wf_X11_68 dX11_init_110 rfl rfl rfl (Nat.le_add_right _ _) (fun H h => h.1) (by simp) (fun H H' h a b c => h.put a c) ?_
  refine J.aload_n (μ := mX11_init) (pc := 113) dX11_init_113 rfl ?_
  refine J.iconst (μ := mX11_init) (pc := 114) (v := 0) dX11_init_114 (by decide) ?_
  refine J.putf (μ := mX11_init) (pc := 115) (T := TX11) (ci := 14) (ty0 := tyX11) (P' := Cq γ ((((((((((((([.null, .null, .null, .null, .null, .null, .null, .null, .null, .int 0, .int 0, .int 0, .int 0] : List Value).set 0 (.ref (gz γ + 1))).set 1 (.ref (gz γ + 27))).set 2 (.ref (gz γ + 53))).set 3 (.ref (gz γ + 79))).set 4 (.ref (gz γ + 289))).set 5 (.ref (gz γ + 290))).set 6 (.ref (gz γ + 293))).set 7 (.ref (gz γ + 302))).set 8 (.ref (gz γ + 307))).set 9 (.int (0))).set 10 (.int (-1))).set 11 (.int (0)))) rfl rfl in_X11 tyX11_ok nmX11 11 (by decide) wf_X11_72 dX11_init_115 rfl rfl rfl (Nat.le_add_right _ _) (fun H h => h.1) (by simp) (fun H H' h a b c => h.put a c) ?_
  refine J.aload_n (μ := mX11_init) (pc := 118) dX11_init_118 rfl ?_
  refine J.iconst (μ := mX11_init) (pc := 119) (v := -1) dX11_init_119 (by decide) ?_
  refine J.putf (μ := mX11_init) (pc := 120) (T := TX11) (ci := 14) (ty0 := tyX11) (P' := Cq γ (((((((((((((([.null, .null, .null, .null, .null, .null, .null, .null, .null, .int 0, .int 0, .int 0, .int 0] : List Value).set 0 (.ref (gz γ + 1))).set 1 (.ref (gz γ + 27))).set 2 (.ref (gz γ + 53))).set 3 (.ref (gz γ + 79))).set 4 (.ref (gz γ + 289))).set 5 (.ref (gz γ + 290))).set 6 (.ref (gz γ + 293))).set 7 (.ref (gz γ + 302))).set 8 (.ref (gz γ + 307))).set 9 (.int (0))).set 10 (.int (-1))).set 11 (.int (0))).set 12 (.int (-1)))) rfl rfl in_X11 tyX11_ok nmX11 12 (by decide) wf_X11_75 dX11_init_120 rfl rfl rfl (Nat.le_add_right _ _) (fun H h => h.1) (by simp) (fun H H' h a b c => h.put a c) ?_
  exact J.vret (μ := mX11_init) (pc := 123) dX11_init_123 rfl (Nat.le_of_ble_eq_true rfl) (Nat.le_of_ble_eq_true rfl) (fun H h => ⟨rfl, Cq.rp h⟩)
