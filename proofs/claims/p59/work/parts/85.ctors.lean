/-! the constructors -/
section NQ
theorem wq_X11_9 : Cond.methodLinkNest RX11 9 yX9_init "PromiseDepot" ∈ WSB := wsbB 77 (by decide +kernel) rfl
theorem wq_X11_31 : Cond.methodLinkNest RX11 31 yX3_init "PromiseDepot" ∈ WSB := wsbB 266 (by decide +kernel) rfl
theorem wq_X11_38 : Cond.methodLinkNest RX11 38 yX2_init "PromiseDepot" ∈ WSB := wsbB 277 (by decide +kernel) rfl
theorem wq_X11_45 : Cond.methodLinkNest RX11 45 yX6_init "PromiseDepot" ∈ WSB := wsbB 289 (by decide +kernel) rfl
theorem wq_X11_52 : Cond.methodLinkNest RX11 52 yX10_init "PromiseDepot" ∈ WSB := wsbB 316 (by decide +kernel) rfl
theorem wq_X4_24 : Cond.methodLinkNest RX4 24 yX9_init "PromiseDepot" ∈ WSB := wsbB 252 (by decide +kernel) rfl
theorem wq_X9_11 : Cond.methodLinkNest RX9 11 yX8_init "PromiseDepot" ∈ WSB := wsbB 83 (by decide +kernel) rfl
theorem wq_X9_20 : Cond.methodLinkNest RX9 20 yX5_init "PromiseDepot" ∈ WSB := wsbB 126 (by decide +kernel) rfl
theorem wq_X9_27 : Cond.methodLinkNest RX9 27 yX1_init "PromiseDepot" ∈ WSB := wsbB 188 (by decide +kernel) rfl
end NQ
def Zr (v : Vs) (a b : Nat) : Prop := ∀ k, a ≤ k → k < b → v k = fun _ => 0
theorem Zr.sub {v : Vs} {a b c d : Nat} (h : Zr v a b) (h1 : a ≤ c) (h2 : d ≤ b) : Zr v c d := fun k x y => h k (by omega) (by omega)
theorem c_X7 {γ : Gm} {v : Vs} {H0 : Heap} {k len : Nat} (hr : IsRow k len) (hz : v (k + 1) = fun _ => 0) (hl : 0 < len ∧ len < 1000) : Ev γ mX7_init yX7_init 1 1 len [.ref (gz γ + k), .int (nI len)] (Cn γ v H0 k 10 [.null] (k + 1)) (fun w H => w = none ∧ Cn γ v H0 k 10 [.ref (gz γ + (k + 1))] (k + 2) H) := by
  refine Ev.ofJ (by decide) rfl (fun _ => rfl) (Nat.le_of_ble_eq_true rfl) ?_
  refine J.aload_n (μ := mX7_init) (pc := 0) dX7_init_0 rfl ?_
  refine J.objI (μ := mX7_init) (pc := 1) rfl wm_X7_1 dX7_init_1 ⟨(Nat.le_of_ble_eq_true rfl), (Nat.le_of_ble_eq_true rfl)⟩ (Nat.le_of_ble_eq_true rfl) ?_
  refine J.aload_n (μ := mX7_init) (pc := 4) dX7_init_4 rfl ?_
  refine J.iload_n (μ := mX7_init) (pc := 5) dX7_init_5 rfl ?_
  refine J.if_le (μ := mX7_init) (pc := 6) 13 dX7_init_6 (by decide) (fun h1 => ?_) (fun h1 => ?_)
  · exfalso
    rw [t_le, t_nI (by omega), t_0] at h1
    omega
  refine J.iload_n (μ := mX7_init) (pc := 9) dX7_init_9 rfl ?_
  refine J.goto (μ := mX7_init) (pc := 10) 14 dX7_init_10 (by decide) ?_
  refine J.newI (μ := mX7_init) (pc := 14) dX7_init_14 rfl (by omega) (Nat.le_of_ble_eq_true rfl) (by show 0 + len ≤ len; omega) (fun H1 hH => ?_)
  rw [hH.1]
  refine J.of (P' := Cn γ v H0 k 10 [.null] (k + 1 + 1)) (fun H h => hH.arr (by omega) h.1 h.2.1 h.2.2 hr.2 hz) ?_
  refine J.putF (μ := mX7_init) (pc := 16) (T := TX7) (ci := 10) (ty0 := tyX7) (P' := Cn γ v H0 k 10 ([Value.null].set 0 (.ref (gz γ + (k + 1)))) (k + 1 + 1)) rfl rfl rfl in_X7 tyX7_ok nmX7 0 (by decide) wf_X7_7 dX7_init_16 rfl rfl rfl rfl (Nat.le_add_right _ _) (fun H h => h.2.2.1) (by simp) (fun H H' h a b c => h.put a b c) ?_
  exact J.vret (μ := mX7_init) (pc := 19) dX7_init_19 rfl (Nat.le_of_ble_eq_true rfl) (by show 0 + len ≤ len; omega) (fun H h => ⟨rfl, h⟩)

theorem c_X8 {γ : Gm} {v : Vs} {H0 : Heap} {o : Nat} (ho : IsStk o) (hz : Zr v o (o + 26)) : Ev γ mX8_init yX8_init 2 6 27 [.ref (gz γ + (o + 1))] (Cn γ v H0 (o + 1) 11 [.null, .null, .null, .int 0] (o + 2)) (fun w H => w = none ∧ Cn γ v H0 (o + 1) 11 (fvs (gz γ) (v (o + 1)) 0 [some (o + 2), some (o + 4), some (o + 6), none]) (o + 8) H) := by
  refine Ev.ofJ (by decide) rfl (fun _ => rfl) (Nat.le_of_ble_eq_true rfl) ?_
  refine J.aload_n (μ := mX8_init) (pc := 0) dX8_init_0 rfl ?_
  refine J.objI (μ := mX8_init) (pc := 1) rfl wm_X8_3 dX8_init_1 ⟨(Nat.le_of_ble_eq_true rfl), (Nat.le_of_ble_eq_true rfl)⟩ (Nat.le_of_ble_eq_true rfl) ?_
  refine J.aload_n (μ := mX8_init) (pc := 4) dX8_init_4 rfl ?_
  refine J.nw (μ := mX8_init) (pc := 5) (T := TX7) (ci := 10) (fs0 := [.null]) (ty0 := tyX7) rfl rfl in_X7 tyX7_ok (fun j hj => by rcases (show j = 0 by omega) with rfl; rfl) wk_X8_9 wj_X7 wn_X7 dX8_init_5 (Nat.le_of_ble_eq_true rfl) (Nat.le_of_ble_eq_true rfl) (fun H5 hH5 => ?_)
  rw [hH5.1]
  refine J.of (P' := Cn γ v H5 (o + 2) 10 [.null] (o + 2 + 1)) (fun H h => hH5.new h.1 h.2.1 h.2.2) ?_
  refine J.dup (μ := mX8_init) (pc := 8) dX8_init_8 rfl ?_
  refine J.bipush (μ := mX8_init) (pc := 9) (v := 8) dX8_init_9 (by decide) ?_
  refine J.callC (μ := mX8_init) (pc := 11) (c_X7 (len := 8) ho.zn (hz _ (by omega) (by omega)) (by decide)) rfl wm_X8_11 mi_X7_init rfl rfl dX8_init_11 rfl rfl ⟨(Nat.le_of_ble_eq_true rfl), (Nat.le_of_ble_eq_true rfl)⟩ ⟨(Nat.le_of_ble_eq_true rfl), (Nat.le_of_ble_eq_true rfl)⟩ (Nat.le_of_ble_eq_true rfl) (fun w => J.and fun e => ?_)
  subst e
  refine J.of (P' := Cn γ v H0 (o + 1) 11 [.null, .null, .null, .int 0] (o + 4)) (fun H h => hH5.back (by omega) h ho.zn.1 rfl (by omega)) ?_
  refine J.putF (μ := mX8_init) (pc := 14) (T := TX8) (ci := 11) (ty0 := tyX8) (P' := Cn γ v H0 (o + 1) 11 (([.null, .null, .null, .int 0] : List Value).set 0 (.ref (gz γ + (o + 2)))) (o + 4)) rfl rfl rfl in_X8 tyX8_ok nmX8 0 (by decide) wf_X8_14 dX8_init_14 rfl rfl rfl rfl (Nat.le_add_right _ _) (fun H h => h.2.2.1) (by simp) (fun H H' h a b c => h.put a b c) ?_
  refine J.aload_n (μ := mX8_init) (pc := 17) dX8_init_17 rfl ?_
  refine J.nw (μ := mX8_init) (pc := 18) (T := TX7) (ci := 10) (fs0 := [.null]) (ty0 := tyX7) rfl rfl in_X7 tyX7_ok (fun j hj => by rcases (show j = 0 by omega) with rfl; rfl) wk_X8_9 wj_X7 wn_X7 dX8_init_18 (Nat.le_of_ble_eq_true rfl) (Nat.le_of_ble_eq_true rfl) (fun H18 hH18 => ?_)
  rw [hH18.1]
  refine J.of (P' := Cn γ v H18 (o + 4) 10 [.null] (o + 4 + 1)) (fun H h => hH18.new h.1 h.2.1 h.2.2) ?_
  refine J.dup (μ := mX8_init) (pc := 21) dX8_init_21 rfl ?_
  refine J.bipush (μ := mX8_init) (pc := 22) (v := 8) dX8_init_22 (by decide) ?_
  refine J.callC (μ := mX8_init) (pc := 24) (c_X7 (len := 8) ho.cp (hz _ (by omega) (by omega)) (by decide)) rfl wm_X8_11 mi_X7_init rfl rfl dX8_init_24 rfl rfl ⟨(Nat.le_of_ble_eq_true rfl), (Nat.le_of_ble_eq_true rfl)⟩ ⟨(Nat.le_of_ble_eq_true rfl), (Nat.le_of_ble_eq_true rfl)⟩ (Nat.le_of_ble_eq_true rfl) (fun w => J.and fun e => ?_)
  subst e
  refine J.of (P' := Cn γ v H0 (o + 1) 11 (([.null, .null, .null, .int 0] : List Value).set 0 (.ref (gz γ + (o + 2)))) (o + 6)) (fun H h => hH18.back (by omega) h ho.cp.1 rfl (by omega)) ?_
  refine J.putF (μ := mX8_init) (pc := 27) (T := TX8) (ci := 11) (ty0 := tyX8) (P' := Cn γ v H0 (o + 1) 11 ((([.null, .null, .null, .int 0] : List Value).set 0 (.ref (gz γ + (o + 2)))).set 1 (.ref (gz γ + (o + 4)))) (o + 6)) rfl rfl rfl in_X8 tyX8_ok nmX8 1 (by decide) wf_X8_20 dX8_init_27 rfl rfl rfl rfl (Nat.le_add_right _ _) (fun H h => h.2.2.1) (by simp) (fun H H' h a b c => h.put a b c) ?_
  refine J.aload_n (μ := mX8_init) (pc := 30) dX8_init_30 rfl ?_
  refine J.nw (μ := mX8_init) (pc := 31) (T := TX7) (ci := 10) (fs0 := [.null]) (ty0 := tyX7) rfl rfl in_X7 tyX7_ok (fun j hj => by rcases (show j = 0 by omega) with rfl; rfl) wk_X8_9 wj_X7 wn_X7 dX8_init_31 (Nat.le_of_ble_eq_true rfl) (Nat.le_of_ble_eq_true rfl) (fun H31 hH31 => ?_)
  rw [hH31.1]
  refine J.of (P' := Cn γ v H31 (o + 6) 10 [.null] (o + 6 + 1)) (fun H h => hH31.new h.1 h.2.1 h.2.2) ?_
  refine J.dup (μ := mX8_init) (pc := 34) dX8_init_34 rfl ?_
  refine J.bipush (μ := mX8_init) (pc := 35) (v := 8) dX8_init_35 (by decide) ?_
  refine J.callC (μ := mX8_init) (pc := 37) (c_X7 (len := 8) ho.cd (hz _ (by omega) (by omega)) (by decide)) rfl wm_X8_11 mi_X7_init rfl rfl dX8_init_37 rfl rfl ⟨(Nat.le_of_ble_eq_true rfl), (Nat.le_of_ble_eq_true rfl)⟩ ⟨(Nat.le_of_ble_eq_true rfl), (Nat.le_of_ble_eq_true rfl)⟩ (Nat.le_of_ble_eq_true rfl) (fun w => J.and fun e => ?_)
  subst e
  refine J.of (P' := Cn γ v H0 (o + 1) 11 ((([.null, .null, .null, .int 0] : List Value).set 0 (.ref (gz γ + (o + 2)))).set 1 (.ref (gz γ + (o + 4)))) (o + 8)) (fun H h => hH31.back (by omega) h ho.cd.1 rfl (by omega)) ?_
  refine J.putF (μ := mX8_init) (pc := 40) (T := TX8) (ci := 11) (ty0 := tyX8) (P' := Cn γ v H0 (o + 1) 11 (((([.null, .null, .null, .int 0] : List Value).set 0 (.ref (gz γ + (o + 2)))).set 1 (.ref (gz γ + (o + 4)))).set 2 (.ref (gz γ + (o + 6)))) (o + 8)) rfl rfl rfl in_X8 tyX8_ok nmX8 2 (by decide) wf_X8_23 dX8_init_40 rfl rfl rfl rfl (Nat.le_add_right _ _) (fun H h => h.2.2.1) (by simp) (fun H H' h a b c => h.put a b c) ?_
  refine J.aload_n (μ := mX8_init) (pc := 43) dX8_init_43 rfl ?_
  refine J.iconst (μ := mX8_init) (pc := 44) (v := 0) dX8_init_44 (by decide) ?_
  refine J.putf (μ := mX8_init) (pc := 45) (T := TX8) (ci := 11) (ty0 := tyX8) (P' := Cn γ v H0 (o + 1) 11 ((((([.null, .null, .null, .int 0] : List Value).set 0 (.ref (gz γ + (o + 2)))).set 1 (.ref (gz γ + (o + 4)))).set 2 (.ref (gz γ + (o + 6)))).set 3 (.int (0))) (o + 8)) rfl rfl in_X8 tyX8_ok nmX8 3 (by decide) wf_X8_26 dX8_init_45 rfl rfl rfl (Nat.le_add_right _ _) (fun H h => h.2.2.1) (by simp) (fun H H' h a b c => h.put a b c) ?_
  exact J.vret (μ := mX8_init) (pc := 48) dX8_init_48 rfl (Nat.le_of_ble_eq_true rfl) (Nat.le_of_ble_eq_true rfl) (fun H h => ⟨rfl, by rw [hz (o + 1) (by omega) (by omega)]; exact h⟩)

theorem c_X5 {γ : Gm} {v : Vs} {H0 : Heap} {o : Nat} (ho : IsStk o) (hz : Zr v o (o + 26)) : Ev γ mX5_init yX5_init 2 14 147 [.ref (gz γ + (o + 8))] (Cn γ v H0 (o + 8) 8 [.null, .null, .null, .null, .null, .null, .null, .int 0] (o + 9)) (fun w H => w = none ∧ Cn γ v H0 (o + 8) 8 (fvs (gz γ) (v (o + 8)) 0 [some (o + 9), some (o + 11), some (o + 13), some (o + 15), some (o + 17), some (o + 19), some (o + 21), none]) (o + 23) H) := by
  refine Ev.ofJ (by decide) rfl (fun _ => rfl) (Nat.le_of_ble_eq_true rfl) ?_
  refine J.aload_n (μ := mX5_init) (pc := 0) dX5_init_0 rfl ?_
  refine J.objI (μ := mX5_init) (pc := 1) rfl wm_X5_3 dX5_init_1 ⟨(Nat.le_of_ble_eq_true rfl), (Nat.le_of_ble_eq_true rfl)⟩ (Nat.le_of_ble_eq_true rfl) ?_
  refine J.aload_n (μ := mX5_init) (pc := 4) dX5_init_4 rfl ?_
  refine J.nw (μ := mX5_init) (pc := 5) (T := TX7) (ci := 10) (fs0 := [.null]) (ty0 := tyX7) rfl rfl in_X7 tyX7_ok (fun j hj => by rcases (show j = 0 by omega) with rfl; rfl) wk_X5_9 wj_X7 wn_X7 dX5_init_5 (Nat.le_of_ble_eq_true rfl) (Nat.le_of_ble_eq_true rfl) (fun H5 hH5 => ?_)
  rw [hH5.1]
  refine J.of (P' := Cn γ v H5 (o + 9) 10 [.null] (o + 9 + 1)) (fun H h => hH5.new h.1 h.2.1 h.2.2) ?_
  refine J.dup (μ := mX5_init) (pc := 8) dX5_init_8 rfl ?_
  refine J.bipush (μ := mX5_init) (pc := 9) (v := 20) dX5_init_9 (by decide) ?_
  refine J.callC (μ := mX5_init) (pc := 11) (c_X7 (len := 20) ho.ki (hz _ (by omega) (by omega)) (by decide)) rfl wm_X5_11 mi_X7_init rfl rfl dX5_init_11 rfl rfl ⟨(Nat.le_of_ble_eq_true rfl), (Nat.le_of_ble_eq_true rfl)⟩ ⟨(Nat.le_of_ble_eq_true rfl), (Nat.le_of_ble_eq_true rfl)⟩ (Nat.le_of_ble_eq_true rfl) (fun w => J.and fun e => ?_)
  subst e
  refine J.of (P' := Cn γ v H0 (o + 8) 8 [.null, .null, .null, .null, .null, .null, .null, .int 0] (o + 11)) (fun H h => hH5.back (by omega) h ho.ki.1 rfl (by omega)) ?_
  refine J.putF (μ := mX5_init) (pc := 14) (T := TX5) (ci := 8) (ty0 := tyX5) (P' := Cn γ v H0 (o + 8) 8 (([.null, .null, .null, .null, .null, .null, .null, .int 0] : List Value).set 0 (.ref (gz γ + (o + 9)))) (o + 11)) rfl rfl rfl in_X5 tyX5_ok nmX5 0 (by decide) wf_X5_14 dX5_init_14 rfl rfl rfl rfl (Nat.le_add_right _ _) (fun H h => h.2.2.1) (by simp) (fun H H' h a b c => h.put a b c) ?_
  refine J.aload_n (μ := mX5_init) (pc := 17) dX5_init_17 rfl ?_
  refine J.nw (μ := mX5_init) (pc := 18) (T := TX7) (ci := 10) (fs0 := [.null]) (ty0 := tyX7) rfl rfl in_X7 tyX7_ok (fun j hj => by rcases (show j = 0 by omega) with rfl; rfl) wk_X5_9 wj_X7 wn_X7 dX5_init_18 (Nat.le_of_ble_eq_true rfl) (Nat.le_of_ble_eq_true rfl) (fun H18 hH18 => ?_)
  rw [hH18.1]
  refine J.of (P' := Cn γ v H18 (o + 11) 10 [.null] (o + 11 + 1)) (fun H h => hH18.new h.1 h.2.1 h.2.2) ?_
  refine J.dup (μ := mX5_init) (pc := 21) dX5_init_21 rfl ?_
  refine J.bipush (μ := mX5_init) (pc := 22) (v := 20) dX5_init_22 (by decide) ?_
  refine J.callC (μ := mX5_init) (pc := 24) (c_X7 (len := 20) ho.lz (hz _ (by omega) (by omega)) (by decide)) rfl wm_X5_11 mi_X7_init rfl rfl dX5_init_24 rfl rfl ⟨(Nat.le_of_ble_eq_true rfl), (Nat.le_of_ble_eq_true rfl)⟩ ⟨(Nat.le_of_ble_eq_true rfl), (Nat.le_of_ble_eq_true rfl)⟩ (Nat.le_of_ble_eq_true rfl) (fun w => J.and fun e => ?_)
  subst e
  refine J.of (P' := Cn γ v H0 (o + 8) 8 (([.null, .null, .null, .null, .null, .null, .null, .int 0] : List Value).set 0 (.ref (gz γ + (o + 9)))) (o + 13)) (fun H h => hH18.back (by omega) h ho.lz.1 rfl (by omega)) ?_
  refine J.putF (μ := mX5_init) (pc := 27) (T := TX5) (ci := 8) (ty0 := tyX5) (P' := Cn γ v H0 (o + 8) 8 ((([.null, .null, .null, .null, .null, .null, .null, .int 0] : List Value).set 0 (.ref (gz γ + (o + 9)))).set 1 (.ref (gz γ + (o + 11)))) (o + 13)) rfl rfl rfl in_X5 tyX5_ok nmX5 1 (by decide) wf_X5_20 dX5_init_27 rfl rfl rfl rfl (Nat.le_add_right _ _) (fun H h => h.2.2.1) (by simp) (fun H H' h a b c => h.put a b c) ?_
  refine J.aload_n (μ := mX5_init) (pc := 30) dX5_init_30 rfl ?_
  refine J.nw (μ := mX5_init) (pc := 31) (T := TX7) (ci := 10) (fs0 := [.null]) (ty0 := tyX7) rfl rfl in_X7 tyX7_ok (fun j hj => by rcases (show j = 0 by omega) with rfl; rfl) wk_X5_9 wj_X7 wn_X7 dX5_init_31 (Nat.le_of_ble_eq_true rfl) (Nat.le_of_ble_eq_true rfl) (fun H31 hH31 => ?_)
  rw [hH31.1]
  refine J.of (P' := Cn γ v H31 (o + 13) 10 [.null] (o + 13 + 1)) (fun H h => hH31.new h.1 h.2.1 h.2.2) ?_
  refine J.dup (μ := mX5_init) (pc := 34) dX5_init_34 rfl ?_
  refine J.bipush (μ := mX5_init) (pc := 35) (v := 20) dX5_init_35 (by decide) ?_
  refine J.callC (μ := mX5_init) (pc := 37) (c_X7 (len := 20) ho.vo (hz _ (by omega) (by omega)) (by decide)) rfl wm_X5_11 mi_X7_init rfl rfl dX5_init_37 rfl rfl ⟨(Nat.le_of_ble_eq_true rfl), (Nat.le_of_ble_eq_true rfl)⟩ ⟨(Nat.le_of_ble_eq_true rfl), (Nat.le_of_ble_eq_true rfl)⟩ (Nat.le_of_ble_eq_true rfl) (fun w => J.and fun e => ?_)
  subst e
  refine J.of (P' := Cn γ v H0 (o + 8) 8 ((([.null, .null, .null, .null, .null, .null, .null, .int 0] : List Value).set 0 (.ref (gz γ + (o + 9)))).set 1 (.ref (gz γ + (o + 11)))) (o + 15)) (fun H h => hH31.back (by omega) h ho.vo.1 rfl (by omega)) ?_
  refine J.putF (μ := mX5_init) (pc := 40) (T := TX5) (ci := 8) (ty0 := tyX5) (P' := Cn γ v H0 (o + 8) 8 (((([.null, .null, .null, .null, .null, .null, .null, .int 0] : List Value).set 0 (.ref (gz γ + (o + 9)))).set 1 (.ref (gz γ + (o + 11)))).set 2 (.ref (gz γ + (o + 13)))) (o + 15)) rfl rfl rfl in_X5 tyX5_ok nmX5 2 (by decide) wf_X5_23 dX5_init_40 rfl rfl rfl rfl (Nat.le_add_right _ _) (fun H h => h.2.2.1) (by simp) (fun H H' h a b c => h.put a b c) ?_
  refine J.aload_n (μ := mX5_init) (pc := 43) dX5_init_43 rfl ?_
  refine J.nw (μ := mX5_init) (pc := 44) (T := TX7) (ci := 10) (fs0 := [.null]) (ty0 := tyX7) rfl rfl in_X7 tyX7_ok (fun j hj => by rcases (show j = 0 by omega) with rfl; rfl) wk_X5_9 wj_X7 wn_X7 dX5_init_44 (Nat.le_of_ble_eq_true rfl) (Nat.le_of_ble_eq_true rfl) (fun H44 hH44 => ?_)
  rw [hH44.1]
  refine J.of (P' := Cn γ v H44 (o + 15) 10 [.null] (o + 15 + 1)) (fun H h => hH44.new h.1 h.2.1 h.2.2) ?_
  refine J.dup (μ := mX5_init) (pc := 47) dX5_init_47 rfl ?_
  refine J.bipush (μ := mX5_init) (pc := 48) (v := 20) dX5_init_48 (by decide) ?_
  refine J.callC (μ := mX5_init) (pc := 50) (c_X7 (len := 20) ho.ep (hz _ (by omega) (by omega)) (by decide)) rfl wm_X5_11 mi_X7_init rfl rfl dX5_init_50 rfl rfl ⟨(Nat.le_of_ble_eq_true rfl), (Nat.le_of_ble_eq_true rfl)⟩ ⟨(Nat.le_of_ble_eq_true rfl), (Nat.le_of_ble_eq_true rfl)⟩ (Nat.le_of_ble_eq_true rfl) (fun w => J.and fun e => ?_)
  subst e
  refine J.of (P' := Cn γ v H0 (o + 8) 8 (((([.null, .null, .null, .null, .null, .null, .null, .int 0] : List Value).set 0 (.ref (gz γ + (o + 9)))).set 1 (.ref (gz γ + (o + 11)))).set 2 (.ref (gz γ + (o + 13)))) (o + 17)) (fun H h => hH44.back (by omega) h ho.ep.1 rfl (by omega)) ?_
  refine J.putF (μ := mX5_init) (pc := 53) (T := TX5) (ci := 8) (ty0 := tyX5) (P' := Cn γ v H0 (o + 8) 8 ((((([.null, .null, .null, .null, .null, .null, .null, .int 0] : List Value).set 0 (.ref (gz γ + (o + 9)))).set 1 (.ref (gz γ + (o + 11)))).set 2 (.ref (gz γ + (o + 13)))).set 3 (.ref (gz γ + (o + 15)))) (o + 17)) rfl rfl rfl in_X5 tyX5_ok nmX5 3 (by decide) wf_X5_26 dX5_init_53 rfl rfl rfl rfl (Nat.le_add_right _ _) (fun H h => h.2.2.1) (by simp) (fun H H' h a b c => h.put a b c) ?_
  refine J.aload_n (μ := mX5_init) (pc := 56) dX5_init_56 rfl ?_
  refine J.nw (μ := mX5_init) (pc := 57) (T := TX7) (ci := 10) (fs0 := [.null]) (ty0 := tyX7) rfl rfl in_X7 tyX7_ok (fun j hj => by rcases (show j = 0 by omega) with rfl; rfl) wk_X5_9 wj_X7 wn_X7 dX5_init_57 (Nat.le_of_ble_eq_true rfl) (Nat.le_of_ble_eq_true rfl) (fun H57 hH57 => ?_)
  rw [hH57.1]
  refine J.of (P' := Cn γ v H57 (o + 17) 10 [.null] (o + 17 + 1)) (fun H h => hH57.new h.1 h.2.1 h.2.2) ?_
  refine J.dup (μ := mX5_init) (pc := 60) dX5_init_60 rfl ?_
  refine J.bipush (μ := mX5_init) (pc := 61) (v := 20) dX5_init_61 (by decide) ?_
  refine J.callC (μ := mX5_init) (pc := 63) (c_X7 (len := 20) ho.pl (hz _ (by omega) (by omega)) (by decide)) rfl wm_X5_11 mi_X7_init rfl rfl dX5_init_63 rfl rfl ⟨(Nat.le_of_ble_eq_true rfl), (Nat.le_of_ble_eq_true rfl)⟩ ⟨(Nat.le_of_ble_eq_true rfl), (Nat.le_of_ble_eq_true rfl)⟩ (Nat.le_of_ble_eq_true rfl) (fun w => J.and fun e => ?_)
  subst e
  refine J.of (P' := Cn γ v H0 (o + 8) 8 ((((([.null, .null, .null, .null, .null, .null, .null, .int 0] : List Value).set 0 (.ref (gz γ + (o + 9)))).set 1 (.ref (gz γ + (o + 11)))).set 2 (.ref (gz γ + (o + 13)))).set 3 (.ref (gz γ + (o + 15)))) (o + 19)) (fun H h => hH57.back (by omega) h ho.pl.1 rfl (by omega)) ?_
  refine J.putF (μ := mX5_init) (pc := 66) (T := TX5) (ci := 8) (ty0 := tyX5) (P' := Cn γ v H0 (o + 8) 8 (((((([.null, .null, .null, .null, .null, .null, .null, .int 0] : List Value).set 0 (.ref (gz γ + (o + 9)))).set 1 (.ref (gz γ + (o + 11)))).set 2 (.ref (gz γ + (o + 13)))).set 3 (.ref (gz γ + (o + 15)))).set 4 (.ref (gz γ + (o + 17)))) (o + 19)) rfl rfl rfl in_X5 tyX5_ok nmX5 4 (by decide) wf_X5_29 dX5_init_66 rfl rfl rfl rfl (Nat.le_add_right _ _) (fun H h => h.2.2.1) (by simp) (fun H H' h a b c => h.put a b c) ?_
  refine J.aload_n (μ := mX5_init) (pc := 69) dX5_init_69 rfl ?_
  refine J.nw (μ := mX5_init) (pc := 70) (T := TX7) (ci := 10) (fs0 := [.null]) (ty0 := tyX7) rfl rfl in_X7 tyX7_ok (fun j hj => by rcases (show j = 0 by omega) with rfl; rfl) wk_X5_9 wj_X7 wn_X7 dX5_init_70 (Nat.le_of_ble_eq_true rfl) (Nat.le_of_ble_eq_true rfl) (fun H70 hH70 => ?_)
  rw [hH70.1]
  refine J.of (P' := Cn γ v H70 (o + 19) 10 [.null] (o + 19 + 1)) (fun H h => hH70.new h.1 h.2.1 h.2.2) ?_
  refine J.dup (μ := mX5_init) (pc := 73) dX5_init_73 rfl ?_
  refine J.bipush (μ := mX5_init) (pc := 74) (v := 20) dX5_init_74 (by decide) ?_
  refine J.callC (μ := mX5_init) (pc := 76) (c_X7 (len := 20) ho.p1 (hz _ (by omega) (by omega)) (by decide)) rfl wm_X5_11 mi_X7_init rfl rfl dX5_init_76 rfl rfl ⟨(Nat.le_of_ble_eq_true rfl), (Nat.le_of_ble_eq_true rfl)⟩ ⟨(Nat.le_of_ble_eq_true rfl), (Nat.le_of_ble_eq_true rfl)⟩ (Nat.le_of_ble_eq_true rfl) (fun w => J.and fun e => ?_)
  subst e
  refine J.of (P' := Cn γ v H0 (o + 8) 8 (((((([.null, .null, .null, .null, .null, .null, .null, .int 0] : List Value).set 0 (.ref (gz γ + (o + 9)))).set 1 (.ref (gz γ + (o + 11)))).set 2 (.ref (gz γ + (o + 13)))).set 3 (.ref (gz γ + (o + 15)))).set 4 (.ref (gz γ + (o + 17)))) (o + 21)) (fun H h => hH70.back (by omega) h ho.p1.1 rfl (by omega)) ?_
  refine J.putF (μ := mX5_init) (pc := 79) (T := TX5) (ci := 8) (ty0 := tyX5) (P' := Cn γ v H0 (o + 8) 8 ((((((([.null, .null, .null, .null, .null, .null, .null, .int 0] : List Value).set 0 (.ref (gz γ + (o + 9)))).set 1 (.ref (gz γ + (o + 11)))).set 2 (.ref (gz γ + (o + 13)))).set 3 (.ref (gz γ + (o + 15)))).set 4 (.ref (gz γ + (o + 17)))).set 5 (.ref (gz γ + (o + 19)))) (o + 21)) rfl rfl rfl in_X5 tyX5_ok nmX5 5 (by decide) wf_X5_32 dX5_init_79 rfl rfl rfl rfl (Nat.le_add_right _ _) (fun H h => h.2.2.1) (by simp) (fun H H' h a b c => h.put a b c) ?_
  refine J.aload_n (μ := mX5_init) (pc := 82) dX5_init_82 rfl ?_
  refine J.nw (μ := mX5_init) (pc := 83) (T := TX7) (ci := 10) (fs0 := [.null]) (ty0 := tyX7) rfl rfl in_X7 tyX7_ok (fun j hj => by rcases (show j = 0 by omega) with rfl; rfl) wk_X5_9 wj_X7 wn_X7 dX5_init_83 (Nat.le_of_ble_eq_true rfl) (Nat.le_of_ble_eq_true rfl) (fun H83 hH83 => ?_)
  rw [hH83.1]
  refine J.of (P' := Cn γ v H83 (o + 21) 10 [.null] (o + 21 + 1)) (fun H h => hH83.new h.1 h.2.1 h.2.2) ?_
  refine J.dup (μ := mX5_init) (pc := 86) dX5_init_86 rfl ?_
  refine J.bipush (μ := mX5_init) (pc := 87) (v := 20) dX5_init_87 (by decide) ?_
  refine J.callC (μ := mX5_init) (pc := 89) (c_X7 (len := 20) ho.p2 (hz _ (by omega) (by omega)) (by decide)) rfl wm_X5_11 mi_X7_init rfl rfl dX5_init_89 rfl rfl ⟨(Nat.le_of_ble_eq_true rfl), (Nat.le_of_ble_eq_true rfl)⟩ ⟨(Nat.le_of_ble_eq_true rfl), (Nat.le_of_ble_eq_true rfl)⟩ (Nat.le_of_ble_eq_true rfl) (fun w => J.and fun e => ?_)
  subst e
  refine J.of (P' := Cn γ v H0 (o + 8) 8 ((((((([.null, .null, .null, .null, .null, .null, .null, .int 0] : List Value).set 0 (.ref (gz γ + (o + 9)))).set 1 (.ref (gz γ + (o + 11)))).set 2 (.ref (gz γ + (o + 13)))).set 3 (.ref (gz γ + (o + 15)))).set 4 (.ref (gz γ + (o + 17)))).set 5 (.ref (gz γ + (o + 19)))) (o + 23)) (fun H h => hH83.back (by omega) h ho.p2.1 rfl (by omega)) ?_
  refine J.putF (μ := mX5_init) (pc := 92) (T := TX5) (ci := 8) (ty0 := tyX5) (P' := Cn γ v H0 (o + 8) 8 (((((((([.null, .null, .null, .null, .null, .null, .null, .int 0] : List Value).set 0 (.ref (gz γ + (o + 9)))).set 1 (.ref (gz γ + (o + 11)))).set 2 (.ref (gz γ + (o + 13)))).set 3 (.ref (gz γ + (o + 15)))).set 4 (.ref (gz γ + (o + 17)))).set 5 (.ref (gz γ + (o + 19)))).set 6 (.ref (gz γ + (o + 21)))) (o + 23)) rfl rfl rfl in_X5 tyX5_ok nmX5 6 (by decide) wf_X5_35 dX5_init_92 rfl rfl rfl rfl (Nat.le_add_right _ _) (fun H h => h.2.2.1) (by simp) (fun H H' h a b c => h.put a b c) ?_
  refine J.aload_n (μ := mX5_init) (pc := 95) dX5_init_95 rfl ?_
  refine J.iconst (μ := mX5_init) (pc := 96) (v := 0) dX5_init_96 (by decide) ?_
  refine J.putf (μ := mX5_init) (pc := 97) (T := TX5) (ci := 8) (ty0 := tyX5) (P' := Cn γ v H0 (o + 8) 8 ((((((((([.null, .null, .null, .null, .null, .null, .null, .int 0] : List Value).set 0 (.ref (gz γ + (o + 9)))).set 1 (.ref (gz γ + (o + 11)))).set 2 (.ref (gz γ + (o + 13)))).set 3 (.ref (gz γ + (o + 15)))).set 4 (.ref (gz γ + (o + 17)))).set 5 (.ref (gz γ + (o + 19)))).set 6 (.ref (gz γ + (o + 21)))).set 7 (.int (0))) (o + 23)) rfl rfl in_X5 tyX5_ok nmX5 7 (by decide) wf_X5_38 dX5_init_97 rfl rfl rfl (Nat.le_add_right _ _) (fun H h => h.2.2.1) (by simp) (fun H H' h a b c => h.put a b c) ?_
  exact J.vret (μ := mX5_init) (pc := 100) dX5_init_100 rfl (Nat.le_of_ble_eq_true rfl) (Nat.le_of_ble_eq_true rfl) (fun H h => ⟨rfl, by rw [hz (o + 8) (by omega) (by omega)]; exact h⟩)

theorem c_X1 {γ : Gm} {v : Vs} {H0 : Heap} {o : Nat} (ho : IsStk o) (hz : Zr v o (o + 26)) : Ev γ mX1_init yX1_init 2 2 21 [.ref (gz γ + (o + 23))] (Cn γ v H0 (o + 23) 4 [.null, .int 0] (o + 24)) (fun w H => w = none ∧ Cn γ v H0 (o + 23) 4 (fvs (gz γ) (v (o + 23)) 0 [some (o + 24), none]) (o + 26) H) := by
  refine Ev.ofJ (by decide) rfl (fun _ => rfl) (Nat.le_of_ble_eq_true rfl) ?_
  refine J.aload_n (μ := mX1_init) (pc := 0) dX1_init_0 rfl ?_
  refine J.objI (μ := mX1_init) (pc := 1) rfl wm_X1_3 dX1_init_1 ⟨(Nat.le_of_ble_eq_true rfl), (Nat.le_of_ble_eq_true rfl)⟩ (Nat.le_of_ble_eq_true rfl) ?_
  refine J.aload_n (μ := mX1_init) (pc := 4) dX1_init_4 rfl ?_
  refine J.nw (μ := mX1_init) (pc := 5) (T := TX7) (ci := 10) (fs0 := [.null]) (ty0 := tyX7) rfl rfl in_X7 tyX7_ok (fun j hj => by rcases (show j = 0 by omega) with rfl; rfl) wk_X1_9 wj_X7 wn_X7 dX1_init_5 (Nat.le_of_ble_eq_true rfl) (Nat.le_of_ble_eq_true rfl) (fun H5 hH5 => ?_)
  rw [hH5.1]
  refine J.of (P' := Cn γ v H5 (o + 24) 10 [.null] (o + 24 + 1)) (fun H h => hH5.new h.1 h.2.1 h.2.2) ?_
  refine J.dup (μ := mX1_init) (pc := 8) dX1_init_8 rfl ?_
  refine J.bipush (μ := mX1_init) (pc := 9) (v := 20) dX1_init_9 (by decide) ?_
  refine J.callC (μ := mX1_init) (pc := 11) (c_X7 (len := 20) ho.hp (hz _ (by omega) (by omega)) (by decide)) rfl wm_X1_11 mi_X7_init rfl rfl dX1_init_11 rfl rfl ⟨(Nat.le_of_ble_eq_true rfl), (Nat.le_of_ble_eq_true rfl)⟩ ⟨(Nat.le_of_ble_eq_true rfl), (Nat.le_of_ble_eq_true rfl)⟩ (Nat.le_of_ble_eq_true rfl) (fun w => J.and fun e => ?_)
  subst e
  refine J.of (P' := Cn γ v H0 (o + 23) 4 [.null, .int 0] (o + 26)) (fun H h => hH5.back (by omega) h ho.hp.1 rfl (by omega)) ?_
  refine J.putF (μ := mX1_init) (pc := 14) (T := TX1) (ci := 4) (ty0 := tyX1) (P' := Cn γ v H0 (o + 23) 4 (([.null, .int 0] : List Value).set 0 (.ref (gz γ + (o + 24)))) (o + 26)) rfl rfl rfl in_X1 tyX1_ok nmX1 0 (by decide) wf_X1_14 dX1_init_14 rfl rfl rfl rfl (Nat.le_add_right _ _) (fun H h => h.2.2.1) (by simp) (fun H H' h a b c => h.put a b c) ?_
  refine J.aload_n (μ := mX1_init) (pc := 17) dX1_init_17 rfl ?_
  refine J.iconst (μ := mX1_init) (pc := 18) (v := 0) dX1_init_18 (by decide) ?_
  refine J.putf (μ := mX1_init) (pc := 19) (T := TX1) (ci := 4) (ty0 := tyX1) (P' := Cn γ v H0 (o + 23) 4 ((([.null, .int 0] : List Value).set 0 (.ref (gz γ + (o + 24)))).set 1 (.int (0))) (o + 26)) rfl rfl in_X1 tyX1_ok nmX1 1 (by decide) wf_X1_20 dX1_init_19 rfl rfl rfl (Nat.le_add_right _ _) (fun H h => h.2.2.1) (by simp) (fun H H' h a b c => h.put a b c) ?_
  exact J.vret (μ := mX1_init) (pc := 22) dX1_init_22 rfl (Nat.le_of_ble_eq_true rfl) (Nat.le_of_ble_eq_true rfl) (fun H h => ⟨rfl, by rw [hz (o + 23) (by omega) (by omega)]; exact h⟩)

theorem c_X9 {γ : Gm} {v : Vs} {H0 : Heap} {o : Nat} (ho : IsStk o) (hz : Zr v o (o + 26)) : Ev γ mX9_init yX9_init 3 25 209 [.ref (gz γ + (o))] (Cn γ v H0 (o) 12 [.null, .null, .null, .int 0, .int 0, .int 0, .int 0] (o + 1)) (fun w H => w = none ∧ Cn γ v H0 (o) 12 (fvs (gz γ) (v (o)) 0 [some (o + 1), some (o + 8), some (o + 23), none, none, none, none]) (o + 26) H) := by
  refine Ev.ofJ (by decide) rfl (fun _ => rfl) (Nat.le_of_ble_eq_true rfl) ?_
  refine J.aload_n (μ := mX9_init) (pc := 0) dX9_init_0 rfl ?_
  refine J.objI (μ := mX9_init) (pc := 1) rfl wm_X9_3 dX9_init_1 ⟨(Nat.le_of_ble_eq_true rfl), (Nat.le_of_ble_eq_true rfl)⟩ (Nat.le_of_ble_eq_true rfl) ?_
  refine J.aload_n (μ := mX9_init) (pc := 4) dX9_init_4 rfl ?_
  refine J.nw (μ := mX9_init) (pc := 5) (T := TX8) (ci := 11) (fs0 := [.null, .null, .null, .int 0]) (ty0 := tyX8) rfl rfl in_X8 tyX8_ok (fun j hj => by rcases (show j = 0 ∨ j = 1 ∨ j = 2 ∨ j = 3 by omega) with rfl | rfl | rfl | rfl <;> rfl) wk_X9_9 wj_X8 wn_X8 dX9_init_5 (Nat.le_of_ble_eq_true rfl) (Nat.le_of_ble_eq_true rfl) (fun H5 hH5 => ?_)
  rw [hH5.1]
  refine J.of (P' := Cn γ v H5 (o + 1) 11 [.null, .null, .null, .int 0] (o + 1 + 1)) (fun H h => hH5.new h.1 h.2.1 h.2.2) ?_
  refine J.dup (μ := mX9_init) (pc := 8) dX9_init_8 rfl ?_
  refine J.callN (μ := mX9_init) (pc := 9) (c_X8 ho hz) rfl wq_X9_11 mi_X8_init rfl rfl dX9_init_9 rfl rfl ⟨(Nat.le_of_ble_eq_true rfl), (Nat.le_of_ble_eq_true rfl)⟩ ⟨(Nat.le_of_ble_eq_true rfl), (Nat.le_of_ble_eq_true rfl)⟩ (Nat.le_of_ble_eq_true rfl) (fun w => J.and fun e => ?_)
  subst e
  refine J.of (P' := Cn γ v H0 (o) 12 [.null, .null, .null, .int 0, .int 0, .int 0, .int 0] (o + 8)) (fun H h => hH5.back (by omega) h (ho 1 (by decide)) rfl (by omega)) ?_
  refine J.putF (μ := mX9_init) (pc := 12) (T := TX9) (ci := 12) (ty0 := tyX9) (P' := Cn γ v H0 (o) 12 (([.null, .null, .null, .int 0, .int 0, .int 0, .int 0] : List Value).set 0 (.ref (gz γ + (o + 1)))) (o + 8)) rfl rfl rfl in_X9 tyX9_ok nmX9 0 (by decide) wf_X9_12 dX9_init_12 rfl rfl rfl rfl (Nat.le_add_right _ _) (fun H h => h.2.2.1) (by simp) (fun H H' h a b c => h.put a b c) ?_
  refine J.aload_n (μ := mX9_init) (pc := 15) dX9_init_15 rfl ?_
  refine J.nw (μ := mX9_init) (pc := 16) (T := TX5) (ci := 8) (fs0 := [.null, .null, .null, .null, .null, .null, .null, .int 0]) (ty0 := tyX5) rfl rfl in_X5 tyX5_ok (fun j hj => by rcases (show j = 0 ∨ j = 1 ∨ j = 2 ∨ j = 3 ∨ j = 4 ∨ j = 5 ∨ j = 6 ∨ j = 7 by omega) with rfl | rfl | rfl | rfl | rfl | rfl | rfl | rfl <;> rfl) wk_X9_18 wj_X5 wn_X5 dX9_init_16 (Nat.le_of_ble_eq_true rfl) (Nat.le_of_ble_eq_true rfl) (fun H16 hH16 => ?_)
  rw [hH16.1]
  refine J.of (P' := Cn γ v H16 (o + 8) 8 [.null, .null, .null, .null, .null, .null, .null, .int 0] (o + 8 + 1)) (fun H h => hH16.new h.1 h.2.1 h.2.2) ?_
  refine J.dup (μ := mX9_init) (pc := 19) dX9_init_19 rfl ?_
  refine J.callN (μ := mX9_init) (pc := 20) (c_X5 ho hz) rfl wq_X9_20 mi_X5_init rfl rfl dX9_init_20 rfl rfl ⟨(Nat.le_of_ble_eq_true rfl), (Nat.le_of_ble_eq_true rfl)⟩ ⟨(Nat.le_of_ble_eq_true rfl), (Nat.le_of_ble_eq_true rfl)⟩ (Nat.le_of_ble_eq_true rfl) (fun w => J.and fun e => ?_)
  subst e
  refine J.of (P' := Cn γ v H0 (o) 12 (([.null, .null, .null, .int 0, .int 0, .int 0, .int 0] : List Value).set 0 (.ref (gz γ + (o + 1)))) (o + 23)) (fun H h => hH16.back (by omega) h (ho 8 (by decide)) rfl (by omega)) ?_
  refine J.putF (μ := mX9_init) (pc := 23) (T := TX9) (ci := 12) (ty0 := tyX9) (P' := Cn γ v H0 (o) 12 ((([.null, .null, .null, .int 0, .int 0, .int 0, .int 0] : List Value).set 0 (.ref (gz γ + (o + 1)))).set 1 (.ref (gz γ + (o + 8)))) (o + 23)) rfl rfl rfl in_X9 tyX9_ok nmX9 1 (by decide) wf_X9_21 dX9_init_23 rfl rfl rfl rfl (Nat.le_add_right _ _) (fun H h => h.2.2.1) (by simp) (fun H H' h a b c => h.put a b c) ?_
  refine J.aload_n (μ := mX9_init) (pc := 26) dX9_init_26 rfl ?_
  refine J.nw (μ := mX9_init) (pc := 27) (T := TX1) (ci := 4) (fs0 := [.null, .int 0]) (ty0 := tyX1) rfl rfl in_X1 tyX1_ok (fun j hj => by rcases (show j = 0 ∨ j = 1 by omega) with rfl | rfl <;> rfl) wk_X9_25 wj_X1 wn_X1 dX9_init_27 (Nat.le_of_ble_eq_true rfl) (Nat.le_of_ble_eq_true rfl) (fun H27 hH27 => ?_)
  rw [hH27.1]
  refine J.of (P' := Cn γ v H27 (o + 23) 4 [.null, .int 0] (o + 23 + 1)) (fun H h => hH27.new h.1 h.2.1 h.2.2) ?_
  refine J.dup (μ := mX9_init) (pc := 30) dX9_init_30 rfl ?_
  refine J.callN (μ := mX9_init) (pc := 31) (c_X1 ho hz) rfl wq_X9_27 mi_X1_init rfl rfl dX9_init_31 rfl rfl ⟨(Nat.le_of_ble_eq_true rfl), (Nat.le_of_ble_eq_true rfl)⟩ ⟨(Nat.le_of_ble_eq_true rfl), (Nat.le_of_ble_eq_true rfl)⟩ (Nat.le_of_ble_eq_true rfl) (fun w => J.and fun e => ?_)
  subst e
  refine J.of (P' := Cn γ v H0 (o) 12 ((([.null, .null, .null, .int 0, .int 0, .int 0, .int 0] : List Value).set 0 (.ref (gz γ + (o + 1)))).set 1 (.ref (gz γ + (o + 8)))) (o + 26)) (fun H h => hH27.back (by omega) h (ho 23 (by decide)) rfl (by omega)) ?_
  refine J.putF (μ := mX9_init) (pc := 34) (T := TX9) (ci := 12) (ty0 := tyX9) (P' := Cn γ v H0 (o) 12 (((([.null, .null, .null, .int 0, .int 0, .int 0, .int 0] : List Value).set 0 (.ref (gz γ + (o + 1)))).set 1 (.ref (gz γ + (o + 8)))).set 2 (.ref (gz γ + (o + 23)))) (o + 26)) rfl rfl rfl in_X9 tyX9_ok nmX9 2 (by decide) wf_X9_28 dX9_init_34 rfl rfl rfl rfl (Nat.le_add_right _ _) (fun H h => h.2.2.1) (by simp) (fun H H' h a b c => h.put a b c) ?_
  refine J.aload_n (μ := mX9_init) (pc := 37) dX9_init_37 rfl ?_
  refine J.iconst (μ := mX9_init) (pc := 38) (v := 0) dX9_init_38 (by decide) ?_
  refine J.putf (μ := mX9_init) (pc := 39) (T := TX9) (ci := 12) (ty0 := tyX9) (P' := Cn γ v H0 (o) 12 ((((([.null, .null, .null, .int 0, .int 0, .int 0, .int 0] : List Value).set 0 (.ref (gz γ + (o + 1)))).set 1 (.ref (gz γ + (o + 8)))).set 2 (.ref (gz γ + (o + 23)))).set 3 (.int (0))) (o + 26)) rfl rfl in_X9 tyX9_ok nmX9 3 (by decide) wf_X9_32 dX9_init_39 rfl rfl rfl (Nat.le_add_right _ _) (fun H h => h.2.2.1) (by simp) (fun H H' h a b c => h.put a b c) ?_
  refine J.aload_n (μ := mX9_init) (pc := 42) dX9_init_42 rfl ?_
  refine J.iconst (μ := mX9_init) (pc := 43) (v := 0) dX9_init_43 (by decide) ?_
  refine J.putf (μ := mX9_init) (pc := 44) (T := TX9) (ci := 12) (ty0 := tyX9) (P' := Cn γ v H0 (o) 12 (((((([.null, .null, .null, .int 0, .int 0, .int 0, .int 0] : List Value).set 0 (.ref (gz γ + (o + 1)))).set 1 (.ref (gz γ + (o + 8)))).set 2 (.ref (gz γ + (o + 23)))).set 3 (.int (0))).set 4 (.int (0))) (o + 26)) rfl rfl in_X9 tyX9_ok nmX9 4 (by decide) wf_X9_36 dX9_init_44 rfl rfl rfl (Nat.le_add_right _ _) (fun H h => h.2.2.1) (by simp) (fun H H' h a b c => h.put a b c) ?_
  refine J.aload_n (μ := mX9_init) (pc := 47) dX9_init_47 rfl ?_
  refine J.iconst (μ := mX9_init) (pc := 48) (v := 0) dX9_init_48 (by decide) ?_
  refine J.putf (μ := mX9_init) (pc := 49) (T := TX9) (ci := 12) (ty0 := tyX9) (P' := Cn γ v H0 (o) 12 ((((((([.null, .null, .null, .int 0, .int 0, .int 0, .int 0] : List Value).set 0 (.ref (gz γ + (o + 1)))).set 1 (.ref (gz γ + (o + 8)))).set 2 (.ref (gz γ + (o + 23)))).set 3 (.int (0))).set 4 (.int (0))).set 5 (.int (0))) (o + 26)) rfl rfl in_X9 tyX9_ok nmX9 5 (by decide) wf_X9_39 dX9_init_49 rfl rfl rfl (Nat.le_add_right _ _) (fun H h => h.2.2.1) (by simp) (fun H H' h a b c => h.put a b c) ?_
  refine J.aload_n (μ := mX9_init) (pc := 52) dX9_init_52 rfl ?_
  refine J.iconst (μ := mX9_init) (pc := 53) (v := 0) dX9_init_53 (by decide) ?_
  refine J.putf (μ := mX9_init) (pc := 54) (T := TX9) (ci := 12) (ty0 := tyX9) (P' := Cn γ v H0 (o) 12 (((((((([.null, .null, .null, .int 0, .int 0, .int 0, .int 0] : List Value).set 0 (.ref (gz γ + (o + 1)))).set 1 (.ref (gz γ + (o + 8)))).set 2 (.ref (gz γ + (o + 23)))).set 3 (.int (0))).set 4 (.int (0))).set 5 (.int (0))).set 6 (.int (0))) (o + 26)) rfl rfl in_X9 tyX9_ok nmX9 6 (by decide) wf_X9_42 dX9_init_54 rfl rfl rfl (Nat.le_add_right _ _) (fun H h => h.2.2.1) (by simp) (fun H H' h a b c => h.put a b c) ?_
  exact J.vret (μ := mX9_init) (pc := 57) dX9_init_57 rfl (Nat.le_of_ble_eq_true rfl) (Nat.le_of_ble_eq_true rfl) (fun H h => ⟨rfl, by rw [hz o (by omega) (by omega)]; exact h⟩)

theorem c_X3 {γ : Gm} {v : Vs} {H0 : Heap} (hz : v 289 = fun _ => 0) : Ev γ mX3_init yX3_init 1 0 0 [.ref (gz γ + (289))] (Cn γ v H0 (289) 6 [.int 0] (290)) (fun w H => w = none ∧ Cn γ v H0 (289) 6 (fvs (gz γ) (v (289)) 0 [none]) (290) H) := by
  refine Ev.ofJ (by decide) rfl (fun _ => rfl) (Nat.le_of_ble_eq_true rfl) ?_
  refine J.aload_n (μ := mX3_init) (pc := 0) dX3_init_0 rfl ?_
  refine J.objI (μ := mX3_init) (pc := 1) rfl wm_X3_3 dX3_init_1 ⟨(Nat.le_of_ble_eq_true rfl), (Nat.le_of_ble_eq_true rfl)⟩ (Nat.le_of_ble_eq_true rfl) ?_
  refine J.aload_n (μ := mX3_init) (pc := 4) dX3_init_4 rfl ?_
  refine J.iconst (μ := mX3_init) (pc := 5) (v := 0) dX3_init_5 (by decide) ?_
  refine J.putf (μ := mX3_init) (pc := 6) (T := TX3) (ci := 6) (ty0 := tyX3) (P' := Cn γ v H0 (289) 6 (([.int 0] : List Value).set 0 (.int (0))) (290)) rfl rfl in_X3 tyX3_ok nmX3 0 (by decide) wf_X3_9 dX3_init_6 rfl rfl rfl (Nat.le_add_right _ _) (fun H h => h.2.2.1) (by simp) (fun H H' h a b c => h.put a b c) ?_
  exact J.vret (μ := mX3_init) (pc := 9) dX3_init_9 rfl (Nat.le_of_ble_eq_true rfl) (Nat.le_of_ble_eq_true rfl) (fun H h => ⟨rfl, by rw [hz]; exact h⟩)

theorem c_X2 {γ : Gm} {v : Vs} {H0 : Heap} (hz : Zr v 290 293) : Ev γ mX2_init yX2_init 2 2 401 [.ref (gz γ + (290))] (Cn γ v H0 (290) 5 [.null] (291)) (fun w H => w = none ∧ Cn γ v H0 (290) 5 (fvs (gz γ) (v (290)) 0 [some 291]) (293) H) := by
  refine Ev.ofJ (by decide) rfl (fun _ => rfl) (Nat.le_of_ble_eq_true rfl) ?_
  refine J.aload_n (μ := mX2_init) (pc := 0) dX2_init_0 rfl ?_
  refine J.objI (μ := mX2_init) (pc := 1) rfl wm_X2_3 dX2_init_1 ⟨(Nat.le_of_ble_eq_true rfl), (Nat.le_of_ble_eq_true rfl)⟩ (Nat.le_of_ble_eq_true rfl) ?_
  refine J.aload_n (μ := mX2_init) (pc := 4) dX2_init_4 rfl ?_
  refine J.nw (μ := mX2_init) (pc := 5) (T := TX7) (ci := 10) (fs0 := [.null]) (ty0 := tyX7) rfl rfl in_X7 tyX7_ok (fun j hj => by rcases (show j = 0 by omega) with rfl; rfl) wk_X2_9 wj_X7 wn_X7 dX2_init_5 (Nat.le_of_ble_eq_true rfl) (Nat.le_of_ble_eq_true rfl) (fun H5 hH5 => ?_)
  rw [hH5.1]
  refine J.of (P' := Cn γ v H5 (291) 10 [.null] (291 + 1)) (fun H h => hH5.new h.1 h.2.1 h.2.2) ?_
  refine J.dup (μ := mX2_init) (pc := 8) dX2_init_8 rfl ?_
  refine J.sipush (μ := mX2_init) (pc := 9) (v := 400) dX2_init_9 (by decide) ?_
  refine J.callC (μ := mX2_init) (pc := 12) (c_X7 (len := 400) ⟨rfl, rfl⟩ (hz _ (by omega) (by omega)) (by decide)) rfl wm_X2_11 mi_X7_init rfl rfl dX2_init_12 rfl rfl ⟨(Nat.le_of_ble_eq_true rfl), (Nat.le_of_ble_eq_true rfl)⟩ ⟨(Nat.le_of_ble_eq_true rfl), (Nat.le_of_ble_eq_true rfl)⟩ (Nat.le_of_ble_eq_true rfl) (fun w => J.and fun e => ?_)
  subst e
  refine J.of (P' := Cn γ v H0 (290) 5 [.null] (293)) (fun H h => hH5.back (by omega) h rfl rfl (by omega)) ?_
  refine J.putF (μ := mX2_init) (pc := 15) (T := TX2) (ci := 5) (ty0 := tyX2) (P' := Cn γ v H0 (290) 5 (([.null] : List Value).set 0 (.ref (gz γ + (291)))) (293)) rfl rfl rfl in_X2 tyX2_ok nmX2 0 (by decide) wf_X2_14 dX2_init_15 rfl rfl rfl rfl (Nat.le_add_right _ _) (fun H h => h.2.2.1) (by simp) (fun H H' h a b c => h.put a b c) ?_
  exact J.vret (μ := mX2_init) (pc := 18) dX2_init_18 rfl (Nat.le_of_ble_eq_true rfl) (Nat.le_of_ble_eq_true rfl) (fun H h => ⟨rfl, by rw [hz 290 (by omega) (by omega)]; exact h⟩)

theorem c_X6 {γ : Gm} {v : Vs} {H0 : Heap} (hz : Zr v 293 302) : Ev γ mX6_init yX6_init 2 8 284 [.ref (gz γ + (293))] (Cn γ v H0 (293) 9 [.null, .null, .null, .null, .int 0, .int 0] (294)) (fun w H => w = none ∧ Cn γ v H0 (293) 9 (fvs (gz γ) (v (293)) 0 [some 294, some 296, some 298, some 300, none, none]) (302) H) := by
  refine Ev.ofJ (by decide) rfl (fun _ => rfl) (Nat.le_of_ble_eq_true rfl) ?_
  refine J.aload_n (μ := mX6_init) (pc := 0) dX6_init_0 rfl ?_
  refine J.objI (μ := mX6_init) (pc := 1) rfl wm_X6_5 dX6_init_1 ⟨(Nat.le_of_ble_eq_true rfl), (Nat.le_of_ble_eq_true rfl)⟩ (Nat.le_of_ble_eq_true rfl) ?_
  refine J.aload_n (μ := mX6_init) (pc := 4) dX6_init_4 rfl ?_
  refine J.nw (μ := mX6_init) (pc := 5) (T := TX7) (ci := 10) (fs0 := [.null]) (ty0 := tyX7) rfl rfl in_X7 tyX7_ok (fun j hj => by rcases (show j = 0 by omega) with rfl; rfl) wk_X6_11 wj_X7 wn_X7 dX6_init_5 (Nat.le_of_ble_eq_true rfl) (Nat.le_of_ble_eq_true rfl) (fun H5 hH5 => ?_)
  rw [hH5.1]
  refine J.of (P' := Cn γ v H5 (294) 10 [.null] (294 + 1)) (fun H h => hH5.new h.1 h.2.1 h.2.2) ?_
  refine J.dup (μ := mX6_init) (pc := 8) dX6_init_8 rfl ?_
  refine J.bipush (μ := mX6_init) (pc := 9) (v := 8) dX6_init_9 (by decide) ?_
  refine J.callC (μ := mX6_init) (pc := 11) (c_X7 (len := 8) ⟨rfl, rfl⟩ (hz _ (by omega) (by omega)) (by decide)) rfl wm_X6_13 mi_X7_init rfl rfl dX6_init_11 rfl rfl ⟨(Nat.le_of_ble_eq_true rfl), (Nat.le_of_ble_eq_true rfl)⟩ ⟨(Nat.le_of_ble_eq_true rfl), (Nat.le_of_ble_eq_true rfl)⟩ (Nat.le_of_ble_eq_true rfl) (fun w => J.and fun e => ?_)
  subst e
  refine J.of (P' := Cn γ v H0 (293) 9 [.null, .null, .null, .null, .int 0, .int 0] (296)) (fun H h => hH5.back (by omega) h rfl rfl (by omega)) ?_
  refine J.putF (μ := mX6_init) (pc := 14) (T := TX6) (ci := 9) (ty0 := tyX6) (P' := Cn γ v H0 (293) 9 (([.null, .null, .null, .null, .int 0, .int 0] : List Value).set 0 (.ref (gz γ + (294)))) (296)) rfl rfl rfl in_X6 tyX6_ok nmX6 0 (by decide) wf_X6_16 dX6_init_14 rfl rfl rfl rfl (Nat.le_add_right _ _) (fun H h => h.2.2.1) (by simp) (fun H H' h a b c => h.put a b c) ?_
  refine J.aload_n (μ := mX6_init) (pc := 17) dX6_init_17 rfl ?_
  refine J.nw (μ := mX6_init) (pc := 18) (T := TX7) (ci := 10) (fs0 := [.null]) (ty0 := tyX7) rfl rfl in_X7 tyX7_ok (fun j hj => by rcases (show j = 0 by omega) with rfl; rfl) wk_X6_11 wj_X7 wn_X7 dX6_init_18 (Nat.le_of_ble_eq_true rfl) (Nat.le_of_ble_eq_true rfl) (fun H18 hH18 => ?_)
  rw [hH18.1]
  refine J.of (P' := Cn γ v H18 (296) 10 [.null] (296 + 1)) (fun H h => hH18.new h.1 h.2.1 h.2.2) ?_
  refine J.dup (μ := mX6_init) (pc := 21) dX6_init_21 rfl ?_
  refine J.bipush (μ := mX6_init) (pc := 22) (v := 8) dX6_init_22 (by decide) ?_
  refine J.callC (μ := mX6_init) (pc := 24) (c_X7 (len := 8) ⟨rfl, rfl⟩ (hz _ (by omega) (by omega)) (by decide)) rfl wm_X6_13 mi_X7_init rfl rfl dX6_init_24 rfl rfl ⟨(Nat.le_of_ble_eq_true rfl), (Nat.le_of_ble_eq_true rfl)⟩ ⟨(Nat.le_of_ble_eq_true rfl), (Nat.le_of_ble_eq_true rfl)⟩ (Nat.le_of_ble_eq_true rfl) (fun w => J.and fun e => ?_)
  subst e
  refine J.of (P' := Cn γ v H0 (293) 9 (([.null, .null, .null, .null, .int 0, .int 0] : List Value).set 0 (.ref (gz γ + (294)))) (298)) (fun H h => hH18.back (by omega) h rfl rfl (by omega)) ?_
  refine J.putF (μ := mX6_init) (pc := 27) (T := TX6) (ci := 9) (ty0 := tyX6) (P' := Cn γ v H0 (293) 9 ((([.null, .null, .null, .null, .int 0, .int 0] : List Value).set 0 (.ref (gz γ + (294)))).set 1 (.ref (gz γ + (296)))) (298)) rfl rfl rfl in_X6 tyX6_ok nmX6 1 (by decide) wf_X6_20 dX6_init_27 rfl rfl rfl rfl (Nat.le_add_right _ _) (fun H h => h.2.2.1) (by simp) (fun H H' h a b c => h.put a b c) ?_
  refine J.aload_n (μ := mX6_init) (pc := 30) dX6_init_30 rfl ?_
  refine J.nw (μ := mX6_init) (pc := 31) (T := TX7) (ci := 10) (fs0 := [.null]) (ty0 := tyX7) rfl rfl in_X7 tyX7_ok (fun j hj => by rcases (show j = 0 by omega) with rfl; rfl) wk_X6_11 wj_X7 wn_X7 dX6_init_31 (Nat.le_of_ble_eq_true rfl) (Nat.le_of_ble_eq_true rfl) (fun H31 hH31 => ?_)
  rw [hH31.1]
  refine J.of (P' := Cn γ v H31 (298) 10 [.null] (298 + 1)) (fun H h => hH31.new h.1 h.2.1 h.2.2) ?_
  refine J.dup (μ := mX6_init) (pc := 34) dX6_init_34 rfl ?_
  refine J.bipush (μ := mX6_init) (pc := 35) (v := 8) dX6_init_35 (by decide) ?_
  refine J.callC (μ := mX6_init) (pc := 37) (c_X7 (len := 8) ⟨rfl, rfl⟩ (hz _ (by omega) (by omega)) (by decide)) rfl wm_X6_13 mi_X7_init rfl rfl dX6_init_37 rfl rfl ⟨(Nat.le_of_ble_eq_true rfl), (Nat.le_of_ble_eq_true rfl)⟩ ⟨(Nat.le_of_ble_eq_true rfl), (Nat.le_of_ble_eq_true rfl)⟩ (Nat.le_of_ble_eq_true rfl) (fun w => J.and fun e => ?_)
  subst e
  refine J.of (P' := Cn γ v H0 (293) 9 ((([.null, .null, .null, .null, .int 0, .int 0] : List Value).set 0 (.ref (gz γ + (294)))).set 1 (.ref (gz γ + (296)))) (300)) (fun H h => hH31.back (by omega) h rfl rfl (by omega)) ?_
  refine J.putF (μ := mX6_init) (pc := 40) (T := TX6) (ci := 9) (ty0 := tyX6) (P' := Cn γ v H0 (293) 9 (((([.null, .null, .null, .null, .int 0, .int 0] : List Value).set 0 (.ref (gz γ + (294)))).set 1 (.ref (gz γ + (296)))).set 2 (.ref (gz γ + (298)))) (300)) rfl rfl rfl in_X6 tyX6_ok nmX6 2 (by decide) wf_X6_23 dX6_init_40 rfl rfl rfl rfl (Nat.le_add_right _ _) (fun H h => h.2.2.1) (by simp) (fun H H' h a b c => h.put a b c) ?_
  refine J.aload_n (μ := mX6_init) (pc := 43) dX6_init_43 rfl ?_
  refine J.nw (μ := mX6_init) (pc := 44) (T := TX7) (ci := 10) (fs0 := [.null]) (ty0 := tyX7) rfl rfl in_X7 tyX7_ok (fun j hj => by rcases (show j = 0 by omega) with rfl; rfl) wk_X6_11 wj_X7 wn_X7 dX6_init_44 (Nat.le_of_ble_eq_true rfl) (Nat.le_of_ble_eq_true rfl) (fun H44 hH44 => ?_)
  rw [hH44.1]
  refine J.of (P' := Cn γ v H44 (300) 10 [.null] (300 + 1)) (fun H h => hH44.new h.1 h.2.1 h.2.2) ?_
  refine J.dup (μ := mX6_init) (pc := 47) dX6_init_47 rfl ?_
  refine J.sipush (μ := mX6_init) (pc := 48) (v := 256) dX6_init_48 (by decide) ?_
  refine J.callC (μ := mX6_init) (pc := 51) (c_X7 (len := 256) ⟨rfl, rfl⟩ (hz _ (by omega) (by omega)) (by decide)) rfl wm_X6_13 mi_X7_init rfl rfl dX6_init_51 rfl rfl ⟨(Nat.le_of_ble_eq_true rfl), (Nat.le_of_ble_eq_true rfl)⟩ ⟨(Nat.le_of_ble_eq_true rfl), (Nat.le_of_ble_eq_true rfl)⟩ (Nat.le_of_ble_eq_true rfl) (fun w => J.and fun e => ?_)
  subst e
  refine J.of (P' := Cn γ v H0 (293) 9 (((([.null, .null, .null, .null, .int 0, .int 0] : List Value).set 0 (.ref (gz γ + (294)))).set 1 (.ref (gz γ + (296)))).set 2 (.ref (gz γ + (298)))) (302)) (fun H h => hH44.back (by omega) h rfl rfl (by omega)) ?_
  refine J.putF (μ := mX6_init) (pc := 54) (T := TX6) (ci := 9) (ty0 := tyX6) (P' := Cn γ v H0 (293) 9 ((((([.null, .null, .null, .null, .int 0, .int 0] : List Value).set 0 (.ref (gz γ + (294)))).set 1 (.ref (gz γ + (296)))).set 2 (.ref (gz γ + (298)))).set 3 (.ref (gz γ + (300)))) (302)) rfl rfl rfl in_X6 tyX6_ok nmX6 3 (by decide) wf_X6_26 dX6_init_54 rfl rfl rfl rfl (Nat.le_add_right _ _) (fun H h => h.2.2.1) (by simp) (fun H H' h a b c => h.put a b c) ?_
  refine J.aload_n (μ := mX6_init) (pc := 57) dX6_init_57 rfl ?_
  refine J.iconst (μ := mX6_init) (pc := 58) (v := 0) dX6_init_58 (by decide) ?_
  refine J.putf (μ := mX6_init) (pc := 59) (T := TX6) (ci := 9) (ty0 := tyX6) (P' := Cn γ v H0 (293) 9 (((((([.null, .null, .null, .null, .int 0, .int 0] : List Value).set 0 (.ref (gz γ + (294)))).set 1 (.ref (gz γ + (296)))).set 2 (.ref (gz γ + (298)))).set 3 (.ref (gz γ + (300)))).set 4 (.int (0))) (302)) rfl rfl in_X6 tyX6_ok nmX6 4 (by decide) wf_X6_29 dX6_init_59 rfl rfl rfl (Nat.le_add_right _ _) (fun H h => h.2.2.1) (by simp) (fun H H' h a b c => h.put a b c) ?_
  refine J.aload_n (μ := mX6_init) (pc := 62) dX6_init_62 rfl ?_
  refine J.iconst (μ := mX6_init) (pc := 63) (v := 0) dX6_init_63 (by decide) ?_
  refine J.putf (μ := mX6_init) (pc := 64) (T := TX6) (ci := 9) (ty0 := tyX6) (P' := Cn γ v H0 (293) 9 ((((((([.null, .null, .null, .null, .int 0, .int 0] : List Value).set 0 (.ref (gz γ + (294)))).set 1 (.ref (gz γ + (296)))).set 2 (.ref (gz γ + (298)))).set 3 (.ref (gz γ + (300)))).set 4 (.int (0))).set 5 (.int (0))) (302)) rfl rfl in_X6 tyX6_ok nmX6 5 (by decide) wf_X6_33 dX6_init_64 rfl rfl rfl (Nat.le_add_right _ _) (fun H h => h.2.2.1) (by simp) (fun H H' h a b c => h.put a b c) ?_
  exact J.vret (μ := mX6_init) (pc := 67) dX6_init_67 rfl (Nat.le_of_ble_eq_true rfl) (Nat.le_of_ble_eq_true rfl) (fun H h => ⟨rfl, by rw [hz 293 (by omega) (by omega)]; exact h⟩)

theorem c_X10 {γ : Gm} {v : Vs} {H0 : Heap} (hz : Zr v 303 307) (h302 : v 302 = fun j => if j = 3 ∨ j = 4 then -1 else 0) : Ev γ mX10_init yX10_init 2 4 66 [.ref (gz γ + (302))] (Cn γ v H0 (302) 13 [.null, .null, .int 0, .int 0, .int 0, .int 0] (303)) (fun w H => w = none ∧ Cn γ v H0 (302) 13 (fvs (gz γ) (v (302)) 0 [some 303, some 305, none, none, none, none]) (307) H) := by
  refine Ev.ofJ (by decide) rfl (fun _ => rfl) (Nat.le_of_ble_eq_true rfl) ?_
  refine J.aload_n (μ := mX10_init) (pc := 0) dX10_init_0 rfl ?_
  refine J.objI (μ := mX10_init) (pc := 1) rfl wm_X10_3 dX10_init_1 ⟨(Nat.le_of_ble_eq_true rfl), (Nat.le_of_ble_eq_true rfl)⟩ (Nat.le_of_ble_eq_true rfl) ?_
  refine J.aload_n (μ := mX10_init) (pc := 4) dX10_init_4 rfl ?_
  refine J.nw (μ := mX10_init) (pc := 5) (T := TX7) (ci := 10) (fs0 := [.null]) (ty0 := tyX7) rfl rfl in_X7 tyX7_ok (fun j hj => by rcases (show j = 0 by omega) with rfl; rfl) wk_X10_9 wj_X7 wn_X7 dX10_init_5 (Nat.le_of_ble_eq_true rfl) (Nat.le_of_ble_eq_true rfl) (fun H5 hH5 => ?_)
  rw [hH5.1]
  refine J.of (P' := Cn γ v H5 (303) 10 [.null] (303 + 1)) (fun H h => hH5.new h.1 h.2.1 h.2.2) ?_
  refine J.dup (μ := mX10_init) (pc := 8) dX10_init_8 rfl ?_
  refine J.bipush (μ := mX10_init) (pc := 9) (v := 60) dX10_init_9 (by decide) ?_
  refine J.callC (μ := mX10_init) (pc := 11) (c_X7 (len := 60) ⟨rfl, rfl⟩ (hz _ (by omega) (by omega)) (by decide)) rfl wm_X10_11 mi_X7_init rfl rfl dX10_init_11 rfl rfl ⟨(Nat.le_of_ble_eq_true rfl), (Nat.le_of_ble_eq_true rfl)⟩ ⟨(Nat.le_of_ble_eq_true rfl), (Nat.le_of_ble_eq_true rfl)⟩ (Nat.le_of_ble_eq_true rfl) (fun w => J.and fun e => ?_)
  subst e
  refine J.of (P' := Cn γ v H0 (302) 13 [.null, .null, .int 0, .int 0, .int 0, .int 0] (305)) (fun H h => hH5.back (by omega) h rfl rfl (by omega)) ?_
  refine J.putF (μ := mX10_init) (pc := 14) (T := TX10) (ci := 13) (ty0 := tyX10) (P' := Cn γ v H0 (302) 13 (([.null, .null, .int 0, .int 0, .int 0, .int 0] : List Value).set 0 (.ref (gz γ + (303)))) (305)) rfl rfl rfl in_X10 tyX10_ok nmX10 0 (by decide) wf_X10_14 dX10_init_14 rfl rfl rfl rfl (Nat.le_add_right _ _) (fun H h => h.2.2.1) (by simp) (fun H H' h a b c => h.put a b c) ?_
  refine J.aload_n (μ := mX10_init) (pc := 17) dX10_init_17 rfl ?_
  refine J.nw (μ := mX10_init) (pc := 18) (T := TX7) (ci := 10) (fs0 := [.null]) (ty0 := tyX7) rfl rfl in_X7 tyX7_ok (fun j hj => by rcases (show j = 0 by omega) with rfl; rfl) wk_X10_9 wj_X7 wn_X7 dX10_init_18 (Nat.le_of_ble_eq_true rfl) (Nat.le_of_ble_eq_true rfl) (fun H18 hH18 => ?_)
  rw [hH18.1]
  refine J.of (P' := Cn γ v H18 (305) 10 [.null] (305 + 1)) (fun H h => hH18.new h.1 h.2.1 h.2.2) ?_
  refine J.dup (μ := mX10_init) (pc := 21) dX10_init_21 rfl ?_
  refine J.iconst (μ := mX10_init) (pc := 22) (v := 4) dX10_init_22 (by decide) ?_
  refine J.callC (μ := mX10_init) (pc := 23) (c_X7 (len := 4) ⟨rfl, rfl⟩ (hz _ (by omega) (by omega)) (by decide)) rfl wm_X10_11 mi_X7_init rfl rfl dX10_init_23 rfl rfl ⟨(Nat.le_of_ble_eq_true rfl), (Nat.le_of_ble_eq_true rfl)⟩ ⟨(Nat.le_of_ble_eq_true rfl), (Nat.le_of_ble_eq_true rfl)⟩ (Nat.le_of_ble_eq_true rfl) (fun w => J.and fun e => ?_)
  subst e
  refine J.of (P' := Cn γ v H0 (302) 13 (([.null, .null, .int 0, .int 0, .int 0, .int 0] : List Value).set 0 (.ref (gz γ + (303)))) (307)) (fun H h => hH18.back (by omega) h rfl rfl (by omega)) ?_
  refine J.putF (μ := mX10_init) (pc := 26) (T := TX10) (ci := 13) (ty0 := tyX10) (P' := Cn γ v H0 (302) 13 ((([.null, .null, .int 0, .int 0, .int 0, .int 0] : List Value).set 0 (.ref (gz γ + (303)))).set 1 (.ref (gz γ + (305)))) (307)) rfl rfl rfl in_X10 tyX10_ok nmX10 1 (by decide) wf_X10_20 dX10_init_26 rfl rfl rfl rfl (Nat.le_add_right _ _) (fun H h => h.2.2.1) (by simp) (fun H H' h a b c => h.put a b c) ?_
  refine J.aload_n (μ := mX10_init) (pc := 29) dX10_init_29 rfl ?_
  refine J.iconst (μ := mX10_init) (pc := 30) (v := 0) dX10_init_30 (by decide) ?_
  refine J.putf (μ := mX10_init) (pc := 31) (T := TX10) (ci := 13) (ty0 := tyX10) (P' := Cn γ v H0 (302) 13 (((([.null, .null, .int 0, .int 0, .int 0, .int 0] : List Value).set 0 (.ref (gz γ + (303)))).set 1 (.ref (gz γ + (305)))).set 2 (.int (0))) (307)) rfl rfl in_X10 tyX10_ok nmX10 2 (by decide) wf_X10_23 dX10_init_31 rfl rfl rfl (Nat.le_add_right _ _) (fun H h => h.2.2.1) (by simp) (fun H H' h a b c => h.put a b c) ?_
  refine J.aload_n (μ := mX10_init) (pc := 34) dX10_init_34 rfl ?_
  refine J.iconst (μ := mX10_init) (pc := 35) (v := -1) dX10_init_35 (by decide) ?_
  refine J.putf (μ := mX10_init) (pc := 36) (T := TX10) (ci := 13) (ty0 := tyX10) (P' := Cn γ v H0 (302) 13 ((((([.null, .null, .int 0, .int 0, .int 0, .int 0] : List Value).set 0 (.ref (gz γ + (303)))).set 1 (.ref (gz γ + (305)))).set 2 (.int (0))).set 3 (.int (-1))) (307)) rfl rfl in_X10 tyX10_ok nmX10 3 (by decide) wf_X10_27 dX10_init_36 rfl rfl rfl (Nat.le_add_right _ _) (fun H h => h.2.2.1) (by simp) (fun H H' h a b c => h.put a b c) ?_
  refine J.aload_n (μ := mX10_init) (pc := 39) dX10_init_39 rfl ?_
  refine J.iconst (μ := mX10_init) (pc := 40) (v := -1) dX10_init_40 (by decide) ?_
  refine J.putf (μ := mX10_init) (pc := 41) (T := TX10) (ci := 13) (ty0 := tyX10) (P' := Cn γ v H0 (302) 13 (((((([.null, .null, .int 0, .int 0, .int 0, .int 0] : List Value).set 0 (.ref (gz γ + (303)))).set 1 (.ref (gz γ + (305)))).set 2 (.int (0))).set 3 (.int (-1))).set 4 (.int (-1))) (307)) rfl rfl in_X10 tyX10_ok nmX10 4 (by decide) wf_X10_30 dX10_init_41 rfl rfl rfl (Nat.le_add_right _ _) (fun H h => h.2.2.1) (by simp) (fun H H' h a b c => h.put a b c) ?_
  refine J.aload_n (μ := mX10_init) (pc := 44) dX10_init_44 rfl ?_
  refine J.iconst (μ := mX10_init) (pc := 45) (v := 0) dX10_init_45 (by decide) ?_
  refine J.putf (μ := mX10_init) (pc := 46) (T := TX10) (ci := 13) (ty0 := tyX10) (P' := Cn γ v H0 (302) 13 ((((((([.null, .null, .int 0, .int 0, .int 0, .int 0] : List Value).set 0 (.ref (gz γ + (303)))).set 1 (.ref (gz γ + (305)))).set 2 (.int (0))).set 3 (.int (-1))).set 4 (.int (-1))).set 5 (.int (0))) (307)) rfl rfl in_X10 tyX10_ok nmX10 5 (by decide) wf_X10_33 dX10_init_46 rfl rfl rfl (Nat.le_add_right _ _) (fun H h => h.2.2.1) (by simp) (fun H H' h a b c => h.put a b c) ?_
  exact J.vret (μ := mX10_init) (pc := 49) dX10_init_49 rfl (Nat.le_of_ble_eq_true rfl) (Nat.le_of_ble_eq_true rfl) (fun H h => ⟨rfl, by rw [h302]; exact h⟩)
