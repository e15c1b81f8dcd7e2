/-! the law: areLots -/
section LZ
variable {T N M H : Nat} {u : Vs}
theorem sto_8 (h : Inv 0 T N M H (iv u 1)) : cn (fun i => decide (0 ≤ gPl u 1 (nI i))) N ≤ 8 := by
  have h20 := h.1.1.2
  have e := cn_Z (fun i => decide (0 ≤ gPl u 1 (nI i))) N
  have e2 : su (fun i => if decide (0 ≤ gPl u 1 (nI i)) = true then 1 else 0) N = su (isS (iv u 1)) N := su_congr (fun i hi => by
    have p1 : 0 ≤ gPl u 1 (nI i) ↔ 0 ≤ iv u 1 18 i := by rw [t_le, zPl (by omega), t_0]
    show (if decide (0 ≤ gPl u 1 (nI i)) = true then (1 : Int) else 0) = if 0 ≤ iv u 1 18 i then 1 else 0
    by_cases q : 0 ≤ iv u 1 18 i
    · rw [if_pos q, if_pos (decide_eq_true (p1.mpr q))]
    · rw [if_neg q, if_neg (fun z => q (p1.mp (of_decide_eq_true z)))])
  have h8 := h.2.2.2.2.1
  rw [e2] at e
  omega
theorem sto_S (h : Inv 0 T N M H (iv u 1)) : ∃ S : Nat, sm (fun i => decide (0 ≤ gPl u 1 (nI i))) (fun i => gVo u 1 (nI i)) N = nI S ∧ S ≤ 320 := by
  have h20 := h.1.1.2
  have h8 := h.2.2.2.2.1
  have a1 := sm_Z (p := fun i => decide (0 ≤ gPl u 1 (nI i))) (f := fun i => gVo u 1 (nI i)) (B := 40) (n := N) (fun i hi _ => by
    rw [zVo (by omega)]; exact (h.lot hi).2.2.2.1.vo) (by omega)
  have key : ∀ m, m ≤ N → 0 ≤ su (fun i => if decide (0 ≤ gPl u 1 (nI i)) = true then (gVo u 1 (nI i)).toInt else 0) m ∧ su (fun i => if decide (0 ≤ gPl u 1 (nI i)) = true then (gVo u 1 (nI i)).toInt else 0) m ≤ 40 * su (isS (iv u 1)) m := by
    intro m
    induction m with
    | zero => intro _; exact ⟨Int.le_refl _, Int.le_refl _⟩
    | succ m ih =>
      intro hm
      have i1 := ih (by omega)
      have hv := (h.lot (show m < N by omega)).2.2.2.1.vo
      have e1 : su (fun i => if decide (0 ≤ gPl u 1 (nI i)) = true then (gVo u 1 (nI i)).toInt else 0) (m + 1) = su (fun i => if decide (0 ≤ gPl u 1 (nI i)) = true then (gVo u 1 (nI i)).toInt else 0) m + (if decide (0 ≤ gPl u 1 (nI m)) = true then (gVo u 1 (nI m)).toInt else 0) := rfl
      have e2 : su (isS (iv u 1)) (m + 1) = su (isS (iv u 1)) m + (if 0 ≤ iv u 1 18 m then 1 else 0) := rfl
      have p1 : 0 ≤ gPl u 1 (nI m) ↔ 0 ≤ iv u 1 18 m := by rw [t_le, zPl (by omega), t_0]
      by_cases q : 0 ≤ iv u 1 18 m
      · rw [if_pos (decide_eq_true (p1.mpr q)), zVo (by omega)] at e1
        rw [if_pos q] at e2
        omega
      · rw [if_neg (fun z => q (p1.mp (of_decide_eq_true z)))] at e1
        rw [if_neg q] at e2
        omega
  have k := key N (Nat.le_refl N)
  refine ⟨(sm (fun i => decide (0 ≤ gPl u 1 (nI i))) (fun i => gVo u 1 (nI i)) N).toInt.toNat, ?_, ?_⟩
  · rw [t_eq, t_nI (by omega)]
    omega
  · omega
theorem old_8 (h : Inv 0 T N M H (iv u 1)) : cn (fun i => decide (0 ≤ gPl u 1 (nI i) ∧ gEp u 1 (nI i) < u 1 3)) N ≤ 8 :=
  Nat.le_trans (cn_le_cn (q := fun i => decide (0 ≤ gPl u 1 (nI i))) (fun i _ hi => by
    rw [decide_eq_true_iff] at hi ⊢; exact hi.1)) (sto_8 h)
theorem exp_law (h : Inv 0 T N M H (iv u 1)) (hT : T ≤ 1000000000) {a b : Nat} (ha : a < N) (hb : b < N) (hab : expR u a b = true) : 0 < gEp u 1 (nI b) - gEp u 1 (nI a) ∨ (gEp u 1 (nI b) - gEp u 1 (nI a) = 0 ∧ nI a < nI b) := by
  have h20 := h.1.1.2
  have ea := (h.lot ha).2.2.1
  have eb := (h.lot hb).2.2.1
  rw [exp_Z (by omega) (by omega), zEp (by omega), zEp (by omega)] at hab
  have e : (gEp u 1 (nI b) - gEp u 1 (nI a)).toInt = iv u 1 16 b - iv u 1 16 a := by
    rw [t_sub (by rw [zEp (by omega), zEp (by omega)]; omega) (by rw [zEp (by omega), zEp (by omega)]; omega), zEp (by omega), zEp (by omega)]
  rw [t_lt, t_eq (y := 0), t_lt, e, t_0, t_nI (n := a) (by omega), t_nI (n := b) (by omega)]
  omega
end LZ
theorem al_4 {γ : Gm} {T N M H : Nat} {v u : Vs} (h : Inv 0 T N M H (iv u 1)) (hq : Sc v u) {S0 : Int32} {mn od : Nat} (e1 : S0 = sm (fun i => decide (0 ≤ gPl u 1 (nI i))) (fun i => gVo u 1 (nI i)) N) (e2 : mn = cn (fun i => decide (0 ≤ gPl u 1 (nI i))) N) (e3 : od = cn (fun i => decide (0 ≤ gPl u 1 (nI i) ∧ gEp u 1 (nI i) < u 1 3)) N) {k n : Nat} (hk : k ≤ 57) (hn : n ≤ 342) {x6 x7 x8 x9 : Option Value} : J γ mL_areLots (rmD 34 60 360) (fEv γ 60 360 (fun r K => r = some (.int 1) ∧ ∃ u, Sc v u ∧ Rp γ u K)) k n 445 [some (.ref (gz γ + 0)), some (.int (S0)), some (.int (nI mn)), some (.int (nI od)), some (.int (nI N)), some (.int (1)), x6, x7, x8, x9] [] (Rp γ u) := by
  have h20 := h.1.1.2
  obtain ⟨S, hS, h320⟩ := sto_S h
  have hc8 := sto_8 h
  have hx8 := old_8 h
  subst e1 e2 e3
  have fin : ∀ x6 x7 x8 x9 : Option Value, J γ mL_areLots (rmD 34 60 360) (fEv γ 60 360 (fun r K => r = some (.int 1) ∧ ∃ u, Sc v u ∧ Rp γ u K)) (k + 1 + 1 + 1) (n + 6 + 6 + 6) 514 [some (.ref (gz γ + 0)), some (.int (sm (fun i => decide (0 ≤ gPl u 1 (nI i))) (fun i => gVo u 1 (nI i)) N)), some (.int (nI (cn (fun i => decide (0 ≤ gPl u 1 (nI i))) N))), some (.int (nI (cn (fun i => decide (0 ≤ gPl u 1 (nI i) ∧ gEp u 1 (nI i) < u 1 3)) N))), some (.int (nI N)), some (.int (1)), x6, x7, x8, x9] [] (Rp γ u) := by
    intro x6 x7 x8 x9
    refine J.iconst (μ := mL_areLots) (pc := 514) (v := 1) dL_areLots_514 (by decide) ?_
    refine J.goto (μ := mL_areLots) (pc := 515) 519 dL_areLots_515 (by decide) ?_
    exact J.zret (μ := mL_areLots) (pc := 519) dL_areLots_519 rfl rfl (by omega) (by omega) (fun K k => ⟨rfl, u, hq, k⟩)
  have fin2 : ∀ x6 x7 x8 x9 : Option Value, J γ mL_areLots (rmD 34 60 360) (fEv γ 60 360 (fun r K => r = some (.int 1) ∧ ∃ u, Sc v u ∧ Rp γ u K)) (k + 1 + 1) (n + 6 + 6) 492 [some (.ref (gz γ + 0)), some (.int (sm (fun i => decide (0 ≤ gPl u 1 (nI i))) (fun i => gVo u 1 (nI i)) N)), some (.int (nI (cn (fun i => decide (0 ≤ gPl u 1 (nI i))) N))), some (.int (nI (cn (fun i => decide (0 ≤ gPl u 1 (nI i) ∧ gEp u 1 (nI i) < u 1 3)) N))), some (.int (nI N)), some (.int (1)), x6, x7, x8, x9] [] (Rp γ u) := by
    intro x6 x7 x8 x9
    refine J.aload_n (μ := mL_areLots) (pc := 492) dL_areLots_492 rfl ?_
    refine J.callSW (μ := mL_areLots) (pc := 493) (l_expiredShare h.vN h20 hx8 hc8) rfl wm_L_275 mi_L_expiredShare (fun h => by cases h) dL_areLots_493 rfl rfl ⟨(Nat.le_of_ble_eq_true rfl), (Nat.le_of_ble_eq_true rfl)⟩ ⟨(by show _ ≤ 60; omega), (by show _ ≤ 360; omega)⟩ (Nat.le_of_ble_eq_true rfl) (fun w => J.and (fun e => ?_))
    subst e
    by_cases hc : cn (fun i => decide (0 ≤ gPl u 1 (nI i))) N = 0
    · rw [if_pos hc]
      refine J.iload_n (μ := mL_areLots) (pc := 496) dL_areLots_496 rfl ?_
      refine J.if_ne (μ := mL_areLots) (pc := 497) 505 dL_areLots_497 (by decide) (fun h5 => ?_) (fun h5 => ?_)
      · exact absurd (by rw [hc]; rfl) h5
      · refine J.ldcf (μ := mL_areLots) (pc := 500) rfl wo_L_87 dL_areLots_500 ?_
        refine J.goto (μ := mL_areLots) (pc := 502) 510 dL_areLots_502 (by decide) ?_
        refine J.fcmp (μ := mL_areLots) (pc := 510) dL_areLots_510 ?_
        rw [okM.2]
        refine J.if_ne (μ := mL_areLots) (pc := 511) 518 dL_areLots_511 (by decide) (fun h6 => ?_) (fun h6 => ?_)
        · exact absurd rfl h6
        · exact fin _ _ _ _
    · rw [if_neg hc]
      have ok := okF_n hx8 hc hc8
      refine J.iload_n (μ := mL_areLots) (pc := 496) dL_areLots_496 rfl ?_
      refine J.if_ne (μ := mL_areLots) (pc := 497) 505 dL_areLots_497 (by decide) (fun h5 => ?_) (fun h5 => ?_)
      · refine J.iload_n (μ := mL_areLots) (pc := 505) dL_areLots_505 rfl ?_
        refine J.i2f (μ := mL_areLots) (pc := 506) dL_areLots_506 ?_
        refine J.iload_n (μ := mL_areLots) (pc := 507) dL_areLots_507 rfl ?_
        refine J.i2f (μ := mL_areLots) (pc := 508) dL_areLots_508 ?_
        refine J.fdiv (μ := mL_areLots) (pc := 509) dL_areLots_509 ok.1 ?_
        refine J.fcmp (μ := mL_areLots) (pc := 510) dL_areLots_510 ?_
        rw [ok.2]
        refine J.if_ne (μ := mL_areLots) (pc := 511) 518 dL_areLots_511 (by decide) (fun h6 => ?_) (fun h6 => ?_)
        · exact absurd rfl h6
        · exact fin _ _ _ _
      · exfalso
        have h5 : nI (cn (fun i => decide (0 ≤ gPl u 1 (nI i))) N) = 0 := by first | exact h5 | exact Classical.not_not.mp h5
        rw [t_eq, t_nI (by omega), t_0] at h5
        omega
  refine J.iload (μ := mL_areLots) (pc := 445) dL_areLots_445 rfl ?_
  refine J.if_eq (μ := mL_areLots) (pc := 447) 518 dL_areLots_447 (by decide) (fun h1 => ?_) (fun h1 => ?_)
  · exact absurd h1 (by decide)
  · refine J.aload_n (μ := mL_areLots) (pc := 450) dL_areLots_450 rfl ?_
    refine J.cV (μ := mL_areLots) (pc := 451) (s_X11_stored h.vN h20) rfl wm_L_237 mi_X11_stored rfl dL_areLots_451 (Rp.isa (T := TX11) rfl sh0) rfl rfl ⟨(Nat.le_of_ble_eq_true rfl), (Nat.le_of_ble_eq_true rfl)⟩ ⟨(by show _ ≤ 60; omega), (by show _ ≤ 360; omega)⟩ (Nat.le_of_ble_eq_true rfl) ?_
    refine J.iload_n (μ := mL_areLots) (pc := 454) dL_areLots_454 rfl ?_
    refine J.icmp_ne (μ := mL_areLots) (pc := 455) 518 dL_areLots_455 (by decide) (fun h2 => ?_) (fun h2 => ?_)
    · exact absurd rfl h2
    · refine J.aload_n (μ := mL_areLots) (pc := 458) dL_areLots_458 rfl ?_
      refine J.iload_n (μ := mL_areLots) (pc := 459) dL_areLots_459 rfl ?_
      refine J.callSW (μ := mL_areLots) (pc := 460) (l_lotByExpiry h.vN h20 (nI (cn (fun i => decide (0 ≤ gPl u 1 (nI i))) N))) rfl wm_L_270 mi_L_lotByExpiry (fun h => by cases h) dL_areLots_460 rfl rfl ⟨(Nat.le_of_ble_eq_true rfl), (Nat.le_of_ble_eq_true rfl)⟩ ⟨(by show _ ≤ 60; omega), (by show _ ≤ 360; omega)⟩ (Nat.le_of_ble_eq_true rfl) (fun w => J.and (fun e => ?_))
      subst e
      rw [show fdI (fun i => decide (0 ≤ gPl u 1 (nI i) ∧ nI (cn (fun j => decide (0 ≤ gPl u 1 (nI j) ∧ expB u 1 (nI j) (nI i))) N) = nI (cn (fun i => decide (0 ≤ gPl u 1 (nI i))) N))) N = -1 from ltAt_n h20, nz_n (by decide)]
      refine J.sipush (μ := mL_areLots) (pc := 463) (v := -1000) dL_areLots_463 (by decide) ?_
      refine J.icmp_ne (μ := mL_areLots) (pc := 466) 518 dL_areLots_466 (by decide) (fun h3 => ?_) (fun h3 => ?_)
      · exact absurd rfl h3
      · refine J.aload_n (μ := mL_areLots) (pc := 469) dL_areLots_469 rfl ?_
        refine J.callSW (μ := mL_areLots) (pc := 470) (l_meanVolume h.vN h20 hS h320 hc8) rfl wm_L_272 mi_L_meanVolume (fun h => by cases h) dL_areLots_470 rfl rfl ⟨(Nat.le_of_ble_eq_true rfl), (Nat.le_of_ble_eq_true rfl)⟩ ⟨(by show _ ≤ 60; omega), (by show _ ≤ 360; omega)⟩ (Nat.le_of_ble_eq_true rfl) (fun w => J.and (fun e => ?_))
        subst e
        by_cases hc : cn (fun i => decide (0 ≤ gPl u 1 (nI i))) N = 0
        · rw [if_pos hc]
          refine J.iload_n (μ := mL_areLots) (pc := 473) dL_areLots_473 rfl ?_
          refine J.if_ne (μ := mL_areLots) (pc := 474) 483 dL_areLots_474 (by decide) (fun h5 => ?_) (fun h5 => ?_)
          · exact absurd (by rw [hc]; rfl) h5
          · refine J.ldc2d (μ := mL_areLots) (pc := 477) rfl wo_L_79 dL_areLots_477 ?_
            refine J.goto (μ := mL_areLots) (pc := 480) 488 dL_areLots_480 (by decide) ?_
            refine J.dcmp (μ := mL_areLots) (pc := 488) dL_areLots_488 ?_
            rw [okM.1]
            refine J.if_ne (μ := mL_areLots) (pc := 489) 518 dL_areLots_489 (by decide) (fun h6 => ?_) (fun h6 => ?_)
            · exact absurd rfl h6
            · exact fin2 _ _ _ _
        · rw [if_neg hc]
          have ok := okD_n h320 hc hc8
          rw [← hS] at ok
          refine J.iload_n (μ := mL_areLots) (pc := 473) dL_areLots_473 rfl ?_
          refine J.if_ne (μ := mL_areLots) (pc := 474) 483 dL_areLots_474 (by decide) (fun h5 => ?_) (fun h5 => ?_)
          · refine J.iload_n (μ := mL_areLots) (pc := 483) dL_areLots_483 rfl ?_
            refine J.i2d (μ := mL_areLots) (pc := 484) dL_areLots_484 ?_
            refine J.iload_n (μ := mL_areLots) (pc := 485) dL_areLots_485 rfl ?_
            refine J.i2d (μ := mL_areLots) (pc := 486) dL_areLots_486 ?_
            refine J.ddiv (μ := mL_areLots) (pc := 487) dL_areLots_487 ok.1 ?_
            refine J.dcmp (μ := mL_areLots) (pc := 488) dL_areLots_488 ?_
            rw [ok.2]
            refine J.if_ne (μ := mL_areLots) (pc := 489) 518 dL_areLots_489 (by decide) (fun h6 => ?_) (fun h6 => ?_)
            · exact absurd rfl h6
            · exact fin2 _ _ _ _
          · exfalso
            have h5 : nI (cn (fun i => decide (0 ≤ gPl u 1 (nI i))) N) = 0 := by first | exact h5 | exact Classical.not_not.mp h5
            rw [t_eq, t_nI (by omega), t_0] at h5
            omega

theorem al_3 {γ : Gm} {T N M H : Nat} {v u : Vs} (h : Inv 0 T N M H (iv u 1)) (hq : Sc v u) (hT : T ≤ 1000000000) {S0 : Int32} {mn od : Nat} (e1 : S0 = sm (fun i => decide (0 ≤ gPl u 1 (nI i))) (fun i => gVo u 1 (nI i)) N) (e2 : mn = cn (fun i => decide (0 ≤ gPl u 1 (nI i))) N) (e3 : od = cn (fun i => decide (0 ≤ gPl u 1 (nI i) ∧ gEp u 1 (nI i) < u 1 3)) N) {k n : Nat} (hk : k ≤ 37) (hn : n ≤ 222) {x6 x7 x8 x9 : Option Value} : J γ mL_areLots (rmD 34 60 360) (fEv γ 60 360 (fun r K => r = some (.int 1) ∧ ∃ u, Sc v u ∧ Rp γ u K)) k n 368 [some (.ref (gz γ + 0)), some (.int (S0)), some (.int (nI mn)), some (.int (nI od)), some (.int (nI N)), some (.int (1)), x6, x7, x8, x9] [] (Rp γ u) := by
  have h20 := h.1.1.2
  have hc8 := sto_8 h
  have hmn : mn ≤ 8 := by omega
  refine J.iconst (μ := mL_areLots) (pc := 368) (v := 1) dL_areLots_368 (by decide) ?_
  refine J.istore (μ := mL_areLots) (pc := 369) dL_areLots_369 (Nat.le_of_ble_eq_true rfl) rfl ?_
  refine J.sub ?_ (J.forK (μ := mL_areLots) (hd := 371) (kf := fun i => k + 2 * i) (nf := fun i => n + 12 * i) (Lf := fun i => [some (.ref (gz γ + 0)), some (.int (S0)), some (.int (nI mn)), some (.int (nI od)), some (.int (nI N)), some (.int (1)), some (.int (nI (i + 1))), none, none, none]) (Pf := fun _ => Rp γ u) (mn - 1) ?_ (fun i hi ih => ?_))
  · exact ⟨rfl, rfl, rfl, rfl, rfl, rfl, rfl, trivial⟩
  · refine J.iload (μ := mL_areLots) (pc := 371) dL_areLots_371 rfl ?_
    refine J.if_eq (μ := mL_areLots) (pc := 373) 445 dL_areLots_373 (by decide) (fun h1 => ?_) (fun h1 => ?_)
    · refine J.sub ?_ (al_4 h hq e1 e2 e3 (k := k + 2 * (mn - 1)) (n := n + 12 * (mn - 1)) (x6 := none) (x7 := none) (x8 := none) (x9 := none) (by omega) (by omega))
      exact ⟨rfl, rfl, rfl, rfl, rfl, rfl, trivial⟩
    · refine J.iload (μ := mL_areLots) (pc := 376) dL_areLots_376 rfl ?_
      refine J.iload_n (μ := mL_areLots) (pc := 378) dL_areLots_378 rfl ?_
      refine J.icmp_ge (μ := mL_areLots) (pc := 379) 445 dL_areLots_379 (by decide) (fun h2 => ?_) (fun h2 => ?_)
      · refine J.sub ?_ (al_4 h hq e1 e2 e3 (k := k + 2 * (mn - 1)) (n := n + 12 * (mn - 1)) (x6 := none) (x7 := none) (x8 := none) (x9 := none) (by omega) (by omega))
        exact ⟨rfl, rfl, rfl, rfl, rfl, rfl, trivial⟩
      · exfalso
        have h2 : nI (mn - 1 + 1) < nI mn := by first | exact h2 | exact Int32.not_le.mp h2
        rw [t_lt, t_nI (by omega), t_nI (by omega)] at h2
        omega
  · obtain ⟨a, ha, ha1, ha2, ha3⟩ := ltAt_y (v := u) h20 (x := i) (by show i < cn (fun i => decide (0 ≤ gPl u 1 (nI i))) N; omega)
    obtain ⟨b, hb, hb1, hb2, hb3⟩ := ltAt_y (v := u) h20 (x := i + 1) (by show i + 1 < cn (fun i => decide (0 ≤ gPl u 1 (nI i))) N; omega)
    have hd := exp_law h hT ha hb (rk_next (exp_sto (v := u) h20) ha hb ha1 hb1 (by omega))
    have hla : hasL u 1 (nI a) := h.hsL.mpr ⟨a, ha, rfl⟩
    have hlb : hasL u 1 (nI b) := h.hsL.mpr ⟨b, hb, rfl⟩
    have esub : nI (i + 1) - 1 = nI i := by rw [nI_succ, Int32.add_sub_cancel]
    have fin : ∀ x7 x8 x9 : Option Value, J γ mL_areLots (rmD 34 60 360) (fEv γ 60 360 (fun r K => r = some (.int 1) ∧ ∃ u, Sc v u ∧ Rp γ u K)) (k + 2 * i + 1 + 1) (n + 12 * i + 6 + 6) 432 [some (.ref (gz γ + 0)), some (.int (S0)), some (.int (nI mn)), some (.int (nI od)), some (.int (nI N)), some (.int (1)), some (.int (nI (i + 1))), x7, x8, x9] [] (Rp γ u) := by
      intro x7 x8 x9
      refine J.iconst (μ := mL_areLots) (pc := 432) (v := 1) dL_areLots_432 (by decide) ?_
      refine J.goto (μ := mL_areLots) (pc := 433) 437 dL_areLots_433 (by decide) ?_
      refine J.istore (μ := mL_areLots) (pc := 437) dL_areLots_437 (Nat.le_of_ble_eq_true rfl) rfl ?_
      refine J.iinc (μ := mL_areLots) (pc := 439) (v := 1) dL_areLots_439 rfl (by decide) (Nat.le_of_ble_eq_true rfl) rfl ?_
      refine J.goto (μ := mL_areLots) (pc := 442) 371 dL_areLots_442 (by decide) ?_
      refine J.widen (k' := k + 2 * (i + 1)) (n' := n + 12 * (i + 1)) (by omega) (by omega) (J.sub ?_ ih)
      exact ⟨rfl, rfl, rfl, rfl, rfl, rfl, by rw [nI_1], trivial⟩
    refine J.iload (μ := mL_areLots) (pc := 371) dL_areLots_371 rfl ?_
    refine J.if_eq (μ := mL_areLots) (pc := 373) 445 dL_areLots_373 (by decide) (fun h1 => ?_) (fun h1 => ?_)
    · exact absurd h1 (by decide)
    · refine J.iload (μ := mL_areLots) (pc := 376) dL_areLots_376 rfl ?_
      refine J.iload_n (μ := mL_areLots) (pc := 378) dL_areLots_378 rfl ?_
      refine J.icmp_ge (μ := mL_areLots) (pc := 379) 445 dL_areLots_379 (by decide) (fun h2 => ?_) (fun h2 => ?_)
      · exact absurd h2 (nI_ge (by omega) (by omega))
      · refine J.aload_n (μ := mL_areLots) (pc := 382) dL_areLots_382 rfl ?_
        refine J.iload (μ := mL_areLots) (pc := 383) dL_areLots_383 rfl ?_
        refine J.iconst (μ := mL_areLots) (pc := 385) (v := 1) dL_areLots_385 (by decide) ?_
        refine J.isub (μ := mL_areLots) (pc := 386) dL_areLots_386 ?_
        rw [esub]
        refine J.callSW (μ := mL_areLots) (pc := 387) (l_lotByExpiry h.vN h20 (nI i)) rfl wm_L_270 mi_L_lotByExpiry (fun h => by cases h) dL_areLots_387 rfl rfl ⟨(Nat.le_of_ble_eq_true rfl), (Nat.le_of_ble_eq_true rfl)⟩ ⟨(by show _ ≤ 60; omega), (by show _ ≤ 360; omega)⟩ (Nat.le_of_ble_eq_true rfl) (fun w => J.and (fun e => ?_))
        subst e
        rw [show fdI (fun i' => decide (0 ≤ gPl u 1 (nI i') ∧ nI (cn (fun j => decide (0 ≤ gPl u 1 (nI j) ∧ expB u 1 (nI j) (nI i'))) N) = nI i)) N = nI a from ha3, nz_p (nI_pos (by omega))]
        refine J.istore (μ := mL_areLots) (pc := 390) dL_areLots_390 (Nat.le_of_ble_eq_true rfl) rfl ?_
        refine J.aload_n (μ := mL_areLots) (pc := 392) dL_areLots_392 rfl ?_
        refine J.iload (μ := mL_areLots) (pc := 393) dL_areLots_393 rfl ?_
        refine J.callSW (μ := mL_areLots) (pc := 395) (l_lotByExpiry h.vN h20 (nI (i + 1))) rfl wm_L_270 mi_L_lotByExpiry (fun h => by cases h) dL_areLots_395 rfl rfl ⟨(Nat.le_of_ble_eq_true rfl), (Nat.le_of_ble_eq_true rfl)⟩ ⟨(by show _ ≤ 60; omega), (by show _ ≤ 360; omega)⟩ (Nat.le_of_ble_eq_true rfl) (fun w => J.and (fun e => ?_))
        subst e
        rw [show fdI (fun i' => decide (0 ≤ gPl u 1 (nI i') ∧ nI (cn (fun j => decide (0 ≤ gPl u 1 (nI j) ∧ expB u 1 (nI j) (nI i'))) N) = nI (i + 1))) N = nI b from hb3, nz_p (nI_pos (by omega))]
        refine J.istore (μ := mL_areLots) (pc := 398) dL_areLots_398 (Nat.le_of_ble_eq_true rfl) rfl ?_
        refine J.aload_n (μ := mL_areLots) (pc := 400) dL_areLots_400 rfl ?_
        refine J.iload (μ := mL_areLots) (pc := 401) dL_areLots_401 rfl ?_
        refine J.cV (μ := mL_areLots) (pc := 403) (s_X11_expiryOf hlb) rfl wm_L_209 mi_X11_expiryOf rfl dL_areLots_403 (Rp.isa (T := TX11) rfl sh0) rfl rfl ⟨(Nat.le_of_ble_eq_true rfl), (Nat.le_of_ble_eq_true rfl)⟩ ⟨(by show _ ≤ 60; omega), (by show _ ≤ 360; omega)⟩ (Nat.le_of_ble_eq_true rfl) ?_
        refine J.aload_n (μ := mL_areLots) (pc := 406) dL_areLots_406 rfl ?_
        refine J.iload (μ := mL_areLots) (pc := 407) dL_areLots_407 rfl ?_
        refine J.cV (μ := mL_areLots) (pc := 409) (s_X11_expiryOf hla) rfl wm_L_209 mi_X11_expiryOf rfl dL_areLots_409 (Rp.isa (T := TX11) rfl sh0) rfl rfl ⟨(Nat.le_of_ble_eq_true rfl), (Nat.le_of_ble_eq_true rfl)⟩ ⟨(by show _ ≤ 60; omega), (by show _ ≤ 360; omega)⟩ (Nat.le_of_ble_eq_true rfl) ?_
        refine J.isub (μ := mL_areLots) (pc := 412) dL_areLots_412 ?_
        refine J.istore (μ := mL_areLots) (pc := 413) dL_areLots_413 (Nat.le_of_ble_eq_true rfl) rfl ?_
        refine J.iload (μ := mL_areLots) (pc := 415) dL_areLots_415 rfl ?_
        refine J.if_gt (μ := mL_areLots) (pc := 417) 432 dL_areLots_417 (by decide) (fun h3 => ?_) (fun h3 => ?_)
        · exact fin _ _ _
        · have hd1 := hd.resolve_left (fun q => by first | exact h3 q | exact absurd q (Int32.not_lt.mpr h3))
          refine J.iload (μ := mL_areLots) (pc := 420) dL_areLots_420 rfl ?_
          refine J.if_ne (μ := mL_areLots) (pc := 422) 436 dL_areLots_422 (by decide) (fun h4 => ?_) (fun h4 => ?_)
          · exact absurd hd1.1 h4
          · refine J.iload (μ := mL_areLots) (pc := 425) dL_areLots_425 rfl ?_
            refine J.iload (μ := mL_areLots) (pc := 427) dL_areLots_427 rfl ?_
            refine J.icmp_ge (μ := mL_areLots) (pc := 429) 436 dL_areLots_429 (by decide) (fun h5 => ?_) (fun h5 => ?_)
            · exact absurd hd1.2 (Int32.not_lt.mpr h5)
            · exact fin _ _ _
