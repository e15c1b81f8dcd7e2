/-! the law: isFit -/
theorem fit_k {γ : Gm} {T N M H : Nat} {v : Vs} (hI : Inv 0 T N M H (iv v 1)) (hT : T + 10000 ≤ 9000000) {k m : Nat} (hk : k ≤ 18800) (hn : m ≤ 164000) {x2 : Option Value} : J γ mL_isFit (rmD 36 22000 190000) (fEv γ 22000 190000 (fun r K => r = some (.int 1) ∧ ∃ w, Bk (T + 10000) v w ∧ Rp γ w K)) k m 62 [some (.ref (gz γ + 0)), some (.int (1)), x2] [] (fun K => ∃ w, Bk (T + 8000) v w ∧ Rp γ w K) := by
  have e6 : (6 : Int32) = nI 6 := rfl
  refine J.iconst (μ := mL_isFit) (pc := 62) (v := 0) dL_isFit_62 (by decide) ?_
  refine J.istore_n (μ := mL_isFit) (pc := 63) dL_isFit_63 (Nat.le_of_ble_eq_true rfl) rfl ?_
  refine J.sub ?_ (J.forK (μ := mL_isFit) (hd := 64) (kf := fun i => k + 500 * i) (nf := fun i => m + 4000 * i) (Lf := fun i => [some (.ref (gz γ + 0)), some (.int (1)), some (.int (nI i))]) (Pf := fun i => (fun K => ∃ w, Bk (T + 8000 + 198 * i) v w ∧ Rp γ w K)) 6 ?_ (fun i hi ih => ?_))
  · exact ⟨rfl, rfl, rfl, trivial⟩
  · refine J.ex fun w => J.and fun hB => ?_
    have fin : ∀ x2 : Option Value, J γ mL_isFit (rmD 36 22000 190000) (fEv γ 22000 190000 (fun r K => r = some (.int 1) ∧ ∃ w, Bk (T + 10000) v w ∧ Rp γ w K)) (k + 500 * 6) (m + 4000 * 6) 86 [some (.ref (gz γ + 0)), some (.int (1)), x2] [] (Rp γ w) := by
      intro x2
      refine J.iload_n (μ := mL_isFit) (pc := 86) dL_isFit_86 rfl ?_
      exact J.zret (μ := mL_isFit) (pc := 87) dL_isFit_87 rfl rfl (by omega) (by omega) (fun K k => ⟨rfl, w, hB.mono (by omega), k⟩)
    refine J.iload_n (μ := mL_isFit) (pc := 64) dL_isFit_64 rfl ?_
    refine J.if_eq (μ := mL_isFit) (pc := 65) 86 dL_isFit_65 (by decide) (fun h1 => ?_) (fun h1 => ?_)
    · exact fin _
    · refine J.iload_n (μ := mL_isFit) (pc := 68) dL_isFit_68 rfl ?_
      refine J.bipush (μ := mL_isFit) (pc := 69) (v := 6) dL_isFit_69 (by decide) ?_
      refine J.icmp_ge (μ := mL_isFit) (pc := 71) 86 dL_isFit_71 (by decide) (fun h2 => ?_) (fun h2 => ?_)
      · exact fin _
      · exact absurd h2 (by decide)
  · refine J.ex fun w => J.and fun hB => ?_
    have hIw := hI.sq hB.2.1
    obtain ⟨⟨n, s, hD⟩, hB2⟩ := hB
    have hx : 0 ≤ nI i ∧ nI i ≤ 5 := by
      rw [t_le, t_le, t_nI (by omega), t_0]
      have : (5 : Int32).toInt = 5 := by decide
      omega
    refine J.iload_n (μ := mL_isFit) (pc := 64) dL_isFit_64 rfl ?_
    refine J.if_eq (μ := mL_isFit) (pc := 65) 86 dL_isFit_65 (by decide) (fun h1 => ?_) (fun h1 => ?_)
    · exact absurd h1 (by decide)
    · refine J.iload_n (μ := mL_isFit) (pc := 68) dL_isFit_68 rfl ?_
      refine J.bipush (μ := mL_isFit) (pc := 69) (v := 6) dL_isFit_69 (by decide) ?_
      refine J.icmp_ge (μ := mL_isFit) (pc := 71) 86 dL_isFit_71 (by decide) (fun h2 => ?_) (fun h2 => ?_)
      · exact absurd h2 (by rw [e6]; exact nI_ge hi (by omega))
      · refine J.aload_n (μ := mL_isFit) (pc := 74) dL_isFit_74 rfl ?_
        refine J.iload_n (μ := mL_isFit) (pc := 75) dL_isFit_75 rfl ?_
        refine J.callS (μ := mL_isFit) (pc := 76) (l_isShipped (T := T + 8000 + 198 * i) (hIw.mono (by omega)) (by omega) hx hD) rfl wm_L_303 mi_L_isShipped rfl dL_isFit_76 rfl rfl ⟨(Nat.le_of_ble_eq_true rfl), (Nat.le_of_ble_eq_true rfl)⟩ ⟨(by show _ ≤ 22000; omega), (by show _ ≤ 190000; omega)⟩ (Nat.le_of_ble_eq_true rfl) (fun w => J.and fun e => J.ex fun w2 => J.and fun hB3 => ?_)
        subst e
        refine J.istore_n (μ := mL_isFit) (pc := 79) dL_isFit_79 (Nat.le_of_ble_eq_true rfl) rfl ?_
        refine J.iinc (μ := mL_isFit) (pc := 80) (v := 1) dL_isFit_80 rfl (by decide) (Nat.le_of_ble_eq_true rfl) rfl ?_
        refine J.goto (μ := mL_isFit) (pc := 83) 64 dL_isFit_83 (by decide) ?_
        refine J.widen (k' := k + 500 * (i + 1)) (n' := m + 4000 * (i + 1)) (by omega) (by omega) (J.sub ?_ (J.of (fun K kk => ⟨w2, (Bk.tr (u := w) (T := T + 8000 + 198 * i) ⟨⟨n, s, hD⟩, hB2⟩ hB3).mono (by omega), kk⟩) ih))
        exact ⟨rfl, rfl, by rw [nI_1], trivial⟩

theorem l_isFit {γ : Gm} {T N M H : Nat} {v : Vs} (hI : Inv 0 T N M H (iv v 1)) (hT : T + 10000 ≤ 9000000) {n s : Nat} (hD : DI T v n s) : Ev γ mL_isFit yL_isFit 36 22000 190000 [.ref (gz γ + 0)] (Rp γ v) (fun r K => r = some (.int 1) ∧ ∃ w, Bk (T + 10000) v w ∧ Rp γ w K) := by
  have h20 := hI.1.1.2
  refine Ev.ofJ (by decide) rfl (fun h => by cases h) (Nat.le_of_ble_eq_true rfl) ?_
  refine J.aload_n (μ := mL_isFit) (pc := 0) dL_isFit_0 rfl ?_
  refine J.callS (μ := mL_isFit) (pc := 1) (l_areShelves hI (by omega)) rfl wm_L_291 mi_L_areShelves rfl dL_isFit_1 rfl rfl ⟨(Nat.le_of_ble_eq_true rfl), (Nat.le_of_ble_eq_true rfl)⟩ ⟨(by show _ ≤ 22000; omega), (by show _ ≤ 190000; omega)⟩ (Nat.le_of_ble_eq_true rfl) (fun w => J.and fun e => J.ex fun u1 => J.and fun q1 => ?_)
  subst e
  have hI1 := hI.sq (q1.sq (o := 1) (by decide))
  refine J.if_eq (μ := mL_isFit) (pc := 4) 18 dL_isFit_4 (by decide) (fun h1 => ?_) (fun h1 => ?_)
  · exact absurd h1 (by decide)
  · refine J.aload_n (μ := mL_isFit) (pc := 7) dL_isFit_7 rfl ?_
    refine J.callS (μ := mL_isFit) (pc := 8) (l_areLots hI1 (by omega)) rfl wm_L_282 mi_L_areLots rfl dL_isFit_8 rfl rfl ⟨(Nat.le_of_ble_eq_true rfl), (Nat.le_of_ble_eq_true rfl)⟩ ⟨(by show _ ≤ 22000; omega), (by show _ ≤ 190000; omega)⟩ (Nat.le_of_ble_eq_true rfl) (fun w => J.and fun e => J.ex fun u2 => J.and fun q2 => ?_)
    subst e
    have hB0 : Bk T v u2 := hD.bk (q1.tr q2).sam
    refine J.if_eq (μ := mL_isFit) (pc := 11) 18 dL_isFit_11 (by decide) (fun h2 => ?_) (fun h2 => ?_)
    · exact absurd h2 (by decide)
    · refine J.iconst (μ := mL_isFit) (pc := 14) (v := 1) dL_isFit_14 (by decide) ?_
      refine J.goto (μ := mL_isFit) (pc := 15) 19 dL_isFit_15 (by decide) ?_
      refine J.istore_n (μ := mL_isFit) (pc := 19) dL_isFit_19 (Nat.le_of_ble_eq_true rfl) rfl ?_
      refine J.iconst (μ := mL_isFit) (pc := 20) (v := 0) dL_isFit_20 (by decide) ?_
      refine J.istore_n (μ := mL_isFit) (pc := 21) dL_isFit_21 (Nat.le_of_ble_eq_true rfl) rfl ?_
      refine J.sub ?_ (J.of (P' := (fun K => ∃ w, Bk (T + 396 * 0) v w ∧ Rp γ w K)) (fun K kk => ⟨u2, hB0.mono (by omega), kk⟩) (J.forK (μ := mL_isFit) (hd := 22) (kf := fun i => 0 + 300 + 60 + 900 * i) (nf := fun i => 0 + 1800 + 360 + 7800 * i) (Lf := fun i => [some (.ref (gz γ + 0)), some (.int (1)), some (.int (nI i))]) (Pf := fun i => (fun K => ∃ w, Bk (T + 396 * i) v w ∧ Rp γ w K)) N ?_ (fun i hi ih => ?_)))
      · exact ⟨rfl, rfl, rfl, trivial⟩
      · refine J.ex fun w => J.and fun hB => ?_
        have hIw := hI.sq hB.2.1
        have fin : ∀ x2 : Option Value, J γ mL_isFit (rmD 36 22000 190000) (fEv γ 22000 190000 (fun r K => r = some (.int 1) ∧ ∃ w, Bk (T + 10000) v w ∧ Rp γ w K)) (0 + 300 + 60 + 900 * N) (0 + 1800 + 360 + 7800 * N) 62 [some (.ref (gz γ + 0)), some (.int (1)), x2] [] (Rp γ w) := by
          intro x2
          exact J.of (fun K kk => ⟨w, hB.mono (by omega), kk⟩) (fit_k hI hT (by omega) (by omega))
        refine J.iload_n (μ := mL_isFit) (pc := 22) dL_isFit_22 rfl ?_
        refine J.if_eq (μ := mL_isFit) (pc := 23) 62 dL_isFit_23 (by decide) (fun h3 => ?_) (fun h3 => ?_)
        · exact fin _
        · refine J.iload_n (μ := mL_isFit) (pc := 26) dL_isFit_26 rfl ?_
          refine J.aload_n (μ := mL_isFit) (pc := 27) dL_isFit_27 rfl ?_
          refine J.cV (μ := mL_isFit) (pc := 28) (s_X11_lotCount) rfl wm_L_190 mi_X11_lotCount rfl dL_isFit_28 (Rp.isa (T := TX11) rfl sh0) rfl rfl ⟨(Nat.le_of_ble_eq_true rfl), (Nat.le_of_ble_eq_true rfl)⟩ ⟨(by show _ ≤ 22000; omega), (by show _ ≤ 190000; omega)⟩ (Nat.le_of_ble_eq_true rfl) ?_
          rw [hIw.vN]
          refine J.icmp_ge (μ := mL_isFit) (pc := 31) 62 dL_isFit_31 (by decide) (fun h4 => ?_) (fun h4 => ?_)
          · exact fin _
          · exact (Int32.lt_irrefl h4).elim
      · refine J.ex fun w => J.and fun hB => ?_
        have hIw := hI.sq hB.2.1
        obtain ⟨⟨n2, s2, hD2⟩, hB2⟩ := hB
        refine J.iload_n (μ := mL_isFit) (pc := 22) dL_isFit_22 rfl ?_
        refine J.if_eq (μ := mL_isFit) (pc := 23) 62 dL_isFit_23 (by decide) (fun h3 => ?_) (fun h3 => ?_)
        · exact absurd h3 (by decide)
        · refine J.iload_n (μ := mL_isFit) (pc := 26) dL_isFit_26 rfl ?_
          refine J.aload_n (μ := mL_isFit) (pc := 27) dL_isFit_27 rfl ?_
          refine J.cV (μ := mL_isFit) (pc := 28) (s_X11_lotCount) rfl wm_L_190 mi_X11_lotCount rfl dL_isFit_28 (Rp.isa (T := TX11) rfl sh0) rfl rfl ⟨(Nat.le_of_ble_eq_true rfl), (Nat.le_of_ble_eq_true rfl)⟩ ⟨(by show _ ≤ 22000; omega), (by show _ ≤ 190000; omega)⟩ (Nat.le_of_ble_eq_true rfl) ?_
          rw [hIw.vN]
          refine J.icmp_ge (μ := mL_isFit) (pc := 31) 62 dL_isFit_31 (by decide) (fun h4 => ?_) (fun h4 => ?_)
          · exact absurd h4 (nI_ge hi (by omega))
          · refine J.aload_n (μ := mL_isFit) (pc := 34) dL_isFit_34 rfl ?_
            refine J.iload_n (μ := mL_isFit) (pc := 35) dL_isFit_35 rfl ?_
            refine J.callS (μ := mL_isFit) (pc := 36) (l_isRecalled (T := T + 396 * i) (hIw.mono (by omega)) hi (by omega) hD2) rfl wm_L_296 mi_L_isRecalled rfl dL_isFit_36 rfl rfl ⟨(Nat.le_of_ble_eq_true rfl), (Nat.le_of_ble_eq_true rfl)⟩ ⟨(by show _ ≤ 22000; omega), (by show _ ≤ 190000; omega)⟩ (Nat.le_of_ble_eq_true rfl) (fun w => J.and fun e => J.ex fun w2 => J.and fun hB3 => ?_)
            subst e
            have hIw2 := hIw.sq hB3.2.1
            have hB4 : Bk (T + 396 * i + 198) v w2 := Bk.tr (u := w) (T := T + 396 * i) ⟨⟨n2, s2, hD2⟩, hB2⟩ hB3
            obtain ⟨⟨n3, s3, hD3⟩, hB5⟩ := hB4
            refine J.if_eq (μ := mL_isFit) (pc := 39) 54 dL_isFit_39 (by decide) (fun h5 => ?_) (fun h5 => ?_)
            · exact absurd h5 (by decide)
            · refine J.aload_n (μ := mL_isFit) (pc := 42) dL_isFit_42 rfl ?_
              refine J.iload_n (μ := mL_isFit) (pc := 43) dL_isFit_43 rfl ?_
              refine J.callS (μ := mL_isFit) (pc := 44) (l_isSplit (T := T + 396 * i + 198) (hIw2.mono (by omega)) hi (by omega) hD3) rfl wm_L_300 mi_L_isSplit rfl dL_isFit_44 rfl rfl ⟨(Nat.le_of_ble_eq_true rfl), (Nat.le_of_ble_eq_true rfl)⟩ ⟨(by show _ ≤ 22000; omega), (by show _ ≤ 190000; omega)⟩ (Nat.le_of_ble_eq_true rfl) (fun w => J.and fun e => J.ex fun w3 => J.and fun hB6 => ?_)
              subst e
              have hB7 : Bk (T + 396 * i + 198 + 198) v w3 := Bk.tr (u := w2) (T := T + 396 * i + 198) ⟨⟨n3, s3, hD3⟩, hB5⟩ hB6
              refine J.if_eq (μ := mL_isFit) (pc := 47) 54 dL_isFit_47 (by decide) (fun h6 => ?_) (fun h6 => ?_)
              · exact absurd h6 (by decide)
              · refine J.iconst (μ := mL_isFit) (pc := 50) (v := 1) dL_isFit_50 (by decide) ?_
                refine J.goto (μ := mL_isFit) (pc := 51) 55 dL_isFit_51 (by decide) ?_
                refine J.istore_n (μ := mL_isFit) (pc := 55) dL_isFit_55 (Nat.le_of_ble_eq_true rfl) rfl ?_
                refine J.iinc (μ := mL_isFit) (pc := 56) (v := 1) dL_isFit_56 rfl (by decide) (Nat.le_of_ble_eq_true rfl) rfl ?_
                refine J.goto (μ := mL_isFit) (pc := 59) 22 dL_isFit_59 (by decide) ?_
                refine J.widen (k' := 0 + 300 + 60 + 900 * (i + 1)) (n' := 0 + 1800 + 360 + 7800 * (i + 1)) (by omega) (by omega) (J.sub ?_ (J.of (fun K kk => ⟨w3, hB7.mono (by omega), kk⟩) ih))
                exact ⟨rfl, rfl, by rw [nI_1], trivial⟩
