/-! the law: areLots, lot by lot -/
theorem parB_sq {v w : Vs} (h : ∀ c, c < 26 → w (1 + c) = v (1 + c)) : parB w 1 = parB v 1 := by
  funext a b
  unfold parB gP1 gP2
  rw [h 20 (by decide), h 22 (by decide)]
theorem al_1 {γ : Gm} {T N M H i : Nat} {v u : Vs} (h : Inv 0 T N M H (iv u 1)) (hi : i < N) {X1 X2 X3 : Int32} {k n : Nat} (hk : k ≤ 60) (hn : n ≤ 360) (kk : J γ mL_areLots (rmD 34 60 360) (fEv γ 60 360 (fun r K => r = some (.int 1) ∧ ∃ u, Sc v u ∧ Rp γ u K)) k n 191 [some (.ref (gz γ + 0)), some (.int (X1)), some (.int (X2)), some (.int (X3)), some (.int (nI N)), some (.int (1)), some (.int (nI i)), some (.int (nI (cn (fun j => fw (parB u 1) N i j) N))), some (.int (nI N)), none] [] (Rp γ u)) : J γ mL_areLots (rmD 34 60 360) (fEv γ 60 360 (fun r K => r = some (.int 1) ∧ ∃ u, Sc v u ∧ Rp γ u K)) k n 107 [some (.ref (gz γ + 0)), some (.int (X1)), some (.int (X2)), some (.int (X3)), some (.int (nI N)), some (.int (1)), some (.int (nI i)), some (.int (nI (cn (fun j => fw (parB u 1) N i j) 0))), some (.int (nI 0)), none] [] (Rp γ u) := by
  have h20 := h.1.1.2
  have hli : hasL u 1 (nI i) := h.hsL.mpr ⟨i, hi, rfl⟩
  refine J.for (μ := mL_areLots) (hd := 107) (Lf := fun m => [some (.ref (gz γ + 0)), some (.int (X1)), some (.int (X2)), some (.int (X3)), some (.int (nI N)), some (.int (1)), some (.int (nI i)), some (.int (nI (cn (fun j => fw (parB u 1) N i j) m))), some (.int (nI m)), none]) (Pf := fun _ => Rp γ u) N ?_ (fun m hm ih => ?_)
  · refine J.iload (μ := mL_areLots) (pc := 107) dL_areLots_107 rfl ?_
    refine J.iload (μ := mL_areLots) (pc := 109) dL_areLots_109 rfl ?_
    refine J.icmp_ge (μ := mL_areLots) (pc := 111) 191 dL_areLots_111 (by decide) (fun h1 => ?_) (fun h1 => ?_)
    · exact kk
    · exact (Int32.lt_irrefl h1).elim
  · have hlm : hasL u 1 (nI m) := h.hsL.mpr ⟨m, hm, rfl⟩
    have ed : decide ((fo u 1 N 20 i 0 >>> (nI m &&& 31)) &&& 1 = 1) = fw (parB u 1) N i m := by
      rw [Bool.eq_iff_iff, decide_eq_true_iff]; exact h.descB hi hm
    have ec : cn (fun j => fw (parB u 1) N i j) (m + 1) = cn (fun j => fw (parB u 1) N i j) m + (if fw (parB u 1) N i m = true then 1 else 0) := rfl
    refine J.iload (μ := mL_areLots) (pc := 107) dL_areLots_107 rfl ?_
    refine J.iload (μ := mL_areLots) (pc := 109) dL_areLots_109 rfl ?_
    refine J.icmp_ge (μ := mL_areLots) (pc := 111) 191 dL_areLots_111 (by decide) (fun h1 => ?_) (fun h1 => ?_)
    · exact absurd h1 (nI_ge hm (by omega))
    · refine J.aload_n (μ := mL_areLots) (pc := 114) dL_areLots_114 rfl ?_
      refine J.iload (μ := mL_areLots) (pc := 115) dL_areLots_115 rfl ?_
      refine J.iload (μ := mL_areLots) (pc := 117) dL_areLots_117 rfl ?_
      refine J.cV (μ := mL_areLots) (pc := 119) (s_X11_descendsFrom h.vN h20 (by omega) hlm hli) rfl wm_L_250 mi_X11_descendsFrom rfl dL_areLots_119 (Rp.isa (T := TX11) rfl sh0) rfl rfl ⟨(Nat.le_of_ble_eq_true rfl), (Nat.le_of_ble_eq_true rfl)⟩ ⟨(by show _ ≤ 60; omega), (by show _ ≤ 360; omega)⟩ (Nat.le_of_ble_eq_true rfl) ?_
      rw [ed]
      by_cases hb : fw (parB u 1) N i m = true
      · have hlt := h.fwlt hi hm hb
        rw [hb, if_pos rfl] at ec
        rw [hb]
        refine J.istore (μ := mL_areLots) (pc := 122) dL_areLots_122 (Nat.le_of_ble_eq_true rfl) rfl ?_
        refine J.iload (μ := mL_areLots) (pc := 124) dL_areLots_124 rfl ?_
        refine J.iload (μ := mL_areLots) (pc := 126) dL_areLots_126 rfl ?_
        refine J.if_eq (μ := mL_areLots) (pc := 128) 135 dL_areLots_128 (by decide) (fun h2 => ?_) (fun h2 => ?_)
        · exact absurd h2 (by decide)
        · refine J.iconst (μ := mL_areLots) (pc := 131) (v := 1) dL_areLots_131 (by decide) ?_
          refine J.goto (μ := mL_areLots) (pc := 132) 136 dL_areLots_132 (by decide) ?_
          refine J.iadd (μ := mL_areLots) (pc := 136) dL_areLots_136 ?_
          refine J.istore (μ := mL_areLots) (pc := 137) dL_areLots_137 (Nat.le_of_ble_eq_true rfl) rfl ?_
          refine J.iload (μ := mL_areLots) (pc := 139) dL_areLots_139 rfl ?_
          refine J.iload (μ := mL_areLots) (pc := 141) dL_areLots_141 rfl ?_
          refine J.if_eq (μ := mL_areLots) (pc := 143) 177 dL_areLots_143 (by decide) (fun h3 => ?_) (fun h3 => ?_)
          · exact absurd h3 (by decide)
          · refine J.iload (μ := mL_areLots) (pc := 146) dL_areLots_146 rfl ?_
            refine J.iload (μ := mL_areLots) (pc := 148) dL_areLots_148 rfl ?_
            refine J.icmp_le (μ := mL_areLots) (pc := 150) 181 dL_areLots_150 (by decide) (fun h4 => ?_) (fun h4 => ?_)
            · exfalso
              rw [t_le, t_nI (by omega), t_nI (by omega)] at h4
              omega
            · refine J.aload_n (μ := mL_areLots) (pc := 153) dL_areLots_153 rfl ?_
              refine J.iload (μ := mL_areLots) (pc := 154) dL_areLots_154 rfl ?_
              refine J.cV (μ := mL_areLots) (pc := 156) (s_X11_expiryOf hlm) rfl wm_L_209 mi_X11_expiryOf rfl dL_areLots_156 (Rp.isa (T := TX11) rfl sh0) rfl rfl ⟨(Nat.le_of_ble_eq_true rfl), (Nat.le_of_ble_eq_true rfl)⟩ ⟨(by show _ ≤ 60; omega), (by show _ ≤ 360; omega)⟩ (Nat.le_of_ble_eq_true rfl) ?_
              refine J.aload_n (μ := mL_areLots) (pc := 159) dL_areLots_159 rfl ?_
              refine J.iload (μ := mL_areLots) (pc := 160) dL_areLots_160 rfl ?_
              refine J.cV (μ := mL_areLots) (pc := 162) (s_X11_expiryOf hli) rfl wm_L_209 mi_X11_expiryOf rfl dL_areLots_162 (Rp.isa (T := TX11) rfl sh0) rfl rfl ⟨(Nat.le_of_ble_eq_true rfl), (Nat.le_of_ble_eq_true rfl)⟩ ⟨(by show _ ≤ 60; omega), (by show _ ≤ 360; omega)⟩ (Nat.le_of_ble_eq_true rfl) ?_
              refine J.icmp_gt (μ := mL_areLots) (pc := 165) 181 dL_areLots_165 (by decide) (fun h5 => ?_) (fun h5 => ?_)
              · exfalso
                rw [t_lt, zEp (by omega), zEp (by omega)] at h5
                omega
              · refine J.aload_n (μ := mL_areLots) (pc := 168) dL_areLots_168 rfl ?_
                refine J.iload (μ := mL_areLots) (pc := 169) dL_areLots_169 rfl ?_
                refine J.cV (μ := mL_areLots) (pc := 171) (s_X11_parentCount hlm) rfl wm_L_217 mi_X11_parentCount rfl dL_areLots_171 (Rp.isa (T := TX11) rfl sh0) rfl rfl ⟨(Nat.le_of_ble_eq_true rfl), (Nat.le_of_ble_eq_true rfl)⟩ ⟨(by show _ ≤ 60; omega), (by show _ ≤ 360; omega)⟩ (Nat.le_of_ble_eq_true rfl) ?_
                refine J.if_le (μ := mL_areLots) (pc := 174) 181 dL_areLots_174 (by decide) (fun h6 => ?_) (fun h6 => ?_)
                · exact absurd h6 (Int32.not_le.mpr (pc_pos h hm hlt.2.2))
                · refine J.iconst (μ := mL_areLots) (pc := 177) (v := 1) dL_areLots_177 (by decide) ?_
                  refine J.goto (μ := mL_areLots) (pc := 178) 182 dL_areLots_178 (by decide) ?_
                  refine J.iand (μ := mL_areLots) (pc := 182) dL_areLots_182 ?_
                  refine J.istore (μ := mL_areLots) (pc := 183) dL_areLots_183 (Nat.le_of_ble_eq_true rfl) rfl ?_
                  refine J.iinc (μ := mL_areLots) (pc := 185) (v := 1) dL_areLots_185 rfl (by decide) (Nat.le_of_ble_eq_true rfl) rfl ?_
                  refine J.goto (μ := mL_areLots) (pc := 188) 107 dL_areLots_188 (by decide) ?_
                  refine J.sub ?_ ih
                  exact ⟨rfl, rfl, rfl, rfl, rfl, rfl, rfl, by rw [ec, ← nI_1], by rw [nI_1], trivial⟩
      · have hb : fw (parB u 1) N i m = false := by cases q : fw (parB u 1) N i m with | true => exact absurd q hb | false => rfl
        rw [hb, if_neg (by decide)] at ec
        rw [hb]
        refine J.istore (μ := mL_areLots) (pc := 122) dL_areLots_122 (Nat.le_of_ble_eq_true rfl) rfl ?_
        refine J.iload (μ := mL_areLots) (pc := 124) dL_areLots_124 rfl ?_
        refine J.iload (μ := mL_areLots) (pc := 126) dL_areLots_126 rfl ?_
        refine J.if_eq (μ := mL_areLots) (pc := 128) 135 dL_areLots_128 (by decide) (fun h2 => ?_) (fun h2 => ?_)
        · refine J.iconst (μ := mL_areLots) (pc := 135) (v := 0) dL_areLots_135 (by decide) ?_
          refine J.iadd (μ := mL_areLots) (pc := 136) dL_areLots_136 ?_
          refine J.istore (μ := mL_areLots) (pc := 137) dL_areLots_137 (Nat.le_of_ble_eq_true rfl) rfl ?_
          refine J.iload (μ := mL_areLots) (pc := 139) dL_areLots_139 rfl ?_
          refine J.iload (μ := mL_areLots) (pc := 141) dL_areLots_141 rfl ?_
          refine J.if_eq (μ := mL_areLots) (pc := 143) 177 dL_areLots_143 (by decide) (fun h3 => ?_) (fun h3 => ?_)
          · refine J.iconst (μ := mL_areLots) (pc := 177) (v := 1) dL_areLots_177 (by decide) ?_
            refine J.goto (μ := mL_areLots) (pc := 178) 182 dL_areLots_178 (by decide) ?_
            refine J.iand (μ := mL_areLots) (pc := 182) dL_areLots_182 ?_
            refine J.istore (μ := mL_areLots) (pc := 183) dL_areLots_183 (Nat.le_of_ble_eq_true rfl) rfl ?_
            refine J.iinc (μ := mL_areLots) (pc := 185) (v := 1) dL_areLots_185 rfl (by decide) (Nat.le_of_ble_eq_true rfl) rfl ?_
            refine J.goto (μ := mL_areLots) (pc := 188) 107 dL_areLots_188 (by decide) ?_
            refine J.sub ?_ ih
            exact ⟨rfl, rfl, rfl, rfl, rfl, rfl, rfl, by rw [ec, Nat.add_zero]; show some (Value.int (nI _ + 0)) = _; rw [Int32.add_zero], by rw [nI_1], trivial⟩
          · exact absurd rfl h3
        · exact absurd rfl h2

theorem al_2 {γ : Gm} {T N M H : Nat} {v : Vs} (h : Inv 0 T N M H (iv v 1)) (hT : T ≤ 1000000000) {k n : Nat} (hk : k ≤ 16) (hn : n ≤ 96) {x6 x7 x8 x9 : Option Value} : J γ mL_areLots (rmD 34 60 360) (fEv γ 60 360 (fun r K => r = some (.int 1) ∧ ∃ u, Sc v u ∧ Rp γ u K)) k n 86 [some (.ref (gz γ + 0)), some (.int (0)), some (.int (0)), some (.int (0)), some (.int (nI N)), some (.int (1)), x6, x7, x8, x9] [] (Rp γ v) := by
  have h20 := h.1.1.2
  refine J.iconst (μ := mL_areLots) (pc := 86) (v := 0) dL_areLots_86 (by decide) ?_
  refine J.istore (μ := mL_areLots) (pc := 87) dL_areLots_87 (Nat.le_of_ble_eq_true rfl) rfl ?_
  refine J.sub ?_ (J.of (P' := (fun K => ∃ u, Sc v u ∧ Rp γ u K)) (fun K k => ⟨v, Sc.rf, k⟩) (J.forK (μ := mL_areLots) (hd := 89) (kf := fun i => k + i) (nf := fun i => n + 6 * i) (Lf := fun i => [some (.ref (gz γ + 0)), some (.int (sm (fun i => decide (0 ≤ gPl v 1 (nI i))) (fun i => gVo v 1 (nI i)) i)), some (.int (nI (cn (fun i => decide (0 ≤ gPl v 1 (nI i))) i))), some (.int (nI (cn (fun i => decide (0 ≤ gPl v 1 (nI i) ∧ gEp v 1 (nI i) < v 1 3)) i))), some (.int (nI N)), some (.int (1)), some (.int (nI i)), none, none, none]) (Pf := fun _ => (fun K => ∃ u, Sc v u ∧ Rp γ u K)) N ?_ (fun i hi ih => ?_)))
  · exact ⟨rfl, rfl, rfl, rfl, rfl, rfl, rfl, trivial⟩
  · refine J.ex fun u => J.and fun hu => ?_
    have hPl : gPl u 1 = gPl v 1 := by funext x; unfold gPl; rw [hu (1 + 18) (by decide)]
    have hVo : gVo u 1 = gVo v 1 := by funext x; unfold gVo; rw [hu (1 + 14) (by decide)]
    have hEp : gEp u 1 = gEp v 1 := by funext x; unfold gEp; rw [hu (1 + 16) (by decide)]
    have hT1 : u 1 3 = v 1 3 := by rw [hu 1 (by decide)]
    have hI := h.sq (hu.sq (o := 1) (by decide))
    refine J.iload (μ := mL_areLots) (pc := 89) dL_areLots_89 rfl ?_
    refine J.if_eq (μ := mL_areLots) (pc := 91) 368 dL_areLots_91 (by decide) (fun h1 => ?_) (fun h1 => ?_)
    · exact absurd h1 (by decide)
    · refine J.iload (μ := mL_areLots) (pc := 94) dL_areLots_94 rfl ?_
      refine J.iload (μ := mL_areLots) (pc := 96) dL_areLots_96 rfl ?_
      refine J.icmp_ge (μ := mL_areLots) (pc := 98) 368 dL_areLots_98 (by decide) (fun h2 => ?_) (fun h2 => ?_)
      · refine J.sub ?_ (al_3 hI hu hT (k := k + N) (n := n + 6 * N) rfl rfl rfl (x6 := none) (x7 := none) (x8 := none) (x9 := none) (by omega) (by omega))
        rw [hPl, hVo, hEp, hT1]
        exact ⟨rfl, rfl, rfl, rfl, rfl, rfl, trivial⟩
      · exact (Int32.lt_irrefl h2).elim
  · refine J.ex fun u => J.and fun hu => ?_
    have hPl : gPl u 1 = gPl v 1 := by funext x; unfold gPl; rw [hu (1 + 18) (by decide)]
    have hVo : gVo u 1 = gVo v 1 := by funext x; unfold gVo; rw [hu (1 + 14) (by decide)]
    have hEp : gEp u 1 = gEp v 1 := by funext x; unfold gEp; rw [hu (1 + 16) (by decide)]
    have hT1 : u 1 3 = v 1 3 := by rw [hu 1 (by decide)]
    have hI := h.sq (hu.sq (o := 1) (by decide))
    have hli : hasL u 1 (nI i) := hI.hsL.mpr ⟨i, hi, rfl⟩
    have hlo := hI.lot hi
    have es : sm (fun i => decide (0 ≤ gPl v 1 (nI i))) (fun i => gVo v 1 (nI i)) (i + 1) = (if 0 ≤ gPl v 1 (nI i) then sm (fun i => decide (0 ≤ gPl v 1 (nI i))) (fun i => gVo v 1 (nI i)) i + gVo v 1 (nI i) else sm (fun i => decide (0 ≤ gPl v 1 (nI i))) (fun i => gVo v 1 (nI i)) i) := by
      show (if decide (0 ≤ gPl v 1 (nI i)) = true then _ else _) = _
      simp only [decide_eq_true_iff]
    have em : cn (fun i => decide (0 ≤ gPl v 1 (nI i))) (i + 1) = cn (fun i => decide (0 ≤ gPl v 1 (nI i))) i + (if 0 ≤ gPl v 1 (nI i) then 1 else 0) := by
      show cn _ i + (if decide (0 ≤ gPl v 1 (nI i)) = true then 1 else 0) = _
      simp only [decide_eq_true_iff]
    have eo : cn (fun i => decide (0 ≤ gPl v 1 (nI i) ∧ gEp v 1 (nI i) < v 1 3)) (i + 1) = cn (fun i => decide (0 ≤ gPl v 1 (nI i) ∧ gEp v 1 (nI i) < v 1 3)) i + (if 0 ≤ gPl v 1 (nI i) ∧ gEp v 1 (nI i) < v 1 3 then 1 else 0) := by
      show cn _ i + (if decide (0 ≤ gPl v 1 (nI i) ∧ gEp v 1 (nI i) < v 1 3) = true then 1 else 0) = _
      simp only [decide_eq_true_iff]
    have end1 : ∀ u2, Sc v u2 → ∀ x7 x8 x9 : Option Value, J γ mL_areLots (rmD 34 60 360) (fEv γ 60 360 (fun r K => r = some (.int 1) ∧ ∃ u, Sc v u ∧ Rp γ u K)) (k + i + 1) (n + 6 * i + 6) 355 [some (.ref (gz γ + 0)), some (.int (sm (fun i => decide (0 ≤ gPl v 1 (nI i))) (fun i => gVo v 1 (nI i)) (i + 1))), some (.int (nI (cn (fun i => decide (0 ≤ gPl v 1 (nI i))) (i + 1)))), some (.int (nI (cn (fun i => decide (0 ≤ gPl v 1 (nI i) ∧ gEp v 1 (nI i) < v 1 3)) (i + 1)))), some (.int (nI N)), some (.int (1)), some (.int (nI i)), x7, x8, x9] [] (Rp γ u2) := by
      intro u2 hu2 x7 x8 x9
      refine J.iconst (μ := mL_areLots) (pc := 355) (v := 1) dL_areLots_355 (by decide) ?_
      refine J.goto (μ := mL_areLots) (pc := 356) 360 dL_areLots_356 (by decide) ?_
      refine J.istore (μ := mL_areLots) (pc := 360) dL_areLots_360 (Nat.le_of_ble_eq_true rfl) rfl ?_
      refine J.iinc (μ := mL_areLots) (pc := 362) (v := 1) dL_areLots_362 rfl (by decide) (Nat.le_of_ble_eq_true rfl) rfl ?_
      refine J.goto (μ := mL_areLots) (pc := 365) 89 dL_areLots_365 (by decide) ?_
      refine J.widen (k' := k + (i + 1)) (n' := n + 6 * (i + 1)) (by omega) (by omega) (J.sub ?_ (J.of (fun K kk => ⟨u2, hu2, kk⟩) ih))
      exact ⟨rfl, rfl, rfl, rfl, rfl, rfl, by rw [nI_1], trivial⟩
    have end2 : ∀ u2, Sc v u2 → ∀ x9 : Option Value, J γ mL_areLots (rmD 34 60 360) (fEv γ 60 360 (fun r K => r = some (.int 1) ∧ ∃ u, Sc v u ∧ Rp γ u K)) (k + i + 1) (n + 6 * i + 6) 301 [some (.ref (gz γ + 0)), some (.int (sm (fun i => decide (0 ≤ gPl v 1 (nI i))) (fun i => gVo v 1 (nI i)) (i + 1))), some (.int (nI (cn (fun i => decide (0 ≤ gPl v 1 (nI i))) (i + 1)))), some (.int (nI (cn (fun i => decide (0 ≤ gPl v 1 (nI i) ∧ gEp v 1 (nI i) < v 1 3)) (i + 1)))), some (.int (nI N)), some (.int (1)), some (.int (nI i)), some (.int (nI (cn (fun j => fw (parB u 1) N i j) N))), some (.int (bi (decide (0 ≤ gPl v 1 (nI i))))), x9] [] (Rp γ u2) := by
      intro u2 hu2 x9
      have jPl : gPl u2 1 = gPl v 1 := by funext x; unfold gPl; rw [hu2 (1 + 18) (by decide)]
      have jVo : gVo u2 1 = gVo v 1 := by funext x; unfold gVo; rw [hu2 (1 + 14) (by decide)]
      have jEp : gEp u2 1 = gEp v 1 := by funext x; unfold gEp; rw [hu2 (1 + 16) (by decide)]
      have jT1 : u2 1 3 = v 1 3 := by rw [hu2 1 (by decide)]
      have jpB : parB u2 1 = parB u 1 := parB_sq (fun c hc => by rw [hu2 _ (by omega), hu _ (by omega)])
      have hI2 := h.sq (hu2.sq (o := 1) (by decide))
      have hl2 : hasL u2 1 (nI i) := hI2.hsL.mpr ⟨i, hi, rfl⟩
      have hfam := hI2.fam_le (a := i)
      have efam := hI2.famN hi
      have end3 : J γ mL_areLots (rmD 34 60 360) (fEv γ 60 360 (fun r K => r = some (.int 1) ∧ ∃ u, Sc v u ∧ Rp γ u K)) (k + i + 1) (n + 6 * i + 6) 342 [some (.ref (gz γ + 0)), some (.int (sm (fun i => decide (0 ≤ gPl v 1 (nI i))) (fun i => gVo v 1 (nI i)) (i + 1))), some (.int (nI (cn (fun i => decide (0 ≤ gPl v 1 (nI i))) (i + 1)))), some (.int (nI (cn (fun i => decide (0 ≤ gPl v 1 (nI i) ∧ gEp v 1 (nI i) < v 1 3)) (i + 1)))), some (.int (nI N)), some (.int (1)), some (.int (nI i)), some (.int (nI (cn (fun j => fw (parB u 1) N i j) N))), some (.int (bi (decide (0 ≤ gPl v 1 (nI i))))), x9] [] (Rp γ u2) := by
        refine J.aload_n (μ := mL_areLots) (pc := 342) dL_areLots_342 rfl ?_
        refine J.iload (μ := mL_areLots) (pc := 343) dL_areLots_343 rfl ?_
        refine J.cV (μ := mL_areLots) (pc := 345) (s_X11_recallSize hI2.vN h20 (by omega) hl2) rfl wm_L_267 mi_X11_recallSize rfl dL_areLots_345 (Rp.isa (T := TX11) rfl sh0) rfl rfl ⟨(Nat.le_of_ble_eq_true rfl), (Nat.le_of_ble_eq_true rfl)⟩ ⟨(by show _ ≤ 60; omega), (by show _ ≤ 360; omega)⟩ (Nat.le_of_ble_eq_true rfl) ?_
        rw [efam]
        refine J.iload (μ := mL_areLots) (pc := 348) dL_areLots_348 rfl ?_
        refine J.iconst (μ := mL_areLots) (pc := 350) (v := 1) dL_areLots_350 (by decide) ?_
        refine J.iadd (μ := mL_areLots) (pc := 351) dL_areLots_351 ?_
        refine J.icmp_gt (μ := mL_areLots) (pc := 352) 359 dL_areLots_352 (by decide) (fun h3 => ?_) (fun h3 => ?_)
        · exfalso
          have c1 := cn_le (fun j => fw (parB u 1) N i j) N
          rw [jpB] at hfam
          rw [nI_1, t_lt, t_nI (by omega), t_nI (by omega)] at h3
          omega
        · exact end1 u2 hu2 _ _ _
      have end4 : ∀ a b : Bool, a = b → J γ mL_areLots (rmD 34 60 360) (fEv γ 60 360 (fun r K => r = some (.int 1) ∧ ∃ u, Sc v u ∧ Rp γ u K)) (k + i + 1) (n + 6 * i + 6) 325 [some (.ref (gz γ + 0)), some (.int (sm (fun i => decide (0 ≤ gPl v 1 (nI i))) (fun i => gVo v 1 (nI i)) (i + 1))), some (.int (nI (cn (fun i => decide (0 ≤ gPl v 1 (nI i))) (i + 1)))), some (.int (nI (cn (fun i => decide (0 ≤ gPl v 1 (nI i) ∧ gEp v 1 (nI i) < v 1 3)) (i + 1)))), some (.int (nI N)), some (.int (1)), some (.int (nI i)), some (.int (nI (cn (fun j => fw (parB u 1) N i j) N))), some (.int (bi (decide (0 ≤ gPl v 1 (nI i))))), x9] [.int (bi b), .int (bi a)] (Rp γ u2) := by
        intro a b hab
        subst hab
        refine J.icmp_ne (μ := mL_areLots) (pc := 325) 359 dL_areLots_325 (by decide) (fun h4 => ?_) (fun h4 => ?_)
        · exact absurd rfl h4
        · refine J.iload (μ := mL_areLots) (pc := 328) dL_areLots_328 rfl ?_
          refine J.if_eq (μ := mL_areLots) (pc := 330) 342 dL_areLots_330 (by decide) (fun h5 => ?_) (fun h5 => ?_)
          · exact end3
          · by_cases hon : 0 ≤ gPl v 1 (nI i)
            · refine J.aload_n (μ := mL_areLots) (pc := 333) dL_areLots_333 rfl ?_
              refine J.iload (μ := mL_areLots) (pc := 334) dL_areLots_334 rfl ?_
              refine J.cV (μ := mL_areLots) (pc := 336) (s_X11_volumeOf hl2) rfl wm_L_206 mi_X11_volumeOf rfl dL_areLots_336 (Rp.isa (T := TX11) rfl sh0) rfl rfl ⟨(Nat.le_of_ble_eq_true rfl), (Nat.le_of_ble_eq_true rfl)⟩ ⟨(by show _ ≤ 60; omega), (by show _ ≤ 360; omega)⟩ (Nat.le_of_ble_eq_true rfl) ?_
              refine J.if_le (μ := mL_areLots) (pc := 339) 359 dL_areLots_339 (by decide) (fun h6 => ?_) (fun h6 => ?_)
              · exfalso
                rw [jVo, ← hVo, t_le, zVo (by omega), t_0] at h6
                rw [← hPl, t_le, zPl (by omega), t_0] at hon
                obtain ⟨j, -, -, -, q, -⟩ := hlo.2.2.2.1.on hon
                omega
              · exact end3
            · exact absurd (by rw [decide_eq_false hon]; rfl) h5
      refine J.aload_n (μ := mL_areLots) (pc := 301) dL_areLots_301 rfl ?_
      refine J.iload (μ := mL_areLots) (pc := 302) dL_areLots_302 rfl ?_
      refine J.cV (μ := mL_areLots) (pc := 304) (s_X11_isExpired hl2) rfl wm_L_258 mi_X11_isExpired rfl dL_areLots_304 (Rp.isa (T := TX11) rfl sh0) rfl rfl ⟨(Nat.le_of_ble_eq_true rfl), (Nat.le_of_ble_eq_true rfl)⟩ ⟨(by show _ ≤ 60; omega), (by show _ ≤ 360; omega)⟩ (Nat.le_of_ble_eq_true rfl) ?_
      refine J.aload_n (μ := mL_areLots) (pc := 307) dL_areLots_307 rfl ?_
      refine J.cV (μ := mL_areLots) (pc := 308) (s_X11_day) rfl wm_L_170 mi_X11_day rfl dL_areLots_308 (Rp.isa (T := TX11) rfl sh0) rfl rfl ⟨(Nat.le_of_ble_eq_true rfl), (Nat.le_of_ble_eq_true rfl)⟩ ⟨(by show _ ≤ 60; omega), (by show _ ≤ 360; omega)⟩ (Nat.le_of_ble_eq_true rfl) ?_
      refine J.aload_n (μ := mL_areLots) (pc := 311) dL_areLots_311 rfl ?_
      refine J.iload (μ := mL_areLots) (pc := 312) dL_areLots_312 rfl ?_
      refine J.cV (μ := mL_areLots) (pc := 314) (s_X11_expiryOf hl2) rfl wm_L_209 mi_X11_expiryOf rfl dL_areLots_314 (Rp.isa (T := TX11) rfl sh0) rfl rfl ⟨(Nat.le_of_ble_eq_true rfl), (Nat.le_of_ble_eq_true rfl)⟩ ⟨(by show _ ≤ 60; omega), (by show _ ≤ 360; omega)⟩ (Nat.le_of_ble_eq_true rfl) ?_
      rw [jEp, jT1]
      refine J.icmp_le (μ := mL_areLots) (pc := 317) 324 dL_areLots_317 (by decide) (fun h7 => ?_) (fun h7 => ?_)
      · rw [decide_eq_false (Int32.not_lt.mpr h7)]
        refine J.iconst (μ := mL_areLots) (pc := 324) (v := 0) dL_areLots_324 (by decide) ?_
        exact end4 false false rfl
      · rw [decide_eq_true (show gEp v 1 (nI i) < v 1 3 from by first | exact h7 | exact Int32.not_le.mp h7)]
        refine J.iconst (μ := mL_areLots) (pc := 320) (v := 1) dL_areLots_320 (by decide) ?_
        refine J.goto (μ := mL_areLots) (pc := 321) 325 dL_areLots_321 (by decide) ?_
        exact end4 true true rfl
    have end5 : ∀ x9 : Option Value, J γ mL_areLots (rmD 34 60 360) (fEv γ 60 360 (fun r K => r = some (.int 1) ∧ ∃ u, Sc v u ∧ Rp γ u K)) (k + i) (n + 6 * i) 252 [some (.ref (gz γ + 0)), some (.int (sm (fun i => decide (0 ≤ gPl v 1 (nI i))) (fun i => gVo v 1 (nI i)) (i + 1))), some (.int (nI (cn (fun i => decide (0 ≤ gPl v 1 (nI i))) (i + 1)))), some (.int (nI (cn (fun i => decide (0 ≤ gPl v 1 (nI i) ∧ gEp v 1 (nI i) < v 1 3)) (i + 1)))), some (.int (nI N)), some (.int (1)), some (.int (nI i)), some (.int (nI (cn (fun j => fw (parB u 1) N i j) N))), some (.int (bi (decide (0 ≤ gPl v 1 (nI i))))), x9] [] (Rp γ u) := by
      intro x9
      refine J.iload (μ := mL_areLots) (pc := 252) dL_areLots_252 rfl ?_
      refine J.if_eq (μ := mL_areLots) (pc := 254) 359 dL_areLots_254 (by decide) (fun h1 => ?_) (fun h1 => ?_)
      · exact absurd h1 (by decide)
      · refine J.aload_n (μ := mL_areLots) (pc := 257) dL_areLots_257 rfl ?_
        refine J.iload (μ := mL_areLots) (pc := 258) dL_areLots_258 rfl ?_
        refine J.cV (μ := mL_areLots) (pc := 260) (s_X11_descendants hI.vN h20 (by omega) hli) rfl wm_L_261 mi_X11_descendants rfl dL_areLots_260 (Rp.isa (T := TX11) rfl sh0) rfl rfl ⟨(Nat.le_of_ble_eq_true rfl), (Nat.le_of_ble_eq_true rfl)⟩ ⟨(by show _ ≤ 60; omega), (by show _ ≤ 360; omega)⟩ (Nat.le_of_ble_eq_true rfl) ?_
        rw [hI.desc hi]
        refine J.iload (μ := mL_areLots) (pc := 263) dL_areLots_263 rfl ?_
        refine J.icmp_ne (μ := mL_areLots) (pc := 265) 359 dL_areLots_265 (by decide) (fun h2 => ?_) (fun h2 => ?_)
        · exact absurd rfl h2
        · refine J.aload_n (μ := mL_areLots) (pc := 268) dL_areLots_268 rfl ?_
          refine J.iload (μ := mL_areLots) (pc := 269) dL_areLots_269 rfl ?_
          refine J.callV (μ := mL_areLots) (pc := 271) (s_X11_descendantsByTable hI.vN h20 hi hli) rfl wm_L_264 mi_X11_descendantsByTable rfl dL_areLots_271 (Rp.isa (T := TX11) rfl sh0) rfl rfl ⟨(Nat.le_of_ble_eq_true rfl), (Nat.le_of_ble_eq_true rfl)⟩ ⟨(by show _ ≤ 60; omega), (by show _ ≤ 360; omega)⟩ (Nat.le_of_ble_eq_true rfl) (fun w => J.and fun e => J.ex fun g => ?_)
          subst e
          generalize hu2 : upT u g = u2
          have s2 : Sc u u2 := by rw [← hu2]; exact Sc.tab
          have hv2 := hu.tr s2
          have jPl : gPl u2 1 = gPl v 1 := by funext x; unfold gPl; rw [hv2 (1 + 18) (by decide)]
          have hI2 := h.sq (hv2.sq (o := 1) (by decide))
          have hl2 : hasL u2 1 (nI i) := hI2.hsL.mpr ⟨i, hi, rfl⟩
          refine J.iload (μ := mL_areLots) (pc := 274) dL_areLots_274 rfl ?_
          refine J.icmp_ne (μ := mL_areLots) (pc := 276) 359 dL_areLots_276 (by decide) (fun h3 => ?_) (fun h3 => ?_)
          · exact absurd rfl h3
          · refine J.iload (μ := mL_areLots) (pc := 279) dL_areLots_279 rfl ?_
            refine J.aload_n (μ := mL_areLots) (pc := 281) dL_areLots_281 rfl ?_
            refine J.iload (μ := mL_areLots) (pc := 282) dL_areLots_282 rfl ?_
            refine J.callSW (μ := mL_areLots) (pc := 284) (l_shelfOf hl2) rfl wm_L_212 mi_L_shelfOf (fun h => by cases h) dL_areLots_284 rfl rfl ⟨(Nat.le_of_ble_eq_true rfl), (Nat.le_of_ble_eq_true rfl)⟩ ⟨(by show _ ≤ 60; omega), (by show _ ≤ 360; omega)⟩ (Nat.le_of_ble_eq_true rfl) (fun w => J.and (fun e => ?_))
            subst e
            rw [jPl]
            refine J.sipush (μ := mL_areLots) (pc := 287) (v := -1000) dL_areLots_287 (by decide) ?_
            by_cases hon : 0 ≤ gPl v 1 (nI i)
            · rw [nz_p (Int32.not_lt.mpr hon)]
              refine J.icmp_eq (μ := mL_areLots) (pc := 290) 297 dL_areLots_290 (by decide) (fun h4 => ?_) (fun h4 => ?_)
              · exfalso
                rw [t_le, t_0] at hon
                rw [t_eq] at h4
                have : (-1000 : Int32).toInt = -1000 := by decide
                omega
              · refine J.iconst (μ := mL_areLots) (pc := 293) (v := 1) dL_areLots_293 (by decide) ?_
                refine J.goto (μ := mL_areLots) (pc := 294) 298 dL_areLots_294 (by decide) ?_
                refine J.icmp_ne (μ := mL_areLots) (pc := 298) 359 dL_areLots_298 (by decide) (fun h5 => ?_) (fun h5 => ?_)
                · exact absurd (by rw [decide_eq_true hon]; rfl) h5
                · exact end2 u2 hv2 _
            · rw [nz_n (Int32.not_le.mp hon)]
              refine J.icmp_eq (μ := mL_areLots) (pc := 290) 297 dL_areLots_290 (by decide) (fun h4 => ?_) (fun h4 => ?_)
              · refine J.iconst (μ := mL_areLots) (pc := 297) (v := 0) dL_areLots_297 (by decide) ?_
                refine J.icmp_ne (μ := mL_areLots) (pc := 298) 359 dL_areLots_298 (by decide) (fun h5 => ?_) (fun h5 => ?_)
                · exact absurd (by rw [decide_eq_false hon]; rfl) h5
                · exact end2 u2 hv2 _
              · exact absurd rfl h4
    refine J.iload (μ := mL_areLots) (pc := 89) dL_areLots_89 rfl ?_
    refine J.if_eq (μ := mL_areLots) (pc := 91) 368 dL_areLots_91 (by decide) (fun h1 => ?_) (fun h1 => ?_)
    · exact absurd h1 (by decide)
    · refine J.iload (μ := mL_areLots) (pc := 94) dL_areLots_94 rfl ?_
      refine J.iload (μ := mL_areLots) (pc := 96) dL_areLots_96 rfl ?_
      refine J.icmp_ge (μ := mL_areLots) (pc := 98) 368 dL_areLots_98 (by decide) (fun h2 => ?_) (fun h2 => ?_)
      · exact absurd h2 (nI_ge hi (by omega))
      · refine J.iconst (μ := mL_areLots) (pc := 101) (v := 0) dL_areLots_101 (by decide) ?_
        refine J.istore (μ := mL_areLots) (pc := 102) dL_areLots_102 (Nat.le_of_ble_eq_true rfl) rfl ?_
        refine J.iconst (μ := mL_areLots) (pc := 104) (v := 0) dL_areLots_104 (by decide) ?_
        refine J.istore (μ := mL_areLots) (pc := 105) dL_areLots_105 (Nat.le_of_ble_eq_true rfl) rfl ?_
        refine J.sub ?_ (al_1 hI hi (X1 := sm (fun i => decide (0 ≤ gPl v 1 (nI i))) (fun i => gVo v 1 (nI i)) i) (X2 := nI (cn (fun i => decide (0 ≤ gPl v 1 (nI i))) i)) (X3 := nI (cn (fun i => decide (0 ≤ gPl v 1 (nI i) ∧ gEp v 1 (nI i) < v 1 3)) i)) (by omega) (by omega) ?_)
        · exact ⟨rfl, rfl, rfl, rfl, rfl, rfl, rfl, rfl, rfl, trivial⟩
        refine J.aload_n (μ := mL_areLots) (pc := 191) dL_areLots_191 rfl ?_
        refine J.iload (μ := mL_areLots) (pc := 192) dL_areLots_192 rfl ?_
        refine J.cV (μ := mL_areLots) (pc := 194) (s_X11_isOnShelf hli) rfl wm_L_254 mi_X11_isOnShelf rfl dL_areLots_194 (Rp.isa (T := TX11) rfl sh0) rfl rfl ⟨(Nat.le_of_ble_eq_true rfl), (Nat.le_of_ble_eq_true rfl)⟩ ⟨(by show _ ≤ 60; omega), (by show _ ≤ 360; omega)⟩ (Nat.le_of_ble_eq_true rfl) ?_
        rw [hPl]
        refine J.istore (μ := mL_areLots) (pc := 197) dL_areLots_197 (Nat.le_of_ble_eq_true rfl) rfl ?_
        refine J.iload_n (μ := mL_areLots) (pc := 199) dL_areLots_199 rfl ?_
        refine J.iload (μ := mL_areLots) (pc := 200) dL_areLots_200 rfl ?_
        by_cases hon : 0 ≤ gPl v 1 (nI i)
        · rw [if_pos hon] at es em
          refine J.if_eq (μ := mL_areLots) (pc := 202) 214 dL_areLots_202 (by decide) (fun h3 => ?_) (fun h3 => ?_)
          · exact absurd h3 (by rw [decide_eq_true hon]; decide)
          · refine J.aload_n (μ := mL_areLots) (pc := 205) dL_areLots_205 rfl ?_
            refine J.iload (μ := mL_areLots) (pc := 206) dL_areLots_206 rfl ?_
            refine J.cV (μ := mL_areLots) (pc := 208) (s_X11_volumeOf hli) rfl wm_L_206 mi_X11_volumeOf rfl dL_areLots_208 (Rp.isa (T := TX11) rfl sh0) rfl rfl ⟨(Nat.le_of_ble_eq_true rfl), (Nat.le_of_ble_eq_true rfl)⟩ ⟨(by show _ ≤ 60; omega), (by show _ ≤ 360; omega)⟩ (Nat.le_of_ble_eq_true rfl) ?_
            rw [hVo]
            refine J.goto (μ := mL_areLots) (pc := 211) 215 dL_areLots_211 (by decide) ?_
            refine J.iadd (μ := mL_areLots) (pc := 215) dL_areLots_215 ?_
            refine J.istore_n (μ := mL_areLots) (pc := 216) dL_areLots_216 (Nat.le_of_ble_eq_true rfl) rfl ?_
            refine J.iload_n (μ := mL_areLots) (pc := 217) dL_areLots_217 rfl ?_
            refine J.iload (μ := mL_areLots) (pc := 218) dL_areLots_218 rfl ?_
            refine J.if_eq (μ := mL_areLots) (pc := 220) 227 dL_areLots_220 (by decide) (fun h4 => ?_) (fun h4 => ?_)
            · exact absurd h4 (by rw [decide_eq_true hon]; decide)
            · refine J.iconst (μ := mL_areLots) (pc := 223) (v := 1) dL_areLots_223 (by decide) ?_
              refine J.goto (μ := mL_areLots) (pc := 224) 228 dL_areLots_224 (by decide) ?_
              refine J.iadd (μ := mL_areLots) (pc := 228) dL_areLots_228 ?_
              refine J.istore_n (μ := mL_areLots) (pc := 229) dL_areLots_229 (Nat.le_of_ble_eq_true rfl) rfl ?_
              refine J.iload_n (μ := mL_areLots) (pc := 230) dL_areLots_230 rfl ?_
              refine J.iload (μ := mL_areLots) (pc := 231) dL_areLots_231 rfl ?_
              refine J.if_eq (μ := mL_areLots) (pc := 233) 249 dL_areLots_233 (by decide) (fun h5 => ?_) (fun h5 => ?_)
              · exact absurd h5 (by rw [decide_eq_true hon]; decide)
              · refine J.aload_n (μ := mL_areLots) (pc := 236) dL_areLots_236 rfl ?_
                refine J.iload (μ := mL_areLots) (pc := 237) dL_areLots_237 rfl ?_
                refine J.cV (μ := mL_areLots) (pc := 239) (s_X11_isExpired hli) rfl wm_L_258 mi_X11_isExpired rfl dL_areLots_239 (Rp.isa (T := TX11) rfl sh0) rfl rfl ⟨(Nat.le_of_ble_eq_true rfl), (Nat.le_of_ble_eq_true rfl)⟩ ⟨(by show _ ≤ 60; omega), (by show _ ≤ 360; omega)⟩ (Nat.le_of_ble_eq_true rfl) ?_
                rw [hEp, hT1]
                by_cases hx : gEp v 1 (nI i) < v 1 3
                · rw [if_pos ⟨hon, hx⟩] at eo
                  refine J.ifB_eq (μ := mL_areLots) (pc := 242) 249 dL_areLots_242 (by decide) (fun h6 => ?_) (fun h6 => ?_)
                  · exact absurd hx h6
                  · refine J.iconst (μ := mL_areLots) (pc := 245) (v := 1) dL_areLots_245 (by decide) ?_
                    refine J.goto (μ := mL_areLots) (pc := 246) 250 dL_areLots_246 (by decide) ?_
                    refine J.iadd (μ := mL_areLots) (pc := 250) dL_areLots_250 ?_
                    refine J.istore_n (μ := mL_areLots) (pc := 251) dL_areLots_251 (Nat.le_of_ble_eq_true rfl) rfl ?_
                    refine J.sub ?_ (end5 none)
                    exact ⟨rfl, by rw [es], by rw [em, ← nI_1], by rw [eo, ← nI_1], rfl, rfl, rfl, rfl, rfl, trivial⟩
                · rw [if_neg (fun q => hx q.2)] at eo
                  refine J.ifB_eq (μ := mL_areLots) (pc := 242) 249 dL_areLots_242 (by decide) (fun h6 => ?_) (fun h6 => ?_)
                  · refine J.iconst (μ := mL_areLots) (pc := 249) (v := 0) dL_areLots_249 (by decide) ?_
                    refine J.iadd (μ := mL_areLots) (pc := 250) dL_areLots_250 ?_
                    refine J.istore_n (μ := mL_areLots) (pc := 251) dL_areLots_251 (Nat.le_of_ble_eq_true rfl) rfl ?_
                    refine J.sub ?_ (end5 none)
                    exact ⟨rfl, by rw [es], by rw [em, ← nI_1], by rw [eo, Nat.add_zero]; show some (Value.int (nI _ + 0)) = _; rw [Int32.add_zero], rfl, rfl, rfl, rfl, rfl, trivial⟩
                  · exact absurd h6 hx
        · rw [if_neg hon] at es em
          rw [if_neg (fun q => hon q.1)] at eo
          refine J.if_eq (μ := mL_areLots) (pc := 202) 214 dL_areLots_202 (by decide) (fun h3 => ?_) (fun h3 => ?_)
          · refine J.iconst (μ := mL_areLots) (pc := 214) (v := 0) dL_areLots_214 (by decide) ?_
            refine J.iadd (μ := mL_areLots) (pc := 215) dL_areLots_215 ?_
            refine J.istore_n (μ := mL_areLots) (pc := 216) dL_areLots_216 (Nat.le_of_ble_eq_true rfl) rfl ?_
            refine J.iload_n (μ := mL_areLots) (pc := 217) dL_areLots_217 rfl ?_
            refine J.iload (μ := mL_areLots) (pc := 218) dL_areLots_218 rfl ?_
            refine J.if_eq (μ := mL_areLots) (pc := 220) 227 dL_areLots_220 (by decide) (fun h4 => ?_) (fun h4 => ?_)
            · refine J.iconst (μ := mL_areLots) (pc := 227) (v := 0) dL_areLots_227 (by decide) ?_
              refine J.iadd (μ := mL_areLots) (pc := 228) dL_areLots_228 ?_
              refine J.istore_n (μ := mL_areLots) (pc := 229) dL_areLots_229 (Nat.le_of_ble_eq_true rfl) rfl ?_
              refine J.iload_n (μ := mL_areLots) (pc := 230) dL_areLots_230 rfl ?_
              refine J.iload (μ := mL_areLots) (pc := 231) dL_areLots_231 rfl ?_
              refine J.if_eq (μ := mL_areLots) (pc := 233) 249 dL_areLots_233 (by decide) (fun h5 => ?_) (fun h5 => ?_)
              · refine J.iconst (μ := mL_areLots) (pc := 249) (v := 0) dL_areLots_249 (by decide) ?_
                refine J.iadd (μ := mL_areLots) (pc := 250) dL_areLots_250 ?_
                refine J.istore_n (μ := mL_areLots) (pc := 251) dL_areLots_251 (Nat.le_of_ble_eq_true rfl) rfl ?_
                refine J.sub ?_ (end5 none)
                exact ⟨rfl, by rw [es]; show some (Value.int (_ + 0)) = _; rw [Int32.add_zero], by rw [em, Nat.add_zero]; show some (Value.int (nI _ + 0)) = _; rw [Int32.add_zero], by rw [eo, Nat.add_zero]; show some (Value.int (nI _ + 0)) = _; rw [Int32.add_zero], rfl, rfl, rfl, rfl, rfl, trivial⟩
              · exact absurd (by rw [decide_eq_false hon]; rfl) h5
            · exact absurd (by rw [decide_eq_false hon]; rfl) h4
          · exact absurd (by rw [decide_eq_false hon]; rfl) h3

theorem l_areLots {γ : Gm} {T N M H : Nat} {v : Vs} (h : Inv 0 T N M H (iv v 1)) (hT : T ≤ 1000000000) : Ev γ mL_areLots yL_areLots 34 60 360 [.ref (gz γ + 0)] (Rp γ v) (fun r K => r = some (.int 1) ∧ ∃ u, Sc v u ∧ Rp γ u K) := by
  have h20 := h.1.1.2
  obtain ⟨t1, t2, t3⟩ := h.top
  have hH : v (1 + 23) 1 = nI H := h.vH
  refine Ev.ofJ (by decide) rfl (fun h => by cases h) (Nat.le_of_ble_eq_true rfl) ?_
  refine J.iconst (μ := mL_areLots) (pc := 0) (v := 0) dL_areLots_0 (by decide) ?_
  refine J.istore_n (μ := mL_areLots) (pc := 1) dL_areLots_1 (Nat.le_of_ble_eq_true rfl) rfl ?_
  refine J.iconst (μ := mL_areLots) (pc := 2) (v := 0) dL_areLots_2 (by decide) ?_
  refine J.istore_n (μ := mL_areLots) (pc := 3) dL_areLots_3 (Nat.le_of_ble_eq_true rfl) rfl ?_
  refine J.iconst (μ := mL_areLots) (pc := 4) (v := 0) dL_areLots_4 (by decide) ?_
  refine J.istore_n (μ := mL_areLots) (pc := 5) dL_areLots_5 (Nat.le_of_ble_eq_true rfl) rfl ?_
  refine J.aload_n (μ := mL_areLots) (pc := 6) dL_areLots_6 rfl ?_
  refine J.cV (μ := mL_areLots) (pc := 7) (s_X11_lotCount) rfl wm_L_190 mi_X11_lotCount rfl dL_areLots_7 (Rp.isa (T := TX11) rfl sh0) rfl rfl ⟨(Nat.le_of_ble_eq_true rfl), (Nat.le_of_ble_eq_true rfl)⟩ ⟨(by show _ ≤ 60; omega), (by show _ ≤ 360; omega)⟩ (Nat.le_of_ble_eq_true rfl) ?_
  refine J.istore (μ := mL_areLots) (pc := 10) dL_areLots_10 (Nat.le_of_ble_eq_true rfl) rfl ?_
  refine J.aload_n (μ := mL_areLots) (pc := 12) dL_areLots_12 rfl ?_
  refine J.cV (μ := mL_areLots) (pc := 13) (s_X11_received) rfl wm_L_175 mi_X11_received rfl dL_areLots_13 (Rp.isa (T := TX11) rfl sh0) rfl rfl ⟨(Nat.le_of_ble_eq_true rfl), (Nat.le_of_ble_eq_true rfl)⟩ ⟨(by show _ ≤ 60; omega), (by show _ ≤ 360; omega)⟩ (Nat.le_of_ble_eq_true rfl) ?_
  refine J.aload_n (μ := mL_areLots) (pc := 16) dL_areLots_16 rfl ?_
  refine J.cV (μ := mL_areLots) (pc := 17) (s_X11_stored h.vN h20) rfl wm_L_237 mi_X11_stored rfl dL_areLots_17 (Rp.isa (T := TX11) rfl sh0) rfl rfl ⟨(Nat.le_of_ble_eq_true rfl), (Nat.le_of_ble_eq_true rfl)⟩ ⟨(by show _ ≤ 60; omega), (by show _ ≤ 360; omega)⟩ (Nat.le_of_ble_eq_true rfl) ?_
  refine J.aload_n (μ := mL_areLots) (pc := 20) dL_areLots_20 rfl ?_
  refine J.cV (μ := mL_areLots) (pc := 21) (s_X11_heaped h.vN h20) rfl wm_L_240 mi_X11_heaped rfl dL_areLots_21 (Rp.isa (T := TX11) rfl sh0) rfl rfl ⟨(Nat.le_of_ble_eq_true rfl), (Nat.le_of_ble_eq_true rfl)⟩ ⟨(by show _ ≤ 60; omega), (by show _ ≤ 360; omega)⟩ (Nat.le_of_ble_eq_true rfl) ?_
  refine J.iadd (μ := mL_areLots) (pc := 24) dL_areLots_24 ?_
  refine J.aload_n (μ := mL_areLots) (pc := 25) dL_areLots_25 rfl ?_
  refine J.cV (μ := mL_areLots) (pc := 26) (s_X11_shipped) rfl wm_L_180 mi_X11_shipped rfl dL_areLots_26 (Rp.isa (T := TX11) rfl sh0) rfl rfl ⟨(Nat.le_of_ble_eq_true rfl), (Nat.le_of_ble_eq_true rfl)⟩ ⟨(by show _ ≤ 60; omega), (by show _ ≤ 360; omega)⟩ (Nat.le_of_ble_eq_true rfl) ?_
  refine J.iadd (μ := mL_areLots) (pc := 29) dL_areLots_29 ?_
  refine J.aload_n (μ := mL_areLots) (pc := 30) dL_areLots_30 rfl ?_
  refine J.cV (μ := mL_areLots) (pc := 31) (s_X11_composted) rfl wm_L_185 mi_X11_composted rfl dL_areLots_31 (Rp.isa (T := TX11) rfl sh0) rfl rfl ⟨(Nat.le_of_ble_eq_true rfl), (Nat.le_of_ble_eq_true rfl)⟩ ⟨(by show _ ≤ 60; omega), (by show _ ≤ 360; omega)⟩ (Nat.le_of_ble_eq_true rfl) ?_
  refine J.iadd (μ := mL_areLots) (pc := 34) dL_areLots_34 ?_
  rw [h.vN]
  refine J.icmp_ne (μ := mL_areLots) (pc := 35) 83 dL_areLots_35 (by decide) (fun h1 => ?_) (fun h1 => ?_)
  · exact absurd (acc_eq h hT) h1
  · refine J.aload_n (μ := mL_areLots) (pc := 38) dL_areLots_38 rfl ?_
    refine J.callSW (μ := mL_areLots) (pc := 39) (l_nextCompost) rfl wm_L_243 mi_L_nextCompost (fun h => by cases h) dL_areLots_39 rfl rfl ⟨(Nat.le_of_ble_eq_true rfl), (Nat.le_of_ble_eq_true rfl)⟩ ⟨(by show _ ≤ 60; omega), (by show _ ≤ 360; omega)⟩ (Nat.le_of_ble_eq_true rfl) (fun w => J.and (fun e => ?_))
    subst e
    refine J.aload_n (μ := mL_areLots) (pc := 42) dL_areLots_42 rfl ?_
    refine J.callSW (μ := mL_areLots) (pc := 43) (l_nextCompostByScan h.vN h20) rfl wm_L_245 mi_L_nextCompostByScan (fun h => by cases h) dL_areLots_43 rfl rfl ⟨(Nat.le_of_ble_eq_true rfl), (Nat.le_of_ble_eq_true rfl)⟩ ⟨(by show _ ≤ 60; omega), (by show _ ≤ 360; omega)⟩ (Nat.le_of_ble_eq_true rfl) (fun w => J.and (fun e => ?_))
    subst e
    rw [t1]
    refine J.icmp_ne (μ := mL_areLots) (pc := 46) 83 dL_areLots_46 (by decide) (fun h2 => ?_) (fun h2 => ?_)
    · exact absurd rfl h2
    · refine J.aload_n (μ := mL_areLots) (pc := 49) dL_areLots_49 rfl ?_
      refine J.callSW (μ := mL_areLots) (pc := 50) (l_nextCompost) rfl wm_L_243 mi_L_nextCompost (fun h => by cases h) dL_areLots_50 rfl rfl ⟨(Nat.le_of_ble_eq_true rfl), (Nat.le_of_ble_eq_true rfl)⟩ ⟨(by show _ ≤ 60; omega), (by show _ ≤ 360; omega)⟩ (Nat.le_of_ble_eq_true rfl) (fun w => J.and (fun e => ?_))
      subst e
      rw [t1]
      refine J.sipush (μ := mL_areLots) (pc := 53) (v := -1000) dL_areLots_53 (by decide) ?_
      have fin : ∀ x5 x6 x7 x8 x9 : Option Value, J γ mL_areLots (rmD 34 60 360) (fEv γ 60 360 (fun r K => r = some (.int 1) ∧ ∃ u, Sc v u ∧ Rp γ u K)) (0 + 1 + 1 + 1) (0 + 6 + 6 + 6) 79 [some (.ref (gz γ + 0)), some (.int (0)), some (.int (0)), some (.int (0)), some (.int (nI N)), x5, x6, x7, x8, x9] [] (Rp γ v) := by
        intro x5 x6 x7 x8 x9
        refine J.iconst (μ := mL_areLots) (pc := 79) (v := 1) dL_areLots_79 (by decide) ?_
        refine J.goto (μ := mL_areLots) (pc := 80) 84 dL_areLots_80 (by decide) ?_
        refine J.istore (μ := mL_areLots) (pc := 84) dL_areLots_84 (Nat.le_of_ble_eq_true rfl) rfl ?_
        exact al_2 h hT (by omega) (by omega)
      by_cases h0 : H = 0
      · rw [t2 h0, nz_n (by decide)]
        refine J.icmp_ne (μ := mL_areLots) (pc := 56) 63 dL_areLots_56 (by decide) (fun h3 => ?_) (fun h3 => ?_)
        · exact absurd rfl h3
        · refine J.iconst (μ := mL_areLots) (pc := 59) (v := 1) dL_areLots_59 (by decide) ?_
          refine J.goto (μ := mL_areLots) (pc := 60) 64 dL_areLots_60 (by decide) ?_
          refine J.aload_n (μ := mL_areLots) (pc := 64) dL_areLots_64 rfl ?_
          refine J.cV (μ := mL_areLots) (pc := 65) (s_X11_heapSize) rfl wm_L_247 mi_X11_heapSize rfl dL_areLots_65 (Rp.isa (T := TX11) rfl sh0) rfl rfl ⟨(Nat.le_of_ble_eq_true rfl), (Nat.le_of_ble_eq_true rfl)⟩ ⟨(by show _ ≤ 60; omega), (by show _ ≤ 360; omega)⟩ (Nat.le_of_ble_eq_true rfl) ?_
          rw [hH, h0]
          refine J.if_ne (μ := mL_areLots) (pc := 68) 75 dL_areLots_68 (by decide) (fun h4 => ?_) (fun h4 => ?_)
          · exact absurd rfl h4
          · refine J.iconst (μ := mL_areLots) (pc := 71) (v := 1) dL_areLots_71 (by decide) ?_
            refine J.goto (μ := mL_areLots) (pc := 72) 76 dL_areLots_72 (by decide) ?_
            refine J.icmp_ne (μ := mL_areLots) (pc := 76) 83 dL_areLots_76 (by decide) (fun h5 => ?_) (fun h5 => ?_)
            · exact absurd rfl h5
            · exact fin _ _ _ _ _
      · obtain ⟨t, ht, et, -, -⟩ := t3 (by omega)
        rw [et, nz_p (nI_pos (by omega))]
        refine J.icmp_ne (μ := mL_areLots) (pc := 56) 63 dL_areLots_56 (by decide) (fun h3 => ?_) (fun h3 => ?_)
        · refine J.iconst (μ := mL_areLots) (pc := 63) (v := 0) dL_areLots_63 (by decide) ?_
          refine J.aload_n (μ := mL_areLots) (pc := 64) dL_areLots_64 rfl ?_
          refine J.cV (μ := mL_areLots) (pc := 65) (s_X11_heapSize) rfl wm_L_247 mi_X11_heapSize rfl dL_areLots_65 (Rp.isa (T := TX11) rfl sh0) rfl rfl ⟨(Nat.le_of_ble_eq_true rfl), (Nat.le_of_ble_eq_true rfl)⟩ ⟨(by show _ ≤ 60; omega), (by show _ ≤ 360; omega)⟩ (Nat.le_of_ble_eq_true rfl) ?_
          rw [hH]
          refine J.if_ne (μ := mL_areLots) (pc := 68) 75 dL_areLots_68 (by decide) (fun h4 => ?_) (fun h4 => ?_)
          · refine J.iconst (μ := mL_areLots) (pc := 75) (v := 0) dL_areLots_75 (by decide) ?_
            refine J.icmp_ne (μ := mL_areLots) (pc := 76) 83 dL_areLots_76 (by decide) (fun h5 => ?_) (fun h5 => ?_)
            · exact absurd rfl h5
            · exact fin _ _ _ _ _
          · exfalso
            have hHN := h.H20
            have h4 : nI H = 0 := by first | exact h4 | exact Classical.not_not.mp h4
            rw [t_eq, t_nI (by omega), t_0] at h4
            omega
        · exfalso
          have h3 : nI t = -1000 := by first | exact h3 | exact Classical.not_not.mp h3
          rw [t_eq, t_nI (by omega)] at h3
          have : (-1000 : Int32).toInt = -1000 := by decide
          omega
