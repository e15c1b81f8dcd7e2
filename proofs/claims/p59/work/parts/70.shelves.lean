/-! the law: areShelves -/
theorem l_areShelves {γ : Gm} {T N M H : Nat} {v : Vs} (h : Inv 0 T N M H (iv v 1)) (hT : T ≤ 1000000000) : Ev γ mL_areShelves yL_areShelves 34 300 1800 [.ref (gz γ + 0)] (Rp γ v) (fun r K => r = some (.int 1) ∧ ∃ u, Sc v u ∧ Rp γ u K) := by
  have h20 := h.1.1.2
  have h8 := h.1.2.1.2
  refine Ev.ofJ (by decide) rfl (fun h => by cases h) (Nat.le_of_ble_eq_true rfl) ?_
  refine J.iconst (μ := mL_areShelves) (pc := 0) (v := 0) dL_areShelves_0 (by decide) ?_
  refine J.istore_n (μ := mL_areShelves) (pc := 1) dL_areShelves_1 (Nat.le_of_ble_eq_true rfl) rfl ?_
  refine J.aload_n (μ := mL_areShelves) (pc := 2) dL_areShelves_2 rfl ?_
  refine J.aload_n (μ := mL_areShelves) (pc := 3) dL_areShelves_3 rfl ?_
  refine J.cV (μ := mL_areShelves) (pc := 4) (s_X11_shelfCount) rfl wm_L_193 mi_X11_shelfCount rfl dL_areShelves_4 (Rp.isa (T := TX11) rfl sh0) rfl rfl ⟨(Nat.le_of_ble_eq_true rfl), (Nat.le_of_ble_eq_true rfl)⟩ ⟨(by show _ ≤ 300; omega), (by show _ ≤ 1800; omega)⟩ (Nat.le_of_ble_eq_true rfl) ?_
  rw [h.vM]
  refine J.callSW (μ := mL_areShelves) (pc := 7) (l_shelfToCount h.vN h20 h.vM h8 (nI M)) rfl wm_L_220 mi_L_shelfToCount (fun h => by cases h) dL_areShelves_7 rfl rfl ⟨(Nat.le_of_ble_eq_true rfl), (Nat.le_of_ble_eq_true rfl)⟩ ⟨(by show _ ≤ 300; omega), (by show _ ≤ 1800; omega)⟩ (Nat.le_of_ble_eq_true rfl) (fun w => J.and (fun e => ?_))
  subst e
  rw [show fdI (fun k => decide (nI (cn (fun j => decide (dueB v 1 N (nI j) (nI k))) M) = nI M)) M = -1 from shAt_n h8 (.inr (by rw [t_nI (by omega)]; omega)), nz_n (by decide)]
  refine J.sipush (μ := mL_areShelves) (pc := 10) (v := -1000) dL_areShelves_10 (by decide) ?_
  refine J.icmp_ne (μ := mL_areShelves) (pc := 13) 31 dL_areShelves_13 (by decide) (fun h1 => ?_) (fun h1 => ?_)
  · exact absurd rfl h1
  · refine J.aload_n (μ := mL_areShelves) (pc := 16) dL_areShelves_16 rfl ?_
    refine J.iconst (μ := mL_areShelves) (pc := 17) (v := -1) dL_areShelves_17 (by decide) ?_
    refine J.callSW (μ := mL_areShelves) (pc := 18) (l_shelfToCount h.vN h20 h.vM h8 (-1)) rfl wm_L_220 mi_L_shelfToCount (fun h => by cases h) dL_areShelves_18 rfl rfl ⟨(Nat.le_of_ble_eq_true rfl), (Nat.le_of_ble_eq_true rfl)⟩ ⟨(by show _ ≤ 300; omega), (by show _ ≤ 1800; omega)⟩ (Nat.le_of_ble_eq_true rfl) (fun w => J.and (fun e => ?_))
    subst e
    rw [show fdI (fun k => decide (nI (cn (fun j => decide (dueB v 1 N (nI j) (nI k))) M) = -1)) M = -1 from shAt_n h8 (.inl (by decide)), nz_n (by decide)]
    refine J.sipush (μ := mL_areShelves) (pc := 21) (v := -1000) dL_areShelves_21 (by decide) ?_
    refine J.icmp_ne (μ := mL_areShelves) (pc := 24) 31 dL_areShelves_24 (by decide) (fun h2 => ?_) (fun h2 => ?_)
    · exact absurd rfl h2
    · refine J.iconst (μ := mL_areShelves) (pc := 27) (v := 1) dL_areShelves_27 (by decide) ?_
      refine J.goto (μ := mL_areShelves) (pc := 28) 32 dL_areShelves_28 (by decide) ?_
      refine J.istore_n (μ := mL_areShelves) (pc := 32) dL_areShelves_32 (Nat.le_of_ble_eq_true rfl) rfl ?_
      refine J.iconst (μ := mL_areShelves) (pc := 33) (v := 0) dL_areShelves_33 (by decide) ?_
      refine J.istore_n (μ := mL_areShelves) (pc := 34) dL_areShelves_34 (Nat.le_of_ble_eq_true rfl) rfl ?_
      refine J.widen (k' := 2 + 21 * 0) (n' := 12 + 126 * 0) (by omega) (by omega) (J.sub ?_ (J.forK (μ := mL_areShelves) (hd := 35) (kf := fun i => 2 + 21 * i) (nf := fun i => 12 + 126 * i) (Lf := fun i => [some (.ref (gz γ + 0)), some (.int (nI (sn (onN v N) i))), some (.int 1), some (.int (nI i)), none, none, none, none]) (Pf := fun _ => Rp γ v) M ?_ (fun i hi ih => ?_)))
      · exact ⟨rfl, rfl, rfl, rfl, trivial⟩
      · refine J.iload_n (μ := mL_areShelves) (pc := 35) dL_areShelves_35 rfl ?_
        refine J.if_eq (μ := mL_areShelves) (pc := 36) 183 dL_areShelves_36 (by decide) (fun h3 => ?_) (fun h3 => ?_)
        · exact absurd h3 (by decide)
        · refine J.iload_n (μ := mL_areShelves) (pc := 39) dL_areShelves_39 rfl ?_
          refine J.aload_n (μ := mL_areShelves) (pc := 40) dL_areShelves_40 rfl ?_
          refine J.cV (μ := mL_areShelves) (pc := 41) (s_X11_shelfCount) rfl wm_L_193 mi_X11_shelfCount rfl dL_areShelves_41 (Rp.isa (T := TX11) rfl sh0) rfl rfl ⟨(Nat.le_of_ble_eq_true rfl), (Nat.le_of_ble_eq_true rfl)⟩ ⟨(by show _ ≤ 300; omega), (by show _ ≤ 1800; omega)⟩ (Nat.le_of_ble_eq_true rfl) ?_
          rw [h.vM]
          refine J.icmp_ge (μ := mL_areShelves) (pc := 44) 183 dL_areShelves_44 (by decide) (fun h4 => ?_) (fun h4 => ?_)
          · refine J.sub ?_ (as_2 h hT (k := 2 + 21 * M) (n := 12 + 126 * M) (tot := sn (onN v N) M) (x3 := none) (x4 := none) (x5 := none) (x6 := none) (x7 := none) (by omega) (by omega) (on_8 h))
            exact ⟨rfl, rfl, rfl, trivial⟩
          · exact (Int32.lt_irrefl h4).elim
      · have hl : hasS v 1 (nI i) := h.hsS.mpr ⟨i, hi, rfl⟩
        obtain ⟨v1, v2, v3⟩ := rm_vol h hi
        have hcap := (h.shf hi).1.2.1
        refine J.iload_n (μ := mL_areShelves) (pc := 35) dL_areShelves_35 rfl ?_
        refine J.if_eq (μ := mL_areShelves) (pc := 36) 183 dL_areShelves_36 (by decide) (fun h3 => ?_) (fun h3 => ?_)
        · exact absurd h3 (by decide)
        · refine J.iload_n (μ := mL_areShelves) (pc := 39) dL_areShelves_39 rfl ?_
          refine J.aload_n (μ := mL_areShelves) (pc := 40) dL_areShelves_40 rfl ?_
          refine J.cV (μ := mL_areShelves) (pc := 41) (s_X11_shelfCount) rfl wm_L_193 mi_X11_shelfCount rfl dL_areShelves_41 (Rp.isa (T := TX11) rfl sh0) rfl rfl ⟨(Nat.le_of_ble_eq_true rfl), (Nat.le_of_ble_eq_true rfl)⟩ ⟨(by show _ ≤ 300; omega), (by show _ ≤ 1800; omega)⟩ (Nat.le_of_ble_eq_true rfl) ?_
          rw [h.vM]
          refine J.icmp_ge (μ := mL_areShelves) (pc := 44) 183 dL_areShelves_44 (by decide) (fun h4 => ?_) (fun h4 => ?_)
          · exact absurd h4 (nI_ge hi (by omega))
          · refine J.iconst (μ := mL_areShelves) (pc := 47) (v := 0) dL_areShelves_47 (by decide) ?_
            refine J.istore (μ := mL_areShelves) (pc := 48) dL_areShelves_48 (Nat.le_of_ble_eq_true rfl) rfl ?_
            refine J.iconst (μ := mL_areShelves) (pc := 50) (v := 0) dL_areShelves_50 (by decide) ?_
            refine J.istore (μ := mL_areShelves) (pc := 51) dL_areShelves_51 (Nat.le_of_ble_eq_true rfl) rfl ?_
            refine J.iconst (μ := mL_areShelves) (pc := 53) (v := 0) dL_areShelves_53 (by decide) ?_
            refine J.istore (μ := mL_areShelves) (pc := 54) dL_areShelves_54 (Nat.le_of_ble_eq_true rfl) rfl ?_
            refine J.widen (k' := 2 + 21 * i + 0) (n' := 12 + 126 * i + 6 * 0) (by omega) (by omega) (J.sub ?_ (J.forK (μ := mL_areShelves) (hd := 56) (kf := fun m => 2 + 21 * i + m) (nf := fun m => 12 + 126 * i + 6 * m) (Lf := fun m => [some (.ref (gz γ + 0)), some (.int (nI (sn (onN v N) i))), some (.int 1), some (.int (nI i)), some (.int (nI (cn (fun q => decide (gPl v 1 (nI q) = nI i)) m))), some (.int (sm (fun q => decide (gPl v 1 (nI q) = nI i)) (fun q => gVo v 1 (nI q)) m)), some (.int (nI m)), none]) (Pf := fun _ => Rp γ v) N ?_ (fun m hm ihm => ?_)))
            · exact ⟨rfl, rfl, rfl, rfl, rfl, rfl, rfl, trivial⟩
            · refine J.iload (μ := mL_areShelves) (pc := 56) dL_areShelves_56 rfl ?_
              refine J.aload_n (μ := mL_areShelves) (pc := 58) dL_areShelves_58 rfl ?_
              refine J.cV (μ := mL_areShelves) (pc := 59) (s_X11_lotCount) rfl wm_L_190 mi_X11_lotCount rfl dL_areShelves_59 (Rp.isa (T := TX11) rfl sh0) rfl rfl ⟨(Nat.le_of_ble_eq_true rfl), (Nat.le_of_ble_eq_true rfl)⟩ ⟨(by show _ ≤ 300; omega), (by show _ ≤ 1800; omega)⟩ (Nat.le_of_ble_eq_true rfl) ?_
              rw [h.vN]
              refine J.icmp_ge (μ := mL_areShelves) (pc := 62) 123 dL_areShelves_62 (by decide) (fun h5 => ?_) (fun h5 => ?_)
              · refine J.iload_n (μ := mL_areShelves) (pc := 123) dL_areShelves_123 rfl ?_
                refine J.iload (μ := mL_areShelves) (pc := 124) dL_areShelves_124 rfl ?_
                refine J.iadd (μ := mL_areShelves) (pc := 126) dL_areShelves_126 ?_
                refine J.istore_n (μ := mL_areShelves) (pc := 127) dL_areShelves_127 (Nat.le_of_ble_eq_true rfl) rfl ?_
                refine J.aload_n (μ := mL_areShelves) (pc := 128) dL_areShelves_128 rfl ?_
                refine J.iload_n (μ := mL_areShelves) (pc := 129) dL_areShelves_129 rfl ?_
                refine J.cV (μ := mL_areShelves) (pc := 130) (s_X11_lotsOn h.vN h20 hl) rfl wm_L_222 mi_X11_lotsOn rfl dL_areShelves_130 (Rp.isa (T := TX11) rfl sh0) rfl rfl ⟨(Nat.le_of_ble_eq_true rfl), (Nat.le_of_ble_eq_true rfl)⟩ ⟨(by show _ ≤ 300; omega), (by show _ ≤ 1800; omega)⟩ (Nat.le_of_ble_eq_true rfl) ?_
                refine J.iload (μ := mL_areShelves) (pc := 133) dL_areShelves_133 rfl ?_
                refine J.icmp_ne (μ := mL_areShelves) (pc := 135) 175 dL_areShelves_135 (by decide) (fun h6 => ?_) (fun h6 => ?_)
                · exact absurd rfl h6
                · refine J.aload_n (μ := mL_areShelves) (pc := 138) dL_areShelves_138 rfl ?_
                  refine J.iload_n (μ := mL_areShelves) (pc := 139) dL_areShelves_139 rfl ?_
                  refine J.cV (μ := mL_areShelves) (pc := 140) (s_X11_roomOf h.vN h20 hl) rfl wm_L_201 mi_X11_roomOf rfl dL_areShelves_140 (Rp.isa (T := TX11) rfl sh0) rfl rfl ⟨(Nat.le_of_ble_eq_true rfl), (Nat.le_of_ble_eq_true rfl)⟩ ⟨(by show _ ≤ 300; omega), (by show _ ≤ 1800; omega)⟩ (Nat.le_of_ble_eq_true rfl) ?_
                  refine J.if_lt (μ := mL_areShelves) (pc := 143) 175 dL_areShelves_143 (by decide) (fun h7 => ?_) (fun h7 => ?_)
                  · rw [t_lt, t_0] at h7
                    omega
                  · refine J.aload_n (μ := mL_areShelves) (pc := 146) dL_areShelves_146 rfl ?_
                    refine J.iload_n (μ := mL_areShelves) (pc := 147) dL_areShelves_147 rfl ?_
                    refine J.cV (μ := mL_areShelves) (pc := 148) (s_X11_roomOf h.vN h20 hl) rfl wm_L_201 mi_X11_roomOf rfl dL_areShelves_148 (Rp.isa (T := TX11) rfl sh0) rfl rfl ⟨(Nat.le_of_ble_eq_true rfl), (Nat.le_of_ble_eq_true rfl)⟩ ⟨(by show _ ≤ 300; omega), (by show _ ≤ 1800; omega)⟩ (Nat.le_of_ble_eq_true rfl) ?_
                    refine J.iload (μ := mL_areShelves) (pc := 151) dL_areShelves_151 rfl ?_
                    refine J.iadd (μ := mL_areShelves) (pc := 153) dL_areShelves_153 ?_
                    refine J.bipush (μ := mL_areShelves) (pc := 154) (v := 40) dL_areShelves_154 (by decide) ?_
                    refine J.icmp_gt (μ := mL_areShelves) (pc := 156) 175 dL_areShelves_156 (by decide) (fun h8b => ?_) (fun h8b => ?_)
                    · exfalso
                      rw [t_lt, t_add (by omega) (by omega)] at h8b
                      have : (40 : Int32).toInt = 40 := by decide
                      omega
                    · refine J.aload_n (μ := mL_areShelves) (pc := 159) dL_areShelves_159 rfl ?_
                      refine J.iload_n (μ := mL_areShelves) (pc := 160) dL_areShelves_160 rfl ?_
                      refine J.callSW (μ := mL_areShelves) (pc := 161) (l_countedDay hl) rfl wm_L_204 mi_L_countedDay (fun h => by cases h) dL_areShelves_161 rfl rfl ⟨(Nat.le_of_ble_eq_true rfl), (Nat.le_of_ble_eq_true rfl)⟩ ⟨(by show _ ≤ 300; omega), (by show _ ≤ 1800; omega)⟩ (Nat.le_of_ble_eq_true rfl) (fun w => J.and (fun e => ?_))
                      subst e
                      refine J.aload_n (μ := mL_areShelves) (pc := 164) dL_areShelves_164 rfl ?_
                      refine J.cV (μ := mL_areShelves) (pc := 165) (s_X11_day) rfl wm_L_170 mi_X11_day rfl dL_areShelves_165 (Rp.isa (T := TX11) rfl sh0) rfl rfl ⟨(Nat.le_of_ble_eq_true rfl), (Nat.le_of_ble_eq_true rfl)⟩ ⟨(by show _ ≤ 300; omega), (by show _ ≤ 1800; omega)⟩ (Nat.le_of_ble_eq_true rfl) ?_
                      refine J.icmp_gt (μ := mL_areShelves) (pc := 168) 175 dL_areShelves_168 (by decide) (fun h9 => ?_) (fun h9 => ?_)
                      · exfalso
                        have hcd := (h.shf hi).1.2.2
                        have hd0 := h.2.1.1
                        have e3 : (v 1 3).toInt = iv v 1 0 3 := rfl
                        have e7 : (gCd v 1 (nI i)).toInt = iv v 1 7 i := zCd (by omega)
                        rw [t_lt, e3] at h9
                        by_cases q : gCd v 1 (nI i) < 0
                        · rw [nz_n q] at h9
                          have : (-1000 : Int32).toInt = -1000 := by decide
                          omega
                        · rw [nz_p q, e7] at h9
                          omega
                      · refine J.iconst (μ := mL_areShelves) (pc := 171) (v := 1) dL_areShelves_171 (by decide) ?_
                        refine J.goto (μ := mL_areShelves) (pc := 172) 176 dL_areShelves_172 (by decide) ?_
                        refine J.istore_n (μ := mL_areShelves) (pc := 176) dL_areShelves_176 (Nat.le_of_ble_eq_true rfl) rfl ?_
                        refine J.iinc (μ := mL_areShelves) (pc := 177) (v := 1) dL_areShelves_177 rfl (by decide) (Nat.le_of_ble_eq_true rfl) rfl ?_
                        refine J.goto (μ := mL_areShelves) (pc := 180) 35 dL_areShelves_180 (by decide) ?_
                        refine J.widen (k' := 2 + 21 * (i + 1)) (n' := 12 + 126 * (i + 1)) (by omega) (by omega) (J.sub ?_ ih)
                        exact ⟨rfl, by rw [show sn (onN v N) (i + 1) = sn (onN v N) i + onN v N i from rfl, ← nI_add]; rfl, rfl, by rw [nI_1], trivial⟩
              · exact (Int32.lt_irrefl h5).elim
            · have hlm : hasL v 1 (nI m) := h.hsL.mpr ⟨m, hm, rfl⟩
              have ec : cn (fun q => decide (gPl v 1 (nI q) = nI i)) (m + 1) = cn (fun q => decide (gPl v 1 (nI q) = nI i)) m + (if gPl v 1 (nI m) = nI i then 1 else 0) := by
                show cn _ m + (if decide (gPl v 1 (nI m) = nI i) = true then 1 else 0) = _
                simp only [decide_eq_true_iff]
              have es : sm (fun q => decide (gPl v 1 (nI q) = nI i)) (fun q => gVo v 1 (nI q)) (m + 1) = (if gPl v 1 (nI m) = nI i then sm (fun q => decide (gPl v 1 (nI q) = nI i)) (fun q => gVo v 1 (nI q)) m + gVo v 1 (nI m) else sm (fun q => decide (gPl v 1 (nI q) = nI i)) (fun q => gVo v 1 (nI q)) m) := by
                show (if decide (gPl v 1 (nI m) = nI i) = true then _ else _) = _
                simp only [decide_eq_true_iff]
              have hnz : nz (gPl v 1 (nI m)) = nI i ↔ gPl v 1 (nI m) = nI i := by
                by_cases q : gPl v 1 (nI m) < 0
                · rw [nz_n q]
                  constructor
                  · intro z
                    rw [t_eq, t_nI (by omega)] at z
                    have : (-1000 : Int32).toInt = -1000 := by decide
                    omega
                  · intro z
                    rw [z] at q
                    exact absurd q (nI_pos (by omega))
                · rw [nz_p q]
              refine J.iload (μ := mL_areShelves) (pc := 56) dL_areShelves_56 rfl ?_
              refine J.aload_n (μ := mL_areShelves) (pc := 58) dL_areShelves_58 rfl ?_
              refine J.cV (μ := mL_areShelves) (pc := 59) (s_X11_lotCount) rfl wm_L_190 mi_X11_lotCount rfl dL_areShelves_59 (Rp.isa (T := TX11) rfl sh0) rfl rfl ⟨(Nat.le_of_ble_eq_true rfl), (Nat.le_of_ble_eq_true rfl)⟩ ⟨(by show _ ≤ 300; omega), (by show _ ≤ 1800; omega)⟩ (Nat.le_of_ble_eq_true rfl) ?_
              rw [h.vN]
              refine J.icmp_ge (μ := mL_areShelves) (pc := 62) 123 dL_areShelves_62 (by decide) (fun h5 => ?_) (fun h5 => ?_)
              · exact absurd h5 (nI_ge hm (by omega))
              · refine J.aload_n (μ := mL_areShelves) (pc := 65) dL_areShelves_65 rfl ?_
                refine J.iload (μ := mL_areShelves) (pc := 66) dL_areShelves_66 rfl ?_
                refine J.callSW (μ := mL_areShelves) (pc := 68) (l_shelfOf hlm) rfl wm_L_212 mi_L_shelfOf (fun h => by cases h) dL_areShelves_68 rfl rfl ⟨(Nat.le_of_ble_eq_true rfl), (Nat.le_of_ble_eq_true rfl)⟩ ⟨(by show _ ≤ 300; omega), (by show _ ≤ 1800; omega)⟩ (Nat.le_of_ble_eq_true rfl) (fun w => J.and (fun e => ?_))
                subst e
                refine J.iload_n (μ := mL_areShelves) (pc := 71) dL_areShelves_71 rfl ?_
                refine J.icmp_ne (μ := mL_areShelves) (pc := 72) 79 dL_areShelves_72 (by decide) (fun h6 => ?_) (fun h6 => ?_)
                · have h6 : ¬ gPl v 1 (nI m) = nI i := fun q => h6 (hnz.mpr q)
                  rw [if_neg h6] at ec es
                  refine J.iconst (μ := mL_areShelves) (pc := 79) (v := 0) dL_areShelves_79 (by decide) ?_
                  refine J.istore (μ := mL_areShelves) (pc := 80) dL_areShelves_80 (Nat.le_of_ble_eq_true rfl) rfl ?_
                  refine J.iload (μ := mL_areShelves) (pc := 82) dL_areShelves_82 rfl ?_
                  refine J.iload (μ := mL_areShelves) (pc := 84) dL_areShelves_84 rfl ?_
                  refine J.if_eq (μ := mL_areShelves) (pc := 86) 93 dL_areShelves_86 (by decide) (fun h7 => ?_) (fun h7 => ?_)
                  · refine J.iconst (μ := mL_areShelves) (pc := 93) (v := 0) dL_areShelves_93 (by decide) ?_
                    refine J.iadd (μ := mL_areShelves) (pc := 94) dL_areShelves_94 ?_
                    refine J.istore (μ := mL_areShelves) (pc := 95) dL_areShelves_95 (Nat.le_of_ble_eq_true rfl) rfl ?_
                    refine J.iload (μ := mL_areShelves) (pc := 97) dL_areShelves_97 rfl ?_
                    refine J.iload (μ := mL_areShelves) (pc := 99) dL_areShelves_99 rfl ?_
                    refine J.if_eq (μ := mL_areShelves) (pc := 101) 113 dL_areShelves_101 (by decide) (fun h9 => ?_) (fun h9 => ?_)
                    · refine J.iconst (μ := mL_areShelves) (pc := 113) (v := 0) dL_areShelves_113 (by decide) ?_
                      refine J.iadd (μ := mL_areShelves) (pc := 114) dL_areShelves_114 ?_
                      refine J.istore (μ := mL_areShelves) (pc := 115) dL_areShelves_115 (Nat.le_of_ble_eq_true rfl) rfl ?_
                      refine J.iinc (μ := mL_areShelves) (pc := 117) (v := 1) dL_areShelves_117 rfl (by decide) (Nat.le_of_ble_eq_true rfl) rfl ?_
                      refine J.goto (μ := mL_areShelves) (pc := 120) 56 dL_areShelves_120 (by decide) ?_
                      refine J.widen (k' := 2 + 21 * i + (m + 1)) (n' := 12 + 126 * i + 6 * (m + 1)) (by omega) (by omega) (J.sub ?_ ihm)
                      exact ⟨rfl, rfl, rfl, rfl, by rw [ec, Nat.add_zero]; show some (Value.int (nI _ + 0)) = _; rw [Int32.add_zero], by rw [es]; show some (Value.int (_ + 0)) = _; rw [Int32.add_zero], by rw [nI_1], trivial⟩
                    · exact absurd rfl h9
                  · exact absurd rfl h7
                · have h6 : gPl v 1 (nI m) = nI i := hnz.mp (by first | exact h6 | exact Classical.not_not.mp h6)
                  rw [if_pos h6] at ec es
                  refine J.iconst (μ := mL_areShelves) (pc := 75) (v := 1) dL_areShelves_75 (by decide) ?_
                  refine J.goto (μ := mL_areShelves) (pc := 76) 80 dL_areShelves_76 (by decide) ?_
                  refine J.istore (μ := mL_areShelves) (pc := 80) dL_areShelves_80 (Nat.le_of_ble_eq_true rfl) rfl ?_
                  refine J.iload (μ := mL_areShelves) (pc := 82) dL_areShelves_82 rfl ?_
                  refine J.iload (μ := mL_areShelves) (pc := 84) dL_areShelves_84 rfl ?_
                  refine J.if_eq (μ := mL_areShelves) (pc := 86) 93 dL_areShelves_86 (by decide) (fun h7 => ?_) (fun h7 => ?_)
                  · exact absurd h7 (by decide)
                  · refine J.iconst (μ := mL_areShelves) (pc := 89) (v := 1) dL_areShelves_89 (by decide) ?_
                    refine J.goto (μ := mL_areShelves) (pc := 90) 94 dL_areShelves_90 (by decide) ?_
                    refine J.iadd (μ := mL_areShelves) (pc := 94) dL_areShelves_94 ?_
                    refine J.istore (μ := mL_areShelves) (pc := 95) dL_areShelves_95 (Nat.le_of_ble_eq_true rfl) rfl ?_
                    refine J.iload (μ := mL_areShelves) (pc := 97) dL_areShelves_97 rfl ?_
                    refine J.iload (μ := mL_areShelves) (pc := 99) dL_areShelves_99 rfl ?_
                    refine J.if_eq (μ := mL_areShelves) (pc := 101) 113 dL_areShelves_101 (by decide) (fun h9 => ?_) (fun h9 => ?_)
                    · exact absurd h9 (by decide)
                    · refine J.aload_n (μ := mL_areShelves) (pc := 104) dL_areShelves_104 rfl ?_
                      refine J.iload (μ := mL_areShelves) (pc := 105) dL_areShelves_105 rfl ?_
                      refine J.cV (μ := mL_areShelves) (pc := 107) (s_X11_volumeOf hlm) rfl wm_L_206 mi_X11_volumeOf rfl dL_areShelves_107 (Rp.isa (T := TX11) rfl sh0) rfl rfl ⟨(Nat.le_of_ble_eq_true rfl), (Nat.le_of_ble_eq_true rfl)⟩ ⟨(by show _ ≤ 300; omega), (by show _ ≤ 1800; omega)⟩ (Nat.le_of_ble_eq_true rfl) ?_
                      refine J.goto (μ := mL_areShelves) (pc := 110) 114 dL_areShelves_110 (by decide) ?_
                      refine J.iadd (μ := mL_areShelves) (pc := 114) dL_areShelves_114 ?_
                      refine J.istore (μ := mL_areShelves) (pc := 115) dL_areShelves_115 (Nat.le_of_ble_eq_true rfl) rfl ?_
                      refine J.iinc (μ := mL_areShelves) (pc := 117) (v := 1) dL_areShelves_117 rfl (by decide) (Nat.le_of_ble_eq_true rfl) rfl ?_
                      refine J.goto (μ := mL_areShelves) (pc := 120) 56 dL_areShelves_120 (by decide) ?_
                      refine J.widen (k' := 2 + 21 * i + (m + 1)) (n' := 12 + 126 * i + 6 * (m + 1)) (by omega) (by omega) (J.sub ?_ ihm)
                      exact ⟨rfl, rfl, rfl, rfl, by rw [ec, ← nI_1], by rw [es], by rw [nI_1], trivial⟩
