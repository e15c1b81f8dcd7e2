/-! the law: isRecalled -/
theorem lg_self (x : Int64) : lg_cmp x x = 0 := by
  unfold lg_cmp
  rw [if_neg (fun q => absurd q (Int64.lt_irrefl)), if_pos rfl]
theorem DI.okI {T T' n s N M H : Nat} {v : Vs} (h : DI T v n s) (hI : Inv 0 T' N M H (iv v 1)) : OK v N M H n s := by
  have := hI.H20
  have := hI.1.1.2
  exact ⟨⟨hI.vN, hI.1.1.2⟩, ⟨hI.vM, hI.1.2.1.2⟩, ⟨hI.vH, by omega⟩, ⟨h.2.1.2, h.2.1.1⟩, ⟨h.2.2.1.2, h.2.2.1.1⟩⟩
theorem rc_c {γ : Gm} {T N M H a : Nat} {v : Vs} (hI : Inv 0 T N M H (iv v 1)) (ha : a < N) (hT : T + 198 ≤ 9000000) {u : Vs} {n s : Nat} (hU : U1 (T + 198) v u n s) {x4 x5 x7 x8 : Option Value} {k m : Nat} (hk : k ≤ 250) (hn : m ≤ 2500) : J γ mL_isRecalled (rmD 35 300 3400) (fEv γ 300 3400 (fun r K => r = some (.int 1) ∧ ∃ w, Bk (T + 198) v w ∧ Rp γ w K)) k m 168 [some (.ref (gz γ + 0)), some (.int (nI a)), some (.long (dgV v N M)), none, x4, x5, some (.int (1)), x7, x8] [] (Rp γ u) := by
  obtain ⟨N', M', H', hI', hok⟩ := hU.2.1.ok
  have hs := hU.1
  have hs8 := hU.2.1.2.2.1.1
  have hB := hU.undo
  have hIw := hI.sq hB.2.1
  refine J.iload (μ := mL_isRecalled) (pc := 168) dL_isRecalled_168 rfl ?_
  refine J.if_eq (μ := mL_isRecalled) (pc := 170) 193 dL_isRecalled_170 (by decide) (fun h1 => ?_) (fun h1 => ?_)
  · exact absurd h1 (by decide)
  · refine J.aload_n (μ := mL_isRecalled) (pc := 173) dL_isRecalled_173 rfl ?_
    refine J.callSW (μ := mL_isRecalled) (pc := 174) (l_undo hok) rfl wm_L_166 mi_L_undo (fun h => by cases h) dL_isRecalled_174 rfl rfl ⟨(Nat.le_of_ble_eq_true rfl), (Nat.le_of_ble_eq_true rfl)⟩ ⟨(by show _ ≤ 300; omega), (by show _ ≤ 3400; omega)⟩ (Nat.le_of_ble_eq_true rfl) (fun w => J.ex fun r => J.ex fun u1 => J.and fun hc => ?_)
    obtain ⟨e, ⟨-, er, eu⟩ | ⟨e0, -, -⟩⟩ := hc
    · subst e er eu
      refine J.if_lt (μ := mL_isRecalled) (pc := 177) 193 dL_isRecalled_177 (by decide) (fun h2 => ?_) (fun h2 => ?_)
      · exact absurd h2 (nI_pos (by omega))
      · refine J.aload_n (μ := mL_isRecalled) (pc := 180) dL_isRecalled_180 rfl ?_
        refine J.callS (μ := mL_isRecalled) (pc := 181) (l_digest hIw (by omega)) rfl wm_L_278 mi_L_digest rfl dL_isRecalled_181 rfl rfl ⟨(Nat.le_of_ble_eq_true rfl), (Nat.le_of_ble_eq_true rfl)⟩ ⟨(by show _ ≤ 300; omega), (by show _ ≤ 3400; omega)⟩ (Nat.le_of_ble_eq_true rfl) (fun w => J.and fun e => ?_)
        subst e
        rw [dg_sq hB.2.1]
        refine J.lload_n (μ := mL_isRecalled) (pc := 184) dL_isRecalled_184 rfl ?_
        refine J.lcmp (μ := mL_isRecalled) (pc := 185) dL_isRecalled_185 ?_
        rw [lg_self]
        refine J.if_ne (μ := mL_isRecalled) (pc := 186) 193 dL_isRecalled_186 (by decide) (fun h3 => ?_) (fun h3 => ?_)
        · exact absurd rfl h3
        · refine J.iconst (μ := mL_isRecalled) (pc := 189) (v := 1) dL_isRecalled_189 (by decide) ?_
          refine J.goto (μ := mL_isRecalled) (pc := 190) 194 dL_isRecalled_190 (by decide) ?_
          exact J.zret (μ := mL_isRecalled) (pc := 194) dL_isRecalled_194 rfl rfl (by omega) (by omega) (fun K k => ⟨rfl, _, hB, k⟩)
    · exact absurd e0 (by omega)

theorem rc_b {γ : Gm} {T N M H a : Nat} {v : Vs} (hI : Inv 0 T N M H (iv v 1)) (ha : a < N) (hT : T + 198 ≤ 9000000) {u : Vs} {n s H1 : Nat} (hU : U1 (T + 99) v u n s) (hJ : Inv 0 T N M H1 (iv u 1)) {X4 X5 : Int32} {x7 x8 : Option Value} {k m : Nat} (hk : k ≤ 186) (hn : m ≤ 2100) : J γ mL_isRecalled (rmD 35 300 3400) (fEv γ 300 3400 (fun r K => r = some (.int 1) ∧ ∃ w, Bk (T + 198) v w ∧ Rp γ w K)) k m 79 [some (.ref (gz γ + 0)), some (.int (nI a)), some (.long (dgV v N M)), none, some (.int (X4)), some (.int (X5)), some (.int (1)), x7, x8] [] (Rp γ u) := by
  have h20 := hJ.1.1.2
  have hH20 := hJ.H20
  have hU' : U1 (T + 198) v u n s := hU.mono (by omega)
  have hok := hU.2.1.okI hJ
  refine J.aload_n (μ := mL_isRecalled) (pc := 79) dL_isRecalled_79 rfl ?_
  refine J.cV (μ := mL_isRecalled) (pc := 80) (s_X11_heapSize) rfl wm_L_247 mi_X11_heapSize rfl dL_isRecalled_80 (Rp.isa (T := TX11) rfl sh0) rfl rfl ⟨(Nat.le_of_ble_eq_true rfl), (Nat.le_of_ble_eq_true rfl)⟩ ⟨(by show _ ≤ 300; omega), (by show _ ≤ 3400; omega)⟩ (Nat.le_of_ble_eq_true rfl) ?_
  rw [hJ.vH]
  by_cases h0 : H1 = 0
  · subst h0
    refine J.if_le (μ := mL_isRecalled) (pc := 83) 147 dL_isRecalled_83 (by decide) (fun h1 => ?_) (fun h1 => ?_)
    · refine J.iload (μ := mL_isRecalled) (pc := 147) dL_isRecalled_147 rfl ?_
      refine J.if_eq (μ := mL_isRecalled) (pc := 149) 165 dL_isRecalled_149 (by decide) (fun h2 => ?_) (fun h2 => ?_)
      · exact absurd h2 (by decide)
      · refine J.aload_n (μ := mL_isRecalled) (pc := 152) dL_isRecalled_152 rfl ?_
        refine J.callSW (μ := mL_isRecalled) (pc := 153) (l_compost hok) rfl wm_L_145 mi_L_compost (fun h => by cases h) dL_isRecalled_153 rfl rfl ⟨(Nat.le_of_ble_eq_true rfl), (Nat.le_of_ble_eq_true rfl)⟩ ⟨(by show _ ≤ 300; omega), (by show _ ≤ 3400; omega)⟩ (Nat.le_of_ble_eq_true rfl) (fun w => J.ex fun r => J.ex fun u1 => J.and fun hc => ?_)
        obtain ⟨e, hc⟩ := hc
        obtain ⟨er, q, -⟩ := hU.2.1.den hc (by
          unfold vdOf
          rw [if_neg (by decide), if_neg (by decide), if_neg (by decide), if_neg (by decide), if_neg (by decide), if_neg (by decide), if_neg (by decide), if_pos rfl, if_neg (by rw [hJ.vH]; decide)]
          show ¬ (7 : Int32) = 0
          decide)
        subst e er
        refine J.ldc (μ := mL_isRecalled) (pc := 156) rfl wo_L_10 dL_isRecalled_156 ?_
        refine J.icmp_ne (μ := mL_isRecalled) (pc := 158) 165 dL_isRecalled_158 (by decide) (fun h3 => ?_) (fun h3 => ?_)
        · exact absurd rfl h3
        · refine J.iconst (μ := mL_isRecalled) (pc := 161) (v := 1) dL_isRecalled_161 (by decide) ?_
          refine J.goto (μ := mL_isRecalled) (pc := 162) 166 dL_isRecalled_162 (by decide) ?_
          refine J.istore (μ := mL_isRecalled) (pc := 166) dL_isRecalled_166 (Nat.le_of_ble_eq_true rfl) rfl ?_
          exact rc_c hI ha hT (hU'.sam q) (by omega) (by omega)
    · exact absurd h1 (by decide)
  · obtain ⟨h, rfl⟩ : ∃ h, H1 = h + 1 := ⟨H1 - 1, by omega⟩
    obtain ⟨t1, -, t3⟩ := hJ.top
    obtain ⟨t, ht, et, e18, eg⟩ := t3 (by omega)
    have hlt : hasL u 1 (nI t) := hJ.hsL.mpr ⟨t, ht, rfl⟩
    refine J.if_le (μ := mL_isRecalled) (pc := 83) 147 dL_isRecalled_83 (by decide) (fun h1 => ?_) (fun h1 => ?_)
    · exfalso
      rw [t_le, t_nI (by omega), t_0] at h1
      omega
    · refine J.aload_n (μ := mL_isRecalled) (pc := 86) dL_isRecalled_86 rfl ?_
      refine J.callSW (μ := mL_isRecalled) (pc := 87) (l_nextCompost) rfl wm_L_243 mi_L_nextCompost (fun h => by cases h) dL_isRecalled_87 rfl rfl ⟨(Nat.le_of_ble_eq_true rfl), (Nat.le_of_ble_eq_true rfl)⟩ ⟨(by show _ ≤ 300; omega), (by show _ ≤ 3400; omega)⟩ (Nat.le_of_ble_eq_true rfl) (fun w => J.and fun e => ?_)
      subst e
      rw [t1, et, nz_p (nI_pos (by omega))]
      refine J.istore (μ := mL_isRecalled) (pc := 90) dL_isRecalled_90 (Nat.le_of_ble_eq_true rfl) rfl ?_
      refine J.aload_n (μ := mL_isRecalled) (pc := 92) dL_isRecalled_92 rfl ?_
      refine J.iload (μ := mL_isRecalled) (pc := 93) dL_isRecalled_93 rfl ?_
      refine J.cV (μ := mL_isRecalled) (pc := 95) (s_X11_volumeOf hlt) rfl wm_L_206 mi_X11_volumeOf rfl dL_isRecalled_95 (Rp.isa (T := TX11) rfl sh0) rfl rfl ⟨(Nat.le_of_ble_eq_true rfl), (Nat.le_of_ble_eq_true rfl)⟩ ⟨(by show _ ≤ 300; omega), (by show _ ≤ 3400; omega)⟩ (Nat.le_of_ble_eq_true rfl) ?_
      refine J.istore (μ := mL_isRecalled) (pc := 98) dL_isRecalled_98 (Nat.le_of_ble_eq_true rfl) rfl ?_
      refine J.iload (μ := mL_isRecalled) (pc := 100) dL_isRecalled_100 rfl ?_
      refine J.if_eq (μ := mL_isRecalled) (pc := 102) 141 dL_isRecalled_102 (by decide) (fun h2 => ?_) (fun h2 => ?_)
      · exact absurd h2 (by decide)
      · refine J.aload_n (μ := mL_isRecalled) (pc := 105) dL_isRecalled_105 rfl ?_
        refine J.callSW (μ := mL_isRecalled) (pc := 106) (l_compost hok) rfl wm_L_145 mi_L_compost (fun h => by cases h) dL_isRecalled_106 rfl rfl ⟨(Nat.le_of_ble_eq_true rfl), (Nat.le_of_ble_eq_true rfl)⟩ ⟨(by show _ ≤ 300; omega), (by show _ ≤ 3400; omega)⟩ (Nat.le_of_ble_eq_true rfl) (fun w => J.ex fun r => J.ex fun u1 => J.and fun hc => ?_)
        obtain ⟨e, hc⟩ := hc
        obtain ⟨kk, hk1, er, eu, hkp, hd⟩ := hU.2.1.app (by omega) hJ (by omega) hc (by
          unfold vdOf
          rw [if_neg (by decide), if_neg (by decide), if_neg (by decide), if_neg (by decide), if_neg (by decide), if_neg (by decide), if_neg (by decide), if_pos rfl, if_pos (by rw [hJ.vH, t_lt, t_0, t_nI (by omega)]; omega)])
        obtain ⟨t', c1, c2, c3, c4, c5, c6⟩ := com_1 hJ (by omega) hk1 er eu
        have ett : t' = t := by
          have z := c2.symm.trans eg
          rw [t_eq, t_nI (by omega), t_nI (by omega)] at z
          omega
        subst ett
        have hU2 := hU.cmd hkp hd
        have hl2 : hasL u1 1 (nI t') := c6.hsL.mpr ⟨t', c1, rfl⟩
        subst e
        rw [c4]
        refine J.iload (μ := mL_isRecalled) (pc := 109) dL_isRecalled_109 rfl ?_
        refine J.icmp_ne (μ := mL_isRecalled) (pc := 111) 141 dL_isRecalled_111 (by decide) (fun h3 => ?_) (fun h3 => ?_)
        · exact absurd rfl h3
        · refine J.aload_n (μ := mL_isRecalled) (pc := 114) dL_isRecalled_114 rfl ?_
          refine J.iload (μ := mL_isRecalled) (pc := 115) dL_isRecalled_115 rfl ?_
          refine J.cV (μ := mL_isRecalled) (pc := 117) (s_X11_volumeOf hl2) rfl wm_L_206 mi_X11_volumeOf rfl dL_isRecalled_117 (Rp.isa (T := TX11) rfl sh0) rfl rfl ⟨(Nat.le_of_ble_eq_true rfl), (Nat.le_of_ble_eq_true rfl)⟩ ⟨(by show _ ≤ 300; omega), (by show _ ≤ 3400; omega)⟩ (Nat.le_of_ble_eq_true rfl) ?_
          rw [show gVo u1 1 (nI t') = 0 from by rw [t_eq, zVo (by omega), t_0]; exact c5]
          refine J.if_ne (μ := mL_isRecalled) (pc := 120) 141 dL_isRecalled_120 (by decide) (fun h4 => ?_) (fun h4 => ?_)
          · exact absurd rfl h4
          · refine J.aload_n (μ := mL_isRecalled) (pc := 123) dL_isRecalled_123 rfl ?_
            refine J.callS (μ := mL_isRecalled) (pc := 124) (l_areLots c6 (by omega)) rfl wm_L_282 mi_L_areLots rfl dL_isRecalled_124 rfl rfl ⟨(Nat.le_of_ble_eq_true rfl), (Nat.le_of_ble_eq_true rfl)⟩ ⟨(by show _ ≤ 300; omega), (by show _ ≤ 3400; omega)⟩ (Nat.le_of_ble_eq_true rfl) (fun w => J.and fun e => J.ex fun u2 => J.and fun q2 => ?_)
            subst e
            have hU3 := hU2.sam q2.sam
            have hok3 := hU3.2.1.okI (c6.sq (q2.sq (o := 1) (by decide)))
            have hs8 := hU3.2.1.2.2.1.1
            have hs2 := hU3.1
            refine J.if_eq (μ := mL_isRecalled) (pc := 127) 141 dL_isRecalled_127 (by decide) (fun h5 => ?_) (fun h5 => ?_)
            · exact absurd h5 (by decide)
            · refine J.aload_n (μ := mL_isRecalled) (pc := 130) dL_isRecalled_130 rfl ?_
              refine J.callSW (μ := mL_isRecalled) (pc := 131) (l_undo hok3) rfl wm_L_166 mi_L_undo (fun h => by cases h) dL_isRecalled_131 rfl rfl ⟨(Nat.le_of_ble_eq_true rfl), (Nat.le_of_ble_eq_true rfl)⟩ ⟨(by show _ ≤ 300; omega), (by show _ ≤ 3400; omega)⟩ (Nat.le_of_ble_eq_true rfl) (fun w => J.ex fun r2 => J.ex fun u3 => J.and fun hc => ?_)
              obtain ⟨e, ⟨-, er2, eu2⟩ | ⟨e0, -, -⟩⟩ := hc
              · subst e er2 eu2
                refine J.if_lt (μ := mL_isRecalled) (pc := 134) 141 dL_isRecalled_134 (by decide) (fun h6 => ?_) (fun h6 => ?_)
                · exact absurd h6 (nI_pos (by omega))
                · refine J.iconst (μ := mL_isRecalled) (pc := 137) (v := 1) dL_isRecalled_137 (by decide) ?_
                  refine J.goto (μ := mL_isRecalled) (pc := 138) 142 dL_isRecalled_138 (by decide) ?_
                  refine J.istore (μ := mL_isRecalled) (pc := 142) dL_isRecalled_142 (Nat.le_of_ble_eq_true rfl) rfl ?_
                  refine J.goto (μ := mL_isRecalled) (pc := 144) 168 dL_isRecalled_144 (by decide) ?_
                  exact rc_c hI ha hT (hU3.undo.1.mono (by omega)) (by omega) (by omega)
              · exact absurd e0 (by omega)

theorem l_isRecalled {γ : Gm} {T N M H a : Nat} {v : Vs} (hI : Inv 0 T N M H (iv v 1)) (ha : a < N) (hT : T + 198 ≤ 9000000) {n s : Nat} (hD : DI T v n s) : Ev γ mL_isRecalled yL_isRecalled 35 300 3400 [.ref (gz γ + 0), .int (nI a)] (Rp γ v) (fun r K => r = some (.int 1) ∧ ∃ w, Bk (T + 198) v w ∧ Rp γ w K) := by
  have h20 := hI.1.1.2
  have hH20 := hI.H20
  have hla : hasL v 1 (nI a) := hI.hsL.mpr ⟨a, ha, rfl⟩
  have hok := hD.okI hI
  have hfN := cn_le (fmP v 1 N a) N
  refine Ev.ofJ (by decide) rfl (fun h => by cases h) (Nat.le_of_ble_eq_true rfl) ?_
  refine J.aload_n (μ := mL_isRecalled) (pc := 0) dL_isRecalled_0 rfl ?_
  refine J.callS (μ := mL_isRecalled) (pc := 1) (l_digest hI (by omega)) rfl wm_L_278 mi_L_digest rfl dL_isRecalled_1 rfl rfl ⟨(Nat.le_of_ble_eq_true rfl), (Nat.le_of_ble_eq_true rfl)⟩ ⟨(by show _ ≤ 300; omega), (by show _ ≤ 3400; omega)⟩ (Nat.le_of_ble_eq_true rfl) (fun w => J.and fun e => ?_)
  subst e
  refine J.lstore_n (μ := mL_isRecalled) (pc := 4) dL_isRecalled_4 (Nat.le_of_ble_eq_true rfl) rfl ?_
  refine J.aload_n (μ := mL_isRecalled) (pc := 5) dL_isRecalled_5 rfl ?_
  refine J.iload_n (μ := mL_isRecalled) (pc := 6) dL_isRecalled_6 rfl ?_
  refine J.cV (μ := mL_isRecalled) (pc := 7) (s_X11_recallSize hI.vN h20 (by omega) hla) rfl wm_L_267 mi_X11_recallSize rfl dL_isRecalled_7 (Rp.isa (T := TX11) rfl sh0) rfl rfl ⟨(Nat.le_of_ble_eq_true rfl), (Nat.le_of_ble_eq_true rfl)⟩ ⟨(by show _ ≤ 300; omega), (by show _ ≤ 3400; omega)⟩ (Nat.le_of_ble_eq_true rfl) ?_
  rw [hI.famN ha]
  refine J.istore (μ := mL_isRecalled) (pc := 10) dL_isRecalled_10 (Nat.le_of_ble_eq_true rfl) rfl ?_
  refine J.aload_n (μ := mL_isRecalled) (pc := 12) dL_isRecalled_12 rfl ?_
  refine J.cV (μ := mL_isRecalled) (pc := 13) (s_X11_heapSize) rfl wm_L_247 mi_X11_heapSize rfl dL_isRecalled_13 (Rp.isa (T := TX11) rfl sh0) rfl rfl ⟨(Nat.le_of_ble_eq_true rfl), (Nat.le_of_ble_eq_true rfl)⟩ ⟨(by show _ ≤ 300; omega), (by show _ ≤ 3400; omega)⟩ (Nat.le_of_ble_eq_true rfl) ?_
  refine J.istore (μ := mL_isRecalled) (pc := 16) dL_isRecalled_16 (Nat.le_of_ble_eq_true rfl) rfl ?_
  refine J.aload_n (μ := mL_isRecalled) (pc := 18) dL_isRecalled_18 rfl ?_
  rw [hI.vH]
  refine J.callS (μ := mL_isRecalled) (pc := 19) (l_digest hI (by omega)) rfl wm_L_278 mi_L_digest rfl dL_isRecalled_19 rfl rfl ⟨(Nat.le_of_ble_eq_true rfl), (Nat.le_of_ble_eq_true rfl)⟩ ⟨(by show _ ≤ 300; omega), (by show _ ≤ 3400; omega)⟩ (Nat.le_of_ble_eq_true rfl) (fun w => J.and fun e => ?_)
  subst e
  refine J.lload_n (μ := mL_isRecalled) (pc := 22) dL_isRecalled_22 rfl ?_
  refine J.lcmp (μ := mL_isRecalled) (pc := 23) dL_isRecalled_23 ?_
  rw [lg_self]
  refine J.if_ne (μ := mL_isRecalled) (pc := 24) 76 dL_isRecalled_24 (by decide) (fun h1 => ?_) (fun h1 => ?_)
  · exact absurd rfl h1
  · refine J.aload_n (μ := mL_isRecalled) (pc := 27) dL_isRecalled_27 rfl ?_
    refine J.iload_n (μ := mL_isRecalled) (pc := 28) dL_isRecalled_28 rfl ?_
    refine J.callSW (μ := mL_isRecalled) (pc := 29) (l_recall hok (nI a)) rfl wm_L_143 mi_L_recall (fun h => by cases h) dL_isRecalled_29 rfl rfl ⟨(Nat.le_of_ble_eq_true rfl), (Nat.le_of_ble_eq_true rfl)⟩ ⟨(by show _ ≤ 300; omega), (by show _ ≤ 3400; omega)⟩ (Nat.le_of_ble_eq_true rfl) (fun w => J.ex fun r => J.ex fun u1 => J.and fun hc => ?_)
    obtain ⟨e, hc⟩ := hc
    obtain ⟨kk, hk1, er, eu, hkp, hd⟩ := hD.app (by omega) hI (Nat.le_refl T) hc (by
      unfold vdOf
      rw [if_neg (by decide), if_neg (by decide), if_neg (by decide), if_neg (by decide), if_neg (by decide), if_neg (by decide), if_pos rfl, if_pos hla])
    obtain ⟨r1, r2, r3, r4⟩ := rec_1 hI ha hk1 er eu
    have hU := U1.of hD.2.1.1 hkp hd
    have hl1 : hasL u1 1 (nI a) := r2.hsL.mpr ⟨a, ha, rfl⟩
    subst e
    rw [r1]
    refine J.iload (μ := mL_isRecalled) (pc := 32) dL_isRecalled_32 rfl ?_
    refine J.icmp_ne (μ := mL_isRecalled) (pc := 34) 76 dL_isRecalled_34 (by decide) (fun h2 => ?_) (fun h2 => ?_)
    · exact absurd rfl h2
    · refine J.aload_n (μ := mL_isRecalled) (pc := 37) dL_isRecalled_37 rfl ?_
      refine J.cV (μ := mL_isRecalled) (pc := 38) (s_X11_heapSize) rfl wm_L_247 mi_X11_heapSize rfl dL_isRecalled_38 (Rp.isa (T := TX11) rfl sh0) rfl rfl ⟨(Nat.le_of_ble_eq_true rfl), (Nat.le_of_ble_eq_true rfl)⟩ ⟨(by show _ ≤ 300; omega), (by show _ ≤ 3400; omega)⟩ (Nat.le_of_ble_eq_true rfl) ?_
      refine J.iload (μ := mL_isRecalled) (pc := 41) dL_isRecalled_41 rfl ?_
      refine J.iload (μ := mL_isRecalled) (pc := 43) dL_isRecalled_43 rfl ?_
      refine J.iadd (μ := mL_isRecalled) (pc := 45) dL_isRecalled_45 ?_
      rw [r2.vH, nI_add]
      refine J.icmp_ne (μ := mL_isRecalled) (pc := 46) 76 dL_isRecalled_46 (by decide) (fun h3 => ?_) (fun h3 => ?_)
      · exact absurd rfl h3
      · refine J.aload_n (μ := mL_isRecalled) (pc := 49) dL_isRecalled_49 rfl ?_
        refine J.iload_n (μ := mL_isRecalled) (pc := 50) dL_isRecalled_50 rfl ?_
        refine J.cV (μ := mL_isRecalled) (pc := 51) (s_X11_isOnShelf hl1) rfl wm_L_254 mi_X11_isOnShelf rfl dL_isRecalled_51 (Rp.isa (T := TX11) rfl sh0) rfl rfl ⟨(Nat.le_of_ble_eq_true rfl), (Nat.le_of_ble_eq_true rfl)⟩ ⟨(by show _ ≤ 300; omega), (by show _ ≤ 3400; omega)⟩ (Nat.le_of_ble_eq_true rfl) ?_
        rw [decide_eq_false (show ¬ 0 ≤ gPl u1 1 (nI a) from by rw [t_le, zPl (by omega), t_0]; exact r3)]
        refine J.if_ne (μ := mL_isRecalled) (pc := 54) 76 dL_isRecalled_54 (by decide) (fun h4 => ?_) (fun h4 => ?_)
        · exact absurd rfl h4
        · refine J.aload_n (μ := mL_isRecalled) (pc := 57) dL_isRecalled_57 rfl ?_
          refine J.iload_n (μ := mL_isRecalled) (pc := 58) dL_isRecalled_58 rfl ?_
          refine J.cV (μ := mL_isRecalled) (pc := 59) (s_X11_recallSize r2.vN h20 (by omega) hl1) rfl wm_L_267 mi_X11_recallSize rfl dL_isRecalled_59 (Rp.isa (T := TX11) rfl sh0) rfl rfl ⟨(Nat.le_of_ble_eq_true rfl), (Nat.le_of_ble_eq_true rfl)⟩ ⟨(by show _ ≤ 300; omega), (by show _ ≤ 3400; omega)⟩ (Nat.le_of_ble_eq_true rfl) ?_
          rw [r2.famN ha, r4]
          refine J.if_ne (μ := mL_isRecalled) (pc := 62) 76 dL_isRecalled_62 (by decide) (fun h5 => ?_) (fun h5 => ?_)
          · exact absurd rfl h5
          · refine J.aload_n (μ := mL_isRecalled) (pc := 65) dL_isRecalled_65 rfl ?_
            refine J.callS (μ := mL_isRecalled) (pc := 66) (l_areLots r2 (by omega)) rfl wm_L_282 mi_L_areLots rfl dL_isRecalled_66 rfl rfl ⟨(Nat.le_of_ble_eq_true rfl), (Nat.le_of_ble_eq_true rfl)⟩ ⟨(by show _ ≤ 300; omega), (by show _ ≤ 3400; omega)⟩ (Nat.le_of_ble_eq_true rfl) (fun w => J.and fun e => J.ex fun u2 => J.and fun q2 => ?_)
            subst e
            refine J.if_eq (μ := mL_isRecalled) (pc := 69) 76 dL_isRecalled_69 (by decide) (fun h6 => ?_) (fun h6 => ?_)
            · exact absurd h6 (by decide)
            · refine J.iconst (μ := mL_isRecalled) (pc := 72) (v := 1) dL_isRecalled_72 (by decide) ?_
              refine J.goto (μ := mL_isRecalled) (pc := 73) 77 dL_isRecalled_73 (by decide) ?_
              refine J.istore (μ := mL_isRecalled) (pc := 77) dL_isRecalled_77 (Nat.le_of_ble_eq_true rfl) rfl ?_
              exact rc_b hI ha hT (hU.sam q2.sam) (r2.sq (q2.sq (o := 1) (by decide))) (by omega) (by omega)
