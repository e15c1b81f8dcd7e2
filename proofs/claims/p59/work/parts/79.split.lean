/-! the law: isSplit -/
theorem sp_c {γ : Gm} {T N M H a : Nat} {v : Vs} (hI : Inv 0 T N M H (iv v 1)) (ha : a < N) (hT : T + 198 ≤ 9000000) {u : Vs} {n s : Nat} (hU : U1 (T + 198) v u n s) {x4 x5 x6 x8 : Option Value} {k m : Nat} (hk : k ≤ 550) (hn : m ≤ 3500) : J γ mL_isSplit (rmD 35 600 4400) (fEv γ 600 4400 (fun r K => r = some (.int 1) ∧ ∃ w, Bk (T + 198) v w ∧ Rp γ w K)) k m 273 [some (.ref (gz γ + 0)), some (.int (nI a)), some (.long (dgV v N M)), none, x4, x5, x6, some (.int (1)), x8] [] (Rp γ u) := by
  obtain ⟨N', M', H', hI', hok⟩ := hU.2.1.ok
  have hs := hU.1
  have hs8 := hU.2.1.2.2.1.1
  have hB := hU.undo
  have hIw := hI.sq hB.2.1
  refine J.iload (μ := mL_isSplit) (pc := 273) dL_isSplit_273 rfl ?_
  refine J.if_eq (μ := mL_isSplit) (pc := 275) 298 dL_isSplit_275 (by decide) (fun h1 => ?_) (fun h1 => ?_)
  · exact absurd h1 (by decide)
  · refine J.aload_n (μ := mL_isSplit) (pc := 278) dL_isSplit_278 rfl ?_
    refine J.callSW (μ := mL_isSplit) (pc := 279) (l_undo hok) rfl wm_L_166 mi_L_undo (fun h => by cases h) dL_isSplit_279 rfl rfl ⟨(Nat.le_of_ble_eq_true rfl), (Nat.le_of_ble_eq_true rfl)⟩ ⟨(by show _ ≤ 600; omega), (by show _ ≤ 4400; omega)⟩ (Nat.le_of_ble_eq_true rfl) (fun w => J.ex fun r => J.ex fun u1 => J.and fun hc => ?_)
    obtain ⟨e, ⟨-, er, eu⟩ | ⟨e0, -, -⟩⟩ := hc
    · subst e er eu
      refine J.if_lt (μ := mL_isSplit) (pc := 282) 298 dL_isSplit_282 (by decide) (fun h2 => ?_) (fun h2 => ?_)
      · exact absurd h2 (nI_pos (by omega))
      · refine J.aload_n (μ := mL_isSplit) (pc := 285) dL_isSplit_285 rfl ?_
        refine J.callS (μ := mL_isSplit) (pc := 286) (l_digest hIw (by omega)) rfl wm_L_278 mi_L_digest rfl dL_isSplit_286 rfl rfl ⟨(Nat.le_of_ble_eq_true rfl), (Nat.le_of_ble_eq_true rfl)⟩ ⟨(by show _ ≤ 600; omega), (by show _ ≤ 4400; omega)⟩ (Nat.le_of_ble_eq_true rfl) (fun w => J.and fun e => ?_)
        subst e
        rw [dg_sq hB.2.1]
        refine J.lload_n (μ := mL_isSplit) (pc := 289) dL_isSplit_289 rfl ?_
        refine J.lcmp (μ := mL_isSplit) (pc := 290) dL_isSplit_290 ?_
        rw [lg_self]
        refine J.if_ne (μ := mL_isSplit) (pc := 291) 298 dL_isSplit_291 (by decide) (fun h3 => ?_) (fun h3 => ?_)
        · exact absurd rfl h3
        · refine J.iconst (μ := mL_isSplit) (pc := 294) (v := 1) dL_isSplit_294 (by decide) ?_
          refine J.goto (μ := mL_isSplit) (pc := 295) 299 dL_isSplit_295 (by decide) ?_
          exact J.zret (μ := mL_isSplit) (pc := 299) dL_isSplit_299 rfl rfl (by omega) (by omega) (fun K k => ⟨rfl, _, hB, k⟩)
    · exact absurd e0 (by omega)

theorem sp_b {γ : Gm} {T N M H a : Nat} {v : Vs} (hI : Inv 0 T N M H (iv v 1)) (ha : a < N) (hT : T + 198 ≤ 9000000) {u : Vs} {n s p : Nat} (hU : U1 (T + 99) v u n s) (hJ : Inv 0 T (N + 1) M H (iv u 1)) (hp : p < M) (pa : iv u 1 18 a = (p : Nat)) (pb : iv u 1 18 N = (p : Nat)) (xa : iv u 1 0 3 ≤ iv u 1 16 a) (xb : iv u 1 16 N = iv u 1 16 a) (z1 : iv u 1 12 a = iv u 1 12 N) (k1 : iv u 1 10 a = iv u 1 10 N) (z2 : iv u 1 3 p = iv u 1 12 N) (vs : iv u 1 14 a + iv u 1 14 N = iv v 1 14 a) {x8 : Option Value} {k m : Nat} (hk : k ≤ 120) (hn : m ≤ 1300) : J γ mL_isSplit (rmD 35 600 4400) (fEv γ 600 4400 (fun r K => r = some (.int 1) ∧ ∃ w, Bk (T + 198) v w ∧ Rp γ w K)) k m 162 [some (.ref (gz γ + 0)), some (.int (nI a)), some (.long (dgV v N M)), none, some (.int (gVo v 1 (nI a))), some (.int (nI N)), some (.int (nI N)), some (.int (1)), x8] [] (Rp γ u) := by
  have h20 := hJ.1.1.2
  have hU' : U1 (T + 198) v u n s := hU.mono (by omega)
  have hok := hU.2.1.okI hJ
  refine J.iload (μ := mL_isSplit) (pc := 162) dL_isSplit_162 rfl ?_
  refine J.if_eq (μ := mL_isSplit) (pc := 164) 273 dL_isSplit_164 (by decide) (fun h1 => ?_) (fun h1 => ?_)
  · exact absurd h1 (by decide)
  · refine J.iload (μ := mL_isSplit) (pc := 167) dL_isSplit_167 rfl ?_
    refine J.bipush (μ := mL_isSplit) (pc := 169) (v := 19) dL_isSplit_169 (by decide) ?_
    refine J.icmp_ge (μ := mL_isSplit) (pc := 171) 273 dL_isSplit_171 (by decide) (fun h2 => ?_) (fun h2 => ?_)
    · exact sp_c hI ha hT hU' (by omega) (by omega)
    · have hN : N + 1 < 20 := by
        have h2 : nI N < 19 := by first | exact h2 | exact Int32.not_le.mp h2
        rw [t_lt, t_nI (by omega)] at h2
        have : (19 : Int32).toInt = 19 := by decide
        omega
      have hv := mix_0 hJ (show a < N + 1 by omega) (show N < N + 1 by omega) (by omega) hN hp pa pb xa (by omega) z1 k1 z2
      refine J.aload_n (μ := mL_isSplit) (pc := 174) dL_isSplit_174 rfl ?_
      refine J.iload_n (μ := mL_isSplit) (pc := 175) dL_isSplit_175 rfl ?_
      refine J.iload (μ := mL_isSplit) (pc := 176) dL_isSplit_176 rfl ?_
      refine J.callSW (μ := mL_isSplit) (pc := 178) (l_mix hok (nI a) (nI N)) rfl wm_L_137 mi_L_mix (fun h => by cases h) dL_isSplit_178 rfl rfl ⟨(Nat.le_of_ble_eq_true rfl), (Nat.le_of_ble_eq_true rfl)⟩ ⟨(by show _ ≤ 600; omega), (by show _ ≤ 4400; omega)⟩ (Nat.le_of_ble_eq_true rfl) (fun w => J.ex fun r => J.ex fun u3 => J.and fun hc => ?_)
      obtain ⟨e, hc⟩ := hc
      obtain ⟨kk, hk1, er, eu, hkp, hd⟩ := hU.2.1.app (by omega) hJ (by omega) hc hv
      obtain ⟨-, m1, m2, m3, m4, m5, m6, m7, m8⟩ := mix_1 hJ (show a < N + 1 by omega) (show N < N + 1 by omega) hk1 hv er eu
      have hU2 := hU.cmd hkp hd
      have hlm : hasL u3 1 (nI (N + 1)) := m2.hsL.mpr ⟨N + 1, by omega, rfl⟩
      have hla : hasL u3 1 (nI a) := m2.hsL.mpr ⟨a, by omega, rfl⟩
      subst e
      rw [m1]
      refine J.istore (μ := mL_isSplit) (pc := 181) dL_isSplit_181 (Nat.le_of_ble_eq_true rfl) rfl ?_
      refine J.iload (μ := mL_isSplit) (pc := 183) dL_isSplit_183 rfl ?_
      refine J.iload (μ := mL_isSplit) (pc := 185) dL_isSplit_185 rfl ?_
      refine J.iconst (μ := mL_isSplit) (pc := 187) (v := 1) dL_isSplit_187 (by decide) ?_
      refine J.iadd (μ := mL_isSplit) (pc := 188) dL_isSplit_188 ?_
      refine J.icmp_ne (μ := mL_isSplit) (pc := 189) 270 dL_isSplit_189 (by decide) (fun h3 => ?_) (fun h3 => ?_)
      · exact absurd (nI_1 N).symm h3
      · refine J.aload_n (μ := mL_isSplit) (pc := 192) dL_isSplit_192 rfl ?_
        refine J.iload (μ := mL_isSplit) (pc := 193) dL_isSplit_193 rfl ?_
        refine J.cV (μ := mL_isSplit) (pc := 195) (s_X11_volumeOf hlm) rfl wm_L_206 mi_X11_volumeOf rfl dL_isSplit_195 (Rp.isa (T := TX11) rfl sh0) rfl rfl ⟨(Nat.le_of_ble_eq_true rfl), (Nat.le_of_ble_eq_true rfl)⟩ ⟨(by show _ ≤ 600; omega), (by show _ ≤ 4400; omega)⟩ (Nat.le_of_ble_eq_true rfl) ?_
        rw [show gVo u3 1 (nI (N + 1)) = gVo v 1 (nI a) from by rw [t_eq, zVo (by omega), zVo (by omega), m3]; exact vs]
        refine J.iload (μ := mL_isSplit) (pc := 198) dL_isSplit_198 rfl ?_
        refine J.icmp_ne (μ := mL_isSplit) (pc := 200) 270 dL_isSplit_200 (by decide) (fun h4 => ?_) (fun h4 => ?_)
        · exact absurd rfl h4
        · refine J.aload_n (μ := mL_isSplit) (pc := 203) dL_isSplit_203 rfl ?_
          refine J.iload (μ := mL_isSplit) (pc := 204) dL_isSplit_204 rfl ?_
          refine J.cV (μ := mL_isSplit) (pc := 206) (s_X11_expiryOf hlm) rfl wm_L_209 mi_X11_expiryOf rfl dL_isSplit_206 (Rp.isa (T := TX11) rfl sh0) rfl rfl ⟨(Nat.le_of_ble_eq_true rfl), (Nat.le_of_ble_eq_true rfl)⟩ ⟨(by show _ ≤ 600; omega), (by show _ ≤ 4400; omega)⟩ (Nat.le_of_ble_eq_true rfl) ?_
          refine J.aload_n (μ := mL_isSplit) (pc := 209) dL_isSplit_209 rfl ?_
          refine J.iload_n (μ := mL_isSplit) (pc := 210) dL_isSplit_210 rfl ?_
          refine J.cV (μ := mL_isSplit) (pc := 211) (s_X11_expiryOf hla) rfl wm_L_209 mi_X11_expiryOf rfl dL_isSplit_211 (Rp.isa (T := TX11) rfl sh0) rfl rfl ⟨(Nat.le_of_ble_eq_true rfl), (Nat.le_of_ble_eq_true rfl)⟩ ⟨(by show _ ≤ 600; omega), (by show _ ≤ 4400; omega)⟩ (Nat.le_of_ble_eq_true rfl) ?_
          refine J.icmp_ne (μ := mL_isSplit) (pc := 214) 270 dL_isSplit_214 (by decide) (fun h5 => ?_) (fun h5 => ?_)
          · exfalso
            apply h5
            rw [t_eq, zEp (by omega), zEp (by omega), m4, m5, xb, if_neg (by omega)]
          · refine J.aload_n (μ := mL_isSplit) (pc := 217) dL_isSplit_217 rfl ?_
            refine J.iload_n (μ := mL_isSplit) (pc := 218) dL_isSplit_218 rfl ?_
            refine J.cV (μ := mL_isSplit) (pc := 219) (s_X11_volumeOf hla) rfl wm_L_206 mi_X11_volumeOf rfl dL_isSplit_219 (Rp.isa (T := TX11) rfl sh0) rfl rfl ⟨(Nat.le_of_ble_eq_true rfl), (Nat.le_of_ble_eq_true rfl)⟩ ⟨(by show _ ≤ 600; omega), (by show _ ≤ 4400; omega)⟩ (Nat.le_of_ble_eq_true rfl) ?_
            rw [show gVo u3 1 (nI a) = 0 from by rw [t_eq, zVo (by omega), t_0]; exact m6]
            refine J.if_ne (μ := mL_isSplit) (pc := 222) 270 dL_isSplit_222 (by decide) (fun h6 => ?_) (fun h6 => ?_)
            · exact absurd rfl h6
            · refine J.aload_n (μ := mL_isSplit) (pc := 225) dL_isSplit_225 rfl ?_
              refine J.iload (μ := mL_isSplit) (pc := 226) dL_isSplit_226 rfl ?_
              refine J.cV (μ := mL_isSplit) (pc := 228) (s_X11_parentCount hlm) rfl wm_L_217 mi_X11_parentCount rfl dL_isSplit_228 (Rp.isa (T := TX11) rfl sh0) rfl rfl ⟨(Nat.le_of_ble_eq_true rfl), (Nat.le_of_ble_eq_true rfl)⟩ ⟨(by show _ ≤ 600; omega), (by show _ ≤ 4400; omega)⟩ (Nat.le_of_ble_eq_true rfl) ?_
              rw [if_neg (show ¬ gP1 u3 1 (nI (N + 1)) = -1 from fun q => by rw [t_eq, zP1 (by omega), t_m1, m7] at q; omega), if_neg (show ¬ gP2 u3 1 (nI (N + 1)) = -1 from fun q => by rw [t_eq, zP2 (by omega), t_m1, m8] at q; omega)]
              refine J.iconst (μ := mL_isSplit) (pc := 231) (v := 2) dL_isSplit_231 (by decide) ?_
              refine J.icmp_ne (μ := mL_isSplit) (pc := 232) 270 dL_isSplit_232 (by decide) (fun h7 => ?_) (fun h7 => ?_)
              · exact absurd (by decide) h7
              · refine J.aload_n (μ := mL_isSplit) (pc := 235) dL_isSplit_235 rfl ?_
                refine J.iload (μ := mL_isSplit) (pc := 236) dL_isSplit_236 rfl ?_
                refine J.iload_n (μ := mL_isSplit) (pc := 238) dL_isSplit_238 rfl ?_
                refine J.cV (μ := mL_isSplit) (pc := 239) (s_X11_descendsFrom m2.vN (by omega) (by omega) hlm hla) rfl wm_L_250 mi_X11_descendsFrom rfl dL_isSplit_239 (Rp.isa (T := TX11) rfl sh0) rfl rfl ⟨(Nat.le_of_ble_eq_true rfl), (Nat.le_of_ble_eq_true rfl)⟩ ⟨(by show _ ≤ 600; omega), (by show _ ≤ 4400; omega)⟩ (Nat.le_of_ble_eq_true rfl) ?_
                rw [descY m2 (by omega) (by omega) m7]
                refine J.if_eq (μ := mL_isSplit) (pc := 242) 270 dL_isSplit_242 (by decide) (fun h8 => ?_) (fun h8 => ?_)
                · exact absurd h8 (by decide)
                · refine J.aload_n (μ := mL_isSplit) (pc := 245) dL_isSplit_245 rfl ?_
                  refine J.callS (μ := mL_isSplit) (pc := 246) (l_areLots m2 (by omega)) rfl wm_L_282 mi_L_areLots rfl dL_isSplit_246 rfl rfl ⟨(Nat.le_of_ble_eq_true rfl), (Nat.le_of_ble_eq_true rfl)⟩ ⟨(by show _ ≤ 600; omega), (by show _ ≤ 4400; omega)⟩ (Nat.le_of_ble_eq_true rfl) (fun w => J.and fun e => J.ex fun u4 => J.and fun q4 => ?_)
                  subst e
                  have m2' := m2.sq (q4.sq (o := 1) (by decide))
                  refine J.if_eq (μ := mL_isSplit) (pc := 249) 270 dL_isSplit_249 (by decide) (fun h9 => ?_) (fun h9 => ?_)
                  · exact absurd h9 (by decide)
                  · refine J.aload_n (μ := mL_isSplit) (pc := 252) dL_isSplit_252 rfl ?_
                    refine J.callS (μ := mL_isSplit) (pc := 253) (l_areShelves m2' (by omega)) rfl wm_L_291 mi_L_areShelves rfl dL_isSplit_253 rfl rfl ⟨(Nat.le_of_ble_eq_true rfl), (Nat.le_of_ble_eq_true rfl)⟩ ⟨(by show _ ≤ 600; omega), (by show _ ≤ 4400; omega)⟩ (Nat.le_of_ble_eq_true rfl) (fun w => J.and fun e => J.ex fun u5 => J.and fun q5 => ?_)
                    subst e
                    have hU5 := hU2.sam (q4.tr q5).sam
                    have hok5 := hU5.2.1.okI (m2'.sq (q5.sq (o := 1) (by decide)))
                    have hs8 := hU5.2.1.2.2.1.1
                    have hs2 := hU5.1
                    refine J.if_eq (μ := mL_isSplit) (pc := 256) 270 dL_isSplit_256 (by decide) (fun h10 => ?_) (fun h10 => ?_)
                    · exact absurd h10 (by decide)
                    · refine J.aload_n (μ := mL_isSplit) (pc := 259) dL_isSplit_259 rfl ?_
                      refine J.callSW (μ := mL_isSplit) (pc := 260) (l_undo hok5) rfl wm_L_166 mi_L_undo (fun h => by cases h) dL_isSplit_260 rfl rfl ⟨(Nat.le_of_ble_eq_true rfl), (Nat.le_of_ble_eq_true rfl)⟩ ⟨(by show _ ≤ 600; omega), (by show _ ≤ 4400; omega)⟩ (Nat.le_of_ble_eq_true rfl) (fun w => J.ex fun r6 => J.ex fun u6 => J.and fun hc => ?_)
                      obtain ⟨e, ⟨-, er6, eu6⟩ | ⟨e0, -, -⟩⟩ := hc
                      · subst e er6 eu6
                        refine J.if_lt (μ := mL_isSplit) (pc := 263) 270 dL_isSplit_263 (by decide) (fun h11 => ?_) (fun h11 => ?_)
                        · exact absurd h11 (nI_pos (by omega))
                        · refine J.iconst (μ := mL_isSplit) (pc := 266) (v := 1) dL_isSplit_266 (by decide) ?_
                          refine J.goto (μ := mL_isSplit) (pc := 267) 271 dL_isSplit_267 (by decide) ?_
                          refine J.istore (μ := mL_isSplit) (pc := 271) dL_isSplit_271 (Nat.le_of_ble_eq_true rfl) rfl ?_
                          exact sp_c hI ha hT (hU5.undo.1.mono (by omega)) (by omega) (by omega)
                      · exact absurd e0 (by omega)

theorem l_isSplit {γ : Gm} {T N M H a : Nat} {v : Vs} (hI : Inv 0 T N M H (iv v 1)) (ha : a < N) (hT : T + 198 ≤ 9000000) {n s : Nat} (hD : DI T v n s) : Ev γ mL_isSplit yL_isSplit 35 600 4400 [.ref (gz γ + 0), .int (nI a)] (Rp γ v) (fun r K => r = some (.int 1) ∧ ∃ w, Bk (T + 198) v w ∧ Rp γ w K) := by
  have h20 := hI.1.1.2
  have h8 := hI.1.2.1.2
  have hla : hasL v 1 (nI a) := hI.hsL.mpr ⟨a, ha, rfl⟩
  have hok := hD.okI hI
  refine Ev.ofJ (by decide) rfl (fun h => by cases h) (Nat.le_of_ble_eq_true rfl) ?_
  refine J.aload_n (μ := mL_isSplit) (pc := 0) dL_isSplit_0 rfl ?_
  refine J.callS (μ := mL_isSplit) (pc := 1) (l_digest hI (by omega)) rfl wm_L_278 mi_L_digest rfl dL_isSplit_1 rfl rfl ⟨(Nat.le_of_ble_eq_true rfl), (Nat.le_of_ble_eq_true rfl)⟩ ⟨(by show _ ≤ 600; omega), (by show _ ≤ 4400; omega)⟩ (Nat.le_of_ble_eq_true rfl) (fun w => J.and fun e => ?_)
  subst e
  refine J.lstore_n (μ := mL_isSplit) (pc := 4) dL_isSplit_4 (Nat.le_of_ble_eq_true rfl) rfl ?_
  refine J.aload_n (μ := mL_isSplit) (pc := 5) dL_isSplit_5 rfl ?_
  refine J.iload_n (μ := mL_isSplit) (pc := 6) dL_isSplit_6 rfl ?_
  refine J.cV (μ := mL_isSplit) (pc := 7) (s_X11_volumeOf hla) rfl wm_L_206 mi_X11_volumeOf rfl dL_isSplit_7 (Rp.isa (T := TX11) rfl sh0) rfl rfl ⟨(Nat.le_of_ble_eq_true rfl), (Nat.le_of_ble_eq_true rfl)⟩ ⟨(by show _ ≤ 600; omega), (by show _ ≤ 4400; omega)⟩ (Nat.le_of_ble_eq_true rfl) ?_
  refine J.istore (μ := mL_isSplit) (pc := 10) dL_isSplit_10 (Nat.le_of_ble_eq_true rfl) rfl ?_
  refine J.aload_n (μ := mL_isSplit) (pc := 12) dL_isSplit_12 rfl ?_
  refine J.cV (μ := mL_isSplit) (pc := 13) (s_X11_lotCount) rfl wm_L_190 mi_X11_lotCount rfl dL_isSplit_13 (Rp.isa (T := TX11) rfl sh0) rfl rfl ⟨(Nat.le_of_ble_eq_true rfl), (Nat.le_of_ble_eq_true rfl)⟩ ⟨(by show _ ≤ 600; omega), (by show _ ≤ 4400; omega)⟩ (Nat.le_of_ble_eq_true rfl) ?_
  refine J.istore (μ := mL_isSplit) (pc := 16) dL_isSplit_16 (Nat.le_of_ble_eq_true rfl) rfl ?_
  refine J.aload_n (μ := mL_isSplit) (pc := 18) dL_isSplit_18 rfl ?_
  refine J.iload_n (μ := mL_isSplit) (pc := 19) dL_isSplit_19 rfl ?_
  refine J.iconst (μ := mL_isSplit) (pc := 20) (v := 1) dL_isSplit_20 (by decide) ?_
  rw [hI.vN]
  refine J.callSW (μ := mL_isSplit) (pc := 21) (l_split hok (nI a) 1) rfl wm_L_135 mi_L_split (fun h => by cases h) dL_isSplit_21 rfl rfl ⟨(Nat.le_of_ble_eq_true rfl), (Nat.le_of_ble_eq_true rfl)⟩ ⟨(by show _ ≤ 600; omega), (by show _ ≤ 4400; omega)⟩ (Nat.le_of_ble_eq_true rfl) (fun w => J.ex fun r => J.ex fun u1 => J.and fun hc => ?_)
  obtain ⟨e, hc⟩ := hc
  by_cases hv : (vdOf v 1 N M 2 (nI a) 1 0 0).1 = 0
  · obtain ⟨kk, hk1, er, eu, hkp, hd⟩ := hD.app (by omega) hI (Nat.le_refl T) hc hv
    obtain ⟨s1, s2, s3, ⟨p, hp, s4, s5⟩, s6, s7, ⟨s8, s9⟩, ⟨s10, s11⟩, ⟨s12, s13⟩, ⟨s14, s15, s16⟩, ⟨s17, s18⟩, s19, s20⟩ := spl_1 hI ha hk1 hv er eu
    have hU := U1.of hD.2.1.1 hkp hd
    have hlN : hasL u1 1 (nI N) := s3.hsL.mpr ⟨N, by omega, rfl⟩
    have hl1 : hasL u1 1 (nI a) := s3.hsL.mpr ⟨a, by omega, rfl⟩
    have hvo := (hI.lot ha).2.2.2.1.vo
    subst e
    rw [s2]
    refine J.istore (μ := mL_isSplit) (pc := 24) dL_isSplit_24 (Nat.le_of_ble_eq_true rfl) rfl ?_
    refine J.iload (μ := mL_isSplit) (pc := 26) dL_isSplit_26 rfl ?_
    refine J.ldc (μ := mL_isSplit) (pc := 28) rfl wo_L_10 dL_isSplit_28 ?_
    refine J.icmp_ne (μ := mL_isSplit) (pc := 30) 85 dL_isSplit_30 (by decide) (fun h1 => ?_) (fun h1 => ?_)
    · refine J.iload (μ := mL_isSplit) (pc := 85) dL_isSplit_85 rfl ?_
      refine J.iload (μ := mL_isSplit) (pc := 87) dL_isSplit_87 rfl ?_
      refine J.icmp_ne (μ := mL_isSplit) (pc := 89) 159 dL_isSplit_89 (by decide) (fun h2 => ?_) (fun h2 => ?_)
      · exact absurd rfl h2
      · refine J.aload_n (μ := mL_isSplit) (pc := 92) dL_isSplit_92 rfl ?_
        refine J.iload (μ := mL_isSplit) (pc := 93) dL_isSplit_93 rfl ?_
        refine J.cV (μ := mL_isSplit) (pc := 95) (s_X11_volumeOf hlN) rfl wm_L_206 mi_X11_volumeOf rfl dL_isSplit_95 (Rp.isa (T := TX11) rfl sh0) rfl rfl ⟨(Nat.le_of_ble_eq_true rfl), (Nat.le_of_ble_eq_true rfl)⟩ ⟨(by show _ ≤ 600; omega), (by show _ ≤ 4400; omega)⟩ (Nat.le_of_ble_eq_true rfl) ?_
        rw [show gVo u1 1 (nI N) = 1 from by rw [t_eq, zVo (by omega), t_1]; exact s8]
        refine J.iconst (μ := mL_isSplit) (pc := 98) (v := 1) dL_isSplit_98 (by decide) ?_
        refine J.icmp_ne (μ := mL_isSplit) (pc := 99) 159 dL_isSplit_99 (by decide) (fun h3 => ?_) (fun h3 => ?_)
        · exact absurd rfl h3
        · refine J.aload_n (μ := mL_isSplit) (pc := 102) dL_isSplit_102 rfl ?_
          refine J.iload_n (μ := mL_isSplit) (pc := 103) dL_isSplit_103 rfl ?_
          refine J.cV (μ := mL_isSplit) (pc := 104) (s_X11_volumeOf hl1) rfl wm_L_206 mi_X11_volumeOf rfl dL_isSplit_104 (Rp.isa (T := TX11) rfl sh0) rfl rfl ⟨(Nat.le_of_ble_eq_true rfl), (Nat.le_of_ble_eq_true rfl)⟩ ⟨(by show _ ≤ 600; omega), (by show _ ≤ 4400; omega)⟩ (Nat.le_of_ble_eq_true rfl) ?_
          rw [show gVo u1 1 (nI a) = gVo v 1 (nI a) - 1 from by
            rw [t_eq, t_sub (by rw [zVo (by omega), t_1]; omega) (by rw [zVo (by omega), t_1]; omega), zVo (by omega), zVo (by omega), t_1]; exact s9]
          refine J.iload (μ := mL_isSplit) (pc := 107) dL_isSplit_107 rfl ?_
          refine J.iconst (μ := mL_isSplit) (pc := 109) (v := 1) dL_isSplit_109 (by decide) ?_
          refine J.isub (μ := mL_isSplit) (pc := 110) dL_isSplit_110 ?_
          refine J.icmp_ne (μ := mL_isSplit) (pc := 111) 159 dL_isSplit_111 (by decide) (fun h4 => ?_) (fun h4 => ?_)
          · exact absurd rfl h4
          · refine J.aload_n (μ := mL_isSplit) (pc := 114) dL_isSplit_114 rfl ?_
            refine J.iload (μ := mL_isSplit) (pc := 115) dL_isSplit_115 rfl ?_
            refine J.callVx (μ := mL_isSplit) (pc := 117) (s_X11_shelfOf hlN) rfl wm_L_57 mi_X11_shelfOf rfl dL_isSplit_117 (Rp.isa (T := TX11) rfl sh0) rfl rfl ⟨(Nat.le_of_ble_eq_true rfl), (Nat.le_of_ble_eq_true rfl)⟩ ⟨(by show _ ≤ 600; omega), (by show _ ≤ 4400; omega)⟩ (Nat.le_of_ble_eq_true rfl) (fun E => JX.and fun h9 => absurd h9 ?_) (fun w => J.and fun e => J.and fun _ => ?_)
            · rw [t_lt, zPl (by omega), t_0]
              omega
            subst e
            refine J.aload_n (μ := mL_isSplit) (pc := 120) dL_isSplit_120 rfl ?_
            refine J.iload_n (μ := mL_isSplit) (pc := 121) dL_isSplit_121 rfl ?_
            refine J.callVx (μ := mL_isSplit) (pc := 122) (s_X11_shelfOf hl1) rfl wm_L_57 mi_X11_shelfOf rfl dL_isSplit_122 (Rp.isa (T := TX11) rfl sh0) rfl rfl ⟨(Nat.le_of_ble_eq_true rfl), (Nat.le_of_ble_eq_true rfl)⟩ ⟨(by show _ ≤ 600; omega), (by show _ ≤ 4400; omega)⟩ (Nat.le_of_ble_eq_true rfl) (fun E => JX.and fun h9 => absurd h9 ?_) (fun w => J.and fun e => J.and fun _ => ?_)
            · rw [t_lt, zPl (by omega), t_0]
              omega
            subst e
            rw [show gPl u1 1 (nI N) = gPl u1 1 (nI a) from by rw [t_eq, zPl (by omega), zPl (by omega)]; omega]
            refine J.icmp_ne (μ := mL_isSplit) (pc := 125) 159 dL_isSplit_125 (by decide) (fun h5 => ?_) (fun h5 => ?_)
            · exact absurd rfl h5
            · refine J.aload_n (μ := mL_isSplit) (pc := 128) dL_isSplit_128 rfl ?_
              refine J.iload (μ := mL_isSplit) (pc := 129) dL_isSplit_129 rfl ?_
              refine J.iload_n (μ := mL_isSplit) (pc := 131) dL_isSplit_131 rfl ?_
              refine J.cV (μ := mL_isSplit) (pc := 132) (s_X11_descendsFrom s3.vN (by omega) (by omega) hlN hl1) rfl wm_L_250 mi_X11_descendsFrom rfl dL_isSplit_132 (Rp.isa (T := TX11) rfl sh0) rfl rfl ⟨(Nat.le_of_ble_eq_true rfl), (Nat.le_of_ble_eq_true rfl)⟩ ⟨(by show _ ≤ 600; omega), (by show _ ≤ 4400; omega)⟩ (Nat.le_of_ble_eq_true rfl) ?_
              rw [descY s3 (by omega) (by omega) s17]
              refine J.if_eq (μ := mL_isSplit) (pc := 135) 159 dL_isSplit_135 (by decide) (fun h6 => ?_) (fun h6 => ?_)
              · exact absurd h6 (by decide)
              · refine J.aload_n (μ := mL_isSplit) (pc := 138) dL_isSplit_138 rfl ?_
                refine J.iload (μ := mL_isSplit) (pc := 139) dL_isSplit_139 rfl ?_
                refine J.cV (μ := mL_isSplit) (pc := 141) (s_X11_parentCount hlN) rfl wm_L_217 mi_X11_parentCount rfl dL_isSplit_141 (Rp.isa (T := TX11) rfl sh0) rfl rfl ⟨(Nat.le_of_ble_eq_true rfl), (Nat.le_of_ble_eq_true rfl)⟩ ⟨(by show _ ≤ 600; omega), (by show _ ≤ 4400; omega)⟩ (Nat.le_of_ble_eq_true rfl) ?_
                rw [if_neg (show ¬ gP1 u1 1 (nI N) = -1 from fun q => by rw [t_eq, zP1 (by omega), t_m1, s17] at q; omega), if_pos (show gP2 u1 1 (nI N) = -1 from by rw [t_eq, zP2 (by omega), t_m1]; exact s18)]
                refine J.iconst (μ := mL_isSplit) (pc := 144) (v := 1) dL_isSplit_144 (by decide) ?_
                refine J.icmp_ne (μ := mL_isSplit) (pc := 145) 159 dL_isSplit_145 (by decide) (fun h7 => ?_) (fun h7 => ?_)
                · exact absurd (by decide) h7
                · refine J.aload_n (μ := mL_isSplit) (pc := 148) dL_isSplit_148 rfl ?_
                  refine J.callS (μ := mL_isSplit) (pc := 149) (l_areLots s3 (by omega)) rfl wm_L_282 mi_L_areLots rfl dL_isSplit_149 rfl rfl ⟨(Nat.le_of_ble_eq_true rfl), (Nat.le_of_ble_eq_true rfl)⟩ ⟨(by show _ ≤ 600; omega), (by show _ ≤ 4400; omega)⟩ (Nat.le_of_ble_eq_true rfl) (fun w => J.and fun e => J.ex fun u2 => J.and fun q2 => ?_)
                  subst e
                  have sq := q2.sq (o := 1) (by decide)
                  refine J.if_eq (μ := mL_isSplit) (pc := 152) 159 dL_isSplit_152 (by decide) (fun h8b => ?_) (fun h8b => ?_)
                  · exact absurd h8b (by decide)
                  · refine J.iconst (μ := mL_isSplit) (pc := 155) (v := 1) dL_isSplit_155 (by decide) ?_
                    refine J.goto (μ := mL_isSplit) (pc := 156) 160 dL_isSplit_156 (by decide) ?_
                    refine J.istore (μ := mL_isSplit) (pc := 160) dL_isSplit_160 (Nat.le_of_ble_eq_true rfl) rfl ?_
                    refine sp_b hI ha hT (p := p) (hU.sam q2.sam) (s3.sq sq) hp ?_ ?_ ?_ ?_ ?_ ?_ ?_ ?_ (by omega) (by omega)
                    · rw [iv_sq sq (by decide)]; omega
                    · rw [iv_sq sq (by decide)]; omega
                    · rw [iv_sq sq (by decide), iv_sq sq (by decide)]; omega
                    · rw [iv_sq sq (by decide), iv_sq sq (by decide)]; omega
                    · rw [iv_sq sq (by decide), iv_sq sq (by decide)]; omega
                    · rw [iv_sq sq (by decide), iv_sq sq (by decide)]; omega
                    · rw [iv_sq sq (by decide), iv_sq sq (by decide), s20 p hp]; omega
                    · rw [iv_sq sq (by decide), iv_sq sq (by decide)]; omega
    · exfalso
      have h1 : nI N = -100000000 := by first | exact h1 | exact Classical.not_not.mp h1
      rw [t_eq, t_nI (by omega)] at h1
      have : (-100000000 : Int32).toInt = -100000000 := by decide
      omega
  · obtain ⟨er, q, eu⟩ := hD.den hc hv
    have hB : Bk (T + 198) v u1 := (hD.bk q).mono (by omega)
    have hIw := hI.sq hB.2.1
    have hlw : hasL u1 1 (nI a) := hIw.hsL.mpr ⟨a, ha, rfl⟩
    have g18 : gPl u1 1 (nI a) = gPl v 1 (nI a) := by unfold gPl; rw [hB.2.1 18 (by decide)]
    have g16 : gEp u1 1 (nI a) = gEp v 1 (nI a) := by unfold gEp; rw [hB.2.1 16 (by decide)]
    have g3 : u1 1 3 = v 1 3 := by rw [show u1 1 = v 1 from hB.2.1 0 (by decide)]
    subst e
    rw [er]
    refine J.istore (μ := mL_isSplit) (pc := 24) dL_isSplit_24 (Nat.le_of_ble_eq_true rfl) rfl ?_
    refine J.iload (μ := mL_isSplit) (pc := 26) dL_isSplit_26 rfl ?_
    refine J.ldc (μ := mL_isSplit) (pc := 28) rfl wo_L_10 dL_isSplit_28 ?_
    refine J.icmp_ne (μ := mL_isSplit) (pc := 30) 85 dL_isSplit_30 (by decide) (fun h1 => ?_) (fun h1 => ?_)
    · exact absurd rfl h1
    · have fin : ∀ (k m : Nat), k ≤ 200 → m ≤ 2000 → ∀ x7 x8 : Option Value, J γ mL_isSplit (rmD 35 600 4400) (fEv γ 600 4400 (fun r K => r = some (.int 1) ∧ ∃ w, Bk (T + 198) v w ∧ Rp γ w K)) k m 79 [some (.ref (gz γ + 0)), some (.int (nI a)), some (.long (dgV v N M)), none, some (.int (gVo v 1 (nI a))), some (.int (nI N)), some (.int (-100000000)), x7, x8] [] (Rp γ u1) := by
        intro k m hk hm x7 x8
        refine J.iconst (μ := mL_isSplit) (pc := 79) (v := 1) dL_isSplit_79 (by decide) ?_
        refine J.goto (μ := mL_isSplit) (pc := 80) 84 dL_isSplit_80 (by decide) ?_
        exact J.zret (μ := mL_isSplit) (pc := 84) dL_isSplit_84 rfl rfl (by omega) (by omega) (fun K k => ⟨rfl, _, hB, k⟩)
      refine J.aload_n (μ := mL_isSplit) (pc := 33) dL_isSplit_33 rfl ?_
      refine J.callS (μ := mL_isSplit) (pc := 34) (l_digest hIw (by omega)) rfl wm_L_278 mi_L_digest rfl dL_isSplit_34 rfl rfl ⟨(Nat.le_of_ble_eq_true rfl), (Nat.le_of_ble_eq_true rfl)⟩ ⟨(by show _ ≤ 600; omega), (by show _ ≤ 4400; omega)⟩ (Nat.le_of_ble_eq_true rfl) (fun w => J.and fun e => ?_)
      subst e
      rw [dg_sq hB.2.1]
      refine J.lload_n (μ := mL_isSplit) (pc := 37) dL_isSplit_37 rfl ?_
      refine J.lcmp (μ := mL_isSplit) (pc := 38) dL_isSplit_38 ?_
      rw [lg_self]
      refine J.if_ne (μ := mL_isSplit) (pc := 39) 83 dL_isSplit_39 (by decide) (fun h2 => ?_) (fun h2 => ?_)
      · exact absurd rfl h2
      · refine J.aload_n (μ := mL_isSplit) (pc := 42) dL_isSplit_42 rfl ?_
        refine J.iload_n (μ := mL_isSplit) (pc := 43) dL_isSplit_43 rfl ?_
        refine J.cV (μ := mL_isSplit) (pc := 44) (s_X11_isOnShelf hlw) rfl wm_L_254 mi_X11_isOnShelf rfl dL_isSplit_44 (Rp.isa (T := TX11) rfl sh0) rfl rfl ⟨(Nat.le_of_ble_eq_true rfl), (Nat.le_of_ble_eq_true rfl)⟩ ⟨(by show _ ≤ 600; omega), (by show _ ≤ 4400; omega)⟩ (Nat.le_of_ble_eq_true rfl) ?_
        rw [g18]
        by_cases hon : 0 ≤ gPl v 1 (nI a)
        · rw [decide_eq_true hon]
          refine J.if_eq (μ := mL_isSplit) (pc := 47) 79 dL_isSplit_47 (by decide) (fun h3 => ?_) (fun h3 => ?_)
          · exact absurd h3 (by decide)
          · refine J.aload_n (μ := mL_isSplit) (pc := 50) dL_isSplit_50 rfl ?_
            refine J.iload_n (μ := mL_isSplit) (pc := 51) dL_isSplit_51 rfl ?_
            refine J.cV (μ := mL_isSplit) (pc := 52) (s_X11_isExpired hlw) rfl wm_L_258 mi_X11_isExpired rfl dL_isSplit_52 (Rp.isa (T := TX11) rfl sh0) rfl rfl ⟨(Nat.le_of_ble_eq_true rfl), (Nat.le_of_ble_eq_true rfl)⟩ ⟨(by show _ ≤ 600; omega), (by show _ ≤ 4400; omega)⟩ (Nat.le_of_ble_eq_true rfl) ?_
            rw [g16, g3]
            by_cases hx : gEp v 1 (nI a) < v 1 3
            · rw [decide_eq_true hx]
              refine J.if_ne (μ := mL_isSplit) (pc := 55) 79 dL_isSplit_55 (by decide) (fun h4 => ?_) (fun h4 => ?_)
              · exact fin _ _ (by omega) (by omega) _ _
              · exact absurd h4 (by decide)
            · rw [decide_eq_false hx]
              refine J.if_ne (μ := mL_isSplit) (pc := 55) 79 dL_isSplit_55 (by decide) (fun h4 => ?_) (fun h4 => ?_)
              · exact absurd rfl h4
              · refine J.iload (μ := mL_isSplit) (pc := 58) dL_isSplit_58 rfl ?_
                refine J.iconst (μ := mL_isSplit) (pc := 60) (v := 2) dL_isSplit_60 (by decide) ?_
                refine J.icmp_lt (μ := mL_isSplit) (pc := 61) 79 dL_isSplit_61 (by decide) (fun h5 => ?_) (fun h5 => ?_)
                · exact fin _ _ (by omega) (by omega) _ _
                · refine J.iload (μ := mL_isSplit) (pc := 64) dL_isSplit_64 rfl ?_
                  refine J.bipush (μ := mL_isSplit) (pc := 66) (v := 20) dL_isSplit_66 (by decide) ?_
                  refine J.icmp_eq (μ := mL_isSplit) (pc := 68) 79 dL_isSplit_68 (by decide) (fun h6 => ?_) (fun h6 => ?_)
                  · exact fin _ _ (by omega) (by omega) _ _
                  · refine J.aload_n (μ := mL_isSplit) (pc := 71) dL_isSplit_71 rfl ?_
                    refine J.callSW (μ := mL_isSplit) (pc := 72) (l_denial) rfl wm_L_294 mi_L_denial (fun h => by cases h) dL_isSplit_72 rfl rfl ⟨(Nat.le_of_ble_eq_true rfl), (Nat.le_of_ble_eq_true rfl)⟩ ⟨(by show _ ≤ 600; omega), (by show _ ≤ 4400; omega)⟩ (Nat.le_of_ble_eq_true rfl) (fun w => J.and fun e => ?_)
                    subst e
                    have e10 : u1 0 10 = 1 := by
                      rw [eu]
                      exact spl_no hI ha hv hon hx (by first | exact h5 | exact Int32.not_lt.mp h5) h6
                    rw [e10, nz_p (by decide)]
                    refine J.iconst (μ := mL_isSplit) (pc := 75) (v := 1) dL_isSplit_75 (by decide) ?_
                    refine J.icmp_ne (μ := mL_isSplit) (pc := 76) 83 dL_isSplit_76 (by decide) (fun h7 => ?_) (fun h7 => ?_)
                    · exact absurd rfl h7
                    · exact fin _ _ (by omega) (by omega) _ _
        · rw [decide_eq_false hon]
          refine J.if_eq (μ := mL_isSplit) (pc := 47) 79 dL_isSplit_47 (by decide) (fun h3 => ?_) (fun h3 => ?_)
          · exact fin _ _ (by omega) (by omega) _ _
          · exact absurd rfl h3
