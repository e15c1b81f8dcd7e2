/-! the law: areShelves, rank by rank -/
theorem as_2 {γ : Gm} {T N M H : Nat} {v : Vs} (h : Inv 0 T N M H (iv v 1)) (hT : T ≤ 1000000000) {k n tot : Nat} (hk : k ≤ 250) (hn : n ≤ 1500) (htot : tot ≤ 8) {x3 x4 x5 x6 x7 : Option Value} : J γ mL_areShelves (rmD 34 300 1800) (fEv γ 300 1800 (fun r K => r = some (.int 1) ∧ ∃ u, Sc v u ∧ Rp γ u K)) k n 183 [some (.ref (gz γ + 0)), some (.int (nI tot)), some (.int 1), x3, x4, x5, x6, x7] [] (Rp γ v) := by
  have h20 := h.1.1.2
  have h8 := h.1.2.1.2
  refine J.iconst (μ := mL_areShelves) (pc := 183) (v := 1) dL_areShelves_183 (by decide) ?_
  refine J.istore_n (μ := mL_areShelves) (pc := 184) dL_areShelves_184 (Nat.le_of_ble_eq_true rfl) rfl ?_
  refine J.sub ?_ (J.forK (μ := mL_areShelves) (hd := 185) (kf := fun i => k + 4 * i) (nf := fun i => n + 24 * i) (Lf := fun i => [some (.ref (gz γ + 0)), some (.int (nI tot)), some (.int 1), some (.int (nI (i + 1))), none, none, none, none]) (Pf := fun _ => Rp γ v) (M - 1) ?_ (fun i hi ih => ?_))
  · exact ⟨rfl, rfl, rfl, rfl, trivial⟩
  · refine J.iload_n (μ := mL_areShelves) (pc := 185) dL_areShelves_185 rfl ?_
    refine J.if_eq (μ := mL_areShelves) (pc := 186) 282 dL_areShelves_186 (by decide) (fun h1 => ?_) (fun h1 => ?_)
    · exact absurd h1 (by decide)
    · refine J.iload_n (μ := mL_areShelves) (pc := 189) dL_areShelves_189 rfl ?_
      refine J.aload_n (μ := mL_areShelves) (pc := 190) dL_areShelves_190 rfl ?_
      refine J.cV (μ := mL_areShelves) (pc := 191) (s_X11_shelfCount) rfl wm_L_193 mi_X11_shelfCount rfl dL_areShelves_191 (Rp.isa (T := TX11) rfl sh0) rfl rfl ⟨(Nat.le_of_ble_eq_true rfl), (Nat.le_of_ble_eq_true rfl)⟩ ⟨(by show _ ≤ 300; omega), (by show _ ≤ 1800; omega)⟩ (Nat.le_of_ble_eq_true rfl) ?_
      rw [h.vM]
      refine J.icmp_ge (μ := mL_areShelves) (pc := 194) 282 dL_areShelves_194 (by decide) (fun h2 => ?_) (fun h2 => ?_)
      · refine J.sub ?_ (as_3 h (k := k + 4 * (M - 1)) (n := n + 24 * (M - 1)) (tot := tot) (x3 := none) (x4 := none) (x5 := none) (x6 := none) (x7 := none) (by omega) (by omega) htot)
        exact ⟨rfl, rfl, rfl, trivial⟩
      · exfalso
        have h2 : nI (M - 1 + 1) < nI M := by first | exact h2 | exact Int32.not_le.mp h2
        rw [t_lt, t_nI (by omega), t_nI (by omega)] at h2
        omega
  · obtain ⟨a, ha, ha2, ha3⟩ := shAt_y (v := v) (N := N) h8 (x := i) (by omega)
    obtain ⟨b, hb, hb2, hb3⟩ := shAt_y (v := v) (N := N) h8 (x := i + 1) (by omega)
    have hab := rk_next (due_sto (v := v) (N := N) h8) ha hb rfl rfl (by omega)
    have hd := due_law h hT ha hb hab
    have hla : hasS v 1 (nI a) := h.hsS.mpr ⟨a, ha, rfl⟩
    have hlb : hasS v 1 (nI b) := h.hsS.mpr ⟨b, hb, rfl⟩
    have esub : nI (i + 1) - 1 = nI i := by rw [nI_succ, Int32.add_sub_cancel]
    have fin : J γ mL_areShelves (rmD 34 300 1800) (fEv γ 300 1800 (fun r K => r = some (.int 1) ∧ ∃ u, Sc v u ∧ Rp γ u K)) (k + 4 * i + 1 + 1 + 1 + 1) (n + 24 * i + 6 + 6 + 6 + 6) 270 [some (.ref (gz γ + 0)), some (.int (nI tot)), some (.int 1), some (.int (nI (i + 1))), none, none, none, none] [] (Rp γ v) := by
      refine J.iconst (μ := mL_areShelves) (pc := 270) (v := 1) dL_areShelves_270 (by decide) ?_
      refine J.goto (μ := mL_areShelves) (pc := 271) 275 dL_areShelves_271 (by decide) ?_
      refine J.istore_n (μ := mL_areShelves) (pc := 275) dL_areShelves_275 (Nat.le_of_ble_eq_true rfl) rfl ?_
      refine J.iinc (μ := mL_areShelves) (pc := 276) (v := 1) dL_areShelves_276 rfl (by decide) (Nat.le_of_ble_eq_true rfl) rfl ?_
      refine J.goto (μ := mL_areShelves) (pc := 279) 185 dL_areShelves_279 (by decide) ?_
      refine J.widen (k' := k + 4 * (i + 1)) (n' := n + 24 * (i + 1)) (by omega) (by omega) (J.sub ?_ ih)
      exact ⟨rfl, rfl, rfl, by rw [nI_1], trivial⟩
    have fin2 : ∀ x4 x5 x6 x7 : Option Value, J γ mL_areShelves (rmD 34 300 1800) (fEv γ 300 1800 (fun r K => r = some (.int 1) ∧ ∃ u, Sc v u ∧ Rp γ u K)) (k + 4 * i + 1 + 1 + 1 + 1) (n + 24 * i + 6 + 6 + 6 + 6) 270 [some (.ref (gz γ + 0)), some (.int (nI tot)), some (.int 1), some (.int (nI (i + 1))), x4, x5, x6, x7] [] (Rp γ v) := by
      intro x4 x5 x6 x7
      refine J.sub ?_ fin
      exact ⟨rfl, rfl, rfl, rfl, trivial⟩
    refine J.iload_n (μ := mL_areShelves) (pc := 185) dL_areShelves_185 rfl ?_
    refine J.if_eq (μ := mL_areShelves) (pc := 186) 282 dL_areShelves_186 (by decide) (fun h1 => ?_) (fun h1 => ?_)
    · exact absurd h1 (by decide)
    · refine J.iload_n (μ := mL_areShelves) (pc := 189) dL_areShelves_189 rfl ?_
      refine J.aload_n (μ := mL_areShelves) (pc := 190) dL_areShelves_190 rfl ?_
      refine J.cV (μ := mL_areShelves) (pc := 191) (s_X11_shelfCount) rfl wm_L_193 mi_X11_shelfCount rfl dL_areShelves_191 (Rp.isa (T := TX11) rfl sh0) rfl rfl ⟨(Nat.le_of_ble_eq_true rfl), (Nat.le_of_ble_eq_true rfl)⟩ ⟨(by show _ ≤ 300; omega), (by show _ ≤ 1800; omega)⟩ (Nat.le_of_ble_eq_true rfl) ?_
      rw [h.vM]
      refine J.icmp_ge (μ := mL_areShelves) (pc := 194) 282 dL_areShelves_194 (by decide) (fun h2 => ?_) (fun h2 => ?_)
      · exact absurd h2 (nI_ge (by omega) (by omega))
      · refine J.aload_n (μ := mL_areShelves) (pc := 197) dL_areShelves_197 rfl ?_
        refine J.iload_n (μ := mL_areShelves) (pc := 198) dL_areShelves_198 rfl ?_
        refine J.iconst (μ := mL_areShelves) (pc := 199) (v := 1) dL_areShelves_199 (by decide) ?_
        refine J.isub (μ := mL_areShelves) (pc := 200) dL_areShelves_200 ?_
        rw [esub]
        refine J.callSW (μ := mL_areShelves) (pc := 201) (l_shelfToCount h.vN h20 h.vM h8 (nI i)) rfl wm_L_220 mi_L_shelfToCount (fun h => by cases h) dL_areShelves_201 rfl rfl ⟨(Nat.le_of_ble_eq_true rfl), (Nat.le_of_ble_eq_true rfl)⟩ ⟨(by show _ ≤ 300; omega), (by show _ ≤ 1800; omega)⟩ (Nat.le_of_ble_eq_true rfl) (fun w => J.and (fun e => ?_))
        subst e
        rw [show fdI (fun k => decide (nI (cn (fun j => decide (dueB v 1 N (nI j) (nI k))) M) = nI i)) M = nI a from ha3, nz_p (nI_pos (by omega))]
        refine J.istore (μ := mL_areShelves) (pc := 204) dL_areShelves_204 (Nat.le_of_ble_eq_true rfl) rfl ?_
        refine J.aload_n (μ := mL_areShelves) (pc := 206) dL_areShelves_206 rfl ?_
        refine J.iload_n (μ := mL_areShelves) (pc := 207) dL_areShelves_207 rfl ?_
        refine J.callSW (μ := mL_areShelves) (pc := 208) (l_shelfToCount h.vN h20 h.vM h8 (nI (i + 1))) rfl wm_L_220 mi_L_shelfToCount (fun h => by cases h) dL_areShelves_208 rfl rfl ⟨(Nat.le_of_ble_eq_true rfl), (Nat.le_of_ble_eq_true rfl)⟩ ⟨(by show _ ≤ 300; omega), (by show _ ≤ 1800; omega)⟩ (Nat.le_of_ble_eq_true rfl) (fun w => J.and (fun e => ?_))
        subst e
        rw [show fdI (fun k => decide (nI (cn (fun j => decide (dueB v 1 N (nI j) (nI k))) M) = nI (i + 1))) M = nI b from hb3, nz_p (nI_pos (by omega))]
        refine J.istore (μ := mL_areShelves) (pc := 211) dL_areShelves_211 (Nat.le_of_ble_eq_true rfl) rfl ?_
        refine J.aload_n (μ := mL_areShelves) (pc := 213) dL_areShelves_213 rfl ?_
        refine J.iload (μ := mL_areShelves) (pc := 214) dL_areShelves_214 rfl ?_
        refine J.callSW (μ := mL_areShelves) (pc := 216) (l_countedDay hlb) rfl wm_L_204 mi_L_countedDay (fun h => by cases h) dL_areShelves_216 rfl rfl ⟨(Nat.le_of_ble_eq_true rfl), (Nat.le_of_ble_eq_true rfl)⟩ ⟨(by show _ ≤ 300; omega), (by show _ ≤ 1800; omega)⟩ (Nat.le_of_ble_eq_true rfl) (fun w => J.and (fun e => ?_))
        subst e
        refine J.aload_n (μ := mL_areShelves) (pc := 219) dL_areShelves_219 rfl ?_
        refine J.iload (μ := mL_areShelves) (pc := 220) dL_areShelves_220 rfl ?_
        refine J.callSW (μ := mL_areShelves) (pc := 222) (l_countedDay hla) rfl wm_L_204 mi_L_countedDay (fun h => by cases h) dL_areShelves_222 rfl rfl ⟨(Nat.le_of_ble_eq_true rfl), (Nat.le_of_ble_eq_true rfl)⟩ ⟨(by show _ ≤ 300; omega), (by show _ ≤ 1800; omega)⟩ (Nat.le_of_ble_eq_true rfl) (fun w => J.and (fun e => ?_))
        subst e
        refine J.isub (μ := mL_areShelves) (pc := 225) dL_areShelves_225 ?_
        refine J.istore (μ := mL_areShelves) (pc := 226) dL_areShelves_226 (Nat.le_of_ble_eq_true rfl) rfl ?_
        refine J.aload_n (μ := mL_areShelves) (pc := 228) dL_areShelves_228 rfl ?_
        refine J.iload (μ := mL_areShelves) (pc := 229) dL_areShelves_229 rfl ?_
        refine J.cV (μ := mL_areShelves) (pc := 231) (s_X11_lotsOn h.vN h20 hla) rfl wm_L_222 mi_X11_lotsOn rfl dL_areShelves_231 (Rp.isa (T := TX11) rfl sh0) rfl rfl ⟨(Nat.le_of_ble_eq_true rfl), (Nat.le_of_ble_eq_true rfl)⟩ ⟨(by show _ ≤ 300; omega), (by show _ ≤ 1800; omega)⟩ (Nat.le_of_ble_eq_true rfl) ?_
        refine J.aload_n (μ := mL_areShelves) (pc := 234) dL_areShelves_234 rfl ?_
        refine J.iload (μ := mL_areShelves) (pc := 235) dL_areShelves_235 rfl ?_
        refine J.cV (μ := mL_areShelves) (pc := 237) (s_X11_lotsOn h.vN h20 hlb) rfl wm_L_222 mi_X11_lotsOn rfl dL_areShelves_237 (Rp.isa (T := TX11) rfl sh0) rfl rfl ⟨(Nat.le_of_ble_eq_true rfl), (Nat.le_of_ble_eq_true rfl)⟩ ⟨(by show _ ≤ 300; omega), (by show _ ≤ 1800; omega)⟩ (Nat.le_of_ble_eq_true rfl) ?_
        refine J.isub (μ := mL_areShelves) (pc := 240) dL_areShelves_240 ?_
        refine J.istore (μ := mL_areShelves) (pc := 241) dL_areShelves_241 (Nat.le_of_ble_eq_true rfl) rfl ?_
        refine J.iload (μ := mL_areShelves) (pc := 243) dL_areShelves_243 rfl ?_
        refine J.if_gt (μ := mL_areShelves) (pc := 245) 270 dL_areShelves_245 (by decide) (fun h3 => ?_) (fun h3 => ?_)
        · exact fin2 _ _ _ _
        · have hd1 := hd.resolve_left (fun q => by first | exact h3 q | exact absurd q (Int32.not_lt.mpr h3))
          refine J.iload (μ := mL_areShelves) (pc := 248) dL_areShelves_248 rfl ?_
          refine J.if_ne (μ := mL_areShelves) (pc := 250) 274 dL_areShelves_250 (by decide) (fun h4 => ?_) (fun h4 => ?_)
          · exact absurd hd1.1 h4
          · refine J.iload (μ := mL_areShelves) (pc := 253) dL_areShelves_253 rfl ?_
            refine J.if_gt (μ := mL_areShelves) (pc := 255) 270 dL_areShelves_255 (by decide) (fun h5 => ?_) (fun h5 => ?_)
            · exact fin2 _ _ _ _
            · have hd2 := hd1.2.resolve_left (fun q => by first | exact h5 q | exact absurd q (Int32.not_lt.mpr h5))
              refine J.iload (μ := mL_areShelves) (pc := 258) dL_areShelves_258 rfl ?_
              refine J.if_ne (μ := mL_areShelves) (pc := 260) 274 dL_areShelves_260 (by decide) (fun h6 => ?_) (fun h6 => ?_)
              · exact absurd hd2.1 h6
              · refine J.iload (μ := mL_areShelves) (pc := 263) dL_areShelves_263 rfl ?_
                refine J.iload (μ := mL_areShelves) (pc := 265) dL_areShelves_265 rfl ?_
                refine J.icmp_ge (μ := mL_areShelves) (pc := 267) 274 dL_areShelves_267 (by decide) (fun h7 => ?_) (fun h7 => ?_)
                · exact absurd hd2.2 (Int32.not_lt.mpr h7)
                · exact fin2 _ _ _ _
