/-! the law itself, from the fresh depot on -/
abbrev mL_law : Mu := (RL, cL_law, 9, ret, [], false)
/-- a change by the law keeps what was saved -/
theorem cmd_53 {T n s N M H : Nat} {v u : Vs} (h : DI T v n s) (hT : T ≤ 1000000000) (hI : Inv 0 T N M H (iv v 1)) {c a b e f r : Int32} (hC : CmdR v N M H n s c a b e f r u) : (∃ n s, DI (T + 99) u n s) ∧ Stq v u 53 53 ∧ u 0 9 = v 0 9 := by
  rcases h.cmd hT hI hC with ⟨-, q, d⟩ | ⟨-, q, d⟩
  · exact ⟨⟨_, _, d.mono (by omega)⟩, q.sq (by decide) (by decide) (by decide), q.2.2⟩
  · exact ⟨⟨_, _, d⟩, q.2.2.1, q.2.2.2.2.2⟩
theorem law_e {γ : Gm} {Q : Fin_} (hfin : ∀ (k n : Nat) (L : List (Option Value)) (P : Heap → Prop), k ≤ 600000 → n ≤ 5000000 → J γ mL_law room_1 Q k n 340 L [.int 1] P) {T T0 N M H n s : Nat} {v u : Vs} (hI : Inv 0 T0 N M H (iv v 1)) (hT0 : T0 ≤ 9000000) (hD : DI T u n s) (hq : Stq v u 1 53) (h9 : u 0 9 = 1) {x2 x7 x8 : Option Value} {k m : Nat} (hk : k ≤ 500000) (hn : m ≤ 4000000) : J γ mL_law room_1 Q k m 296 [some (.ref (go γ 1003)), some (.ref (gz γ + 0)), x2, some (.int (1)), some (.long (dgV v N M)), none, some (.int (nI N)), x7, x8] [] (Rp γ u) := by
  obtain ⟨d1, d2, d3, d4⟩ := hD.rest
  have hIw := hI.sq (hq.tr d2)
  refine J.iload_n (μ := mL_law) (pc := 296) dL_law_296 rfl ?_
  refine J.if_eq (μ := mL_law) (pc := 297) 339 dL_law_297 (by decide) (fun h1 => ?_) (fun h1 => ?_)
  · exact absurd h1 (by decide)
  · refine J.aload_n (μ := mL_law) (pc := 300) dL_law_300 rfl ?_
    refine J.callSW (μ := mL_law) (pc := 301) (l_restore) rfl wm_L_163 mi_L_restore (fun h => by cases h) dL_law_301 rfl rfl ⟨(Nat.le_of_ble_eq_true rfl), (Nat.le_of_ble_eq_true rfl)⟩ ⟨(by show _ ≤ 674918; omega), (by show _ ≤ 7067095; omega)⟩ (Nat.le_of_ble_eq_true rfl) (fun w => J.ex fun r => J.ex fun u1 => J.and fun hc => ?_)
    obtain ⟨e, ⟨-, e1, e2⟩ | ⟨z, -, -⟩⟩ := hc
    · have er : u (53 + 8) 7 = nI N := by rw [show u (53 + 8) = v (1 + 8) from hq 8 (by decide)]; exact hI.vN
      rw [er] at e1
      subst e e1 e2
      refine J.iload (μ := mL_law) (pc := 304) dL_law_304 rfl ?_
      refine J.icmp_ne (μ := mL_law) (pc := 306) 339 dL_law_306 (by decide) (fun h2 => ?_) (fun h2 => ?_)
      · exact absurd rfl h2
      · refine J.aload_n (μ := mL_law) (pc := 309) dL_law_309 rfl ?_
        refine J.callS (μ := mL_law) (pc := 310) (l_digest hIw (by omega)) rfl wm_L_278 mi_L_digest rfl dL_law_310 rfl rfl ⟨(Nat.le_of_ble_eq_true rfl), (Nat.le_of_ble_eq_true rfl)⟩ ⟨(by show _ ≤ 674918; omega), (by show _ ≤ 7067095; omega)⟩ (Nat.le_of_ble_eq_true rfl) (fun w => J.and fun e => ?_)
        subst e
        rw [dg_sq (hq.tr d2)]
        refine J.lload (μ := mL_law) (pc := 313) dL_law_313 rfl ?_
        refine J.lcmp (μ := mL_law) (pc := 315) dL_law_315 ?_
        rw [lg_self]
        refine J.if_ne (μ := mL_law) (pc := 316) 339 dL_law_316 (by decide) (fun h3 => ?_) (fun h3 => ?_)
        · exact absurd rfl h3
        · refine J.aload_n (μ := mL_law) (pc := 319) dL_law_319 rfl ?_
          refine J.callSW (μ := mL_law) (pc := 320) (l_undo (d1.okI hIw)) rfl wm_L_166 mi_L_undo (fun h => by cases h) dL_law_320 rfl rfl ⟨(Nat.le_of_ble_eq_true rfl), (Nat.le_of_ble_eq_true rfl)⟩ ⟨(by show _ ≤ 674918; omega), (by show _ ≤ 7067095; omega)⟩ (Nat.le_of_ble_eq_true rfl) (fun w => J.ex fun r2 => J.ex fun u2 => J.and fun hc => ?_)
          obtain ⟨e, ⟨z, -, -⟩ | ⟨-, e1, e2⟩⟩ := hc
          · exact absurd rfl z
          · subst e e1 e2
            refine J.ldc (μ := mL_law) (pc := 323) rfl wo_L_10 dL_law_323 ?_
            refine J.icmp_ne (μ := mL_law) (pc := 325) 339 dL_law_325 (by decide) (fun h4 => ?_) (fun h4 => ?_)
            · exact absurd rfl h4
            · refine J.aload_n (μ := mL_law) (pc := 328) dL_law_328 rfl ?_
              refine J.cV (μ := mL_law) (pc := 329) (s_X11_undoCount) rfl wm_L_319 mi_X11_undoCount rfl dL_law_329 (Rp.isa (T := TX11) rfl sh0) rfl rfl ⟨(Nat.le_of_ble_eq_true rfl), (Nat.le_of_ble_eq_true rfl)⟩ ⟨(by show _ ≤ 674918; omega), (by show _ ≤ 7067095; omega)⟩ (Nat.le_of_ble_eq_true rfl) ?_
              rw [d1.2.2.1.2]
              refine J.if_ne (μ := mL_law) (pc := 332) 339 dL_law_332 (by decide) (fun h5 => ?_) (fun h5 => ?_)
              · exact absurd rfl h5
              · refine J.iconst (μ := mL_law) (pc := 335) (v := 1) dL_law_335 (by decide) ?_
                refine J.goto (μ := mL_law) (pc := 336) 340 dL_law_336 (by decide) ?_
                exact hfin _ _ _ _ (by omega) (by omega)
    · rw [h9] at z
      exact absurd z (by decide)

theorem law_d {γ : Gm} {Q : Fin_} (hfin : ∀ (k n : Nat) (L : List (Option Value)) (P : Heap → Prop), k ≤ 600000 → n ≤ 5000000 → J γ mL_law room_1 Q k n 340 L [.int 1] P) {T T0 N M H n s : Nat} {v u : Vs} (hI : Inv 0 T0 N M H (iv v 1)) (hT0 : T0 ≤ 9000000) (hD : DI T u n s) (hT : T ≤ 8000000) (hq : Stq v u 1 53) (h9 : u 0 9 = 1) {X2 : Int32} {x7 x8 : Option Value} {k m : Nat} (hk : k ≤ 400000) (hn : m ≤ 3000000) : J γ mL_law room_1 Q k m 255 [some (.ref (go γ 1003)), some (.ref (gz γ + 0)), some (.int (X2)), some (.int (1)), some (.long (dgV v N M)), none, some (.int (nI N)), x7, x8] [] (Rp γ u) := by
  obtain ⟨N1, M1, H1, hI1, hok1⟩ := hD.ok
  refine J.aload_n (μ := mL_law) (pc := 255) dL_law_255 rfl ?_
  refine J.iconst (μ := mL_law) (pc := 256) (v := 2) dL_law_256 (by decide) ?_
  refine J.bipush (μ := mL_law) (pc := 257) (v := 30) dL_law_257 (by decide) ?_
  refine J.callSW (μ := mL_law) (pc := 259) (l_addShelf hok1 2 30) rfl wm_L_126 mi_L_addShelf (fun h => by cases h) dL_law_259 rfl rfl ⟨(Nat.le_of_ble_eq_true rfl), (Nat.le_of_ble_eq_true rfl)⟩ ⟨(by show _ ≤ 674918; omega), (by show _ ≤ 7067095; omega)⟩ (Nat.le_of_ble_eq_true rfl) (fun w => J.ex fun r => J.ex fun u1 => J.and fun hc => ?_)
  obtain ⟨e, hc⟩ := hc
  obtain ⟨⟨n1, s1, hD1⟩, q1, z1⟩ := cmd_53 hD (by omega) hI1 hc
  obtain ⟨N2, M2, H2, hI2, hok2⟩ := hD1.ok
  subst e
  refine J.pop (μ := mL_law) (pc := 262) dL_law_262 rfl ?_
  refine J.aload_n (μ := mL_law) (pc := 263) dL_law_263 rfl ?_
  refine J.iconst (μ := mL_law) (pc := 264) (v := 3) dL_law_264 (by decide) ?_
  refine J.bipush (μ := mL_law) (pc := 265) (v := 9) dL_law_265 (by decide) ?_
  refine J.iconst (μ := mL_law) (pc := 267) (v := 2) dL_law_267 (by decide) ?_
  refine J.iconst (μ := mL_law) (pc := 268) (v := 5) dL_law_268 (by decide) ?_
  refine J.callSW (μ := mL_law) (pc := 269) (l_receive hok2 3 9 2 5) rfl wm_L_132 mi_L_receive (fun h => by cases h) dL_law_269 rfl rfl ⟨(Nat.le_of_ble_eq_true rfl), (Nat.le_of_ble_eq_true rfl)⟩ ⟨(by show _ ≤ 674918; omega), (by show _ ≤ 7067095; omega)⟩ (Nat.le_of_ble_eq_true rfl) (fun w => J.ex fun r2 => J.ex fun u2 => J.and fun hc => ?_)
  obtain ⟨e, hc⟩ := hc
  obtain ⟨⟨n2, s2, hD2⟩, q2, z2⟩ := cmd_53 hD1 (by omega) hI2 hc
  obtain ⟨N3, M3, H3, hI3, hok3⟩ := hD2.ok
  subst e
  refine J.pop (μ := mL_law) (pc := 272) dL_law_272 rfl ?_
  refine J.aload_n (μ := mL_law) (pc := 273) dL_law_273 rfl ?_
  refine J.iconst (μ := mL_law) (pc := 274) (v := 2) dL_law_274 (by decide) ?_
  refine J.callSW (μ := mL_law) (pc := 275) (l_pass hok3 2) rfl wm_L_148 mi_L_pass (fun h => by cases h) dL_law_275 rfl rfl ⟨(Nat.le_of_ble_eq_true rfl), (Nat.le_of_ble_eq_true rfl)⟩ ⟨(by show _ ≤ 674918; omega), (by show _ ≤ 7067095; omega)⟩ (Nat.le_of_ble_eq_true rfl) (fun w => J.ex fun r3 => J.ex fun u3 => J.and fun hc => ?_)
  obtain ⟨e, hc⟩ := hc
  obtain ⟨⟨n3, s3, hD3⟩, q3, z3⟩ := cmd_53 hD2 (by omega) hI3 hc
  obtain ⟨N4, M4, H4, hI4, hok4⟩ := hD3.ok
  subst e
  refine J.pop (μ := mL_law) (pc := 278) dL_law_278 rfl ?_
  refine J.iload_n (μ := mL_law) (pc := 279) dL_law_279 rfl ?_
  refine J.if_eq (μ := mL_law) (pc := 280) 294 dL_law_280 (by decide) (fun h1 => ?_) (fun h1 => ?_)
  · exact absurd h1 (by decide)
  · refine J.aload_n (μ := mL_law) (pc := 283) dL_law_283 rfl ?_
    refine J.callS (μ := mL_law) (pc := 284) (l_isFit hI4 (by omega) hD3) rfl wm_L_314 mi_L_isFit rfl dL_law_284 rfl rfl ⟨(Nat.le_of_ble_eq_true rfl), (Nat.le_of_ble_eq_true rfl)⟩ ⟨(by show _ ≤ 674918; omega), (by show _ ≤ 7067095; omega)⟩ (Nat.le_of_ble_eq_true rfl) (fun w => J.and fun e => J.ex fun u4 => J.and fun hB => ?_)
    subst e
    obtain ⟨⟨n4, s4, hD4⟩, -, q4, z4⟩ := hB
    refine J.if_eq (μ := mL_law) (pc := 287) 294 dL_law_287 (by decide) (fun h2 => ?_) (fun h2 => ?_)
    · exact absurd h2 (by decide)
    · refine J.iconst (μ := mL_law) (pc := 290) (v := 1) dL_law_290 (by decide) ?_
      refine J.goto (μ := mL_law) (pc := 291) 295 dL_law_291 (by decide) ?_
      refine J.istore_n (μ := mL_law) (pc := 295) dL_law_295 (Nat.le_of_ble_eq_true rfl) rfl ?_
      exact law_e hfin hI hT0 hD4 ((((hq.tr q1).tr q2).tr q3).tr q4) (by rw [z4, z3, z2, z1]; exact h9) (by omega) (by omega)

theorem law_c {γ : Gm} {Q : Fin_} (hfin : ∀ (k n : Nat) (L : List (Option Value)) (P : Heap → Prop), k ≤ 600000 → n ≤ 5000000 → J γ mL_law room_1 Q k n 340 L [.int 1] P) {T N M H n s : Nat} {v : Vs} (hI : Inv 0 T N M H (iv v 1)) (hT : T ≤ 1000000) (hD : DI T v n s) (hq : Stq v v 1 53) (h9 : v 0 9 = 1) {X2 : Int32} {x7 x8 : Option Value} {k m : Nat} (hk : k ≤ 300000) (hn : m ≤ 2000000) : J γ mL_law room_1 Q k m 169 [some (.ref (go γ 1003)), some (.ref (gz γ + 0)), some (.int (X2)), some (.int (1)), some (.long (dgV v N M)), none, some (.int (nI N)), x7, x8] [] (Rp γ v) := by
  have h20 := hI.1.1.2
  refine J.iconst (μ := mL_law) (pc := 169) (v := 0) dL_law_169 (by decide) ?_
  refine J.istore (μ := mL_law) (pc := 170) dL_law_170 (Nat.le_of_ble_eq_true rfl) rfl ?_
  refine J.sub ?_ (J.of (P' := (fun K => ∃ w, Bk (T + 6000 * 0) v w ∧ Rp γ w K)) (fun K kk => ⟨v, (hD.bk Sam.rf).mono (by omega), kk⟩) (J.forK (μ := mL_law) (hd := 172) (kf := fun i => k + 60 * i) (nf := fun i => m + 900 * i) (Lf := fun i => [some (.ref (go γ 1003)), some (.ref (gz γ + 0)), some (.int (X2)), some (.int (1)), some (.long (dgV v N M)), none, some (.int (nI N)), some (.int (nI i)), none]) (Pf := fun i => (fun K => ∃ w, Bk (T + 6000 * i) v w ∧ Rp γ w K)) 30 ?_ (fun i hi ih => ?_)))
  · exact ⟨rfl, rfl, rfl, rfl, rfl, rfl, rfl, trivial⟩
  · refine J.ex fun w => J.and fun hB => ?_
    obtain ⟨⟨n2, s2, hD2⟩, hB1, hB2, hB3⟩ := hB
    have fin : ∀ x7 x8 : Option Value, J γ mL_law room_1 Q (k + 60 * 30) (m + 900 * 30) 255 [some (.ref (go γ 1003)), some (.ref (gz γ + 0)), some (.int (X2)), some (.int (1)), some (.long (dgV v N M)), none, some (.int (nI N)), x7, x8] [] (Rp γ w) := fun x7 x8 =>
      law_d hfin hI (by omega) hD2 (by omega) (hq.tr hB2) (hB3.trans h9) (by omega) (by omega)
    refine J.iload_n (μ := mL_law) (pc := 172) dL_law_172 rfl ?_
    refine J.if_eq (μ := mL_law) (pc := 173) 255 dL_law_173 (by decide) (fun h1 => ?_) (fun h1 => ?_)
    · exact fin _ _
    · refine J.iload (μ := mL_law) (pc := 176) dL_law_176 rfl ?_
      refine J.getZ (μ := mL_law) (pc := 178) (fun s hK => hK.ko.2.2.1) rfl wf_L_150 dL_law_178 ?_
      refine J.tlen (μ := mL_law) (pc := 181) (fun s hK => hK.ko.2.2.2.1) rfl dL_law_181 ?_
      refine J.icmp_ge (μ := mL_law) (pc := 182) 255 dL_law_182 (by decide) (fun h2 => ?_) (fun h2 => ?_)
      · exact fin _ _
      · exact (Int32.lt_irrefl h2).elim
  · refine J.ex fun w => J.and fun hB => ?_
    have hB0 := hB
    have hIw := hI.sq hB.2.1
    obtain ⟨⟨n2, s2, hD2⟩, hB1, hB2, hB3⟩ := hB
    obtain ⟨bs, b1, b2, b3, b4⟩ := txt_ok hi
    have out : ∀ (w2 : Vs), Bk (T + 6000 * i + 6000) v w2 → ∀ (x8 : Option Value) (k' m' : Nat), k' ≤ k + 60 * i + 5 → m' ≤ m + 900 * i + 40 → J γ mL_law room_1 Q k' m' 233 [some (.ref (go γ 1003)), some (.ref (gz γ + 0)), some (.int (X2)), some (.int (1)), some (.long (dgV v N M)), none, some (.int (nI N)), some (.int (nI i)), x8] [] (Rp γ w2) := by
      intro w2 hB4 x8 k' m' hk' hm'
      have hIw2 := hI.sq hB4.2.1
      refine J.aload_n (μ := mL_law) (pc := 233) dL_law_233 rfl ?_
      refine J.callS (μ := mL_law) (pc := 234) (l_digest hIw2 (by omega)) rfl wm_L_278 mi_L_digest rfl dL_law_234 rfl rfl ⟨(Nat.le_of_ble_eq_true rfl), (Nat.le_of_ble_eq_true rfl)⟩ ⟨(by show _ ≤ 674918; omega), (by show _ ≤ 7067095; omega)⟩ (Nat.le_of_ble_eq_true rfl) (fun w => J.and fun e => ?_)
      subst e
      rw [dg_sq hB4.2.1]
      refine J.lload (μ := mL_law) (pc := 237) dL_law_237 rfl ?_
      refine J.lcmp (μ := mL_law) (pc := 239) dL_law_239 ?_
      rw [lg_self]
      refine J.if_ne (μ := mL_law) (pc := 240) 247 dL_law_240 (by decide) (fun h3 => ?_) (fun h3 => ?_)
      · exact absurd rfl h3
      · refine J.iconst (μ := mL_law) (pc := 243) (v := 1) dL_law_243 (by decide) ?_
        refine J.goto (μ := mL_law) (pc := 244) 248 dL_law_244 (by decide) ?_
        refine J.istore_n (μ := mL_law) (pc := 248) dL_law_248 (Nat.le_of_ble_eq_true rfl) rfl ?_
        refine J.iinc (μ := mL_law) (pc := 249) (v := 1) dL_law_249 rfl (by decide) (Nat.le_of_ble_eq_true rfl) rfl ?_
        refine J.goto (μ := mL_law) (pc := 252) 172 dL_law_252 (by decide) ?_
        refine J.widen (k' := k + 60 * (i + 1)) (n' := m + 900 * (i + 1)) (by omega) (by omega) (J.sub ?_ (J.of (fun K kk => ⟨w2, hB4.mono (by omega), kk⟩) ih))
        exact ⟨rfl, rfl, rfl, rfl, rfl, rfl, by rw [nI_1], trivial⟩
    refine J.iload_n (μ := mL_law) (pc := 172) dL_law_172 rfl ?_
    refine J.if_eq (μ := mL_law) (pc := 173) 255 dL_law_173 (by decide) (fun h1 => ?_) (fun h1 => ?_)
    · exact absurd h1 (by decide)
    · refine J.iload (μ := mL_law) (pc := 176) dL_law_176 rfl ?_
      refine J.getZ (μ := mL_law) (pc := 178) (fun s hK => hK.ko.2.2.1) rfl wf_L_150 dL_law_178 ?_
      refine J.tlen (μ := mL_law) (pc := 181) (fun s hK => hK.ko.2.2.2.1) rfl dL_law_181 ?_
      refine J.icmp_ge (μ := mL_law) (pc := 182) 255 dL_law_182 (by decide) (fun h2 => ?_) (fun h2 => ?_)
      · exact absurd h2 (nI_ge (b := 30) hi (by omega))
      · refine J.aload_n (μ := mL_law) (pc := 185) dL_law_185 rfl ?_
        refine J.getZ (μ := mL_law) (pc := 186) (fun s hK => hK.ko.2.2.1) rfl wf_L_150 dL_law_186 ?_
        refine J.iload (μ := mL_law) (pc := 189) dL_law_189 rfl ?_
        refine J.tq (μ := mL_law) (pc := 191) (fun s hK => hK.ko.2.2.2.1) (vp_in_of2 (by omega) (by rw [t_le, t_nI (by omega), t_0]; omega) (nI_lt hi (by omega))) (v := .ref (go γ (2 * (27 + i)))) (by rw [tc_nI (by omega)]) dL_law_191 ?_
        refine J.callS (μ := mL_law) (pc := 192) (l_typed b1 b3 b2 hD2.2.2.2) rfl wm_L_154 mi_L_typed rfl dL_law_192 rfl rfl ⟨(Nat.le_of_ble_eq_true rfl), (Nat.le_of_ble_eq_true rfl)⟩ ⟨(by show _ ≤ 674918; omega), (by show _ ≤ 7067095; omega)⟩ (Nat.le_of_ble_eq_true rfl) (fun w => J.and fun e => J.ex fun u1 => J.and fun hu => ?_)
        subst e
        have q1 : Stq w u1 1 1 := fun c hc => hu.1 _ (by omega) (by omega)
        refine J.callSW (μ := mL_law) (pc := 195) (l_execute hu.2 (by omega) (hD2.1.1.sq q1) (by rw [hu.1 79 (by decide) (by decide)]; exact hD2.2.1.2) hD2.2.1.1 (by rw [hu.1 79 (by decide) (by decide)]; exact hD2.2.2.1.2) hD2.2.2.1.1) rfl wm_L_158 mi_L_execute (fun h => by cases h) dL_law_195 rfl rfl ⟨(Nat.le_of_ble_eq_true rfl), (Nat.le_of_ble_eq_true rfl)⟩ ⟨(by show _ ≤ 674918; omega), (by show _ ≤ 7067095; omega)⟩ (Nat.le_of_ble_eq_true rfl) (fun w => J.ex fun r => J.ex fun u0 => J.ex fun u2 => J.and fun hc2 => ?_)
        obtain ⟨e, hd, ho⟩ := hc2
        subst e
        rcases te_of hD2 hu.1 hd ho with ⟨er, qs, d2, hdn⟩ | ⟨er, qk, d2⟩
        · obtain ⟨e10, e12⟩ := hdn b4
          have hB4 : Bk (T + 6000 * i + 6000) v u2 := (hB0.tr (hD2.bk qs)).mono (by omega)
          subst er
          refine J.istore (μ := mL_law) (pc := 198) dL_law_198 (Nat.le_of_ble_eq_true rfl) rfl ?_
          refine J.iload (μ := mL_law) (pc := 200) dL_law_200 rfl ?_
          refine J.ldc (μ := mL_law) (pc := 202) rfl wo_L_10 dL_law_202 ?_
          refine J.icmp_ne (μ := mL_law) (pc := 204) 226 dL_law_204 (by decide) (fun h3 => ?_) (fun h3 => ?_)
          · exact absurd rfl h3
          · refine J.aload_n (μ := mL_law) (pc := 207) dL_law_207 rfl ?_
            refine J.callSW (μ := mL_law) (pc := 208) (l_denial) rfl wm_L_294 mi_L_denial (fun h => by cases h) dL_law_208 rfl rfl ⟨(Nat.le_of_ble_eq_true rfl), (Nat.le_of_ble_eq_true rfl)⟩ ⟨(by show _ ≤ 674918; omega), (by show _ ≤ 7067095; omega)⟩ (Nat.le_of_ble_eq_true rfl) (fun w => J.and fun e => ?_)
            subst e
            rw [e10, nz_p (by decide)]
            refine J.bipush (μ := mL_law) (pc := 211) (v := 8) dL_law_211 (by decide) ?_
            refine J.icmp_ne (μ := mL_law) (pc := 213) 247 dL_law_213 (by decide) (fun h4 => ?_) (fun h4 => ?_)
            · exact absurd rfl h4
            · refine J.aload_n (μ := mL_law) (pc := 216) dL_law_216 rfl ?_
              refine J.callSW (μ := mL_law) (pc := 217) (l_denialCause) rfl wm_L_317 mi_L_denialCause (fun h => by cases h) dL_law_217 rfl rfl ⟨(Nat.le_of_ble_eq_true rfl), (Nat.le_of_ble_eq_true rfl)⟩ ⟨(by show _ ≤ 674918; omega), (by show _ ≤ 7067095; omega)⟩ (Nat.le_of_ble_eq_true rfl) (fun w => J.and fun e => ?_)
              subst e
              rw [nz_p (by rw [t_lt] at e12 ⊢; omega)]
              refine J.if_le (μ := mL_law) (pc := 220) 247 dL_law_220 (by decide) (fun h5 => ?_) (fun h5 => ?_)
              · exact absurd e12 (Int32.not_lt.mpr h5)
              · refine J.goto (μ := mL_law) (pc := 223) 233 dL_law_223 (by decide) ?_
                exact out _ hB4 _ _ _ (by omega) (by omega)
        · have hU := U1.of hD2.2.1.1 qk d2
          obtain ⟨N5, M5, H5, hI5, hok5⟩ := hU.2.1.ok
          have hs8 := hU.2.1.2.2.1.1
          have hs2 := hU.1
          refine J.istore (μ := mL_law) (pc := 198) dL_law_198 (Nat.le_of_ble_eq_true rfl) rfl ?_
          refine J.iload (μ := mL_law) (pc := 200) dL_law_200 rfl ?_
          refine J.ldc (μ := mL_law) (pc := 202) rfl wo_L_10 dL_law_202 ?_
          refine J.icmp_ne (μ := mL_law) (pc := 204) 226 dL_law_204 (by decide) (fun h3 => ?_) (fun h3 => ?_)
          · refine J.aload_n (μ := mL_law) (pc := 226) dL_law_226 rfl ?_
            refine J.callSW (μ := mL_law) (pc := 227) (l_undo hok5) rfl wm_L_166 mi_L_undo (fun h => by cases h) dL_law_227 rfl rfl ⟨(Nat.le_of_ble_eq_true rfl), (Nat.le_of_ble_eq_true rfl)⟩ ⟨(by show _ ≤ 674918; omega), (by show _ ≤ 7067095; omega)⟩ (Nat.le_of_ble_eq_true rfl) (fun w => J.ex fun r6 => J.ex fun u6 => J.and fun hc => ?_)
            obtain ⟨e, ⟨-, er6, eu6⟩ | ⟨e0, -, -⟩⟩ := hc
            · subst e er6 eu6
              refine J.if_lt (μ := mL_law) (pc := 230) 247 dL_law_230 (by decide) (fun h4 => ?_) (fun h4 => ?_)
              · exact absurd h4 (nI_pos (by omega))
              · exact out _ ((hB0.tr hU.undo).mono (by omega)) _ _ _ (by omega) (by omega)
            · exact absurd e0 (by omega)
          · exact absurd (by first | exact h3 | exact Classical.not_not.mp h3) er

theorem law_b {γ : Gm} {Q : Fin_} (hfin : ∀ (k n : Nat) (L : List (Option Value)) (P : Heap → Prop), k ≤ 600000 → n ≤ 5000000 → J γ mL_law room_1 Q k n 340 L [.int 1] P) {T n s : Nat} {v : Vs} (hT : T ≤ 500000) (hD : DI T v n s) {X2 : Int32} {x3 x4 x6 x7 x8 : Option Value} {k m : Nat} (hk : k ≤ 200000) (hn : m ≤ 1000000) : J γ mL_law room_1 Q k m 147 [some (.ref (go γ 1003)), some (.ref (gz γ + 0)), some (.int (X2)), x3, x4, none, x6, x7, x8] [] (Rp γ v) := by
  obtain ⟨N, M, H, hI, hok⟩ := hD.ok
  refine J.aload_n (μ := mL_law) (pc := 147) dL_law_147 rfl ?_
  refine J.callS (μ := mL_law) (pc := 148) (l_isFit hI (by omega) hD) rfl wm_L_314 mi_L_isFit rfl dL_law_148 rfl rfl ⟨(Nat.le_of_ble_eq_true rfl), (Nat.le_of_ble_eq_true rfl)⟩ ⟨(by show _ ≤ 674918; omega), (by show _ ≤ 7067095; omega)⟩ (Nat.le_of_ble_eq_true rfl) (fun w => J.and fun e => J.ex fun u1 => J.and fun hB => ?_)
  subst e
  obtain ⟨⟨n1, s1, hD1⟩, hB1, -, -⟩ := hB
  refine J.istore_n (μ := mL_law) (pc := 151) dL_law_151 (Nat.le_of_ble_eq_true rfl) rfl ?_
  refine J.aload_n (μ := mL_law) (pc := 152) dL_law_152 rfl ?_
  refine J.callSW (μ := mL_law) (pc := 153) (l_execute hD1.2.2.2 (by omega) hD1.1.1 hD1.2.1.2 hD1.2.1.1 hD1.2.2.1.2 hD1.2.2.1.1) rfl wm_L_158 mi_L_execute (fun h => by cases h) dL_law_153 rfl rfl ⟨(Nat.le_of_ble_eq_true rfl), (Nat.le_of_ble_eq_true rfl)⟩ ⟨(by show _ ≤ 674918; omega), (by show _ ≤ 7067095; omega)⟩ (Nat.le_of_ble_eq_true rfl) (fun w => J.ex fun r => J.ex fun u0 => J.ex fun u2 => J.and fun hc2 => ?_)
  obtain ⟨e, hd, ho⟩ := hc2
  subst e
  have hD2 : ∃ n s, DI (T + 10000 + 5940) u2 n s := by
    rcases te_of hD1 Ty.rf hd ho with ⟨-, -, d2, -⟩ | ⟨-, -, d2⟩
    · exact ⟨_, _, d2.mono (by omega)⟩
    · exact ⟨_, _, d2⟩
  obtain ⟨n2, s2, hD2⟩ := hD2
  obtain ⟨N2, M2, H2, hI2, hok2⟩ := hD2.ok
  obtain ⟨f1, f2, f3, -, f5⟩ := hD2.save
  refine J.pop (μ := mL_law) (pc := 156) dL_law_156 rfl ?_
  refine J.aload_n (μ := mL_law) (pc := 157) dL_law_157 rfl ?_
  refine J.callS (μ := mL_law) (pc := 158) (l_digest hI2 (by omega)) rfl wm_L_278 mi_L_digest rfl dL_law_158 rfl rfl ⟨(Nat.le_of_ble_eq_true rfl), (Nat.le_of_ble_eq_true rfl)⟩ ⟨(by show _ ≤ 674918; omega), (by show _ ≤ 7067095; omega)⟩ (Nat.le_of_ble_eq_true rfl) (fun w => J.and fun e => ?_)
  subst e
  refine J.lstore (μ := mL_law) (pc := 161) dL_law_161 (Nat.le_of_ble_eq_true rfl) rfl ?_
  refine J.aload_n (μ := mL_law) (pc := 163) dL_law_163 rfl ?_
  refine J.cV (μ := mL_law) (pc := 164) (s_X11_saveSnapshot) rfl wm_L_160 mi_X11_saveSnapshot rfl dL_law_164 (Rp.isa (T := TX11) rfl sh0) rfl rfl ⟨(Nat.le_of_ble_eq_true rfl), (Nat.le_of_ble_eq_true rfl)⟩ ⟨(by show _ ≤ 674918; omega), (by show _ ≤ 7067095; omega)⟩ (Nat.le_of_ble_eq_true rfl) ?_
  rw [hI2.vN]
  refine J.istore (μ := mL_law) (pc := 167) dL_law_167 (Nat.le_of_ble_eq_true rfl) rfl ?_
  rw [← dg_sq f3]
  exact law_c hfin (hI2.sq f3) (by omega) f1 (f3.sy.tr f2) f5 (by omega) (by omega)

theorem law_a {γ : Gm} {Q : Fin_} (hfin : ∀ (k n : Nat) (L : List (Option Value)) (P : Heap → Prop), k ≤ 600000 → n ≤ 5000000 → J γ mL_law room_1 Q k n 340 L [.int 1] P) (hL : go γ 1004 ≤ 260) {T n s : Nat} {v : Vs} (hT : T ≤ 100000) (hD : DI T v n s) {a : Nat} (ha : a ≤ 30) {x3 x4 x6 x7 x8 : Option Value} {k m : Nat} (hk : k ≤ 100000) (hn : m ≤ 500000) : J γ mL_law room_1 Q k m 102 [some (.ref (go γ 1003)), some (.ref (gz γ + 0)), some (.int (nI a)), x3, x4, none, x6, x7, x8] [] (Rp γ v) := by
  refine J.iconst (μ := mL_law) (pc := 102) (v := 0) dL_law_102 (by decide) ?_
  refine J.istore_n (μ := mL_law) (pc := 103) dL_law_103 (Nat.le_of_ble_eq_true rfl) rfl ?_
  refine J.sub ?_ (J.of (P' := (fun K => ∃ w n s, DI (T + 6000 * 0) w n s ∧ Rp γ w K)) (fun K kk => ⟨v, n, s, hD.mono (by omega), kk⟩) (J.forK (μ := mL_law) (hd := 104) (kf := fun i => k + 100 * i) (nf := fun i => m + 1800 * i) (Lf := fun i => [some (.ref (go γ 1003)), some (.ref (gz γ + 0)), some (.int (nI a)), some (.int (nI i)), none, none, none, none, none]) (Pf := fun i => (fun K => ∃ w n s, DI (T + 6000 * i) w n s ∧ Rp γ w K)) a ?_ (fun i hi ih => ?_)))
  · exact ⟨rfl, rfl, rfl, rfl, trivial⟩
  · refine J.ex fun w => J.ex fun n2 => J.ex fun s2 => J.and fun hD2 => ?_
    refine J.iload_n (μ := mL_law) (pc := 104) dL_law_104 rfl ?_
    refine J.iload_n (μ := mL_law) (pc := 105) dL_law_105 rfl ?_
    refine J.icmp_ge (μ := mL_law) (pc := 106) 147 dL_law_106 (by decide) (fun h1 => ?_) (fun h1 => ?_)
    · exact law_b hfin (by omega) hD2 (by omega) (by omega)
    · exact (Int32.lt_irrefl h1).elim
  · refine J.ex fun w => J.ex fun n2 => J.ex fun s2 => J.and fun hD2 => ?_
    obtain ⟨N, M, H, hI, hok⟩ := hD2.ok
    have out : ∀ (w2 : Vs) (n3 s3 : Nat), DI (T + 6000 * i + 6000) w2 n3 s3 → ∀ (x4 x6 x7 x8 : Option Value) (k' m' : Nat), k' ≤ k + 100 * (i + 1) → m' ≤ m + 1800 * (i + 1) → J γ mL_law room_1 Q k' m' 141 [some (.ref (go γ 1003)), some (.ref (gz γ + 0)), some (.int (nI a)), some (.int (nI i)), x4, none, x6, x7, x8] [] (Rp γ w2) := by
      intro w2 n3 s3 hD3 x4 x6 x7 x8 k' m' hk' hm'
      refine J.iinc (μ := mL_law) (pc := 141) (v := 1) dL_law_141 rfl (by decide) (Nat.le_of_ble_eq_true rfl) rfl ?_
      refine J.goto (μ := mL_law) (pc := 144) 104 dL_law_144 (by decide) ?_
      refine J.widen (k' := k + 100 * (i + 1)) (n' := m + 1800 * (i + 1)) (by omega) (by omega) (J.sub ?_ (J.of (fun K kk => ⟨w2, n3, s3, hD3.mono (by omega), kk⟩) ih))
      exact ⟨rfl, rfl, rfl, by rw [nI_1], trivial⟩
    refine J.iload_n (μ := mL_law) (pc := 104) dL_law_104 rfl ?_
    refine J.iload_n (μ := mL_law) (pc := 105) dL_law_105 rfl ?_
    refine J.icmp_ge (μ := mL_law) (pc := 106) 147 dL_law_106 (by decide) (fun h1 => ?_) (fun h1 => ?_)
    · exact absurd h1 (nI_ge hi (by omega))
    · refine J.aload_n (μ := mL_law) (pc := 109) dL_law_109 rfl ?_
      refine J.callS (μ := mL_law) (pc := 110) (l_digest hI (by omega)) rfl wm_L_278 mi_L_digest rfl dL_law_110 rfl rfl ⟨(Nat.le_of_ble_eq_true rfl), (Nat.le_of_ble_eq_true rfl)⟩ ⟨(by show _ ≤ 674918; omega), (by show _ ≤ 7067095; omega)⟩ (Nat.le_of_ble_eq_true rfl) (fun w => J.and fun e => ?_)
      subst e
      refine J.lstore (μ := mL_law) (pc := 113) dL_law_113 (Nat.le_of_ble_eq_true rfl) rfl ?_
      refine J.aload_n (μ := mL_law) (pc := 115) dL_law_115 rfl ?_
      refine J.aload_n (μ := mL_law) (pc := 116) dL_law_116 rfl ?_
      refine J.iload_n (μ := mL_law) (pc := 117) dL_law_117 rfl ?_
      refine J.callS (μ := mL_law) (pc := 118) (l_cell hL (q := i) (by omega)) rfl wm_L_307 mi_L_cell rfl dL_law_118 rfl rfl ⟨(Nat.le_of_ble_eq_true rfl), (Nat.le_of_ble_eq_true rfl)⟩ ⟨(by show _ ≤ 674918; omega), (by show _ ≤ 7067095; omega)⟩ (Nat.le_of_ble_eq_true rfl) (fun w => J.and fun e => ?_)
      obtain ⟨x, e⟩ := e
      subst e
      refine J.callS (μ := mL_law) (pc := 121) (l_act hI hD2 (by omega) x) rfl wm_L_311 mi_L_act rfl dL_law_121 rfl rfl ⟨(Nat.le_of_ble_eq_true rfl), (Nat.le_of_ble_eq_true rfl)⟩ ⟨(by show _ ≤ 674918; omega), (by show _ ≤ 7067095; omega)⟩ (Nat.le_of_ble_eq_true rfl) (fun w => J.ex fun r => J.ex fun w2 => J.and fun hc => ?_)
      obtain ⟨e, ⟨n3, s3, hD3⟩, hq⟩ := hc
      subst e
      refine J.ldc (μ := mL_law) (pc := 124) rfl wo_L_10 dL_law_124 ?_
      refine J.icmp_ne (μ := mL_law) (pc := 126) 141 dL_law_126 (by decide) (fun h2 => ?_) (fun h2 => ?_)
      · exact out w2 n3 s3 hD3 _ _ _ _ _ _ (by omega) (by omega)
      · have h2 : r = -100000000 := by first | exact h2 | exact Classical.not_not.mp h2
        have q := hq h2
        refine J.aload_n (μ := mL_law) (pc := 129) dL_law_129 rfl ?_
        refine J.callS (μ := mL_law) (pc := 130) (l_digest (hI.sq q) (by omega)) rfl wm_L_278 mi_L_digest rfl dL_law_130 rfl rfl ⟨(Nat.le_of_ble_eq_true rfl), (Nat.le_of_ble_eq_true rfl)⟩ ⟨(by show _ ≤ 674918; omega), (by show _ ≤ 7067095; omega)⟩ (Nat.le_of_ble_eq_true rfl) (fun w => J.and fun e => ?_)
        subst e
        rw [dg_sq q]
        refine J.lload (μ := mL_law) (pc := 133) dL_law_133 rfl ?_
        refine J.lcmp (μ := mL_law) (pc := 135) dL_law_135 ?_
        rw [lg_self]
        refine J.if_eq (μ := mL_law) (pc := 136) 141 dL_law_136 (by decide) (fun h3 => ?_) (fun h3 => ?_)
        · exact out w2 n3 s3 hD3 _ _ _ _ _ _ (by omega) (by omega)
        · exact absurd rfl h3

theorem law_0 {γ : Gm} {Q : Fin_} (hfin : ∀ (k n : Nat) (L : List (Option Value)) (P : Heap → Prop), k ≤ 600000 → n ≤ 5000000 → J γ mL_law room_1 Q k n 340 L [.int 1] P) (hL : go γ 1004 ≤ 260) {n s : Nat} {v : Vs} (hD : DI 0 v n s) {x2 x3 x4 x6 x7 x8 : Option Value} {k m : Nat} (hk : k ≤ 50000) (hn : m ≤ 200000) : J γ mL_law room_1 Q k m 8 [some (.ref (go γ 1003)), some (.ref (gz γ + 0)), x2, x3, x4, none, x6, x7, x8] [] (Rp γ v) := by
  refine J.iconst (μ := mL_law) (pc := 8) (v := 0) dL_law_8 (by decide) ?_
  refine J.istore_n (μ := mL_law) (pc := 9) dL_law_9 (Nat.le_of_ble_eq_true rfl) rfl ?_
  refine J.sub ?_ (J.of (P' := (fun K => ∃ w n s, DI (198 * 0) w n s ∧ Rp γ w K)) (fun K kk => ⟨v, n, s, hD.mono (by omega), kk⟩) (J.forK (μ := mL_law) (hd := 10) (kf := fun i => k + 2 * i) (nf := fun i => m + 12 * i) (Lf := fun i => [some (.ref (go γ 1003)), some (.ref (gz γ + 0)), some (.int (nI i)), none, none, none, none, none, none]) (Pf := fun i => (fun K => ∃ w n s, DI (198 * i) w n s ∧ Rp γ w K)) 4 ?_ (fun i hi ih => ?_)))
  · exact ⟨rfl, rfl, rfl, trivial⟩
  · refine J.ex fun w => J.ex fun n2 => J.ex fun s2 => J.and fun hD2 => ?_
    refine J.iload_n (μ := mL_law) (pc := 10) dL_law_10 rfl ?_
    refine J.iconst (μ := mL_law) (pc := 11) (v := 4) dL_law_11 (by decide) ?_
    refine J.icmp_ge (μ := mL_law) (pc := 12) 87 dL_law_12 (by decide) (fun h1 => ?_) (fun h1 => ?_)
    · refine J.aload_n (μ := mL_law) (pc := 87) dL_law_87 rfl ?_
      refine J.tlen (μ := mL_law) (pc := 88) (fun s hK => hK.2.2.2.2.2.2.2.2.2.2.2.2.2.2.2.2.2) rfl dL_law_88 ?_
      refine J.bipush (μ := mL_law) (pc := 89) (v := 30) dL_law_89 (by decide) ?_
      refine J.icmp_ge (μ := mL_law) (pc := 91) 99 dL_law_91 (by decide) (fun h2 => ?_) (fun h2 => ?_)
      · refine J.bipush (μ := mL_law) (pc := 99) (v := 30) dL_law_99 (by decide) ?_
        refine J.istore_n (μ := mL_law) (pc := 101) dL_law_101 (Nat.le_of_ble_eq_true rfl) rfl ?_
        exact law_a hfin hL (by omega) hD2 (a := 30) (by omega) (by omega) (by omega)
      · have h2 : nI (go γ 1004) < 30 := by first | exact h2 | exact Int32.not_le.mp h2
        have h30 : (30 : Int32).toInt = 30 := by decide
        rw [t_lt, t_nI (by omega), h30] at h2
        refine J.aload_n (μ := mL_law) (pc := 94) dL_law_94 rfl ?_
        refine J.tlen (μ := mL_law) (pc := 95) (fun s hK => hK.2.2.2.2.2.2.2.2.2.2.2.2.2.2.2.2.2) rfl dL_law_95 ?_
        refine J.goto (μ := mL_law) (pc := 96) 101 dL_law_96 (by decide) ?_
        refine J.istore_n (μ := mL_law) (pc := 101) dL_law_101 (Nat.le_of_ble_eq_true rfl) rfl ?_
        exact law_a hfin hL (by omega) hD2 (a := go γ 1004) (by omega) (by omega) (by omega)
    · exact absurd h1 (by decide)
  · refine J.ex fun w => J.ex fun n2 => J.ex fun s2 => J.and fun hD2 => ?_
    obtain ⟨N, M, H, hI, hok⟩ := hD2.ok
    refine J.iload_n (μ := mL_law) (pc := 10) dL_law_10 rfl ?_
    refine J.iconst (μ := mL_law) (pc := 11) (v := 4) dL_law_11 (by decide) ?_
    refine J.icmp_ge (μ := mL_law) (pc := 12) 87 dL_law_12 (by decide) (fun h1 => ?_) (fun h1 => ?_)
    · exact absurd h1 (nI_ge (b := 4) hi (by omega))
    · refine J.aload_n (μ := mL_law) (pc := 15) dL_law_15 rfl ?_
      refine J.iload_n (μ := mL_law) (pc := 16) dL_law_16 rfl ?_
      refine J.iconst (μ := mL_law) (pc := 17) (v := 1) dL_law_17 (by decide) ?_
      refine J.iand (μ := mL_law) (pc := 18) dL_law_18 ?_
      refine J.bipush (μ := mL_law) (pc := 19) (v := 10) dL_law_19 (by decide) ?_
      refine J.aload_n (μ := mL_law) (pc := 21) dL_law_21 rfl ?_
      refine J.iload_n (μ := mL_law) (pc := 22) dL_law_22 rfl ?_
      refine J.callS (μ := mL_law) (pc := 23) (l_cell hL (q := i) (by omega)) rfl wm_L_307 mi_L_cell rfl dL_law_23 rfl rfl ⟨(Nat.le_of_ble_eq_true rfl), (Nat.le_of_ble_eq_true rfl)⟩ ⟨(by show _ ≤ 674918; omega), (by show _ ≤ 7067095; omega)⟩ (Nat.le_of_ble_eq_true rfl) (fun w => J.and fun e => ?_)
      obtain ⟨c1, e⟩ := e
      subst e
      refine J.iconst (μ := mL_law) (pc := 26) (v := 4) dL_law_26 (by decide) ?_
      refine J.ishr (μ := mL_law) (pc := 27) dL_law_27 ?_
      refine J.bipush (μ := mL_law) (pc := 28) (v := 15) dL_law_28 (by decide) ?_
      refine J.iand (μ := mL_law) (pc := 30) dL_law_30 ?_
      refine J.iadd (μ := mL_law) (pc := 31) dL_law_31 ?_
      refine J.callSW (μ := mL_law) (pc := 32) (l_addShelf hok _ _) rfl wm_L_126 mi_L_addShelf (fun h => by cases h) dL_law_32 rfl rfl ⟨(Nat.le_of_ble_eq_true rfl), (Nat.le_of_ble_eq_true rfl)⟩ ⟨(by show _ ≤ 674918; omega), (by show _ ≤ 7067095; omega)⟩ (Nat.le_of_ble_eq_true rfl) (fun w => J.ex fun r => J.ex fun u1 => J.and fun hc => ?_)
      obtain ⟨e, hc⟩ := hc
      obtain ⟨⟨n3, s3, hD3⟩, -, -⟩ := cmd_53 hD2 (by omega) hI hc
      obtain ⟨N3, M3, H3, hI3, hok3⟩ := hD3.ok
      subst e
      refine J.pop (μ := mL_law) (pc := 35) dL_law_35 rfl ?_
      refine J.aload_n (μ := mL_law) (pc := 36) dL_law_36 rfl ?_
      refine J.aload_n (μ := mL_law) (pc := 37) dL_law_37 rfl ?_
      refine J.iload_n (μ := mL_law) (pc := 38) dL_law_38 rfl ?_
      refine J.callS (μ := mL_law) (pc := 39) (l_cell hL (q := i) (by omega)) rfl wm_L_307 mi_L_cell rfl dL_law_39 rfl rfl ⟨(Nat.le_of_ble_eq_true rfl), (Nat.le_of_ble_eq_true rfl)⟩ ⟨(by show _ ≤ 674918; omega), (by show _ ≤ 7067095; omega)⟩ (Nat.le_of_ble_eq_true rfl) (fun w => J.and fun e => ?_)
      obtain ⟨c2, e⟩ := e
      subst e
      refine J.iconst (μ := mL_law) (pc := 42) (v := 5) dL_law_42 (by decide) ?_
      refine J.ishr (μ := mL_law) (pc := 43) dL_law_43 ?_
      refine J.bipush (μ := mL_law) (pc := 44) (v := 63) dL_law_44 (by decide) ?_
      refine J.iand (μ := mL_law) (pc := 46) dL_law_46 ?_
      refine J.iconst (μ := mL_law) (pc := 47) (v := 2) dL_law_47 (by decide) ?_
      refine J.irem (μ := mL_law) (pc := 48) dL_law_48 (by decide) ?_
      refine J.iconst (μ := mL_law) (pc := 49) (v := 2) dL_law_49 (by decide) ?_
      refine J.aload_n (μ := mL_law) (pc := 50) dL_law_50 rfl ?_
      refine J.iload_n (μ := mL_law) (pc := 51) dL_law_51 rfl ?_
      refine J.callS (μ := mL_law) (pc := 52) (l_cell hL (q := i) (by omega)) rfl wm_L_307 mi_L_cell rfl dL_law_52 rfl rfl ⟨(Nat.le_of_ble_eq_true rfl), (Nat.le_of_ble_eq_true rfl)⟩ ⟨(by show _ ≤ 674918; omega), (by show _ ≤ 7067095; omega)⟩ (Nat.le_of_ble_eq_true rfl) (fun w => J.and fun e => ?_)
      obtain ⟨c3, e⟩ := e
      subst e
      refine J.bipush (μ := mL_law) (pc := 55) (v := 6) dL_law_55 (by decide) ?_
      refine J.ishr (μ := mL_law) (pc := 57) dL_law_57 ?_
      refine J.bipush (μ := mL_law) (pc := 58) (v := 7) dL_law_58 (by decide) ?_
      refine J.iand (μ := mL_law) (pc := 60) dL_law_60 ?_
      refine J.iadd (μ := mL_law) (pc := 61) dL_law_61 ?_
      refine J.iload_n (μ := mL_law) (pc := 62) dL_law_62 rfl ?_
      refine J.iconst (μ := mL_law) (pc := 63) (v := 1) dL_law_63 (by decide) ?_
      refine J.iand (μ := mL_law) (pc := 64) dL_law_64 ?_
      refine J.iconst (μ := mL_law) (pc := 65) (v := 1) dL_law_65 (by decide) ?_
      refine J.aload_n (μ := mL_law) (pc := 66) dL_law_66 rfl ?_
      refine J.iload_n (μ := mL_law) (pc := 67) dL_law_67 rfl ?_
      refine J.callS (μ := mL_law) (pc := 68) (l_cell hL (q := i) (by omega)) rfl wm_L_307 mi_L_cell rfl dL_law_68 rfl rfl ⟨(Nat.le_of_ble_eq_true rfl), (Nat.le_of_ble_eq_true rfl)⟩ ⟨(by show _ ≤ 674918; omega), (by show _ ≤ 7067095; omega)⟩ (Nat.le_of_ble_eq_true rfl) (fun w => J.and fun e => ?_)
      obtain ⟨c4, e⟩ := e
      subst e
      refine J.iconst (μ := mL_law) (pc := 71) (v := 3) dL_law_71 (by decide) ?_
      refine J.ishr (μ := mL_law) (pc := 72) dL_law_72 ?_
      refine J.bipush (μ := mL_law) (pc := 73) (v := 7) dL_law_73 (by decide) ?_
      refine J.iand (μ := mL_law) (pc := 75) dL_law_75 ?_
      refine J.iadd (μ := mL_law) (pc := 76) dL_law_76 ?_
      refine J.callSW (μ := mL_law) (pc := 77) (l_receive hok3 _ _ _ _) rfl wm_L_132 mi_L_receive (fun h => by cases h) dL_law_77 rfl rfl ⟨(Nat.le_of_ble_eq_true rfl), (Nat.le_of_ble_eq_true rfl)⟩ ⟨(by show _ ≤ 674918; omega), (by show _ ≤ 7067095; omega)⟩ (Nat.le_of_ble_eq_true rfl) (fun w => J.ex fun r => J.ex fun u2 => J.and fun hc => ?_)
      obtain ⟨e, hc⟩ := hc
      obtain ⟨⟨n4, s4, hD4⟩, -, -⟩ := cmd_53 hD3 (by omega) hI3 hc
      subst e
      refine J.pop (μ := mL_law) (pc := 80) dL_law_80 rfl ?_
      refine J.iinc (μ := mL_law) (pc := 81) (v := 1) dL_law_81 rfl (by decide) (Nat.le_of_ble_eq_true rfl) rfl ?_
      refine J.goto (μ := mL_law) (pc := 84) 10 dL_law_84 (by decide) ?_
      refine J.widen (k' := k + 2 * (i + 1)) (n' := m + 12 * (i + 1)) (by omega) (by omega) (J.sub ?_ (J.of (fun K kk => ⟨u2, n4, s4, hD4.mono (by omega), kk⟩) ih))
      exact ⟨rfl, rfl, by rw [nI_1], trivial⟩
