/-! the law: areShelves, its end: zone by zone -/
theorem as_3 {γ : Gm} {T N M H : Nat} {v : Vs} (h : Inv 0 T N M H (iv v 1)) {k n tot : Nat} (hk : k ≤ 290) (hn : n ≤ 1740) (htot : tot ≤ 8) {x3 x4 x5 x6 x7 : Option Value} : J γ mL_areShelves (rmD 34 300 1800) (fEv γ 300 1800 (fun r K => r = some (.int 1) ∧ ∃ u, Sc v u ∧ Rp γ u K)) k n 282 [some (.ref (gz γ + 0)), some (.int (nI tot)), some (.int 1), x3, x4, x5, x6, x7] [] (Rp γ v) := by
  have h20 := h.1.1.2
  have h8 := h.1.2.1.2
  refine J.iconst (μ := mL_areShelves) (pc := 282) (v := 0) dL_areShelves_282 (by decide) ?_
  refine J.istore_n (μ := mL_areShelves) (pc := 283) dL_areShelves_283 (Nat.le_of_ble_eq_true rfl) rfl ?_
  refine J.sub ?_ (J.of (P' := fun K => ∃ u, Sc v u ∧ Rp γ u K) (fun K k => ⟨v, Sc.rf, k⟩) (J.forK (μ := mL_areShelves) (hd := 284) (kf := fun z => k + z) (nf := fun z => n + 6 * z) (Lf := fun z => [some (.ref (gz γ + 0)), some (.int (nI tot)), some (.int 1), some (.int (nI z)), none, none, none, none]) (Pf := fun _ K => ∃ u, Sc v u ∧ Rp γ u K) 3 ?_ (fun z hz ih => ?_)))
  · exact ⟨rfl, rfl, rfl, rfl, trivial⟩
  · refine J.ex fun u => J.and fun hu => ?_
    refine J.iload_n (μ := mL_areShelves) (pc := 284) dL_areShelves_284 rfl ?_
    refine J.if_eq (μ := mL_areShelves) (pc := 285) 412 dL_areShelves_285 (by decide) (fun h1 => ?_) (fun h1 => ?_)
    · exact absurd h1 (by decide)
    · refine J.iload_n (μ := mL_areShelves) (pc := 288) dL_areShelves_288 rfl ?_
      refine J.iconst (μ := mL_areShelves) (pc := 289) (v := 3) dL_areShelves_289 (by decide) ?_
      refine J.icmp_ge (μ := mL_areShelves) (pc := 290) 412 dL_areShelves_290 (by decide) (fun h2 => ?_) (fun h2 => ?_)
      · refine J.iload_n (μ := mL_areShelves) (pc := 412) dL_areShelves_412 rfl ?_
        refine J.if_eq (μ := mL_areShelves) (pc := 413) 426 dL_areShelves_413 (by decide) (fun h3 => ?_) (fun h3 => ?_)
        · exact absurd h3 (by decide)
        · refine J.iload_n (μ := mL_areShelves) (pc := 416) dL_areShelves_416 rfl ?_
          refine J.bipush (μ := mL_areShelves) (pc := 417) (v := 8) dL_areShelves_417 (by decide) ?_
          refine J.icmp_gt (μ := mL_areShelves) (pc := 419) 426 dL_areShelves_419 (by decide) (fun h4 => ?_) (fun h4 => ?_)
          · exact absurd h4 (nI_nlt_of (a := 8) (b := tot) htot (by omega))
          · refine J.iconst (μ := mL_areShelves) (pc := 422) (v := 1) dL_areShelves_422 (by decide) ?_
            refine J.goto (μ := mL_areShelves) (pc := 423) 427 dL_areShelves_423 (by decide) ?_
            exact J.zret (μ := mL_areShelves) (pc := 427) dL_areShelves_427 rfl rfl (by omega) (by omega) (fun K k => ⟨rfl, u, hu, k⟩)
      · exact absurd h2 (by decide)
  · refine J.ex fun u => J.and fun hu => ?_
    have hI := h.sq (hu.sq (o := 1) (by decide))
    have hzz : 0 ≤ nI z ∧ nI z ≤ 2 := by
      rw [t_le, t_le, t_nI (by omega)]
      exact ⟨by rw [t_0]; omega, by show (z : Int) ≤ 2; omega⟩
    refine J.iload_n (μ := mL_areShelves) (pc := 284) dL_areShelves_284 rfl ?_
    refine J.if_eq (μ := mL_areShelves) (pc := 285) 412 dL_areShelves_285 (by decide) (fun h1 => ?_) (fun h1 => ?_)
    · exact absurd h1 (by decide)
    · refine J.iload_n (μ := mL_areShelves) (pc := 288) dL_areShelves_288 rfl ?_
      refine J.iconst (μ := mL_areShelves) (pc := 289) (v := 3) dL_areShelves_289 (by decide) ?_
      refine J.icmp_ge (μ := mL_areShelves) (pc := 290) 412 dL_areShelves_290 (by decide) (fun h2 => ?_) (fun h2 => ?_)
      · exact absurd h2 (nI_ge (a := z) (b := 3) hz (by omega))
      · refine J.iconst (μ := mL_areShelves) (pc := 293) (v := 0) dL_areShelves_293 (by decide) ?_
        refine J.istore (μ := mL_areShelves) (pc := 294) dL_areShelves_294 (Nat.le_of_ble_eq_true rfl) rfl ?_
        refine J.iconst (μ := mL_areShelves) (pc := 296) (v := 0) dL_areShelves_296 (by decide) ?_
        refine J.istore (μ := mL_areShelves) (pc := 297) dL_areShelves_297 (Nat.le_of_ble_eq_true rfl) rfl ?_
        refine J.sub ?_ (J.for (μ := mL_areShelves) (hd := 299) (Lf := fun j => [some (.ref (gz γ + 0)), some (.int (nI tot)), some (.int 1), some (.int (nI z)), some (.int (nI (cn (usd u 1 N (nI z)) j))), some (.int (nI j)), none, none]) (Pf := fun _ => Rp γ u) M ?_ (fun j hj ihj => ?_))
        · exact ⟨rfl, rfl, rfl, rfl, rfl, rfl, trivial⟩
        · refine J.iload (μ := mL_areShelves) (pc := 299) dL_areShelves_299 rfl ?_
          refine J.aload_n (μ := mL_areShelves) (pc := 301) dL_areShelves_301 rfl ?_
          refine J.cV (μ := mL_areShelves) (pc := 302) (s_X11_shelfCount) rfl wm_L_193 mi_X11_shelfCount rfl dL_areShelves_302 (Rp.isa (T := TX11) rfl sh0) rfl rfl ⟨(Nat.le_of_ble_eq_true rfl), (Nat.le_of_ble_eq_true rfl)⟩ ⟨(by show _ ≤ 300; omega), (by show _ ≤ 1800; omega)⟩ (Nat.le_of_ble_eq_true rfl) ?_
          rw [hI.vM]
          refine J.icmp_ge (μ := mL_areShelves) (pc := 305) 343 dL_areShelves_305 (by decide) (fun h3 => ?_) (fun h3 => ?_)
          · refine J.aload_n (μ := mL_areShelves) (pc := 343) dL_areShelves_343 rfl ?_
            refine J.iload_n (μ := mL_areShelves) (pc := 344) dL_areShelves_344 rfl ?_
            refine J.callV (μ := mL_areShelves) (pc := 345) (s_X11_fewestShelves hI.vN h20 hI.vM h8 hzz) rfl wm_L_225 mi_X11_fewestShelves rfl dL_areShelves_345 (Rp.isa (T := TX11) rfl sh0) rfl rfl ⟨(Nat.le_of_ble_eq_true rfl), (Nat.le_of_ble_eq_true rfl)⟩ ⟨(by show _ ≤ 300; omega), (by show _ ≤ 1800; omega)⟩ (Nat.le_of_ble_eq_true rfl) (fun w => J.ex fun ff => J.and fun hff => J.and fun e => ?_)
            subst e
            obtain ⟨R, r1, r2, r3, r4, r5⟩ := hI.fewest (nI z) hff
            rw [r1]
            generalize hu2 : pk u (gC u 1 (nI z) M).1 (gL u 1 (nI z) N).1 (u 299) ff (gC u 1 (nI z) M).2 (gL u 1 (nI z) N).2 = u2
            have s2 : Sc u u2 := by rw [← hu2]; exact Sc.pak
            have hI2 := hI.sq (s2.sq (o := 1) (by decide))
            refine J.istore (μ := mL_areShelves) (pc := 348) dL_areShelves_348 (Nat.le_of_ble_eq_true rfl) rfl ?_
            refine J.aload_n (μ := mL_areShelves) (pc := 350) dL_areShelves_350 rfl ?_
            refine J.iload_n (μ := mL_areShelves) (pc := 351) dL_areShelves_351 rfl ?_
            refine J.callV (μ := mL_areShelves) (pc := 352) (s_X11_fewestShelvesBySearch hI2.vN h20 hI2.vM h8 hzz) rfl wm_L_228 mi_X11_fewestShelvesBySearch rfl dL_areShelves_352 (Rp.isa (T := TX11) rfl sh0) rfl rfl ⟨(Nat.le_of_ble_eq_true rfl), (Nat.le_of_ble_eq_true rfl)⟩ ⟨(by show _ ≤ 300; omega), (by show _ ≤ 1800; omega)⟩ (Nat.le_of_ble_eq_true rfl) (fun w => J.and fun e => J.ex fun fr => ?_)
            subst e
            have e3 : fd (fun k => layB (gL u2 1 (nI z) N).1 (gL u2 1 (nI z) N).2 k 8 0 (gC u2 1 (nI z) M).1) (gC u2 1 (nI z) M).2 = R := by
              rw [gC_sq (s2.sq (o := 1) (by decide)), gL_sq (s2.sq (o := 1) (by decide))]; exact r2
            rw [e3]
            generalize hu3 : pk u2 (gC u2 1 (nI z) M).1 (gL u2 1 (nI z) N).1 fr (u2 301) (gC u2 1 (nI z) M).2 (gL u2 1 (nI z) N).2 = u3
            have s3 : Sc u2 u3 := by rw [← hu3]; exact Sc.pak
            have hI3 := hI2.sq (s3.sq (o := 1) (by decide))
            have hcm := cn_le (usd u 1 N (nI z)) M
            have fin : ∀ a b : Bool, a = b → J γ mL_areShelves (rmD 34 300 1800) (fEv γ 300 1800 (fun r K => r = some (.int 1) ∧ ∃ u, Sc v u ∧ Rp γ u K)) (k + z + 0 + 0) (n + 6 * z + 0 + 0) 387 [some (.ref (gz γ + 0)), some (.int (nI tot)), some (.int 1), some (.int (nI z)), some (.int (nI (cn (usd u 1 N (nI z)) M))), some (.int (nI R)), none, none] [.int (bi b), .int (bi a)] (Rp γ u3) := by
              intro a b hab
              subst hab
              refine J.icmp_ne (μ := mL_areShelves) (pc := 387) 404 dL_areShelves_387 (by decide) (fun h4 => ?_) (fun h4 => ?_)
              · exact absurd rfl h4
              · refine J.aload_n (μ := mL_areShelves) (pc := 390) dL_areShelves_390 rfl ?_
                refine J.iload_n (μ := mL_areShelves) (pc := 391) dL_areShelves_391 rfl ?_
                refine J.bipush (μ := mL_areShelves) (pc := 392) (v := 7) dL_areShelves_392 (by decide) ?_
                refine J.callS (μ := mL_areShelves) (pc := 394) (l_isPlace hI3 hzz (by decide)) rfl wm_L_231 mi_L_isPlace rfl dL_areShelves_394 rfl rfl ⟨(Nat.le_of_ble_eq_true rfl), (Nat.le_of_ble_eq_true rfl)⟩ ⟨(by show _ ≤ 300; omega), (by show _ ≤ 1800; omega)⟩ (Nat.le_of_ble_eq_true rfl) (fun w => J.and fun e => ?_)
                subst e
                refine J.if_eq (μ := mL_areShelves) (pc := 397) 404 dL_areShelves_397 (by decide) (fun h5 => ?_) (fun h5 => ?_)
                · exact absurd h5 (by decide)
                · refine J.iconst (μ := mL_areShelves) (pc := 400) (v := 1) dL_areShelves_400 (by decide) ?_
                  refine J.goto (μ := mL_areShelves) (pc := 401) 405 dL_areShelves_401 (by decide) ?_
                  refine J.istore_n (μ := mL_areShelves) (pc := 405) dL_areShelves_405 (Nat.le_of_ble_eq_true rfl) rfl ?_
                  refine J.iinc (μ := mL_areShelves) (pc := 406) (v := 1) dL_areShelves_406 rfl (by decide) (Nat.le_of_ble_eq_true rfl) rfl ?_
                  refine J.goto (μ := mL_areShelves) (pc := 409) 284 dL_areShelves_409 (by decide) ?_
                  refine J.widen (k' := k + (z + 1)) (n' := n + 6 * (z + 1)) (by omega) (by omega) (J.sub ?_ (J.of (fun K kk => ⟨u3, (hu.tr s2).tr s3, kk⟩) ih))
                  exact ⟨rfl, rfl, rfl, by rw [nI_1], trivial⟩
            refine J.iload (μ := mL_areShelves) (pc := 355) dL_areShelves_355 rfl ?_
            refine J.icmp_ne (μ := mL_areShelves) (pc := 357) 404 dL_areShelves_357 (by decide) (fun h4 => ?_) (fun h4 => ?_)
            · exact absurd rfl h4
            · refine J.iload (μ := mL_areShelves) (pc := 360) dL_areShelves_360 rfl ?_
              refine J.iload (μ := mL_areShelves) (pc := 362) dL_areShelves_362 rfl ?_
              refine J.icmp_gt (μ := mL_areShelves) (pc := 364) 404 dL_areShelves_364 (by decide) (fun h5 => ?_) (fun h5 => ?_)
              · exact absurd h5 (nI_nlt_of r3 (by omega))
              · refine J.iload (μ := mL_areShelves) (pc := 367) dL_areShelves_367 rfl ?_
                refine J.if_le (μ := mL_areShelves) (pc := 369) 376 dL_areShelves_369 (by decide) (fun h6 => ?_) (fun h6 => ?_)
                · have hR : R = 0 := by
                    rw [t_le, t_nI (by omega), t_0] at h6
                    omega
                  refine J.iconst (μ := mL_areShelves) (pc := 376) (v := 0) dL_areShelves_376 (by decide) ?_
                  refine J.iload (μ := mL_areShelves) (pc := 377) dL_areShelves_377 rfl ?_
                  refine J.if_le (μ := mL_areShelves) (pc := 379) 386 dL_areShelves_379 (by decide) (fun h7 => ?_) (fun h7 => ?_)
                  · refine J.iconst (μ := mL_areShelves) (pc := 386) (v := 0) dL_areShelves_386 (by decide) ?_
                    exact fin false false rfl
                  · exfalso
                    have hu0 : ¬ 0 < cn (usd u 1 N (nI z)) M := fun q => by have := r4.mpr q; omega
                    first
                      | exact h7 (by rw [t_le, t_nI (by omega), t_0]; omega)
                      | (rw [t_lt, t_nI (by omega), t_0] at h7; omega)
                · have hR : 0 < R := by
                    first
                      | (rw [t_lt, t_nI (by omega), t_0] at h6; omega)
                      | (rw [t_le, t_nI (by omega), t_0] at h6; omega)
                  have hu1 := r4.mp hR
                  refine J.iconst (μ := mL_areShelves) (pc := 372) (v := 1) dL_areShelves_372 (by decide) ?_
                  refine J.goto (μ := mL_areShelves) (pc := 373) 377 dL_areShelves_373 (by decide) ?_
                  refine J.iload (μ := mL_areShelves) (pc := 377) dL_areShelves_377 rfl ?_
                  refine J.if_le (μ := mL_areShelves) (pc := 379) 386 dL_areShelves_379 (by decide) (fun h7 => ?_) (fun h7 => ?_)
                  · exfalso
                    rw [t_le, t_nI (by omega), t_0] at h7
                    omega
                  · refine J.iconst (μ := mL_areShelves) (pc := 382) (v := 1) dL_areShelves_382 (by decide) ?_
                    refine J.goto (μ := mL_areShelves) (pc := 383) 387 dL_areShelves_383 (by decide) ?_
                    exact fin true true rfl
          · exact (Int32.lt_irrefl h3).elim
        · have hl : hasS u 1 (nI j) := hI.hsS.mpr ⟨j, hj, rfl⟩
          have ec : cn (usd u 1 N (nI z)) (j + 1) = cn (usd u 1 N (nI z)) j + (if usd u 1 N (nI z) j = true then 1 else 0) := rfl
          have t334 : ∀ b : Bool, usd u 1 N (nI z) j = b → J γ mL_areShelves (rmD 34 300 1800) (fEv γ 300 1800 (fun r K => r = some (.int 1) ∧ ∃ u, Sc v u ∧ Rp γ u K)) (k + z) (n + 6 * z) 334 [some (.ref (gz γ + 0)), some (.int (nI tot)), some (.int 1), some (.int (nI z)), some (.int (nI (cn (usd u 1 N (nI z)) j))), some (.int (nI j)), none, none] [.int (bi b), .int (nI (cn (usd u 1 N (nI z)) j))] (Rp γ u) := by
            intro b hb
            refine J.iadd (μ := mL_areShelves) (pc := 334) dL_areShelves_334 ?_
            refine J.istore (μ := mL_areShelves) (pc := 335) dL_areShelves_335 (Nat.le_of_ble_eq_true rfl) rfl ?_
            refine J.iinc (μ := mL_areShelves) (pc := 337) (v := 1) dL_areShelves_337 rfl (by decide) (Nat.le_of_ble_eq_true rfl) rfl ?_
            refine J.goto (μ := mL_areShelves) (pc := 340) 299 dL_areShelves_340 (by decide) ?_
            refine J.sub ?_ ihj
            refine ⟨rfl, rfl, rfl, rfl, ?_, by rw [nI_1], trivial⟩
            rw [ec, hb]
            cases b with
            | true => rw [if_pos rfl, ← nI_1]; rfl
            | false => rw [if_neg (by decide), Nat.add_zero]; show some (Value.int (nI _ + 0)) = _; rw [Int32.add_zero]
          refine J.iload (μ := mL_areShelves) (pc := 299) dL_areShelves_299 rfl ?_
          refine J.aload_n (μ := mL_areShelves) (pc := 301) dL_areShelves_301 rfl ?_
          refine J.cV (μ := mL_areShelves) (pc := 302) (s_X11_shelfCount) rfl wm_L_193 mi_X11_shelfCount rfl dL_areShelves_302 (Rp.isa (T := TX11) rfl sh0) rfl rfl ⟨(Nat.le_of_ble_eq_true rfl), (Nat.le_of_ble_eq_true rfl)⟩ ⟨(by show _ ≤ 300; omega), (by show _ ≤ 1800; omega)⟩ (Nat.le_of_ble_eq_true rfl) ?_
          rw [hI.vM]
          refine J.icmp_ge (μ := mL_areShelves) (pc := 305) 343 dL_areShelves_305 (by decide) (fun h3 => ?_) (fun h3 => ?_)
          · exact absurd h3 (nI_ge hj (by omega))
          · refine J.iload (μ := mL_areShelves) (pc := 308) dL_areShelves_308 rfl ?_
            refine J.aload_n (μ := mL_areShelves) (pc := 310) dL_areShelves_310 rfl ?_
            refine J.iload (μ := mL_areShelves) (pc := 311) dL_areShelves_311 rfl ?_
            refine J.cV (μ := mL_areShelves) (pc := 313) (s_X11_zoneOf hl) rfl wm_L_198 mi_X11_zoneOf rfl dL_areShelves_313 (Rp.isa (T := TX11) rfl sh0) rfl rfl ⟨(Nat.le_of_ble_eq_true rfl), (Nat.le_of_ble_eq_true rfl)⟩ ⟨(by show _ ≤ 300; omega), (by show _ ≤ 1800; omega)⟩ (Nat.le_of_ble_eq_true rfl) ?_
            refine J.iload_n (μ := mL_areShelves) (pc := 316) dL_areShelves_316 rfl ?_
            refine J.icmp_ne (μ := mL_areShelves) (pc := 317) 333 dL_areShelves_317 (by decide) (fun h4 => ?_) (fun h4 => ?_)
            · refine J.iconst (μ := mL_areShelves) (pc := 333) (v := 0) dL_areShelves_333 (by decide) ?_
              exact t334 false (by unfold usd; rw [decide_eq_false h4, Bool.false_and])
            · have h4 : gZn u 1 (nI j) = nI z := by first | exact h4 | exact Classical.not_not.mp h4
              have hc20 := cn_le (fun i => decide (gPl u 1 (nI i) = nI j)) N
              refine J.aload_n (μ := mL_areShelves) (pc := 320) dL_areShelves_320 rfl ?_
              refine J.iload (μ := mL_areShelves) (pc := 321) dL_areShelves_321 rfl ?_
              refine J.cV (μ := mL_areShelves) (pc := 323) (s_X11_lotsOn hI.vN h20 hl) rfl wm_L_222 mi_X11_lotsOn rfl dL_areShelves_323 (Rp.isa (T := TX11) rfl sh0) rfl rfl ⟨(Nat.le_of_ble_eq_true rfl), (Nat.le_of_ble_eq_true rfl)⟩ ⟨(by show _ ≤ 300; omega), (by show _ ≤ 1800; omega)⟩ (Nat.le_of_ble_eq_true rfl) ?_
              refine J.if_le (μ := mL_areShelves) (pc := 326) 333 dL_areShelves_326 (by decide) (fun h5 => ?_) (fun h5 => ?_)
              · refine J.iconst (μ := mL_areShelves) (pc := 333) (v := 0) dL_areShelves_333 (by decide) ?_
                exact t334 false (by
                  unfold usd
                  rw [t_le, t_nI (by omega), t_0] at h5
                  rw [decide_eq_false (show ¬ 0 < cn (fun i => decide (gPl u 1 (nI i) = nI j)) N by omega), Bool.and_false])
              · refine J.iconst (μ := mL_areShelves) (pc := 329) (v := 1) dL_areShelves_329 (by decide) ?_
                refine J.goto (μ := mL_areShelves) (pc := 330) 334 dL_areShelves_330 (by decide) ?_
                exact t334 true (by
                  unfold usd
                  have h6 : 0 < cn (fun i => decide (gPl u 1 (nI i) = nI j)) N := by
                    first
                      | (rw [t_lt, t_nI (by omega), t_0] at h5; omega)
                      | (rw [t_le, t_nI (by omega), t_0] at h5; omega)
                  rw [decide_eq_true h6, decide_eq_true h4]; rfl)
