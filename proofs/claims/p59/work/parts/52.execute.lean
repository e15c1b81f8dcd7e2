/-! execute -/
theorem Dr.rf {v : Vs} : Dr v v := ⟨fun _ _ _ _ _ _ => rfl, rfl, fun _ _ => rfl⟩
theorem Dr.tr {u v w : Vs} (h : Dr u v) (h2 : Dr v w) : Dr u w := ⟨fun k a b c d e => (h2.1 k a b c d e).trans (h.1 k a b c d e), h2.2.1.trans h.2.1, fun j hj => (h2.2.2 j hj).trans (h.2.2 j hj)⟩
/-- what a text that has run makes of the numbers -/
def exV (u : Vs) (n s : Nat) : Vs := cpR (keepV (up2 u 302 2 0) n s) 1 27 26
theorem s_X11_execute {γ : Gm} {v : Vs} {t : List Nat} (ht : tx v t) {T : Nat} (hT : T ≤ 900000000) (hS : SI T v 1) {n s : Nat} (hn : v 79 1 = nI n) (hn8 : n < 8) (hs : v 79 2 = nI s) (hs8 : s ≤ 8) : Xm γ mX11_execute yX11_execute 30 [.ref (gz γ + 0)] v (fun w K => ∃ l u, (pz t 60 0 = some l ∧ w = some (.int (nI l.length)) ∧ Dr v u ∧ SI (T + 5940) u 27) ∧ Rp γ (exV u n s) K) (fun E K => ∃ u, (Dr v u ∧ ((pz t 60 0 = none ∧ E = iaE) ∨ (pz t 60 0 ≠ none ∧ E = uoE ∧ u 0 10 = 8 ∧ 0 < u 0 12))) ∧ Rp γ (up2 u 302 2 0) K) := by
  refine Ex.ofJ (by decide) rfl (fun h => by cases h) (Nat.le_of_ble_eq_true rfl) ?_
  refine J.aload_n (μ := mX11_execute) (pc := 0) dX11_execute_0 rfl ?_
  refine J.gr (μ := mX11_execute) (pc := 1) (T := TX11) (ci := 14) (fks := _) rfl rfl in_X11 7 (by decide) wf_X11_53 dX11_execute_1 sh0 rfl ?_
  refine J.callV (μ := mX11_execute) (pc := 4) (s_X10_commandsOrFault ht) rfl wm_X11_247 mi_X10_commandsOrFault rfl dX11_execute_4 (Rp.isa (T := TX10) rfl sh302) rfl rfl ⟨(Nat.le_of_ble_eq_true rfl), (Nat.le_of_ble_eq_true rfl)⟩ ⟨(Nat.le_of_ble_eq_true rfl), (Nat.le_of_ble_eq_true rfl)⟩ (Nat.le_of_ble_eq_true rfl) (fun w => J.and fun e => ?_)
  subst e
  refine J.ex fun u => J.and fun hu => ?_
  have hd : Dr v u := Dr.rf.tq hu
  cases hz : pz t 60 0 with
  | none =>
    refine J.istore_n (μ := mX11_execute) (pc := 7) dX11_execute_7 (Nat.le_of_ble_eq_true rfl) rfl ?_
    refine J.iload_n (μ := mX11_execute) (pc := 8) dX11_execute_8 rfl ?_
    refine J.iconst (μ := mX11_execute) (pc := 9) (v := -1) dX11_execute_9 (by decide) ?_
    refine J.icmp_ne (μ := mX11_execute) (pc := 10) 30 dX11_execute_10 (by decide) (fun h1 => ?_) (fun h1 => ?_)
    · exact absurd rfl h1
    · refine J.aload_n (μ := mX11_execute) (pc := 13) dX11_execute_13 rfl ?_
      refine J.gr (μ := mX11_execute) (pc := 14) (T := TX11) (ci := 14) (fks := _) rfl rfl in_X11 7 (by decide) wf_X11_53 dX11_execute_14 sh0 rfl ?_
      refine J.cV0 (μ := mX11_execute) (pc := 17) (s_X10_clear) rfl wm_X11_250 mi_X10_clear rfl dX11_execute_17 (Rp.isa (T := TX10) rfl sh302) rfl rfl ⟨(Nat.le_of_ble_eq_true rfl), (Nat.le_of_ble_eq_true rfl)⟩ ⟨(Nat.le_of_ble_eq_true rfl), (Nat.le_of_ble_eq_true rfl)⟩ (Nat.le_of_ble_eq_true rfl) ?_
      exact J.throwS (μ := mX11_execute) (pc := 20) (names := nmE) (cls := iaE) (si := 14) rfl (by decide) (by decide) wk_X11_253 wn_java_lang_IllegalArgumentException rfl tw_ia.1 tw_ia.2 dX11_execute_20 dX11_execute_23 dX11_execute_24 dX11_execute_26 dX11_execute_29 rfl (Nat.le_of_ble_eq_true rfl) (Nat.le_of_ble_eq_true rfl) (Nat.le_of_ble_eq_true rfl) (Nat.le_of_ble_eq_true rfl) (Nat.le_of_ble_eq_true rfl) (Nat.le_of_ble_eq_true rfl) (fun H H' h hz hq => by have h := Rp.ext h hq; exact ⟨u, ⟨hd, .inl ⟨rfl, rfl⟩⟩, h⟩)
  | some l =>
    have hl60 := pz_len hz
    have e0 : pzR 1 (some l) = nI l.length := by show nI (1 - 1 + l.length) = _; rw [Nat.sub_self, Nat.zero_add]
    rw [e0]
    refine J.istore_n (μ := mX11_execute) (pc := 7) dX11_execute_7 (Nat.le_of_ble_eq_true rfl) rfl ?_
    refine J.iload_n (μ := mX11_execute) (pc := 8) dX11_execute_8 rfl ?_
    refine J.iconst (μ := mX11_execute) (pc := 9) (v := -1) dX11_execute_9 (by decide) ?_
    refine J.icmp_ne (μ := mX11_execute) (pc := 10) 30 dX11_execute_10 (by decide) (fun h1 => ?_) (fun h1 => ?_)
    · refine J.aload_n (μ := mX11_execute) (pc := 30) dX11_execute_30 rfl ?_
      refine J.iload_n (μ := mX11_execute) (pc := 31) dX11_execute_31 rfl ?_
      refine J.callV (μ := mX11_execute) (pc := 32) (s_X11_runOnDraft (ht.q hu) hz hT (hS.sq (w := u) (o := 1) (fun c hc => hu.1 _ (by omega) (by omega)))) rfl wm_X11_258 mi_X11_runOnDraft rfl dX11_execute_32 (Rp.isa (T := TX11) rfl sh0) rfl rfl ⟨(Nat.le_of_ble_eq_true rfl), (Nat.le_of_ble_eq_true rfl)⟩ ⟨(Nat.le_of_ble_eq_true rfl), (Nat.le_of_ble_eq_true rfl)⟩ (Nat.le_of_ble_eq_true rfl) (fun w => J.ex fun b => J.ex fun u2 => J.and fun e => J.and fun h3 => ?_)
      subst e
      obtain ⟨h3, h4, h5⟩ := h3
      have hd2 := hd.tr h3
      cases b with
      | true =>
        refine J.istore_n (μ := mX11_execute) (pc := 35) dX11_execute_35 (Nat.le_of_ble_eq_true rfl) rfl ?_
        refine J.aload_n (μ := mX11_execute) (pc := 36) dX11_execute_36 rfl ?_
        refine J.gr (μ := mX11_execute) (pc := 37) (T := TX11) (ci := 14) (fks := _) rfl rfl in_X11 7 (by decide) wf_X11_53 dX11_execute_37 sh0 rfl ?_
        refine J.cV0 (μ := mX11_execute) (pc := 40) (s_X10_clear) rfl wm_X11_250 mi_X10_clear rfl dX11_execute_40 (Rp.isa (T := TX10) rfl sh302) rfl rfl ⟨(Nat.le_of_ble_eq_true rfl), (Nat.le_of_ble_eq_true rfl)⟩ ⟨(Nat.le_of_ble_eq_true rfl), (Nat.le_of_ble_eq_true rfl)⟩ (Nat.le_of_ble_eq_true rfl) ?_
        refine J.iload_n (μ := mX11_execute) (pc := 43) dX11_execute_43 rfl ?_
        refine J.if_ne (μ := mX11_execute) (pc := 44) 58 dX11_execute_44 (by decide) (fun h6 => ?_) (fun h6 => ?_)
        · have k1 : up2 u2 302 2 0 79 1 = nI n := by rw [up2_o _ _ _ (by decide), hd2.1 79 (by decide) (by decide) (by decide) (by decide) (by decide)]; exact hn
          have k2 : up2 u2 302 2 0 79 2 = nI s := by rw [up2_o _ _ _ (by decide), hd2.1 79 (by decide) (by decide) (by decide) (by decide) (by decide)]; exact hs
          refine J.aload_n (μ := mX11_execute) (pc := 58) dX11_execute_58 rfl ?_
          refine J.gr (μ := mX11_execute) (pc := 59) (T := TX11) (ci := 14) (fks := _) rfl rfl in_X11 3 (by decide) wf_X11_25 dX11_execute_59 sh0 rfl ?_
          refine J.aload_n (μ := mX11_execute) (pc := 62) dX11_execute_62 rfl ?_
          refine J.gr (μ := mX11_execute) (pc := 63) (T := TX11) (ci := 14) (fks := _) rfl rfl in_X11 0 (by decide) wf_X11_10 dX11_execute_63 sh0 rfl ?_
          refine J.cV0 (μ := mX11_execute) (pc := 66) (s_X4_keep k1 hn8 k2 hs8) rfl wm_X11_266 mi_X4_keep rfl dX11_execute_66 (Rp.isa (T := TX4) rfl sh79) rfl rfl ⟨(Nat.le_of_ble_eq_true rfl), (Nat.le_of_ble_eq_true rfl)⟩ ⟨(Nat.le_of_ble_eq_true rfl), (Nat.le_of_ble_eq_true rfl)⟩ (Nat.le_of_ble_eq_true rfl) ?_
          refine J.aload_n (μ := mX11_execute) (pc := 69) dX11_execute_69 rfl ?_
          refine J.gr (μ := mX11_execute) (pc := 70) (T := TX11) (ci := 14) (fks := _) rfl rfl in_X11 0 (by decide) wf_X11_10 dX11_execute_70 sh0 rfl ?_
          refine J.aload_n (μ := mX11_execute) (pc := 73) dX11_execute_73 rfl ?_
          refine J.gr (μ := mX11_execute) (pc := 74) (T := TX11) (ci := 14) (fks := _) rfl rfl in_X11 1 (by decide) wf_X11_16 dX11_execute_74 sh0 rfl ?_
          refine J.cV0 (μ := mX11_execute) (pc := 77) (s_X9_copyFrom st1 st27 (.inr (by omega))) rfl wm_X11_270 mi_X9_copyFrom rfl dX11_execute_77 (Rp.isa (T := TX9) rfl (st1 0 (by decide))) rfl rfl ⟨(Nat.le_of_ble_eq_true rfl), (Nat.le_of_ble_eq_true rfl)⟩ ⟨(Nat.le_of_ble_eq_true rfl), (Nat.le_of_ble_eq_true rfl)⟩ (Nat.le_of_ble_eq_true rfl) ?_
          refine J.toX ?_
          refine J.iload_n (μ := mX11_execute) (pc := 80) dX11_execute_80 rfl ?_
          exact J.iret (μ := mX11_execute) (pc := 81) dX11_execute_81 rfl (Nat.le_of_ble_eq_true rfl) (Nat.le_of_ble_eq_true rfl) (fun K k => ⟨l, u2, ⟨rfl, rfl, hd2, h4 rfl⟩, k⟩)
        · exact absurd h6 (by decide)
      | false =>
        refine J.istore_n (μ := mX11_execute) (pc := 35) dX11_execute_35 (Nat.le_of_ble_eq_true rfl) rfl ?_
        refine J.aload_n (μ := mX11_execute) (pc := 36) dX11_execute_36 rfl ?_
        refine J.gr (μ := mX11_execute) (pc := 37) (T := TX11) (ci := 14) (fks := _) rfl rfl in_X11 7 (by decide) wf_X11_53 dX11_execute_37 sh0 rfl ?_
        refine J.cV0 (μ := mX11_execute) (pc := 40) (s_X10_clear) rfl wm_X11_250 mi_X10_clear rfl dX11_execute_40 (Rp.isa (T := TX10) rfl sh302) rfl rfl ⟨(Nat.le_of_ble_eq_true rfl), (Nat.le_of_ble_eq_true rfl)⟩ ⟨(Nat.le_of_ble_eq_true rfl), (Nat.le_of_ble_eq_true rfl)⟩ (Nat.le_of_ble_eq_true rfl) ?_
        refine J.iload_n (μ := mX11_execute) (pc := 43) dX11_execute_43 rfl ?_
        refine J.if_ne (μ := mX11_execute) (pc := 44) 58 dX11_execute_44 (by decide) (fun h6 => ?_) (fun h6 => ?_)
        · exact absurd rfl h6
        · exact J.throwW (μ := mX11_execute) (pc := 47) (names := nmE) (cls := uoE) (si := 15) rfl (by decide) (by decide) wk_X11_261 wn_java_lang_UnsupportedOperationException rfl tw_uo.1 tw_uo.2 dX11_execute_47 dX11_execute_50 dX11_execute_51 dX11_execute_54 dX11_execute_57 rfl (Nat.le_of_ble_eq_true rfl) (Nat.le_of_ble_eq_true rfl) (Nat.le_of_ble_eq_true rfl) (Nat.le_of_ble_eq_true rfl) (Nat.le_of_ble_eq_true rfl) (Nat.le_of_ble_eq_true rfl) (fun H H' h hz hq => by have h := Rp.ext h hq; exact ⟨u2, ⟨hd2, .inr ⟨by simp, rfl, h5 rfl⟩⟩, h⟩)
    · exact absurd h1 (fun q => by
        have q2 : nI l.length ≠ -1 := fun z => by rw [t_eq, t_nI (by omega), t_m1] at z; omega
        exact q2 q)
