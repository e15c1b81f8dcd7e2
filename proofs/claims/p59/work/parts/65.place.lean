/-! the law: isPlace -/
theorem l_isPlace {γ : Gm} {T N M H : Nat} {v : Vs} (h : Inv 0 T N M H (iv v 1)) {z w : Int32} (hz : 0 ≤ z ∧ z ≤ 2) (hw : 1 ≤ w ∧ w ≤ 40) : Ev γ mL_isPlace yL_isPlace 33 1 6 [.ref (gz γ + 0), .int z, .int w] (Rp γ v) (fun r K => r = some (.int 1) ∧ Rp γ v K) := by
  have h20 := h.1.1.2
  have h8 := h.1.2.1.2
  have rw0 : ∀ j, j < M → (roomW v 1 N (nI j) (-1) (-1)).toInt = rX (iv v 1) N j (-1) (-1) := fun j hj => by rw [h.rmW hj, t_m1]
  have hf : ∀ j, j < M → (fitZ (iv v 1) N z.toInt w.toInt (-1) (-1) j ↔ gZn v 1 (nI j) = z ∧ w ≤ roomW v 1 N (nI j) (-1) (-1)) := fun j hj => by
    unfold fitZ
    rw [t_eq (x := gZn v 1 (nI j)), zZn (by omega), t_le, rw0 j hj]
  have hp := h.pfZ z w (-1) (-1) M (Nat.le_refl M)
  rw [t_m1] at hp
  refine Ev.ofJ (by decide) rfl (fun h => by cases h) (Nat.le_of_ble_eq_true rfl) ?_
  have loop : ∀ (pl : Int32), (∀ i, i < M → gZn v 1 (nI i) = z → w ≤ roomW v 1 N (nI i) (-1) (-1) → ∃ p, p < M ∧ pl = nI p ∧ (roomW v 1 N (nI p) (-1) (-1) < roomW v 1 N (nI i) (-1) (-1) ∨ roomW v 1 N (nI p) (-1) (-1) = roomW v 1 N (nI i) (-1) (-1) ∧ p ≤ i)) → J γ mL_isPlace (rmD 33 1 6) (fEv γ 1 6 (fun r K => r = some (.int 1) ∧ Rp γ v K)) 1 6 42 [some (.ref (gz γ + 0)), some (.int z), some (.int w), some (.int pl), some (.int 1), some (.int (nI 0)), none] [] (Rp γ v) := by
    intro pl hpl
    refine J.for (μ := mL_isPlace) (hd := 42) (Lf := fun i => [some (.ref (gz γ + 0)), some (.int z), some (.int w), some (.int pl), some (.int 1), some (.int (nI i)), none]) (Pf := fun _ => Rp γ v) M ?_ (fun i hi ih => ?_)
    · refine J.iload (μ := mL_isPlace) (pc := 42) dL_isPlace_42 rfl ?_
      refine J.if_eq (μ := mL_isPlace) (pc := 44) 142 dL_isPlace_44 (by decide) (fun h1 => ?_) (fun h1 => ?_)
      · exact absurd h1 (by decide)
      · refine J.iload (μ := mL_isPlace) (pc := 47) dL_isPlace_47 rfl ?_
        refine J.aload_n (μ := mL_isPlace) (pc := 49) dL_isPlace_49 rfl ?_
        refine J.cV (μ := mL_isPlace) (pc := 50) (s_X11_shelfCount) rfl wm_L_193 mi_X11_shelfCount rfl dL_isPlace_50 (Rp.isa (T := TX11) rfl sh0) rfl rfl ⟨(Nat.le_of_ble_eq_true rfl), (Nat.le_of_ble_eq_true rfl)⟩ ⟨(Nat.le_of_ble_eq_true rfl), (Nat.le_of_ble_eq_true rfl)⟩ (Nat.le_of_ble_eq_true rfl) ?_
        rw [h.vM]
        refine J.icmp_ge (μ := mL_isPlace) (pc := 53) 142 dL_isPlace_53 (by decide) (fun h2 => ?_) (fun h2 => ?_)
        · refine J.iload (μ := mL_isPlace) (pc := 142) dL_isPlace_142 rfl ?_
          exact J.zret (μ := mL_isPlace) (pc := 144) dL_isPlace_144 rfl rfl (Nat.le_of_ble_eq_true rfl) (Nat.le_of_ble_eq_true rfl) (fun H h => ⟨rfl, h⟩)
        · exact (Int32.lt_irrefl h2).elim
    · have hl : hasS v 1 (nI i) := h.hsS.mpr ⟨i, hi, rfl⟩
      have t129 : ∀ x6, J γ mL_isPlace (rmD 33 1 6) (fEv γ 1 6 (fun r K => r = some (.int 1) ∧ Rp γ v K)) 1 6 129 [some (.ref (gz γ + 0)), some (.int z), some (.int w), some (.int pl), some (.int 1), some (.int (nI i)), x6] [] (Rp γ v) := by
        intro x6
        refine J.iconst (μ := mL_isPlace) (pc := 129) (v := 1) dL_isPlace_129 (by decide) ?_
        refine J.goto (μ := mL_isPlace) (pc := 130) 134 dL_isPlace_130 (by decide) ?_
        refine J.istore (μ := mL_isPlace) (pc := 134) dL_isPlace_134 (Nat.le_of_ble_eq_true rfl) rfl ?_
        refine J.iinc (μ := mL_isPlace) (pc := 136) (v := 1) dL_isPlace_136 rfl (by decide) (Nat.le_of_ble_eq_true rfl) rfl ?_
        refine J.goto (μ := mL_isPlace) (pc := 139) 42 dL_isPlace_139 (by decide) ?_
        refine J.sub ?_ ih
        exact ⟨rfl, rfl, rfl, rfl, rfl, by rw [nI_1], trivial⟩
      have t80 : J γ mL_isPlace (rmD 33 1 6) (fEv γ 1 6 (fun r K => r = some (.int 1) ∧ Rp γ v K)) 1 6 80 [some (.ref (gz γ + 0)), some (.int z), some (.int w), some (.int pl), some (.int 1), some (.int (nI i)), none] [] (Rp γ v) := by
        refine J.iconst (μ := mL_isPlace) (pc := 80) (v := 0) dL_isPlace_80 (by decide) ?_
        refine J.istore (μ := mL_isPlace) (pc := 81) dL_isPlace_81 (Nat.le_of_ble_eq_true rfl) rfl ?_
        refine J.iload (μ := mL_isPlace) (pc := 83) dL_isPlace_83 rfl ?_
        refine J.if_eq (μ := mL_isPlace) (pc := 85) 129 dL_isPlace_85 (by decide) (fun h1 => ?_) (fun h1 => ?_)
        · exact t129 _
        · exact absurd rfl h1
      refine J.iload (μ := mL_isPlace) (pc := 42) dL_isPlace_42 rfl ?_
      refine J.if_eq (μ := mL_isPlace) (pc := 44) 142 dL_isPlace_44 (by decide) (fun h1 => ?_) (fun h1 => ?_)
      · exact absurd h1 (by decide)
      · refine J.iload (μ := mL_isPlace) (pc := 47) dL_isPlace_47 rfl ?_
        refine J.aload_n (μ := mL_isPlace) (pc := 49) dL_isPlace_49 rfl ?_
        refine J.cV (μ := mL_isPlace) (pc := 50) (s_X11_shelfCount) rfl wm_L_193 mi_X11_shelfCount rfl dL_isPlace_50 (Rp.isa (T := TX11) rfl sh0) rfl rfl ⟨(Nat.le_of_ble_eq_true rfl), (Nat.le_of_ble_eq_true rfl)⟩ ⟨(Nat.le_of_ble_eq_true rfl), (Nat.le_of_ble_eq_true rfl)⟩ (Nat.le_of_ble_eq_true rfl) ?_
        rw [h.vM]
        refine J.icmp_ge (μ := mL_isPlace) (pc := 53) 142 dL_isPlace_53 (by decide) (fun h2 => ?_) (fun h2 => ?_)
        · exact absurd h2 (nI_ge hi (by omega))
        · refine J.aload_n (μ := mL_isPlace) (pc := 56) dL_isPlace_56 rfl ?_
          refine J.iload (μ := mL_isPlace) (pc := 57) dL_isPlace_57 rfl ?_
          refine J.cV (μ := mL_isPlace) (pc := 59) (s_X11_zoneOf hl) rfl wm_L_198 mi_X11_zoneOf rfl dL_isPlace_59 (Rp.isa (T := TX11) rfl sh0) rfl rfl ⟨(Nat.le_of_ble_eq_true rfl), (Nat.le_of_ble_eq_true rfl)⟩ ⟨(Nat.le_of_ble_eq_true rfl), (Nat.le_of_ble_eq_true rfl)⟩ (Nat.le_of_ble_eq_true rfl) ?_
          refine J.iload_n (μ := mL_isPlace) (pc := 62) dL_isPlace_62 rfl ?_
          refine J.icmp_ne (μ := mL_isPlace) (pc := 63) 80 dL_isPlace_63 (by decide) (fun h3 => ?_) (fun h3 => ?_)
          · exact t80
          · have h3 : gZn v 1 (nI i) = z := by first | exact h3 | exact Classical.not_not.mp h3
            refine J.aload_n (μ := mL_isPlace) (pc := 66) dL_isPlace_66 rfl ?_
            refine J.iload (μ := mL_isPlace) (pc := 67) dL_isPlace_67 rfl ?_
            refine J.cV (μ := mL_isPlace) (pc := 69) (s_X11_roomOf h.vN h20 hl) rfl wm_L_201 mi_X11_roomOf rfl dL_isPlace_69 (Rp.isa (T := TX11) rfl sh0) rfl rfl ⟨(Nat.le_of_ble_eq_true rfl), (Nat.le_of_ble_eq_true rfl)⟩ ⟨(Nat.le_of_ble_eq_true rfl), (Nat.le_of_ble_eq_true rfl)⟩ (Nat.le_of_ble_eq_true rfl) ?_
            refine J.iload_n (μ := mL_isPlace) (pc := 72) dL_isPlace_72 rfl ?_
            refine J.icmp_lt (μ := mL_isPlace) (pc := 73) 80 dL_isPlace_73 (by decide) (fun h4 => ?_) (fun h4 => ?_)
            · exact t80
            · have h4 : w ≤ roomW v 1 N (nI i) (-1) (-1) := by first | exact h4 | exact Int32.not_lt.mp h4
              obtain ⟨p, hp1, rfl, hp2⟩ := hpl i hi h3 h4
              have hlp : hasS v 1 (nI p) := h.hsS.mpr ⟨p, hp1, rfl⟩
              refine J.iconst (μ := mL_isPlace) (pc := 76) (v := 1) dL_isPlace_76 (by decide) ?_
              refine J.goto (μ := mL_isPlace) (pc := 77) 81 dL_isPlace_77 (by decide) ?_
              refine J.istore (μ := mL_isPlace) (pc := 81) dL_isPlace_81 (Nat.le_of_ble_eq_true rfl) rfl ?_
              refine J.iload (μ := mL_isPlace) (pc := 83) dL_isPlace_83 rfl ?_
              refine J.if_eq (μ := mL_isPlace) (pc := 85) 129 dL_isPlace_85 (by decide) (fun h5 => ?_) (fun h5 => ?_)
              · exact absurd h5 (by decide)
              · refine J.iload_n (μ := mL_isPlace) (pc := 88) dL_isPlace_88 rfl ?_
                refine J.sipush (μ := mL_isPlace) (pc := 89) (v := -1000) dL_isPlace_89 (by decide) ?_
                refine J.icmp_eq (μ := mL_isPlace) (pc := 92) 133 dL_isPlace_92 (by decide) (fun h6 => ?_) (fun h6 => ?_)
                · exact absurd h6 (fun q => by
                    rw [t_eq, t_nI (by omega)] at q
                    have : (-1000 : Int32).toInt = -1000 := by decide
                    omega)
                · refine J.aload_n (μ := mL_isPlace) (pc := 95) dL_isPlace_95 rfl ?_
                  refine J.iload (μ := mL_isPlace) (pc := 96) dL_isPlace_96 rfl ?_
                  refine J.cV (μ := mL_isPlace) (pc := 98) (s_X11_roomOf h.vN h20 hl) rfl wm_L_201 mi_X11_roomOf rfl dL_isPlace_98 (Rp.isa (T := TX11) rfl sh0) rfl rfl ⟨(Nat.le_of_ble_eq_true rfl), (Nat.le_of_ble_eq_true rfl)⟩ ⟨(Nat.le_of_ble_eq_true rfl), (Nat.le_of_ble_eq_true rfl)⟩ (Nat.le_of_ble_eq_true rfl) ?_
                  refine J.aload_n (μ := mL_isPlace) (pc := 101) dL_isPlace_101 rfl ?_
                  refine J.iload_n (μ := mL_isPlace) (pc := 102) dL_isPlace_102 rfl ?_
                  refine J.cV (μ := mL_isPlace) (pc := 103) (s_X11_roomOf h.vN h20 hlp) rfl wm_L_201 mi_X11_roomOf rfl dL_isPlace_103 (Rp.isa (T := TX11) rfl sh0) rfl rfl ⟨(Nat.le_of_ble_eq_true rfl), (Nat.le_of_ble_eq_true rfl)⟩ ⟨(Nat.le_of_ble_eq_true rfl), (Nat.le_of_ble_eq_true rfl)⟩ (Nat.le_of_ble_eq_true rfl) ?_
                  refine J.icmp_gt (μ := mL_isPlace) (pc := 106) 129 dL_isPlace_106 (by decide) (fun h7 => ?_) (fun h7 => ?_)
                  · exact t129 _
                  · have h7b : roomW v 1 N (nI p) (-1) (-1) = roomW v 1 N (nI i) (-1) (-1) ∧ p ≤ i := hp2.resolve_left (fun q => by first | exact h7 q | exact absurd q (Int32.not_lt.mpr h7))
                    refine J.aload_n (μ := mL_isPlace) (pc := 109) dL_isPlace_109 rfl ?_
                    refine J.iload (μ := mL_isPlace) (pc := 110) dL_isPlace_110 rfl ?_
                    refine J.cV (μ := mL_isPlace) (pc := 112) (s_X11_roomOf h.vN h20 hl) rfl wm_L_201 mi_X11_roomOf rfl dL_isPlace_112 (Rp.isa (T := TX11) rfl sh0) rfl rfl ⟨(Nat.le_of_ble_eq_true rfl), (Nat.le_of_ble_eq_true rfl)⟩ ⟨(Nat.le_of_ble_eq_true rfl), (Nat.le_of_ble_eq_true rfl)⟩ (Nat.le_of_ble_eq_true rfl) ?_
                    refine J.aload_n (μ := mL_isPlace) (pc := 115) dL_isPlace_115 rfl ?_
                    refine J.iload_n (μ := mL_isPlace) (pc := 116) dL_isPlace_116 rfl ?_
                    refine J.cV (μ := mL_isPlace) (pc := 117) (s_X11_roomOf h.vN h20 hlp) rfl wm_L_201 mi_X11_roomOf rfl dL_isPlace_117 (Rp.isa (T := TX11) rfl sh0) rfl rfl ⟨(Nat.le_of_ble_eq_true rfl), (Nat.le_of_ble_eq_true rfl)⟩ ⟨(Nat.le_of_ble_eq_true rfl), (Nat.le_of_ble_eq_true rfl)⟩ (Nat.le_of_ble_eq_true rfl) ?_
                    refine J.icmp_ne (μ := mL_isPlace) (pc := 120) 133 dL_isPlace_120 (by decide) (fun h8b => ?_) (fun h8b => ?_)
                    · exact absurd h7b.1.symm h8b
                    · refine J.iload (μ := mL_isPlace) (pc := 123) dL_isPlace_123 rfl ?_
                      refine J.iload_n (μ := mL_isPlace) (pc := 125) dL_isPlace_125 rfl ?_
                      refine J.icmp_lt (μ := mL_isPlace) (pc := 126) 133 dL_isPlace_126 (by decide) (fun h9 => ?_) (fun h9 => ?_)
                      · exact absurd h9 (nI_nlt_of h7b.2 (by omega))
                      · exact t129 _
  refine J.aload_n (μ := mL_isPlace) (pc := 0) dL_isPlace_0 rfl ?_
  refine J.iload_n (μ := mL_isPlace) (pc := 1) dL_isPlace_1 rfl ?_
  refine J.iload_n (μ := mL_isPlace) (pc := 2) dL_isPlace_2 rfl ?_
  refine J.callSW (μ := mL_isPlace) (pc := 3) (l_shelfFor h.vN h20 h.vM h8 hz hw) rfl wm_L_235 mi_L_shelfFor (fun h => by cases h) dL_isPlace_3 rfl rfl ⟨(Nat.le_of_ble_eq_true rfl), (Nat.le_of_ble_eq_true rfl)⟩ ⟨(Nat.le_of_ble_eq_true rfl), (Nat.le_of_ble_eq_true rfl)⟩ (Nat.le_of_ble_eq_true rfl) (fun r => J.and (fun e => ?_))
  subst e
  rcases hp with ⟨p0, p1⟩ | ⟨p, p1, p2, p3, p4⟩
  · rw [p0, nz_n (by decide)]
    refine J.istore_n (μ := mL_isPlace) (pc := 6) dL_isPlace_6 (Nat.le_of_ble_eq_true rfl) rfl ?_
    refine J.iload_n (μ := mL_isPlace) (pc := 7) dL_isPlace_7 rfl ?_
    refine J.sipush (μ := mL_isPlace) (pc := 8) (v := -1000) dL_isPlace_8 (by decide) ?_
    refine J.icmp_eq (μ := mL_isPlace) (pc := 11) 32 dL_isPlace_11 (by decide) (fun h1 => ?_) (fun h1 => ?_)
    · refine J.iconst (μ := mL_isPlace) (pc := 32) (v := 1) dL_isPlace_32 (by decide) ?_
      refine J.goto (μ := mL_isPlace) (pc := 33) 37 dL_isPlace_33 (by decide) ?_
      refine J.istore (μ := mL_isPlace) (pc := 37) dL_isPlace_37 (Nat.le_of_ble_eq_true rfl) rfl ?_
      refine J.iconst (μ := mL_isPlace) (pc := 39) (v := 0) dL_isPlace_39 (by decide) ?_
      refine J.istore (μ := mL_isPlace) (pc := 40) dL_isPlace_40 (Nat.le_of_ble_eq_true rfl) rfl ?_
      refine J.sub ?_ (loop (-1000) (fun i hi q1 q2 => absurd ((hf i hi).mpr ⟨q1, q2⟩) (p1 i hi)))
      exact ⟨rfl, rfl, rfl, rfl, rfl, rfl, trivial⟩
    · exact absurd rfl h1
  · have hlp : hasS v 1 (nI p) := h.hsS.mpr ⟨p, p1, rfl⟩
    obtain ⟨q1, q2⟩ := (hf p p1).mp p3
    rw [show (pfs v 1 N z w (-1) (-1) M).1 = nI p by rw [p2], nz_p (nI_pos (by omega))]
    have fin : J γ mL_isPlace (rmD 33 1 6) (fEv γ 1 6 (fun r K => r = some (.int 1) ∧ Rp γ v K)) 1 6 32 [some (.ref (gz γ + 0)), some (.int z), some (.int w), some (.int (nI p)), none, none, none] [] (Rp γ v) := by
      refine J.iconst (μ := mL_isPlace) (pc := 32) (v := 1) dL_isPlace_32 (by decide) ?_
      refine J.goto (μ := mL_isPlace) (pc := 33) 37 dL_isPlace_33 (by decide) ?_
      refine J.istore (μ := mL_isPlace) (pc := 37) dL_isPlace_37 (Nat.le_of_ble_eq_true rfl) rfl ?_
      refine J.iconst (μ := mL_isPlace) (pc := 39) (v := 0) dL_isPlace_39 (by decide) ?_
      refine J.istore (μ := mL_isPlace) (pc := 40) dL_isPlace_40 (Nat.le_of_ble_eq_true rfl) rfl ?_
      refine J.sub ?_ (loop (nI p) (fun i hi r1 r2 => ⟨p, p1, rfl, by
        have := p4 i hi ((hf i hi).mpr ⟨r1, r2⟩)
        rw [← rw0 p p1, ← rw0 i hi] at this
        rw [t_lt, t_eq]; exact this⟩))
      exact ⟨rfl, rfl, rfl, rfl, rfl, rfl, trivial⟩
    refine J.istore_n (μ := mL_isPlace) (pc := 6) dL_isPlace_6 (Nat.le_of_ble_eq_true rfl) rfl ?_
    refine J.iload_n (μ := mL_isPlace) (pc := 7) dL_isPlace_7 rfl ?_
    refine J.sipush (μ := mL_isPlace) (pc := 8) (v := -1000) dL_isPlace_8 (by decide) ?_
    refine J.icmp_eq (μ := mL_isPlace) (pc := 11) 32 dL_isPlace_11 (by decide) (fun h1 => ?_) (fun h1 => ?_)
    · exact fin
    · refine J.aload_n (μ := mL_isPlace) (pc := 14) dL_isPlace_14 rfl ?_
      refine J.iload_n (μ := mL_isPlace) (pc := 15) dL_isPlace_15 rfl ?_
      refine J.cV (μ := mL_isPlace) (pc := 16) (s_X11_zoneOf hlp) rfl wm_L_198 mi_X11_zoneOf rfl dL_isPlace_16 (Rp.isa (T := TX11) rfl sh0) rfl rfl ⟨(Nat.le_of_ble_eq_true rfl), (Nat.le_of_ble_eq_true rfl)⟩ ⟨(Nat.le_of_ble_eq_true rfl), (Nat.le_of_ble_eq_true rfl)⟩ (Nat.le_of_ble_eq_true rfl) ?_
      refine J.iload_n (μ := mL_isPlace) (pc := 19) dL_isPlace_19 rfl ?_
      refine J.icmp_ne (μ := mL_isPlace) (pc := 20) 36 dL_isPlace_20 (by decide) (fun h2 => ?_) (fun h2 => ?_)
      · exact absurd q1 h2
      · refine J.aload_n (μ := mL_isPlace) (pc := 23) dL_isPlace_23 rfl ?_
        refine J.iload_n (μ := mL_isPlace) (pc := 24) dL_isPlace_24 rfl ?_
        refine J.cV (μ := mL_isPlace) (pc := 25) (s_X11_roomOf h.vN h20 hlp) rfl wm_L_201 mi_X11_roomOf rfl dL_isPlace_25 (Rp.isa (T := TX11) rfl sh0) rfl rfl ⟨(Nat.le_of_ble_eq_true rfl), (Nat.le_of_ble_eq_true rfl)⟩ ⟨(Nat.le_of_ble_eq_true rfl), (Nat.le_of_ble_eq_true rfl)⟩ (Nat.le_of_ble_eq_true rfl) ?_
        refine J.iload_n (μ := mL_isPlace) (pc := 28) dL_isPlace_28 rfl ?_
        refine J.icmp_lt (μ := mL_isPlace) (pc := 29) 36 dL_isPlace_29 (by decide) (fun h3 => ?_) (fun h3 => ?_)
        · exact absurd h3 (by first | exact Int32.not_lt.mpr q2 | exact fun q => absurd q2 (Int32.not_le.mpr q))
        · exact fin
