/-! texts are executed -/
/-- what running a text on the draft may change -/
def Dr (v u : Vs) : Prop := (∀ k, k ≠ 0 → k ≠ 289 → k ≠ 302 → k ≠ 306 → (k < 27 ∨ 53 ≤ k) → u k = v k) ∧ u 302 2 = v 302 2 ∧ ∀ j, j < 10 → u 0 j = v 0 j
theorem Dr.tq {v u w : Vs} (h : Dr v u) (q : tq u w) : Dr v w := ⟨fun k h1 h2 h3 h4 h5 => (q.1 k h3 h4).trans (h.1 k h1 h2 h3 h4 h5), q.2.trans h.2.1, fun j hj => by rw [q.1 0 (by decide) (by decide)]; exact h.2.2 j hj⟩
theorem Dr.out {v u w : Vs} (h : Dr v u) (q : Out u w 27) : Dr v w := ⟨fun k h1 h2 h3 h4 h5 => (q k (by omega)).trans (h.1 k h1 h2 h3 h4 h5), by rw [q 302 (by omega)]; exact h.2.1, fun j hj => by rw [q 0 (by omega)]; exact h.2.2 j hj⟩
theorem Dr.copy {v : Vs} : Dr v (cpR v 27 1 26) := ⟨fun k _ _ _ _ h => by unfold cpR; rw [if_neg (by omega)], by unfold cpR; rw [if_neg (by decide)], fun j _ => by unfold cpR; rw [if_neg (by decide)]⟩
theorem Dr.tx {v u : Vs} {t : List Nat} (h : Dr v u) (ht : tx v t) : tx u t := ⟨h.2.1.trans ht.1, ht.2.1, fun j hj => by rw [h.1 304 (by decide) (by decide) (by decide) (by decide) (by decide)]; exact ht.2.2.1 j hj, ht.2.2.2⟩
theorem Dr.deny {v u w : Vs} {x y z : Int32} (h : Dr v u) (q : ∀ k, k ≠ 289 → w k = u k) : Dr v (kdV w x y z) := by
  have hk : ∀ k, k ≠ 0 → kdV w x y z k = w k := fun k hk => by unfold kdV; rw [up2_o _ _ _ hk, up2_o _ _ _ hk, up2_o _ _ _ hk]
  refine ⟨fun k h1 h2 h3 h4 h5 => by rw [hk k h1, q k h2]; exact h.1 k h1 h2 h3 h4 h5, by rw [hk 302 (by decide), q 302 (by decide)]; exact h.2.1, fun j hj => ?_⟩
  unfold kdV
  rw [up2_sn (by omega), up2_sn (by omega), up2_sn (by omega), q 0 (by decide)]
  exact h.2.2 j hj
theorem pz_ne {t : List Nat} {f s : Nat} {l : List (Nat × List Nat)} (h : pz t f s = some l) : ∃ f', f = f' + 1 ∧ (rd t s).1 = true ∧ (((rd t s).2.1 = t.length ∧ l.length = 1) ∨ ((rd t s).2.1 < t.length ∧ ∃ l', pz t f' ((rd t s).2.1 + 1) = some l' ∧ l.length = l'.length + 1)) := by
  cases f with
  | zero => exact absurd h (by simp [pz])
  | succ f =>
    refine ⟨f, rfl, ?_⟩
    rw [pz] at h
    by_cases q : (rd t s).1 = true
    · rw [if_pos q] at h
      refine ⟨q, ?_⟩
      by_cases q2 : (rd t s).2.1 = t.length
      · rw [if_pos q2] at h
        refine .inl ⟨q2, ?_⟩
        rw [← Option.some.inj h]; rfl
      · rw [if_neg q2] at h
        by_cases q3 : (rd t s).2.1 < t.length ∧ t.getD (rd t s).2.1 0 = 59
        · rw [if_pos q3] at h
          refine .inr ⟨q3.1, ?_⟩
          cases hz : pz t f ((rd t s).2.1 + 1) with
          | none => rw [hz] at h; exact absurd h (by simp)
          | some l' =>
            rw [hz] at h
            exact ⟨l', rfl, by rw [← Option.some.inj h]; rfl⟩
        · rw [if_neg q3] at h; exact absurd h (by simp)
    · rw [if_neg q] at h; exact absurd h (by simp)
theorem pz_len {t : List Nat} : ∀ {f s : Nat} {l : List (Nat × List Nat)}, pz t f s = some l → l.length ≤ f
  | 0, _, _, h => absurd h (by simp [pz])
  | f + 1, s, l, h => by
    obtain ⟨f', hf, -, hn⟩ := pz_ne h
    have hf : f' = f := by omega
    subst hf
    rcases hn with ⟨-, hn⟩ | ⟨-, l2, h2, hn⟩
    · omega
    · have := pz_len h2
      omega
theorem s_X11_runOnDraft {γ : Gm} {v : Vs} {t : List Nat} (ht : tx v t) {l : List (Nat × List Nat)} (hl : pz t 60 0 = some l) {T : Nat} (hT : T ≤ 900000000) (hS : SI T v 1) : Ev γ mX11_runOnDraft yX11_runOnDraft 28 0 0 [.ref (gz γ + 0), .int (nI l.length)] (Rp γ v) (fun w K => ∃ (b : Bool) (u : Vs), w = some (.int (bi b)) ∧ (Dr v u ∧ (b = true → SI (T + 5940) u 27) ∧ (b = false → u 0 10 = 8 ∧ 0 < u 0 12)) ∧ Rp γ u K) := by
  refine Ev.ofJ (by decide) rfl (fun h => by cases h) (Nat.le_of_ble_eq_true rfl) ?_
  have exit : ∀ (u : Vs) (s i : Nat), i = l.length → i ≤ 60 → Dr v u → SI (T + 5940) u 27 → J γ mX11_runOnDraft (rmD 28 0 0) (fEv γ 0 0 (fun w K => ∃ (b : Bool) (u : Vs), w = some (.int (bi b)) ∧ (Dr v u ∧ (b = true → SI (T + 5940) u 27) ∧ (b = false → u 0 10 = 8 ∧ 0 < u 0 12)) ∧ Rp γ u K)) 0 0 15 [some (.ref (gz γ + 0)), some (.int (nI l.length)), some (.int (nI s)), some (.int (nI i)), none, none] [] (Rp γ u) := by
    intro u s i hi hi60 hd hs
    subst hi
    refine J.iload_n (μ := mX11_runOnDraft) (pc := 15) dX11_runOnDraft_15 rfl ?_
    refine J.iload_n (μ := mX11_runOnDraft) (pc := 16) dX11_runOnDraft_16 rfl ?_
    refine J.icmp_ge (μ := mX11_runOnDraft) (pc := 17) 163 dX11_runOnDraft_17 (by decide) (fun h1 => ?_) (fun h1 => ?_)
    · refine J.iconst (μ := mX11_runOnDraft) (pc := 163) (v := 1) dX11_runOnDraft_163 (by decide) ?_
      exact J.zret (μ := mX11_runOnDraft) (pc := 164) dX11_runOnDraft_164 rfl rfl (Nat.le_of_ble_eq_true rfl) (Nat.le_of_ble_eq_true rfl) (fun K k => ⟨true, u, rfl, ⟨hd, fun _ => hs, fun q => absurd q (by decide)⟩, k⟩)
    · exact (Int32.lt_irrefl h1).elim
  have key : ∀ (f i s : Nat) (u : Vs) (l' : List (Nat × List Nat)), i + f = 60 → s ≤ t.length → Dr v u → SI (T + 99 * i) u 27 → pz t f s = some l' → l'.length + i = l.length → J γ mX11_runOnDraft (rmD 28 0 0) (fEv γ 0 0 (fun w K => ∃ (b : Bool) (u : Vs), w = some (.int (bi b)) ∧ (Dr v u ∧ (b = true → SI (T + 5940) u 27) ∧ (b = false → u 0 10 = 8 ∧ 0 < u 0 12)) ∧ Rp γ u K)) 0 0 15 [some (.ref (gz γ + 0)), some (.int (nI l.length)), some (.int (nI s)), some (.int (nI i)), none, none] [] (Rp γ u) := by
    intro f
    induction f with
    | zero =>
      intro i s u l' _ _ _ _ hp
      exact absurd hp (by simp [pz])
    | succ f ih =>
      intro i s u l' hif hs hd hS2 hp hlen
      obtain ⟨f', hf', hr, hn⟩ := pz_ne hp
      have hf' : f' = f := by omega
      subst hf'
      have hl1 : 1 ≤ l'.length := by rcases hn with ⟨-, h⟩ | ⟨-, l2, -, h⟩ <;> omega
      have hle := rdF_le hs 10 0 s hs
      have h60 := ht.2.1
      have hl60 := pz_len hl
      refine J.iload_n (μ := mX11_runOnDraft) (pc := 15) dX11_runOnDraft_15 rfl ?_
      refine J.iload_n (μ := mX11_runOnDraft) (pc := 16) dX11_runOnDraft_16 rfl ?_
      refine J.icmp_ge (μ := mX11_runOnDraft) (pc := 17) 163 dX11_runOnDraft_17 (by decide) (fun h1 => ?_) (fun h1 => ?_)
      · exact absurd h1 (nI_ge (by omega) (by omega))
      · refine J.aload_n (μ := mX11_runOnDraft) (pc := 20) dX11_runOnDraft_20 rfl ?_
        refine J.gr (μ := mX11_runOnDraft) (pc := 21) (T := TX11) (ci := 14) (fks := _) rfl rfl in_X11 7 (by decide) wf_X11_53 dX11_runOnDraft_21 sh0 rfl ?_
        refine J.iload_n (μ := mX11_runOnDraft) (pc := 24) dX11_runOnDraft_24 rfl ?_
        refine J.callV (μ := mX11_runOnDraft) (pc := 25) (s_X10_read (hd.tx ht) hs) rfl wm_X11_352 mi_X10_read rfl dX11_runOnDraft_25 (Rp.isa (T := TX10) rfl sh302) rfl rfl ⟨(Nat.le_of_ble_eq_true rfl), (Nat.le_of_ble_eq_true rfl)⟩ ⟨(Nat.le_of_ble_eq_true rfl), (Nat.le_of_ble_eq_true rfl)⟩ (Nat.le_of_ble_eq_true rfl) (fun w => J.and fun e => ?_)
        subst e
        refine J.ex fun u2 => J.and fun hu => ?_
        have hd2 := hd.tq hu.1
        obtain ⟨N, M, H, hI⟩ := hS2.sq (w := u2) (o := 27) (fun c hc => hu.1.1 _ (by omega) (by omega))
        have hH := hI.H20
        have h20 := hI.1.1.2
        refine J.pop (μ := mX11_runOnDraft) (pc := 28) dX11_runOnDraft_28 rfl ?_
        refine J.aload_n (μ := mX11_runOnDraft) (pc := 29) dX11_runOnDraft_29 rfl ?_
        refine J.gr (μ := mX11_runOnDraft) (pc := 30) (T := TX11) (ci := 14) (fks := _) rfl rfl in_X11 7 (by decide) wf_X11_53 dX11_runOnDraft_30 sh0 rfl ?_
        refine J.gr (μ := mX11_runOnDraft) (pc := 33) (T := TX10) (ci := 13) (fks := _) rfl rfl in_X10 1 (by decide) wf_X11_355 dX11_runOnDraft_33 sh302 rfl ?_
        refine J.astore (μ := mX11_runOnDraft) (pc := 36) dX11_runOnDraft_36 (Nat.le_of_ble_eq_true rfl) rfl ?_
        refine J.aload_n (μ := mX11_runOnDraft) (pc := 38) dX11_runOnDraft_38 rfl ?_
        refine J.gr (μ := mX11_runOnDraft) (pc := 39) (T := TX11) (ci := 14) (fks := _) rfl rfl in_X11 4 (by decide) wf_X11_32 dX11_runOnDraft_39 sh0 rfl ?_
        refine J.aload_n (μ := mX11_runOnDraft) (pc := 42) dX11_runOnDraft_42 rfl ?_
        refine J.gr (μ := mX11_runOnDraft) (pc := 43) (T := TX11) (ci := 14) (fks := _) rfl rfl in_X11 1 (by decide) wf_X11_16 dX11_runOnDraft_43 sh0 rfl ?_
        refine J.aload_n (μ := mX11_runOnDraft) (pc := 46) dX11_runOnDraft_46 rfl ?_
        refine J.gr (μ := mX11_runOnDraft) (pc := 47) (T := TX11) (ci := 14) (fks := _) rfl rfl in_X11 7 (by decide) wf_X11_53 dX11_runOnDraft_47 sh0 rfl ?_
        refine J.gi (μ := mX11_runOnDraft) (pc := 50) (T := TX10) (ci := 13) (fks := _) rfl rfl in_X10 4 (by decide) wf_X11_358 dX11_runOnDraft_50 sh302 rfl ?_
        refine J.aload (μ := mX11_runOnDraft) (pc := 53) dX11_runOnDraft_53 rfl ?_
        refine J.iconst (μ := mX11_runOnDraft) (pc := 55) (v := 0) dX11_runOnDraft_55 (by decide) ?_
        refine J.cV (μ := mX11_runOnDraft) (pc := 56) (s_X7_get row305 _) rfl wm_X11_99 mi_X7_get rfl dX11_runOnDraft_56 (Rp.isa (T := TX7) rfl row305.1) rfl rfl ⟨(Nat.le_of_ble_eq_true rfl), (Nat.le_of_ble_eq_true rfl)⟩ ⟨(Nat.le_of_ble_eq_true rfl), (Nat.le_of_ble_eq_true rfl)⟩ (Nat.le_of_ble_eq_true rfl) ?_
        refine J.aload (μ := mX11_runOnDraft) (pc := 59) dX11_runOnDraft_59 rfl ?_
        refine J.iconst (μ := mX11_runOnDraft) (pc := 61) (v := 1) dX11_runOnDraft_61 (by decide) ?_
        refine J.cV (μ := mX11_runOnDraft) (pc := 62) (s_X7_get row305 _) rfl wm_X11_99 mi_X7_get rfl dX11_runOnDraft_62 (Rp.isa (T := TX7) rfl row305.1) rfl rfl ⟨(Nat.le_of_ble_eq_true rfl), (Nat.le_of_ble_eq_true rfl)⟩ ⟨(Nat.le_of_ble_eq_true rfl), (Nat.le_of_ble_eq_true rfl)⟩ (Nat.le_of_ble_eq_true rfl) ?_
        refine J.aload (μ := mX11_runOnDraft) (pc := 65) dX11_runOnDraft_65 rfl ?_
        refine J.iconst (μ := mX11_runOnDraft) (pc := 67) (v := 2) dX11_runOnDraft_67 (by decide) ?_
        refine J.cV (μ := mX11_runOnDraft) (pc := 68) (s_X7_get row305 _) rfl wm_X11_99 mi_X7_get rfl dX11_runOnDraft_68 (Rp.isa (T := TX7) rfl row305.1) rfl rfl ⟨(Nat.le_of_ble_eq_true rfl), (Nat.le_of_ble_eq_true rfl)⟩ ⟨(Nat.le_of_ble_eq_true rfl), (Nat.le_of_ble_eq_true rfl)⟩ (Nat.le_of_ble_eq_true rfl) ?_
        refine J.aload (μ := mX11_runOnDraft) (pc := 71) dX11_runOnDraft_71 rfl ?_
        refine J.iconst (μ := mX11_runOnDraft) (pc := 73) (v := 3) dX11_runOnDraft_73 (by decide) ?_
        refine J.cV (μ := mX11_runOnDraft) (pc := 74) (s_X7_get row305 _) rfl wm_X11_99 mi_X7_get rfl dX11_runOnDraft_74 (Rp.isa (T := TX7) rfl row305.1) rfl rfl ⟨(Nat.le_of_ble_eq_true rfl), (Nat.le_of_ble_eq_true rfl)⟩ ⟨(Nat.le_of_ble_eq_true rfl), (Nat.le_of_ble_eq_true rfl)⟩ (Nat.le_of_ble_eq_true rfl) ?_
        refine J.cV (μ := mX11_runOnDraft) (pc := 77) (s_X3_verdict st27 hI.vN h20 hI.vM hI.1.2.1.2 _ _ _ _ _) rfl wm_X11_323 mi_X3_verdict rfl dX11_runOnDraft_77 (Rp.isa (T := TX3) rfl sh289) rfl rfl ⟨(Nat.le_of_ble_eq_true rfl), (Nat.le_of_ble_eq_true rfl)⟩ ⟨(Nat.le_of_ble_eq_true rfl), (Nat.le_of_ble_eq_true rfl)⟩ (Nat.le_of_ble_eq_true rfl) ?_
        refine J.istore (μ := mX11_runOnDraft) (pc := 80) dX11_runOnDraft_80 (Nat.le_of_ble_eq_true rfl) rfl ?_
        refine J.iload (μ := mX11_runOnDraft) (pc := 82) dX11_runOnDraft_82 rfl ?_
        refine J.if_eq (μ := mX11_runOnDraft) (pc := 84) 108 dX11_runOnDraft_84 (by decide) (fun h2 => ?_) (fun h2 => ?_)
        · rw [vdOf_0 h2]
          have hpf := hI.pf (by omega) h2
          refine J.aload_n (μ := mX11_runOnDraft) (pc := 108) dX11_runOnDraft_108 rfl ?_
          refine J.gr (μ := mX11_runOnDraft) (pc := 109) (T := TX11) (ci := 14) (fks := _) rfl rfl in_X11 1 (by decide) wf_X11_16 dX11_runOnDraft_109 sh0 rfl ?_
          refine J.aload_n (μ := mX11_runOnDraft) (pc := 112) dX11_runOnDraft_112 rfl ?_
          refine J.gr (μ := mX11_runOnDraft) (pc := 113) (T := TX11) (ci := 14) (fks := _) rfl rfl in_X11 7 (by decide) wf_X11_53 dX11_runOnDraft_113 sh0 rfl ?_
          refine J.gi (μ := mX11_runOnDraft) (pc := 116) (T := TX10) (ci := 13) (fks := _) rfl rfl in_X10 4 (by decide) wf_X11_358 dX11_runOnDraft_116 sh302 rfl ?_
          refine J.aload (μ := mX11_runOnDraft) (pc := 119) dX11_runOnDraft_119 rfl ?_
          refine J.iconst (μ := mX11_runOnDraft) (pc := 121) (v := 0) dX11_runOnDraft_121 (by decide) ?_
          refine J.cV (μ := mX11_runOnDraft) (pc := 122) (s_X7_get row305 _) rfl wm_X11_99 mi_X7_get rfl dX11_runOnDraft_122 (Rp.isa (T := TX7) rfl row305.1) rfl rfl ⟨(Nat.le_of_ble_eq_true rfl), (Nat.le_of_ble_eq_true rfl)⟩ ⟨(Nat.le_of_ble_eq_true rfl), (Nat.le_of_ble_eq_true rfl)⟩ (Nat.le_of_ble_eq_true rfl) ?_
          refine J.aload (μ := mX11_runOnDraft) (pc := 125) dX11_runOnDraft_125 rfl ?_
          refine J.iconst (μ := mX11_runOnDraft) (pc := 127) (v := 1) dX11_runOnDraft_127 (by decide) ?_
          refine J.cV (μ := mX11_runOnDraft) (pc := 128) (s_X7_get row305 _) rfl wm_X11_99 mi_X7_get rfl dX11_runOnDraft_128 (Rp.isa (T := TX7) rfl row305.1) rfl rfl ⟨(Nat.le_of_ble_eq_true rfl), (Nat.le_of_ble_eq_true rfl)⟩ ⟨(Nat.le_of_ble_eq_true rfl), (Nat.le_of_ble_eq_true rfl)⟩ (Nat.le_of_ble_eq_true rfl) ?_
          refine J.aload (μ := mX11_runOnDraft) (pc := 131) dX11_runOnDraft_131 rfl ?_
          refine J.iconst (μ := mX11_runOnDraft) (pc := 133) (v := 2) dX11_runOnDraft_133 (by decide) ?_
          refine J.cV (μ := mX11_runOnDraft) (pc := 134) (s_X7_get row305 _) rfl wm_X11_99 mi_X7_get rfl dX11_runOnDraft_134 (Rp.isa (T := TX7) rfl row305.1) rfl rfl ⟨(Nat.le_of_ble_eq_true rfl), (Nat.le_of_ble_eq_true rfl)⟩ ⟨(Nat.le_of_ble_eq_true rfl), (Nat.le_of_ble_eq_true rfl)⟩ (Nat.le_of_ble_eq_true rfl) ?_
          refine J.aload (μ := mX11_runOnDraft) (pc := 137) dX11_runOnDraft_137 rfl ?_
          refine J.iconst (μ := mX11_runOnDraft) (pc := 139) (v := 3) dX11_runOnDraft_139 (by decide) ?_
          refine J.cV (μ := mX11_runOnDraft) (pc := 140) (s_X7_get row305 _) rfl wm_X11_99 mi_X7_get rfl dX11_runOnDraft_140 (Rp.isa (T := TX7) rfl row305.1) rfl rfl ⟨(Nat.le_of_ble_eq_true rfl), (Nat.le_of_ble_eq_true rfl)⟩ ⟨(Nat.le_of_ble_eq_true rfl), (Nat.le_of_ble_eq_true rfl)⟩ (Nat.le_of_ble_eq_true rfl) ?_
          refine J.cS (μ := mX11_runOnDraft) (pc := 143) (s_X0_perform st27 hI.vN h20 hI.vM hI.1.2.1.2 hI.vH (by omega) _ _ _ _ _ hpf.2.2.2.1 hpf.2.2.2.2) rfl wm_X11_330 mi_X0_perform rfl dX11_runOnDraft_143 rfl rfl ⟨(Nat.le_of_ble_eq_true rfl), (Nat.le_of_ble_eq_true rfl)⟩ ⟨(Nat.le_of_ble_eq_true rfl), (Nat.le_of_ble_eq_true rfl)⟩ (Nat.le_of_ble_eq_true rfl) ?_
          generalize pfOf u2 27 N M H (u2 302 4) (rg (u2 306) 4 0) (rg (u2 306) 4 1) (rg (u2 306) 4 2) (rg (u2 306) 4 3) = r at hpf ⊢
          have hd3 := hd2.out hpf.2.1
          refine J.pop (μ := mX11_runOnDraft) (pc := 146) dX11_runOnDraft_146 rfl ?_
          refine J.aload_n (μ := mX11_runOnDraft) (pc := 147) dX11_runOnDraft_147 rfl ?_
          refine J.gr (μ := mX11_runOnDraft) (pc := 148) (T := TX11) (ci := 14) (fks := _) rfl rfl in_X11 7 (by decide) wf_X11_53 dX11_runOnDraft_148 sh0 rfl ?_
          refine J.gi (μ := mX11_runOnDraft) (pc := 151) (T := TX10) (ci := 13) (fks := _) rfl rfl in_X10 5 (by decide) wf_X11_361 dX11_runOnDraft_151 sh302 rfl ?_
          rw [hpf.2.1 302 (by omega), hu.2.1]
          refine J.iconst (μ := mX11_runOnDraft) (pc := 154) (v := 1) dX11_runOnDraft_154 (by decide) ?_
          refine J.iadd (μ := mX11_runOnDraft) (pc := 155) dX11_runOnDraft_155 ?_
          rw [nI_1]
          refine J.istore_n (μ := mX11_runOnDraft) (pc := 156) dX11_runOnDraft_156 (Nat.le_of_ble_eq_true rfl) rfl ?_
          refine J.iinc (μ := mX11_runOnDraft) (pc := 157) (v := 1) dX11_runOnDraft_157 rfl (by decide) (Nat.le_of_ble_eq_true rfl) rfl ?_
          refine J.goto (μ := mX11_runOnDraft) (pc := 160) 15 dX11_runOnDraft_160 (by decide) ?_
          have hS3 : SI (T + 99 * (i + 1)) r.2 27 := hpf.1.mono (by omega)
          rcases hn with ⟨hn1, hn2⟩ | ⟨hn1, l2, hn2, hn3⟩
          · refine J.sub ?_ (exit r.2 ((rd t s).2.1 + 1) (i + 1) (by omega) (by omega) hd3 (hS3.mono (by omega)))
            exact ⟨rfl, rfl, rfl, by rw [nI_1], trivial⟩
          · refine J.sub ?_ (ih (i + 1) ((rd t s).2.1 + 1) r.2 l2 (by omega) (by omega) hd3 hS3 hn2 (by omega))
            exact ⟨rfl, rfl, rfl, by rw [nI_1], trivial⟩
        · refine J.aload_n (μ := mX11_runOnDraft) (pc := 87) dX11_runOnDraft_87 rfl ?_
          refine J.bipush (μ := mX11_runOnDraft) (pc := 88) (v := 8) dX11_runOnDraft_88 (by decide) ?_
          refine J.iload_n (μ := mX11_runOnDraft) (pc := 90) dX11_runOnDraft_90 rfl ?_
          refine J.iload (μ := mX11_runOnDraft) (pc := 91) dX11_runOnDraft_91 rfl ?_
          refine J.if_le (μ := mX11_runOnDraft) (pc := 93) 101 dX11_runOnDraft_93 (by decide) (fun h3 => ?_) (fun h3 => ?_)
          · refine J.bipush (μ := mX11_runOnDraft) (pc := 101) (v := 9) dX11_runOnDraft_101 (by decide) ?_
            refine J.cV0 (μ := mX11_runOnDraft) (pc := 103) (s_X11_keepDenial _ _ _) rfl wm_X11_347 mi_X11_keepDenial rfl dX11_runOnDraft_103 (Rp.isa (T := TX11) rfl sh0) rfl rfl ⟨(Nat.le_of_ble_eq_true rfl), (Nat.le_of_ble_eq_true rfl)⟩ ⟨(Nat.le_of_ble_eq_true rfl), (Nat.le_of_ble_eq_true rfl)⟩ (Nat.le_of_ble_eq_true rfl) ?_
            refine J.iconst (μ := mX11_runOnDraft) (pc := 106) (v := 0) dX11_runOnDraft_106 (by decide) ?_
            exact J.zret (μ := mX11_runOnDraft) (pc := 107) dX11_runOnDraft_107 rfl rfl (Nat.le_of_ble_eq_true rfl) (Nat.le_of_ble_eq_true rfl) (fun K k => ⟨false, _, rfl, ⟨hd2.deny (fun k hk => vdOf_k hk), fun q => absurd q (by decide), fun _ => ⟨by unfold kdV; rw [up2_sn (by decide), up2_sn (by decide), up2_ss], by unfold kdV; rw [up2_ss]; decide⟩⟩, k⟩)
          · refine J.iload (μ := mX11_runOnDraft) (pc := 96) dX11_runOnDraft_96 rfl ?_
            refine J.goto (μ := mX11_runOnDraft) (pc := 98) 103 dX11_runOnDraft_98 (by decide) ?_
            refine J.cV0 (μ := mX11_runOnDraft) (pc := 103) (s_X11_keepDenial _ _ _) rfl wm_X11_347 mi_X11_keepDenial rfl dX11_runOnDraft_103 (Rp.isa (T := TX11) rfl sh0) rfl rfl ⟨(Nat.le_of_ble_eq_true rfl), (Nat.le_of_ble_eq_true rfl)⟩ ⟨(Nat.le_of_ble_eq_true rfl), (Nat.le_of_ble_eq_true rfl)⟩ (Nat.le_of_ble_eq_true rfl) ?_
            refine J.iconst (μ := mX11_runOnDraft) (pc := 106) (v := 0) dX11_runOnDraft_106 (by decide) ?_
            exact J.zret (μ := mX11_runOnDraft) (pc := 107) dX11_runOnDraft_107 rfl rfl (Nat.le_of_ble_eq_true rfl) (Nat.le_of_ble_eq_true rfl) (fun K k => ⟨false, _, rfl, ⟨hd2.deny (fun k hk => vdOf_k hk), fun q => absurd q (by decide), fun _ => ⟨by unfold kdV; rw [up2_sn (by decide), up2_sn (by decide), up2_ss], by unfold kdV; rw [up2_ss]; exact h3⟩⟩, k⟩)
  refine J.aload_n (μ := mX11_runOnDraft) (pc := 0) dX11_runOnDraft_0 rfl ?_
  refine J.gr (μ := mX11_runOnDraft) (pc := 1) (T := TX11) (ci := 14) (fks := _) rfl rfl in_X11 1 (by decide) wf_X11_16 dX11_runOnDraft_1 sh0 rfl ?_
  refine J.aload_n (μ := mX11_runOnDraft) (pc := 4) dX11_runOnDraft_4 rfl ?_
  refine J.gr (μ := mX11_runOnDraft) (pc := 5) (T := TX11) (ci := 14) (fks := _) rfl rfl in_X11 0 (by decide) wf_X11_10 dX11_runOnDraft_5 sh0 rfl ?_
  refine J.cV0 (μ := mX11_runOnDraft) (pc := 8) (s_X9_copyFrom st27 st1 (.inl (by omega))) rfl wm_X11_270 mi_X9_copyFrom rfl dX11_runOnDraft_8 (Rp.isa (T := TX9) rfl (st27 0 (by decide))) rfl rfl ⟨(Nat.le_of_ble_eq_true rfl), (Nat.le_of_ble_eq_true rfl)⟩ ⟨(Nat.le_of_ble_eq_true rfl), (Nat.le_of_ble_eq_true rfl)⟩ (Nat.le_of_ble_eq_true rfl) ?_
  refine J.iconst (μ := mX11_runOnDraft) (pc := 11) (v := 0) dX11_runOnDraft_11 (by decide) ?_
  refine J.istore_n (μ := mX11_runOnDraft) (pc := 12) dX11_runOnDraft_12 (Nat.le_of_ble_eq_true rfl) rfl ?_
  refine J.iconst (μ := mX11_runOnDraft) (pc := 13) (v := 0) dX11_runOnDraft_13 (by decide) ?_
  refine J.istore_n (μ := mX11_runOnDraft) (pc := 14) dX11_runOnDraft_14 (Nat.le_of_ble_eq_true rfl) rfl ?_
  refine J.sub ?_ (key 60 0 0 (cpR v 27 1 26) l rfl (Nat.zero_le _) Dr.copy (hS.sq cpR_sq) hl rfl)
  exact ⟨rfl, rfl, rfl, rfl, trivial⟩
