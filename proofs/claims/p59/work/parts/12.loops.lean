/-! loops over lots and shelves -/
/-- a loop with a counter: the end, and one turn -/
theorem J.for {γ : Gm} {μ : Mu} {R : Room} {Q : Fin_} {k n hd : Nat} {Lf : Nat → List (Option Value)} {Pf : Nat → Heap → Prop} (N : Nat) (hx : J γ μ R Q k n hd (Lf N) [] (Pf N)) (hs : ∀ i, i < N → J γ μ R Q k n hd (Lf (i + 1)) [] (Pf (i + 1)) → J γ μ R Q k n hd (Lf i) [] (Pf i)) : J γ μ R Q k n hd (Lf 0) [] (Pf 0) := by
  have key : ∀ m, m ≤ N → J γ μ R Q k n hd (Lf (N - m)) [] (Pf (N - m)) := by
    intro m
    induction m with
    | zero => intro _; exact hx
    | succ m ih =>
      intro hm
      have h1 := ih (by omega)
      rw [show N - m = N - (m + 1) + 1 by omega] at h1
      exact hs _ (by omega) h1
  have h := key N (Nat.le_refl N)
  rw [Nat.sub_self] at h
  exact h
/-- how many, and the sum of f over those, below n, for which p says true -/
def cn (p : Nat → Bool) : Nat → Nat
  | 0 => 0
  | n + 1 => cn p n + (if p n = true then 1 else 0)
def sm (p : Nat → Bool) (f : Nat → Int32) : Nat → Int32
  | 0 => 0
  | n + 1 => if p n = true then sm p f n + f n else sm p f n
theorem cn_le (p : Nat → Bool) : ∀ n, cn p n ≤ n
  | 0 => Nat.le_refl 0
  | n + 1 => by
    have := cn_le p n
    simp only [cn]
    split <;> omega
theorem nI_lt_of {a b : Nat} (h : a < b) (hb : b ≤ 1000) : nI a < nI b := nI_lt h (by omega)
theorem nI_nle_of {a b : Nat} (h : a < b) (hb : b ≤ 1000) : ¬ nI b ≤ nI a := nI_ge h (by omega)
theorem nI_nlt_of {a b : Nat} (h : b ≤ a) (ha : a ≤ 1000) : ¬ nI a < nI b := nI_nlt h (by omega)
theorem J.eqL {γ : Gm} {μ : Mu} {R : Room} {Q : Fin_} {k n pc : Nat} {L L' : List (Option Value)} {st : List Value} {P : Heap → Prop} (e : L = L') (kk : J γ μ R Q k n pc L' st P) : J γ μ R Q k n pc L st P := e ▸ kk
theorem bi_0 {b : Bool} : bi b = 0 ↔ b = false := by cases b <;> decide
theorem bi_1 {b : Bool} : ¬ bi b = 0 ↔ b = true := by cases b <;> decide
theorem s_X5_countAt {γ : Gm} {v : Vs} {o : Nat} (ho : IsStk o) {N : Nat} (hN : v (o + 8) 7 = nI N) (h20 : N ≤ 20) (x : Int32) : Er γ mX5_countAt yX5_countAt 1 [.ref (gz γ + (o + 8)), .int x] v (.int (nI (cn (fun i => decide (gPl v o (nI i) = x)) N))) := by
  refine Ev.ofJ (by decide) rfl (fun h => by cases h) (Nat.le_of_ble_eq_true rfl) ?_
  refine J.iconst (μ := mX5_countAt) (pc := 0) (v := 0) dX5_countAt_0 (by decide) ?_
  refine J.istore_n (μ := mX5_countAt) (pc := 1) dX5_countAt_1 (Nat.le_of_ble_eq_true rfl) rfl ?_
  refine J.iconst (μ := mX5_countAt) (pc := 2) (v := 0) dX5_countAt_2 (by decide) ?_
  refine J.istore_n (μ := mX5_countAt) (pc := 3) dX5_countAt_3 (Nat.le_of_ble_eq_true rfl) rfl ?_
  refine J.for (Lf := fun i => [some (.ref (gz γ + (o + 8))), some (.int x), some (.int (nI (cn (fun i => decide (gPl v o (nI i) = x)) i))), some (.int (nI i))]) (Pf := fun _ => Rp γ v) N ?_ (fun i hi ih => ?_)
  · refine J.iload_n (μ := mX5_countAt) (pc := 4) dX5_countAt_4 rfl ?_
    refine J.aload_n (μ := mX5_countAt) (pc := 5) dX5_countAt_5 rfl ?_
    refine J.gi (μ := mX5_countAt) (pc := 6) (T := TX5) (ci := 8) (fks := _) rfl rfl in_X5 7 (by decide) wf_X5_38 dX5_countAt_6 (ho 8 (by decide)) rfl ?_
    rw [hN]
    refine J.icmp_ge (μ := mX5_countAt) (pc := 9) 33 dX5_countAt_9 (by decide) (fun hc => ?_) (fun hc => ?_)
    · refine J.iload_n (μ := mX5_countAt) (pc := 33) dX5_countAt_33 rfl ?_
      exact J.iret (μ := mX5_countAt) (pc := 34) dX5_countAt_34 rfl (Nat.le_of_ble_eq_true rfl) (Nat.le_of_ble_eq_true rfl) (fun H h => ⟨rfl, h⟩)
    · exact absurd hc (nI_nlt_of (Nat.le_refl N) (by omega))
  · refine J.iload_n (μ := mX5_countAt) (pc := 4) dX5_countAt_4 rfl ?_
    refine J.aload_n (μ := mX5_countAt) (pc := 5) dX5_countAt_5 rfl ?_
    refine J.gi (μ := mX5_countAt) (pc := 6) (T := TX5) (ci := 8) (fks := _) rfl rfl in_X5 7 (by decide) wf_X5_38 dX5_countAt_6 (ho 8 (by decide)) rfl ?_
    rw [hN]
    refine J.icmp_ge (μ := mX5_countAt) (pc := 9) 33 dX5_countAt_9 (by decide) (fun hc => ?_) (fun hc => ?_)
    · exact absurd hc (nI_nle_of hi (by omega))
    · refine J.aload_n (μ := mX5_countAt) (pc := 12) dX5_countAt_12 rfl ?_
      refine J.gr (μ := mX5_countAt) (pc := 13) (T := TX5) (ci := 8) (fks := _) rfl rfl in_X5 4 (by decide) wf_X5_29 dX5_countAt_13 (ho 8 (by decide)) rfl ?_
      refine J.iload_n (μ := mX5_countAt) (pc := 16) dX5_countAt_16 rfl ?_
      refine J.cV (μ := mX5_countAt) (pc := 17) (g_pl ho _) rfl wm_X5_50 mi_X7_get rfl dX5_countAt_17 (Rp.isa (T := TX7) rfl (ho 17 (by decide))) rfl rfl ⟨(Nat.le_of_ble_eq_true rfl), (Nat.le_of_ble_eq_true rfl)⟩ ⟨(Nat.le_of_ble_eq_true rfl), (Nat.le_of_ble_eq_true rfl)⟩ (Nat.le_of_ble_eq_true rfl) ?_
      refine J.iload_n (μ := mX5_countAt) (pc := 20) dX5_countAt_20 rfl ?_
      refine J.icmp_ne (μ := mX5_countAt) (pc := 21) 27 dX5_countAt_21 (by decide) (fun hd => ?_) (fun hd => ?_)
      · refine J.iinc (μ := mX5_countAt) (pc := 27) (v := 1) dX5_countAt_27 rfl (by decide) (Nat.le_of_ble_eq_true rfl) rfl ?_
        refine J.goto (μ := mX5_countAt) (pc := 30) 4 dX5_countAt_30 (by decide) ?_
        exact J.eqL (by simp [cn, sm, nI_succ, hd]) ih
      · refine J.iinc (μ := mX5_countAt) (pc := 24) (v := 1) dX5_countAt_24 rfl (by decide) (Nat.le_of_ble_eq_true rfl) rfl ?_
        refine J.iinc (μ := mX5_countAt) (pc := 27) (v := 1) dX5_countAt_27 rfl (by decide) (Nat.le_of_ble_eq_true rfl) rfl ?_
        refine J.goto (μ := mX5_countAt) (pc := 30) 4 dX5_countAt_30 (by decide) ?_
        exact J.eqL (by simp [cn, sm, nI_succ, hd]) ih
theorem s_X5_volumeAt {γ : Gm} {v : Vs} {o : Nat} (ho : IsStk o) {N : Nat} (hN : v (o + 8) 7 = nI N) (h20 : N ≤ 20) (x : Int32) : Er γ mX5_volumeAt yX5_volumeAt 1 [.ref (gz γ + (o + 8)), .int x] v (.int (sm (fun i => decide (gPl v o (nI i) = x)) (fun i => gVo v o (nI i)) N)) := by
  refine Ev.ofJ (by decide) rfl (fun h => by cases h) (Nat.le_of_ble_eq_true rfl) ?_
  refine J.iconst (μ := mX5_volumeAt) (pc := 0) (v := 0) dX5_volumeAt_0 (by decide) ?_
  refine J.istore_n (μ := mX5_volumeAt) (pc := 1) dX5_volumeAt_1 (Nat.le_of_ble_eq_true rfl) rfl ?_
  refine J.iconst (μ := mX5_volumeAt) (pc := 2) (v := 0) dX5_volumeAt_2 (by decide) ?_
  refine J.istore_n (μ := mX5_volumeAt) (pc := 3) dX5_volumeAt_3 (Nat.le_of_ble_eq_true rfl) rfl ?_
  refine J.for (Lf := fun i => [some (.ref (gz γ + (o + 8))), some (.int x), some (.int (sm (fun i => decide (gPl v o (nI i) = x)) (fun i => gVo v o (nI i)) i)), some (.int (nI i))]) (Pf := fun _ => Rp γ v) N ?_ (fun i hi ih => ?_)
  · refine J.iload_n (μ := mX5_volumeAt) (pc := 4) dX5_volumeAt_4 rfl ?_
    refine J.aload_n (μ := mX5_volumeAt) (pc := 5) dX5_volumeAt_5 rfl ?_
    refine J.gi (μ := mX5_volumeAt) (pc := 6) (T := TX5) (ci := 8) (fks := _) rfl rfl in_X5 7 (by decide) wf_X5_38 dX5_volumeAt_6 (ho 8 (by decide)) rfl ?_
    rw [hN]
    refine J.icmp_ge (μ := mX5_volumeAt) (pc := 9) 41 dX5_volumeAt_9 (by decide) (fun hc => ?_) (fun hc => ?_)
    · refine J.iload_n (μ := mX5_volumeAt) (pc := 41) dX5_volumeAt_41 rfl ?_
      exact J.iret (μ := mX5_volumeAt) (pc := 42) dX5_volumeAt_42 rfl (Nat.le_of_ble_eq_true rfl) (Nat.le_of_ble_eq_true rfl) (fun H h => ⟨rfl, h⟩)
    · exact absurd hc (nI_nlt_of (Nat.le_refl N) (by omega))
  · refine J.iload_n (μ := mX5_volumeAt) (pc := 4) dX5_volumeAt_4 rfl ?_
    refine J.aload_n (μ := mX5_volumeAt) (pc := 5) dX5_volumeAt_5 rfl ?_
    refine J.gi (μ := mX5_volumeAt) (pc := 6) (T := TX5) (ci := 8) (fks := _) rfl rfl in_X5 7 (by decide) wf_X5_38 dX5_volumeAt_6 (ho 8 (by decide)) rfl ?_
    rw [hN]
    refine J.icmp_ge (μ := mX5_volumeAt) (pc := 9) 41 dX5_volumeAt_9 (by decide) (fun hc => ?_) (fun hc => ?_)
    · exact absurd hc (nI_nle_of hi (by omega))
    · refine J.aload_n (μ := mX5_volumeAt) (pc := 12) dX5_volumeAt_12 rfl ?_
      refine J.gr (μ := mX5_volumeAt) (pc := 13) (T := TX5) (ci := 8) (fks := _) rfl rfl in_X5 4 (by decide) wf_X5_29 dX5_volumeAt_13 (ho 8 (by decide)) rfl ?_
      refine J.iload_n (μ := mX5_volumeAt) (pc := 16) dX5_volumeAt_16 rfl ?_
      refine J.cV (μ := mX5_volumeAt) (pc := 17) (g_pl ho _) rfl wm_X5_50 mi_X7_get rfl dX5_volumeAt_17 (Rp.isa (T := TX7) rfl (ho 17 (by decide))) rfl rfl ⟨(Nat.le_of_ble_eq_true rfl), (Nat.le_of_ble_eq_true rfl)⟩ ⟨(Nat.le_of_ble_eq_true rfl), (Nat.le_of_ble_eq_true rfl)⟩ (Nat.le_of_ble_eq_true rfl) ?_
      refine J.iload_n (μ := mX5_volumeAt) (pc := 20) dX5_volumeAt_20 rfl ?_
      refine J.icmp_ne (μ := mX5_volumeAt) (pc := 21) 35 dX5_volumeAt_21 (by decide) (fun hd => ?_) (fun hd => ?_)
      · refine J.iinc (μ := mX5_volumeAt) (pc := 35) (v := 1) dX5_volumeAt_35 rfl (by decide) (Nat.le_of_ble_eq_true rfl) rfl ?_
        refine J.goto (μ := mX5_volumeAt) (pc := 38) 4 dX5_volumeAt_38 (by decide) ?_
        exact J.eqL (by simp [cn, sm, nI_succ, hd]) ih
      · refine J.iload_n (μ := mX5_volumeAt) (pc := 24) dX5_volumeAt_24 rfl ?_
        refine J.aload_n (μ := mX5_volumeAt) (pc := 25) dX5_volumeAt_25 rfl ?_
        refine J.gr (μ := mX5_volumeAt) (pc := 26) (T := TX5) (ci := 8) (fks := _) rfl rfl in_X5 2 (by decide) wf_X5_23 dX5_volumeAt_26 (ho 8 (by decide)) rfl ?_
        refine J.iload_n (μ := mX5_volumeAt) (pc := 29) dX5_volumeAt_29 rfl ?_
        refine J.cV (μ := mX5_volumeAt) (pc := 30) (g_vo ho _) rfl wm_X5_50 mi_X7_get rfl dX5_volumeAt_30 (Rp.isa (T := TX7) rfl (ho 13 (by decide))) rfl rfl ⟨(Nat.le_of_ble_eq_true rfl), (Nat.le_of_ble_eq_true rfl)⟩ ⟨(Nat.le_of_ble_eq_true rfl), (Nat.le_of_ble_eq_true rfl)⟩ (Nat.le_of_ble_eq_true rfl) ?_
        refine J.iadd (μ := mX5_volumeAt) (pc := 33) dX5_volumeAt_33 ?_
        refine J.istore_n (μ := mX5_volumeAt) (pc := 34) dX5_volumeAt_34 (Nat.le_of_ble_eq_true rfl) rfl ?_
        refine J.iinc (μ := mX5_volumeAt) (pc := 35) (v := 1) dX5_volumeAt_35 rfl (by decide) (Nat.le_of_ble_eq_true rfl) rfl ?_
        refine J.goto (μ := mX5_volumeAt) (pc := 38) 4 dX5_volumeAt_38 (by decide) ?_
        exact J.eqL (by simp [cn, sm, nI_succ, hd]) ih
theorem s_X5_shelvedCount {γ : Gm} {v : Vs} {o : Nat} (ho : IsStk o) {N : Nat} (hN : v (o + 8) 7 = nI N) (h20 : N ≤ 20) : Er γ mX5_shelvedCount yX5_shelvedCount 2 [.ref (gz γ + (o + 8))] v (.int (nI (cn (fun i => decide (0 ≤ gPl v o (nI i))) N))) := by
  refine Ev.ofJ (by decide) rfl (fun h => by cases h) (Nat.le_of_ble_eq_true rfl) ?_
  refine J.iconst (μ := mX5_shelvedCount) (pc := 0) (v := 0) dX5_shelvedCount_0 (by decide) ?_
  refine J.istore_n (μ := mX5_shelvedCount) (pc := 1) dX5_shelvedCount_1 (Nat.le_of_ble_eq_true rfl) rfl ?_
  refine J.iconst (μ := mX5_shelvedCount) (pc := 2) (v := 0) dX5_shelvedCount_2 (by decide) ?_
  refine J.istore_n (μ := mX5_shelvedCount) (pc := 3) dX5_shelvedCount_3 (Nat.le_of_ble_eq_true rfl) rfl ?_
  refine J.for (Lf := fun i => [some (.ref (gz γ + (o + 8))), some (.int (nI (cn (fun i => decide (0 ≤ gPl v o (nI i))) i))), some (.int (nI i))]) (Pf := fun _ => Rp γ v) N ?_ (fun i hi ih => ?_)
  · refine J.iload_n (μ := mX5_shelvedCount) (pc := 4) dX5_shelvedCount_4 rfl ?_
    refine J.aload_n (μ := mX5_shelvedCount) (pc := 5) dX5_shelvedCount_5 rfl ?_
    refine J.gi (μ := mX5_shelvedCount) (pc := 6) (T := TX5) (ci := 8) (fks := _) rfl rfl in_X5 7 (by decide) wf_X5_38 dX5_shelvedCount_6 (ho 8 (by decide)) rfl ?_
    rw [hN]
    refine J.icmp_ge (μ := mX5_shelvedCount) (pc := 9) 29 dX5_shelvedCount_9 (by decide) (fun hc => ?_) (fun hc => ?_)
    · refine J.iload_n (μ := mX5_shelvedCount) (pc := 29) dX5_shelvedCount_29 rfl ?_
      exact J.iret (μ := mX5_shelvedCount) (pc := 30) dX5_shelvedCount_30 rfl (Nat.le_of_ble_eq_true rfl) (Nat.le_of_ble_eq_true rfl) (fun H h => ⟨rfl, h⟩)
    · exact absurd hc (nI_nlt_of (Nat.le_refl N) (by omega))
  · refine J.iload_n (μ := mX5_shelvedCount) (pc := 4) dX5_shelvedCount_4 rfl ?_
    refine J.aload_n (μ := mX5_shelvedCount) (pc := 5) dX5_shelvedCount_5 rfl ?_
    refine J.gi (μ := mX5_shelvedCount) (pc := 6) (T := TX5) (ci := 8) (fks := _) rfl rfl in_X5 7 (by decide) wf_X5_38 dX5_shelvedCount_6 (ho 8 (by decide)) rfl ?_
    rw [hN]
    refine J.icmp_ge (μ := mX5_shelvedCount) (pc := 9) 29 dX5_shelvedCount_9 (by decide) (fun hc => ?_) (fun hc => ?_)
    · exact absurd hc (nI_nle_of hi (by omega))
    · refine J.aload_n (μ := mX5_shelvedCount) (pc := 12) dX5_shelvedCount_12 rfl ?_
      refine J.iload_n (μ := mX5_shelvedCount) (pc := 13) dX5_shelvedCount_13 rfl ?_
      refine J.cV (μ := mX5_shelvedCount) (pc := 14) (s_X5_isShelved ho  _) rfl wm_X5_54 mi_X5_isShelved rfl dX5_shelvedCount_14 (Rp.isa (T := TX5) rfl (ho 8 (by decide))) rfl rfl ⟨(Nat.le_of_ble_eq_true rfl), (Nat.le_of_ble_eq_true rfl)⟩ ⟨(Nat.le_of_ble_eq_true rfl), (Nat.le_of_ble_eq_true rfl)⟩ (Nat.le_of_ble_eq_true rfl) ?_
      refine J.if_eq (μ := mX5_shelvedCount) (pc := 17) 23 dX5_shelvedCount_17 (by decide) (fun hd => ?_) (fun hd => ?_)
      · refine J.iinc (μ := mX5_shelvedCount) (pc := 23) (v := 1) dX5_shelvedCount_23 rfl (by decide) (Nat.le_of_ble_eq_true rfl) rfl ?_
        refine J.goto (μ := mX5_shelvedCount) (pc := 26) 4 dX5_shelvedCount_26 (by decide) ?_
        have hd' := bi_0.mp hd
        exact J.eqL (by simp [cn, sm, nI_succ, hd']) ih
      · have hd' := bi_1.mp hd
        refine J.iinc (μ := mX5_shelvedCount) (pc := 20) (v := 1) dX5_shelvedCount_20 rfl (by decide) (Nat.le_of_ble_eq_true rfl) rfl ?_
        refine J.iinc (μ := mX5_shelvedCount) (pc := 23) (v := 1) dX5_shelvedCount_23 rfl (by decide) (Nat.le_of_ble_eq_true rfl) rfl ?_
        refine J.goto (μ := mX5_shelvedCount) (pc := 26) 4 dX5_shelvedCount_26 (by decide) ?_
        exact J.eqL (by simp [cn, sm, nI_succ, hd']) ih
theorem s_X5_shelvedVolume {γ : Gm} {v : Vs} {o : Nat} (ho : IsStk o) {N : Nat} (hN : v (o + 8) 7 = nI N) (h20 : N ≤ 20) : Er γ mX5_shelvedVolume yX5_shelvedVolume 2 [.ref (gz γ + (o + 8))] v (.int (sm (fun i => decide (0 ≤ gPl v o (nI i))) (fun i => gVo v o (nI i)) N)) := by
  refine Ev.ofJ (by decide) rfl (fun h => by cases h) (Nat.le_of_ble_eq_true rfl) ?_
  refine J.iconst (μ := mX5_shelvedVolume) (pc := 0) (v := 0) dX5_shelvedVolume_0 (by decide) ?_
  refine J.istore_n (μ := mX5_shelvedVolume) (pc := 1) dX5_shelvedVolume_1 (Nat.le_of_ble_eq_true rfl) rfl ?_
  refine J.iconst (μ := mX5_shelvedVolume) (pc := 2) (v := 0) dX5_shelvedVolume_2 (by decide) ?_
  refine J.istore_n (μ := mX5_shelvedVolume) (pc := 3) dX5_shelvedVolume_3 (Nat.le_of_ble_eq_true rfl) rfl ?_
  refine J.for (Lf := fun i => [some (.ref (gz γ + (o + 8))), some (.int (sm (fun i => decide (0 ≤ gPl v o (nI i))) (fun i => gVo v o (nI i)) i)), some (.int (nI i))]) (Pf := fun _ => Rp γ v) N ?_ (fun i hi ih => ?_)
  · refine J.iload_n (μ := mX5_shelvedVolume) (pc := 4) dX5_shelvedVolume_4 rfl ?_
    refine J.aload_n (μ := mX5_shelvedVolume) (pc := 5) dX5_shelvedVolume_5 rfl ?_
    refine J.gi (μ := mX5_shelvedVolume) (pc := 6) (T := TX5) (ci := 8) (fks := _) rfl rfl in_X5 7 (by decide) wf_X5_38 dX5_shelvedVolume_6 (ho 8 (by decide)) rfl ?_
    rw [hN]
    refine J.icmp_ge (μ := mX5_shelvedVolume) (pc := 9) 37 dX5_shelvedVolume_9 (by decide) (fun hc => ?_) (fun hc => ?_)
    · refine J.iload_n (μ := mX5_shelvedVolume) (pc := 37) dX5_shelvedVolume_37 rfl ?_
      exact J.iret (μ := mX5_shelvedVolume) (pc := 38) dX5_shelvedVolume_38 rfl (Nat.le_of_ble_eq_true rfl) (Nat.le_of_ble_eq_true rfl) (fun H h => ⟨rfl, h⟩)
    · exact absurd hc (nI_nlt_of (Nat.le_refl N) (by omega))
  · refine J.iload_n (μ := mX5_shelvedVolume) (pc := 4) dX5_shelvedVolume_4 rfl ?_
    refine J.aload_n (μ := mX5_shelvedVolume) (pc := 5) dX5_shelvedVolume_5 rfl ?_
    refine J.gi (μ := mX5_shelvedVolume) (pc := 6) (T := TX5) (ci := 8) (fks := _) rfl rfl in_X5 7 (by decide) wf_X5_38 dX5_shelvedVolume_6 (ho 8 (by decide)) rfl ?_
    rw [hN]
    refine J.icmp_ge (μ := mX5_shelvedVolume) (pc := 9) 37 dX5_shelvedVolume_9 (by decide) (fun hc => ?_) (fun hc => ?_)
    · exact absurd hc (nI_nle_of hi (by omega))
    · refine J.aload_n (μ := mX5_shelvedVolume) (pc := 12) dX5_shelvedVolume_12 rfl ?_
      refine J.iload_n (μ := mX5_shelvedVolume) (pc := 13) dX5_shelvedVolume_13 rfl ?_
      refine J.cV (μ := mX5_shelvedVolume) (pc := 14) (s_X5_isShelved ho  _) rfl wm_X5_54 mi_X5_isShelved rfl dX5_shelvedVolume_14 (Rp.isa (T := TX5) rfl (ho 8 (by decide))) rfl rfl ⟨(Nat.le_of_ble_eq_true rfl), (Nat.le_of_ble_eq_true rfl)⟩ ⟨(Nat.le_of_ble_eq_true rfl), (Nat.le_of_ble_eq_true rfl)⟩ (Nat.le_of_ble_eq_true rfl) ?_
      refine J.if_eq (μ := mX5_shelvedVolume) (pc := 17) 31 dX5_shelvedVolume_17 (by decide) (fun hd => ?_) (fun hd => ?_)
      · refine J.iinc (μ := mX5_shelvedVolume) (pc := 31) (v := 1) dX5_shelvedVolume_31 rfl (by decide) (Nat.le_of_ble_eq_true rfl) rfl ?_
        refine J.goto (μ := mX5_shelvedVolume) (pc := 34) 4 dX5_shelvedVolume_34 (by decide) ?_
        have hd' := bi_0.mp hd
        exact J.eqL (by simp [cn, sm, nI_succ, hd']) ih
      · have hd' := bi_1.mp hd
        refine J.iload_n (μ := mX5_shelvedVolume) (pc := 20) dX5_shelvedVolume_20 rfl ?_
        refine J.aload_n (μ := mX5_shelvedVolume) (pc := 21) dX5_shelvedVolume_21 rfl ?_
        refine J.gr (μ := mX5_shelvedVolume) (pc := 22) (T := TX5) (ci := 8) (fks := _) rfl rfl in_X5 2 (by decide) wf_X5_23 dX5_shelvedVolume_22 (ho 8 (by decide)) rfl ?_
        refine J.iload_n (μ := mX5_shelvedVolume) (pc := 25) dX5_shelvedVolume_25 rfl ?_
        refine J.cV (μ := mX5_shelvedVolume) (pc := 26) (g_vo ho _) rfl wm_X5_50 mi_X7_get rfl dX5_shelvedVolume_26 (Rp.isa (T := TX7) rfl (ho 13 (by decide))) rfl rfl ⟨(Nat.le_of_ble_eq_true rfl), (Nat.le_of_ble_eq_true rfl)⟩ ⟨(Nat.le_of_ble_eq_true rfl), (Nat.le_of_ble_eq_true rfl)⟩ (Nat.le_of_ble_eq_true rfl) ?_
        refine J.iadd (μ := mX5_shelvedVolume) (pc := 29) dX5_shelvedVolume_29 ?_
        refine J.istore_n (μ := mX5_shelvedVolume) (pc := 30) dX5_shelvedVolume_30 (Nat.le_of_ble_eq_true rfl) rfl ?_
        refine J.iinc (μ := mX5_shelvedVolume) (pc := 31) (v := 1) dX5_shelvedVolume_31 rfl (by decide) (Nat.le_of_ble_eq_true rfl) rfl ?_
        refine J.goto (μ := mX5_shelvedVolume) (pc := 34) 4 dX5_shelvedVolume_34 (by decide) ?_
        exact J.eqL (by simp [cn, sm, nI_succ, hd']) ih
