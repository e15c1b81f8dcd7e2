/-! loops over lots and shelves -/
/-- a loop with a counter: the end, and one turn -/
theorem J.for {γ : Gm} {μ : Mu} {R : Room} {Q : Fin_} {k n hd : Nat} {Lf : Nat → List (Option Value)} {Pf : Nat → Heap → Prop} (N : Nat) (hx : J γ μ R Q k n hd (Lf N) [] (Pf N)) (hs : ∀ i, i < N → J γ μ R Q k n hd (Lf (i + 1)) [] (Pf (i + 1)) → J γ μ R Q k n hd (Lf i) [] (Pf i)) : J γ μ R Q k n hd (Lf 0) [] (Pf 0) := by
  have key : ∀ m, m ≤ N → J γ μ R Q k n hd (Lf (N - m)) [] (Pf (N - m)) := by
    intro m
    induction m with
    | zero => intro _; exact hx
    | succ m ih =>
      intro hm
      have h1 := ih (by omega)
      rw [show N - m = N - (m + 1) + 1 by omega] at h1
      exact hs _ (by omega) h1
  have h := key N (Nat.le_refl N)
  rw [Nat.sub_self] at h
  exact h
/-- how many, and the sum of f over those, below n, for which p says true -/
def cn (p : Nat → Bool) : Nat → Nat
  | 0 => 0
  | n + 1 => cn p n + (if p n = true then 1 else 0)
def sm (p : Nat → Bool) (f : Nat → Int32) : Nat → Int32
  | 0 => 0
  | n + 1 => if p n = true then sm p f n + f n else sm p f n
theorem cn_le (p : Nat → Bool) : ∀ n, cn p n ≤ n
  | 0 => Nat.le_refl 0
  | n + 1 => by
    have := cn_le p n
    simp only [cn]
    split <;> omega
theorem nI_lt_of {a b : Nat} (h : a < b) (hb : b ≤ 1000) : nI a < nI b := nI_lt h (by omega)
theorem nI_nle_of {a b : Nat} (h : a < b) (hb : b ≤ 1000) : ¬ nI b ≤ nI a := nI_ge h (by omega)
theorem nI_nlt_of {a b : Nat} (h : b ≤ a) (ha : a ≤ 1000) : ¬ nI a < nI b := nI_nlt h (by omega)
/-- fewer locals are known -/
def lsub : List (Option Value) → List (Option Value) → Prop
  | [], _ => True
  | none :: t, _ :: t' => lsub t t'
  | none :: t, [] => lsub t []
  | some a :: t, b :: t' => b = some a ∧ lsub t t'
  | some _ :: _, [] => False
theorem lsub_get : ∀ (L' L : List (Option Value)), lsub L' L → ∀ (i : Nat) (v : Value), L'[i]? = some (some v) → L[i]? = some (some v)
  | [], _, _, i, v, h => by simp at h
  | none :: t, b :: t', hs, 0, v, h => by simp at h
  | none :: t, b :: t', hs, i + 1, v, h => by
    simp only [List.getElem?_cons_succ] at h ⊢
    exact lsub_get t t' hs i v h
  | none :: t, [], hs, 0, v, h => by simp at h
  | none :: t, [], hs, i + 1, v, h => by
    simp only [List.getElem?_cons_succ] at h
    have := lsub_get t [] hs i v h
    simp at this
  | some a :: t, b :: t', hs, 0, v, h => by
    simp only [List.getElem?_cons_zero, Option.some.injEq] at h ⊢
    rw [hs.1, h]
  | some a :: t, b :: t', hs, i + 1, v, h => by
    simp only [List.getElem?_cons_succ] at h ⊢
    exact lsub_get t t' hs.2 i v h
  | some _ :: _, [], hs, _, _, _ => hs.elim
theorem J.sub {γ : Gm} {μ : Mu} {R : Room} {Q : Fin_} {k n pc : Nat} {L L' : List (Option Value)} {st : List Value} {P : Heap → Prop} (e : lsub L' L) (kk : J γ μ R Q k n pc L' st P) : J γ μ R Q k n pc L st P := J.locals (lsub_get L' L e) kk
theorem bi_f {φ : Prop} [Decidable φ] (h : bi (decide φ) = 0) : ¬ φ := by
  by_cases h1 : φ
  · rw [decide_eq_true h1] at h; exact absurd h (by decide)
  · exact h1
theorem bi_t {φ : Prop} [Decidable φ] (h : ¬ bi (decide φ) = 0) : φ := by
  by_cases h1 : φ
  · exact h1
  · rw [decide_eq_false h1] at h; exact absurd (by decide) h
theorem J.ifB_eq {γ : Gm} {μ : Mu} {R : Room} {Q : Fin_} {k n pc : Nat} {L : List (Option Value)} {rest : List Value} {P : Heap → Prop} {φ : Prop} [Decidable φ] {off : Int} (tgt : Nat) (d : decode μ.2.1 pc = .ok (.ifCond .eq off, 3)) (ht : (pc : Int) + off = (tgt : Int)) (kt : ¬ φ → J γ μ R Q k n tgt L rest P) (kf : φ → J γ μ R Q k n (pc + 3) L rest P) : J γ μ R Q k n pc L (.int (bi (decide φ)) :: rest) P :=
  J.if_eq tgt d ht (fun h => kt (bi_f h)) (fun h => kf (bi_t h))
theorem J.ifB_ne {γ : Gm} {μ : Mu} {R : Room} {Q : Fin_} {k n pc : Nat} {L : List (Option Value)} {rest : List Value} {P : Heap → Prop} {φ : Prop} [Decidable φ] {off : Int} (tgt : Nat) (d : decode μ.2.1 pc = .ok (.ifCond .ne off, 3)) (ht : (pc : Int) + off = (tgt : Int)) (kt : φ → J γ μ R Q k n tgt L rest P) (kf : ¬ φ → J γ μ R Q k n (pc + 3) L rest P) : J γ μ R Q k n pc L (.int (bi (decide φ)) :: rest) P :=
  J.if_ne tgt d ht (fun h => kt (bi_t h)) (fun h => kf (bi_f h))
theorem s_X5_countAt {γ : Gm} {v : Vs} {o : Nat} (ho : IsStk o) {N : Nat} (hN : v (o + 8) 7 = nI N) (h20 : N ≤ 20) (x : Int32) : Er γ mX5_countAt yX5_countAt 1 [.ref (gz γ + (o + 8)), .int x] v (.int (nI (cn (fun i => decide (gPl v o (nI i) = x)) N))) := by
  refine Ev.ofJ (by decide) rfl (fun h => by cases h) (Nat.le_of_ble_eq_true rfl) ?_
  refine J.iconst (μ := mX5_countAt) (pc := 0) (v := 0) dX5_countAt_0 (by decide) ?_
  refine J.istore_n (μ := mX5_countAt) (pc := 1) dX5_countAt_1 (Nat.le_of_ble_eq_true rfl) rfl ?_
  refine J.iconst (μ := mX5_countAt) (pc := 2) (v := 0) dX5_countAt_2 (by decide) ?_
  refine J.istore_n (μ := mX5_countAt) (pc := 3) dX5_countAt_3 (Nat.le_of_ble_eq_true rfl) rfl ?_
  refine J.for (Lf := fun i => [some (.ref (gz γ + (o + 8))), some (.int x), some (.int (nI (cn (fun i => decide (gPl v o (nI i) = x)) i))), some (.int (nI i))]) (Pf := fun _ => Rp γ v) N ?_ (fun i hi ih => ?_)
  · refine J.iload_n (μ := mX5_countAt) (pc := 4) dX5_countAt_4 rfl ?_
    refine J.aload_n (μ := mX5_countAt) (pc := 5) dX5_countAt_5 rfl ?_
    refine J.gi (μ := mX5_countAt) (pc := 6) (T := TX5) (ci := 8) (fks := _) rfl rfl in_X5 7 (by decide) wf_X5_38 dX5_countAt_6 (ho 8 (by decide)) rfl ?_
    rw [hN]
    refine J.icmp_ge (μ := mX5_countAt) (pc := 9) 33 dX5_countAt_9 (by decide) (fun hc => ?_) (fun hc => ?_)
    · refine J.iload_n (μ := mX5_countAt) (pc := 33) dX5_countAt_33 rfl ?_
      exact J.iret (μ := mX5_countAt) (pc := 34) dX5_countAt_34 rfl (Nat.le_of_ble_eq_true rfl) (Nat.le_of_ble_eq_true rfl) (fun H h => ⟨rfl, h⟩)
    · exact absurd hc (nI_nlt_of (Nat.le_refl N) (by omega))
  · refine J.iload_n (μ := mX5_countAt) (pc := 4) dX5_countAt_4 rfl ?_
    refine J.aload_n (μ := mX5_countAt) (pc := 5) dX5_countAt_5 rfl ?_
    refine J.gi (μ := mX5_countAt) (pc := 6) (T := TX5) (ci := 8) (fks := _) rfl rfl in_X5 7 (by decide) wf_X5_38 dX5_countAt_6 (ho 8 (by decide)) rfl ?_
    rw [hN]
    refine J.icmp_ge (μ := mX5_countAt) (pc := 9) 33 dX5_countAt_9 (by decide) (fun hc => ?_) (fun hc => ?_)
    · exact absurd hc (nI_nle_of hi (by omega))
    · refine J.aload_n (μ := mX5_countAt) (pc := 12) dX5_countAt_12 rfl ?_
      refine J.gr (μ := mX5_countAt) (pc := 13) (T := TX5) (ci := 8) (fks := _) rfl rfl in_X5 4 (by decide) wf_X5_29 dX5_countAt_13 (ho 8 (by decide)) rfl ?_
      refine J.iload_n (μ := mX5_countAt) (pc := 16) dX5_countAt_16 rfl ?_
      refine J.cV (μ := mX5_countAt) (pc := 17) (g_pl ho _) rfl wm_X5_50 mi_X7_get rfl dX5_countAt_17 (Rp.isa (T := TX7) rfl (ho 17 (by decide))) rfl rfl ⟨(Nat.le_of_ble_eq_true rfl), (Nat.le_of_ble_eq_true rfl)⟩ ⟨(Nat.le_of_ble_eq_true rfl), (Nat.le_of_ble_eq_true rfl)⟩ (Nat.le_of_ble_eq_true rfl) ?_
      refine J.iload_n (μ := mX5_countAt) (pc := 20) dX5_countAt_20 rfl ?_
      refine J.icmp_ne (μ := mX5_countAt) (pc := 21) 27 dX5_countAt_21 (by decide) (fun c6 => ?_) (fun c6 => ?_)
      · refine J.iinc (μ := mX5_countAt) (pc := 27) (v := 1) dX5_countAt_27 rfl (by decide) (Nat.le_of_ble_eq_true rfl) rfl ?_
        refine J.goto (μ := mX5_countAt) (pc := 30) 4 dX5_countAt_30 (by decide) ?_
        exact J.sub (by simp [lsub, cn, sm, nI_succ, *]) ih
      · refine J.iinc (μ := mX5_countAt) (pc := 24) (v := 1) dX5_countAt_24 rfl (by decide) (Nat.le_of_ble_eq_true rfl) rfl ?_
        refine J.iinc (μ := mX5_countAt) (pc := 27) (v := 1) dX5_countAt_27 rfl (by decide) (Nat.le_of_ble_eq_true rfl) rfl ?_
        refine J.goto (μ := mX5_countAt) (pc := 30) 4 dX5_countAt_30 (by decide) ?_
        exact J.sub (by simp [lsub, cn, sm, nI_succ, *]) ih
theorem s_X5_volumeAt {γ : Gm} {v : Vs} {o : Nat} (ho : IsStk o) {N : Nat} (hN : v (o + 8) 7 = nI N) (h20 : N ≤ 20) (x : Int32) : Er γ mX5_volumeAt yX5_volumeAt 1 [.ref (gz γ + (o + 8)), .int x] v (.int (sm (fun i => decide (gPl v o (nI i) = x)) (fun i => gVo v o (nI i)) N)) := by
  refine Ev.ofJ (by decide) rfl (fun h => by cases h) (Nat.le_of_ble_eq_true rfl) ?_
  refine J.iconst (μ := mX5_volumeAt) (pc := 0) (v := 0) dX5_volumeAt_0 (by decide) ?_
  refine J.istore_n (μ := mX5_volumeAt) (pc := 1) dX5_volumeAt_1 (Nat.le_of_ble_eq_true rfl) rfl ?_
  refine J.iconst (μ := mX5_volumeAt) (pc := 2) (v := 0) dX5_volumeAt_2 (by decide) ?_
  refine J.istore_n (μ := mX5_volumeAt) (pc := 3) dX5_volumeAt_3 (Nat.le_of_ble_eq_true rfl) rfl ?_
  refine J.for (Lf := fun i => [some (.ref (gz γ + (o + 8))), some (.int x), some (.int (sm (fun i => decide (gPl v o (nI i) = x)) (fun i => gVo v o (nI i)) i)), some (.int (nI i))]) (Pf := fun _ => Rp γ v) N ?_ (fun i hi ih => ?_)
  · refine J.iload_n (μ := mX5_volumeAt) (pc := 4) dX5_volumeAt_4 rfl ?_
    refine J.aload_n (μ := mX5_volumeAt) (pc := 5) dX5_volumeAt_5 rfl ?_
    refine J.gi (μ := mX5_volumeAt) (pc := 6) (T := TX5) (ci := 8) (fks := _) rfl rfl in_X5 7 (by decide) wf_X5_38 dX5_volumeAt_6 (ho 8 (by decide)) rfl ?_
    rw [hN]
    refine J.icmp_ge (μ := mX5_volumeAt) (pc := 9) 41 dX5_volumeAt_9 (by decide) (fun hc => ?_) (fun hc => ?_)
    · refine J.iload_n (μ := mX5_volumeAt) (pc := 41) dX5_volumeAt_41 rfl ?_
      exact J.iret (μ := mX5_volumeAt) (pc := 42) dX5_volumeAt_42 rfl (Nat.le_of_ble_eq_true rfl) (Nat.le_of_ble_eq_true rfl) (fun H h => ⟨rfl, h⟩)
    · exact absurd hc (nI_nlt_of (Nat.le_refl N) (by omega))
  · refine J.iload_n (μ := mX5_volumeAt) (pc := 4) dX5_volumeAt_4 rfl ?_
    refine J.aload_n (μ := mX5_volumeAt) (pc := 5) dX5_volumeAt_5 rfl ?_
    refine J.gi (μ := mX5_volumeAt) (pc := 6) (T := TX5) (ci := 8) (fks := _) rfl rfl in_X5 7 (by decide) wf_X5_38 dX5_volumeAt_6 (ho 8 (by decide)) rfl ?_
    rw [hN]
    refine J.icmp_ge (μ := mX5_volumeAt) (pc := 9) 41 dX5_volumeAt_9 (by decide) (fun hc => ?_) (fun hc => ?_)
    · exact absurd hc (nI_nle_of hi (by omega))
    · refine J.aload_n (μ := mX5_volumeAt) (pc := 12) dX5_volumeAt_12 rfl ?_
      refine J.gr (μ := mX5_volumeAt) (pc := 13) (T := TX5) (ci := 8) (fks := _) rfl rfl in_X5 4 (by decide) wf_X5_29 dX5_volumeAt_13 (ho 8 (by decide)) rfl ?_
      refine J.iload_n (μ := mX5_volumeAt) (pc := 16) dX5_volumeAt_16 rfl ?_
      refine J.cV (μ := mX5_volumeAt) (pc := 17) (g_pl ho _) rfl wm_X5_50 mi_X7_get rfl dX5_volumeAt_17 (Rp.isa (T := TX7) rfl (ho 17 (by decide))) rfl rfl ⟨(Nat.le_of_ble_eq_true rfl), (Nat.le_of_ble_eq_true rfl)⟩ ⟨(Nat.le_of_ble_eq_true rfl), (Nat.le_of_ble_eq_true rfl)⟩ (Nat.le_of_ble_eq_true rfl) ?_
      refine J.iload_n (μ := mX5_volumeAt) (pc := 20) dX5_volumeAt_20 rfl ?_
      refine J.icmp_ne (μ := mX5_volumeAt) (pc := 21) 35 dX5_volumeAt_21 (by decide) (fun c6 => ?_) (fun c6 => ?_)
      · refine J.iinc (μ := mX5_volumeAt) (pc := 35) (v := 1) dX5_volumeAt_35 rfl (by decide) (Nat.le_of_ble_eq_true rfl) rfl ?_
        refine J.goto (μ := mX5_volumeAt) (pc := 38) 4 dX5_volumeAt_38 (by decide) ?_
        exact J.sub (by simp [lsub, cn, sm, nI_succ, *]) ih
      · refine J.iload_n (μ := mX5_volumeAt) (pc := 24) dX5_volumeAt_24 rfl ?_
        refine J.aload_n (μ := mX5_volumeAt) (pc := 25) dX5_volumeAt_25 rfl ?_
        refine J.gr (μ := mX5_volumeAt) (pc := 26) (T := TX5) (ci := 8) (fks := _) rfl rfl in_X5 2 (by decide) wf_X5_23 dX5_volumeAt_26 (ho 8 (by decide)) rfl ?_
        refine J.iload_n (μ := mX5_volumeAt) (pc := 29) dX5_volumeAt_29 rfl ?_
        refine J.cV (μ := mX5_volumeAt) (pc := 30) (g_vo ho _) rfl wm_X5_50 mi_X7_get rfl dX5_volumeAt_30 (Rp.isa (T := TX7) rfl (ho 13 (by decide))) rfl rfl ⟨(Nat.le_of_ble_eq_true rfl), (Nat.le_of_ble_eq_true rfl)⟩ ⟨(Nat.le_of_ble_eq_true rfl), (Nat.le_of_ble_eq_true rfl)⟩ (Nat.le_of_ble_eq_true rfl) ?_
        refine J.iadd (μ := mX5_volumeAt) (pc := 33) dX5_volumeAt_33 ?_
        refine J.istore_n (μ := mX5_volumeAt) (pc := 34) dX5_volumeAt_34 (Nat.le_of_ble_eq_true rfl) rfl ?_
        refine J.iinc (μ := mX5_volumeAt) (pc := 35) (v := 1) dX5_volumeAt_35 rfl (by decide) (Nat.le_of_ble_eq_true rfl) rfl ?_
        refine J.goto (μ := mX5_volumeAt) (pc := 38) 4 dX5_volumeAt_38 (by decide) ?_
        exact J.sub (by simp [lsub, cn, sm, nI_succ, *]) ih
theorem s_X5_shelvedCount {γ : Gm} {v : Vs} {o : Nat} (ho : IsStk o) {N : Nat} (hN : v (o + 8) 7 = nI N) (h20 : N ≤ 20) : Er γ mX5_shelvedCount yX5_shelvedCount 2 [.ref (gz γ + (o + 8))] v (.int (nI (cn (fun i => decide (0 ≤ gPl v o (nI i))) N))) := by
  refine Ev.ofJ (by decide) rfl (fun h => by cases h) (Nat.le_of_ble_eq_true rfl) ?_
  refine J.iconst (μ := mX5_shelvedCount) (pc := 0) (v := 0) dX5_shelvedCount_0 (by decide) ?_
  refine J.istore_n (μ := mX5_shelvedCount) (pc := 1) dX5_shelvedCount_1 (Nat.le_of_ble_eq_true rfl) rfl ?_
  refine J.iconst (μ := mX5_shelvedCount) (pc := 2) (v := 0) dX5_shelvedCount_2 (by decide) ?_
  refine J.istore_n (μ := mX5_shelvedCount) (pc := 3) dX5_shelvedCount_3 (Nat.le_of_ble_eq_true rfl) rfl ?_
  refine J.for (Lf := fun i => [some (.ref (gz γ + (o + 8))), some (.int (nI (cn (fun i => decide (0 ≤ gPl v o (nI i))) i))), some (.int (nI i))]) (Pf := fun _ => Rp γ v) N ?_ (fun i hi ih => ?_)
  · refine J.iload_n (μ := mX5_shelvedCount) (pc := 4) dX5_shelvedCount_4 rfl ?_
    refine J.aload_n (μ := mX5_shelvedCount) (pc := 5) dX5_shelvedCount_5 rfl ?_
    refine J.gi (μ := mX5_shelvedCount) (pc := 6) (T := TX5) (ci := 8) (fks := _) rfl rfl in_X5 7 (by decide) wf_X5_38 dX5_shelvedCount_6 (ho 8 (by decide)) rfl ?_
    rw [hN]
    refine J.icmp_ge (μ := mX5_shelvedCount) (pc := 9) 29 dX5_shelvedCount_9 (by decide) (fun hc => ?_) (fun hc => ?_)
    · refine J.iload_n (μ := mX5_shelvedCount) (pc := 29) dX5_shelvedCount_29 rfl ?_
      exact J.iret (μ := mX5_shelvedCount) (pc := 30) dX5_shelvedCount_30 rfl (Nat.le_of_ble_eq_true rfl) (Nat.le_of_ble_eq_true rfl) (fun H h => ⟨rfl, h⟩)
    · exact absurd hc (nI_nlt_of (Nat.le_refl N) (by omega))
  · refine J.iload_n (μ := mX5_shelvedCount) (pc := 4) dX5_shelvedCount_4 rfl ?_
    refine J.aload_n (μ := mX5_shelvedCount) (pc := 5) dX5_shelvedCount_5 rfl ?_
    refine J.gi (μ := mX5_shelvedCount) (pc := 6) (T := TX5) (ci := 8) (fks := _) rfl rfl in_X5 7 (by decide) wf_X5_38 dX5_shelvedCount_6 (ho 8 (by decide)) rfl ?_
    rw [hN]
    refine J.icmp_ge (μ := mX5_shelvedCount) (pc := 9) 29 dX5_shelvedCount_9 (by decide) (fun hc => ?_) (fun hc => ?_)
    · exact absurd hc (nI_nle_of hi (by omega))
    · refine J.aload_n (μ := mX5_shelvedCount) (pc := 12) dX5_shelvedCount_12 rfl ?_
      refine J.iload_n (μ := mX5_shelvedCount) (pc := 13) dX5_shelvedCount_13 rfl ?_
      refine J.cV (μ := mX5_shelvedCount) (pc := 14) (s_X5_isShelved ho  _) rfl wm_X5_54 mi_X5_isShelved rfl dX5_shelvedCount_14 (Rp.isa (T := TX5) rfl (ho 8 (by decide))) rfl rfl ⟨(Nat.le_of_ble_eq_true rfl), (Nat.le_of_ble_eq_true rfl)⟩ ⟨(Nat.le_of_ble_eq_true rfl), (Nat.le_of_ble_eq_true rfl)⟩ (Nat.le_of_ble_eq_true rfl) ?_
      refine J.ifB_eq (μ := mX5_shelvedCount) (pc := 17) 23 dX5_shelvedCount_17 (by decide) (fun c4 => ?_) (fun c4 => ?_)
      · refine J.iinc (μ := mX5_shelvedCount) (pc := 23) (v := 1) dX5_shelvedCount_23 rfl (by decide) (Nat.le_of_ble_eq_true rfl) rfl ?_
        refine J.goto (μ := mX5_shelvedCount) (pc := 26) 4 dX5_shelvedCount_26 (by decide) ?_
        exact J.sub (by simp [lsub, cn, sm, nI_succ, *]) ih
      · refine J.iinc (μ := mX5_shelvedCount) (pc := 20) (v := 1) dX5_shelvedCount_20 rfl (by decide) (Nat.le_of_ble_eq_true rfl) rfl ?_
        refine J.iinc (μ := mX5_shelvedCount) (pc := 23) (v := 1) dX5_shelvedCount_23 rfl (by decide) (Nat.le_of_ble_eq_true rfl) rfl ?_
        refine J.goto (μ := mX5_shelvedCount) (pc := 26) 4 dX5_shelvedCount_26 (by decide) ?_
        exact J.sub (by simp [lsub, cn, sm, nI_succ, *]) ih
theorem s_X5_shelvedVolume {γ : Gm} {v : Vs} {o : Nat} (ho : IsStk o) {N : Nat} (hN : v (o + 8) 7 = nI N) (h20 : N ≤ 20) : Er γ mX5_shelvedVolume yX5_shelvedVolume 2 [.ref (gz γ + (o + 8))] v (.int (sm (fun i => decide (0 ≤ gPl v o (nI i))) (fun i => gVo v o (nI i)) N)) := by
  refine Ev.ofJ (by decide) rfl (fun h => by cases h) (Nat.le_of_ble_eq_true rfl) ?_
  refine J.iconst (μ := mX5_shelvedVolume) (pc := 0) (v := 0) dX5_shelvedVolume_0 (by decide) ?_
  refine J.istore_n (μ := mX5_shelvedVolume) (pc := 1) dX5_shelvedVolume_1 (Nat.le_of_ble_eq_true rfl) rfl ?_
  refine J.iconst (μ := mX5_shelvedVolume) (pc := 2) (v := 0) dX5_shelvedVolume_2 (by decide) ?_
  refine J.istore_n (μ := mX5_shelvedVolume) (pc := 3) dX5_shelvedVolume_3 (Nat.le_of_ble_eq_true rfl) rfl ?_
  refine J.for (Lf := fun i => [some (.ref (gz γ + (o + 8))), some (.int (sm (fun i => decide (0 ≤ gPl v o (nI i))) (fun i => gVo v o (nI i)) i)), some (.int (nI i))]) (Pf := fun _ => Rp γ v) N ?_ (fun i hi ih => ?_)
  · refine J.iload_n (μ := mX5_shelvedVolume) (pc := 4) dX5_shelvedVolume_4 rfl ?_
    refine J.aload_n (μ := mX5_shelvedVolume) (pc := 5) dX5_shelvedVolume_5 rfl ?_
    refine J.gi (μ := mX5_shelvedVolume) (pc := 6) (T := TX5) (ci := 8) (fks := _) rfl rfl in_X5 7 (by decide) wf_X5_38 dX5_shelvedVolume_6 (ho 8 (by decide)) rfl ?_
    rw [hN]
    refine J.icmp_ge (μ := mX5_shelvedVolume) (pc := 9) 37 dX5_shelvedVolume_9 (by decide) (fun hc => ?_) (fun hc => ?_)
    · refine J.iload_n (μ := mX5_shelvedVolume) (pc := 37) dX5_shelvedVolume_37 rfl ?_
      exact J.iret (μ := mX5_shelvedVolume) (pc := 38) dX5_shelvedVolume_38 rfl (Nat.le_of_ble_eq_true rfl) (Nat.le_of_ble_eq_true rfl) (fun H h => ⟨rfl, h⟩)
    · exact absurd hc (nI_nlt_of (Nat.le_refl N) (by omega))
  · refine J.iload_n (μ := mX5_shelvedVolume) (pc := 4) dX5_shelvedVolume_4 rfl ?_
    refine J.aload_n (μ := mX5_shelvedVolume) (pc := 5) dX5_shelvedVolume_5 rfl ?_
    refine J.gi (μ := mX5_shelvedVolume) (pc := 6) (T := TX5) (ci := 8) (fks := _) rfl rfl in_X5 7 (by decide) wf_X5_38 dX5_shelvedVolume_6 (ho 8 (by decide)) rfl ?_
    rw [hN]
    refine J.icmp_ge (μ := mX5_shelvedVolume) (pc := 9) 37 dX5_shelvedVolume_9 (by decide) (fun hc => ?_) (fun hc => ?_)
    · exact absurd hc (nI_nle_of hi (by omega))
    · refine J.aload_n (μ := mX5_shelvedVolume) (pc := 12) dX5_shelvedVolume_12 rfl ?_
      refine J.iload_n (μ := mX5_shelvedVolume) (pc := 13) dX5_shelvedVolume_13 rfl ?_
      refine J.cV (μ := mX5_shelvedVolume) (pc := 14) (s_X5_isShelved ho  _) rfl wm_X5_54 mi_X5_isShelved rfl dX5_shelvedVolume_14 (Rp.isa (T := TX5) rfl (ho 8 (by decide))) rfl rfl ⟨(Nat.le_of_ble_eq_true rfl), (Nat.le_of_ble_eq_true rfl)⟩ ⟨(Nat.le_of_ble_eq_true rfl), (Nat.le_of_ble_eq_true rfl)⟩ (Nat.le_of_ble_eq_true rfl) ?_
      refine J.ifB_eq (μ := mX5_shelvedVolume) (pc := 17) 31 dX5_shelvedVolume_17 (by decide) (fun c4 => ?_) (fun c4 => ?_)
      · refine J.iinc (μ := mX5_shelvedVolume) (pc := 31) (v := 1) dX5_shelvedVolume_31 rfl (by decide) (Nat.le_of_ble_eq_true rfl) rfl ?_
        refine J.goto (μ := mX5_shelvedVolume) (pc := 34) 4 dX5_shelvedVolume_34 (by decide) ?_
        exact J.sub (by simp [lsub, cn, sm, nI_succ, *]) ih
      · refine J.iload_n (μ := mX5_shelvedVolume) (pc := 20) dX5_shelvedVolume_20 rfl ?_
        refine J.aload_n (μ := mX5_shelvedVolume) (pc := 21) dX5_shelvedVolume_21 rfl ?_
        refine J.gr (μ := mX5_shelvedVolume) (pc := 22) (T := TX5) (ci := 8) (fks := _) rfl rfl in_X5 2 (by decide) wf_X5_23 dX5_shelvedVolume_22 (ho 8 (by decide)) rfl ?_
        refine J.iload_n (μ := mX5_shelvedVolume) (pc := 25) dX5_shelvedVolume_25 rfl ?_
        refine J.cV (μ := mX5_shelvedVolume) (pc := 26) (g_vo ho _) rfl wm_X5_50 mi_X7_get rfl dX5_shelvedVolume_26 (Rp.isa (T := TX7) rfl (ho 13 (by decide))) rfl rfl ⟨(Nat.le_of_ble_eq_true rfl), (Nat.le_of_ble_eq_true rfl)⟩ ⟨(Nat.le_of_ble_eq_true rfl), (Nat.le_of_ble_eq_true rfl)⟩ (Nat.le_of_ble_eq_true rfl) ?_
        refine J.iadd (μ := mX5_shelvedVolume) (pc := 29) dX5_shelvedVolume_29 ?_
        refine J.istore_n (μ := mX5_shelvedVolume) (pc := 30) dX5_shelvedVolume_30 (Nat.le_of_ble_eq_true rfl) rfl ?_
        refine J.iinc (μ := mX5_shelvedVolume) (pc := 31) (v := 1) dX5_shelvedVolume_31 rfl (by decide) (Nat.le_of_ble_eq_true rfl) rfl ?_
        refine J.goto (μ := mX5_shelvedVolume) (pc := 34) 4 dX5_shelvedVolume_34 (by decide) ?_
        exact J.sub (by simp [lsub, cn, sm, nI_succ, *]) ih
theorem s_X9_expiredCount {γ : Gm} {v : Vs} {o : Nat} (ho : IsStk o) {N : Nat} (hN : v (o + 8) 7 = nI N) (h20 : N ≤ 20) : Er γ mX9_expiredCount yX9_expiredCount 2 [.ref (gz γ + o)] v (.int (nI (cn (fun i => decide (0 ≤ gPl v o (nI i) ∧ gEp v o (nI i) < v o 3)) N))) := by
  refine Ev.ofJ (by decide) rfl (fun h => by cases h) (Nat.le_of_ble_eq_true rfl) ?_
  refine J.iconst (μ := mX9_expiredCount) (pc := 0) (v := 0) dX9_expiredCount_0 (by decide) ?_
  refine J.istore_n (μ := mX9_expiredCount) (pc := 1) dX9_expiredCount_1 (Nat.le_of_ble_eq_true rfl) rfl ?_
  refine J.iconst (μ := mX9_expiredCount) (pc := 2) (v := 0) dX9_expiredCount_2 (by decide) ?_
  refine J.istore_n (μ := mX9_expiredCount) (pc := 3) dX9_expiredCount_3 (Nat.le_of_ble_eq_true rfl) rfl ?_
  refine J.for (Lf := fun i => [some (.ref (gz γ + o)), some (.int (nI (cn (fun i => decide (0 ≤ gPl v o (nI i) ∧ gEp v o (nI i) < v o 3)) i))), some (.int (nI i))]) (Pf := fun _ => Rp γ v) N ?_ (fun i hi ih => ?_)
  · refine J.iload_n (μ := mX9_expiredCount) (pc := 4) dX9_expiredCount_4 rfl ?_
    refine J.aload_n (μ := mX9_expiredCount) (pc := 5) dX9_expiredCount_5 rfl ?_
    refine J.gr (μ := mX9_expiredCount) (pc := 6) (T := TX9) (ci := 12) (fks := _) rfl rfl in_X9 1 (by decide) wf_X9_21 dX9_expiredCount_6 (ho 0 (by decide)) rfl ?_
    refine J.gi (μ := mX9_expiredCount) (pc := 9) (T := TX5) (ci := 8) (fks := _) rfl rfl in_X5 7 (by decide) wf_X9_65 dX9_expiredCount_9 (ho 8 (by decide)) rfl ?_
    rw [hN]
    refine J.icmp_ge (μ := mX9_expiredCount) (pc := 12) 43 dX9_expiredCount_12 (by decide) (fun hc => ?_) (fun hc => ?_)
    · refine J.iload_n (μ := mX9_expiredCount) (pc := 43) dX9_expiredCount_43 rfl ?_
      exact J.iret (μ := mX9_expiredCount) (pc := 44) dX9_expiredCount_44 rfl (Nat.le_of_ble_eq_true rfl) (Nat.le_of_ble_eq_true rfl) (fun H h => ⟨rfl, h⟩)
    · exact absurd hc (nI_nlt_of (Nat.le_refl N) (by omega))
  · refine J.iload_n (μ := mX9_expiredCount) (pc := 4) dX9_expiredCount_4 rfl ?_
    refine J.aload_n (μ := mX9_expiredCount) (pc := 5) dX9_expiredCount_5 rfl ?_
    refine J.gr (μ := mX9_expiredCount) (pc := 6) (T := TX9) (ci := 12) (fks := _) rfl rfl in_X9 1 (by decide) wf_X9_21 dX9_expiredCount_6 (ho 0 (by decide)) rfl ?_
    refine J.gi (μ := mX9_expiredCount) (pc := 9) (T := TX5) (ci := 8) (fks := _) rfl rfl in_X5 7 (by decide) wf_X9_65 dX9_expiredCount_9 (ho 8 (by decide)) rfl ?_
    rw [hN]
    refine J.icmp_ge (μ := mX9_expiredCount) (pc := 12) 43 dX9_expiredCount_12 (by decide) (fun hc => ?_) (fun hc => ?_)
    · exact absurd hc (nI_nle_of hi (by omega))
    · refine J.aload_n (μ := mX9_expiredCount) (pc := 15) dX9_expiredCount_15 rfl ?_
      refine J.gr (μ := mX9_expiredCount) (pc := 16) (T := TX9) (ci := 12) (fks := _) rfl rfl in_X9 1 (by decide) wf_X9_21 dX9_expiredCount_16 (ho 0 (by decide)) rfl ?_
      refine J.iload_n (μ := mX9_expiredCount) (pc := 19) dX9_expiredCount_19 rfl ?_
      refine J.cV (μ := mX9_expiredCount) (pc := 20) (s_X5_isShelved ho  _) rfl wm_X9_68 mi_X5_isShelved rfl dX9_expiredCount_20 (Rp.isa (T := TX5) rfl (ho 8 (by decide))) rfl rfl ⟨(Nat.le_of_ble_eq_true rfl), (Nat.le_of_ble_eq_true rfl)⟩ ⟨(Nat.le_of_ble_eq_true rfl), (Nat.le_of_ble_eq_true rfl)⟩ (Nat.le_of_ble_eq_true rfl) ?_
      refine J.ifB_eq (μ := mX9_expiredCount) (pc := 23) 37 dX9_expiredCount_23 (by decide) (fun c5 => ?_) (fun c5 => ?_)
      · refine J.iinc (μ := mX9_expiredCount) (pc := 37) (v := 1) dX9_expiredCount_37 rfl (by decide) (Nat.le_of_ble_eq_true rfl) rfl ?_
        refine J.goto (μ := mX9_expiredCount) (pc := 40) 4 dX9_expiredCount_40 (by decide) ?_
        exact J.sub (by simp [lsub, cn, sm, nI_succ, *]) ih
      · refine J.aload_n (μ := mX9_expiredCount) (pc := 26) dX9_expiredCount_26 rfl ?_
        refine J.iload_n (μ := mX9_expiredCount) (pc := 27) dX9_expiredCount_27 rfl ?_
        refine J.cV (μ := mX9_expiredCount) (pc := 28) (s_X9_hasExpired ho  _) rfl wm_X9_72 mi_X9_hasExpired rfl dX9_expiredCount_28 (Rp.isa (T := TX9) rfl (ho 0 (by decide))) rfl rfl ⟨(Nat.le_of_ble_eq_true rfl), (Nat.le_of_ble_eq_true rfl)⟩ ⟨(Nat.le_of_ble_eq_true rfl), (Nat.le_of_ble_eq_true rfl)⟩ (Nat.le_of_ble_eq_true rfl) ?_
        refine J.ifB_eq (μ := mX9_expiredCount) (pc := 31) 37 dX9_expiredCount_31 (by decide) (fun c11 => ?_) (fun c11 => ?_)
        · refine J.iinc (μ := mX9_expiredCount) (pc := 37) (v := 1) dX9_expiredCount_37 rfl (by decide) (Nat.le_of_ble_eq_true rfl) rfl ?_
          refine J.goto (μ := mX9_expiredCount) (pc := 40) 4 dX9_expiredCount_40 (by decide) ?_
          exact J.sub (by simp [lsub, cn, sm, nI_succ, *]) ih
        · refine J.iinc (μ := mX9_expiredCount) (pc := 34) (v := 1) dX9_expiredCount_34 rfl (by decide) (Nat.le_of_ble_eq_true rfl) rfl ?_
          refine J.iinc (μ := mX9_expiredCount) (pc := 37) (v := 1) dX9_expiredCount_37 rfl (by decide) (Nat.le_of_ble_eq_true rfl) rfl ?_
          refine J.goto (μ := mX9_expiredCount) (pc := 40) 4 dX9_expiredCount_40 (by decide) ?_
          exact J.sub (by simp [lsub, cn, sm, nI_succ, *]) ih
/-- c less the f's of those for which p says true -/
def sd (p : Nat → Bool) (f : Nat → Int32) (c : Int32) : Nat → Int32
  | 0 => c
  | n + 1 => if p n = true then sd p f c n - f n else sd p f c n
/-- the room of shelf x, lots a and b left out -/
def roomW (v : Vs) (o N : Nat) (x a b : Int32) : Int32 := sd (fun i => decide (gPl v o (nI i) = x ∧ nI i ≠ a ∧ nI i ≠ b)) (fun i => gVo v o (nI i)) (gCp v o x) N
theorem s_X9_roomWithout {γ : Gm} {v : Vs} {o : Nat} (ho : IsStk o) {N : Nat} (hN : v (o + 8) 7 = nI N) (h20 : N ≤ 20) (x a b : Int32) : Er γ mX9_roomWithout yX9_roomWithout 1 [.ref (gz γ + o), .int x, .int a, .int b] v (.int (roomW v o N x a b)) := by
  refine Ev.ofJ (by decide) rfl (fun h => by cases h) (Nat.le_of_ble_eq_true rfl) ?_
  refine J.aload_n (μ := mX9_roomWithout) (pc := 0) dX9_roomWithout_0 rfl ?_
  refine J.gr (μ := mX9_roomWithout) (pc := 1) (T := TX9) (ci := 12) (fks := _) rfl rfl in_X9 0 (by decide) wf_X9_12 dX9_roomWithout_1 (ho 0 (by decide)) rfl ?_
  refine J.gr (μ := mX9_roomWithout) (pc := 4) (T := TX8) (ci := 11) (fks := _) rfl rfl in_X8 1 (by decide) wf_X9_75 dX9_roomWithout_4 (ho 1 (by decide)) rfl ?_
  refine J.iload_n (μ := mX9_roomWithout) (pc := 7) dX9_roomWithout_7 rfl ?_
  refine J.cV (μ := mX9_roomWithout) (pc := 8) (g_cp ho _) rfl wm_X9_59 mi_X7_get rfl dX9_roomWithout_8 (Rp.isa (T := TX7) rfl (ho 4 (by decide))) rfl rfl ⟨(Nat.le_of_ble_eq_true rfl), (Nat.le_of_ble_eq_true rfl)⟩ ⟨(Nat.le_of_ble_eq_true rfl), (Nat.le_of_ble_eq_true rfl)⟩ (Nat.le_of_ble_eq_true rfl) ?_
  refine J.istore (μ := mX9_roomWithout) (pc := 11) dX9_roomWithout_11 (Nat.le_of_ble_eq_true rfl) rfl ?_
  refine J.iconst (μ := mX9_roomWithout) (pc := 13) (v := 0) dX9_roomWithout_13 (by decide) ?_
  refine J.istore (μ := mX9_roomWithout) (pc := 14) dX9_roomWithout_14 (Nat.le_of_ble_eq_true rfl) rfl ?_
  refine J.for (Lf := fun i => [some (.ref (gz γ + o)), some (.int x), some (.int a), some (.int b), some (.int (sd (fun i => decide (gPl v o (nI i) = x ∧ nI i ≠ a ∧ nI i ≠ b)) (fun i => gVo v o (nI i)) (gCp v o x) i)), some (.int (nI i))]) (Pf := fun _ => Rp γ v) N ?_ (fun i hi ih => ?_)
  · refine J.iload (μ := mX9_roomWithout) (pc := 16) dX9_roomWithout_16 rfl ?_
    refine J.aload_n (μ := mX9_roomWithout) (pc := 18) dX9_roomWithout_18 rfl ?_
    refine J.gr (μ := mX9_roomWithout) (pc := 19) (T := TX9) (ci := 12) (fks := _) rfl rfl in_X9 1 (by decide) wf_X9_21 dX9_roomWithout_19 (ho 0 (by decide)) rfl ?_
    refine J.gi (μ := mX9_roomWithout) (pc := 22) (T := TX5) (ci := 8) (fks := _) rfl rfl in_X5 7 (by decide) wf_X9_65 dX9_roomWithout_22 (ho 8 (by decide)) rfl ?_
    rw [hN]
    refine J.icmp_ge (μ := mX9_roomWithout) (pc := 25) 79 dX9_roomWithout_25 (by decide) (fun hc => ?_) (fun hc => ?_)
    · refine J.iload (μ := mX9_roomWithout) (pc := 79) dX9_roomWithout_79 rfl ?_
      exact J.iret (μ := mX9_roomWithout) (pc := 81) dX9_roomWithout_81 rfl (Nat.le_of_ble_eq_true rfl) (Nat.le_of_ble_eq_true rfl) (fun H h => ⟨rfl, h⟩)
    · exact absurd hc (nI_nlt_of (Nat.le_refl N) (by omega))
  · refine J.iload (μ := mX9_roomWithout) (pc := 16) dX9_roomWithout_16 rfl ?_
    refine J.aload_n (μ := mX9_roomWithout) (pc := 18) dX9_roomWithout_18 rfl ?_
    refine J.gr (μ := mX9_roomWithout) (pc := 19) (T := TX9) (ci := 12) (fks := _) rfl rfl in_X9 1 (by decide) wf_X9_21 dX9_roomWithout_19 (ho 0 (by decide)) rfl ?_
    refine J.gi (μ := mX9_roomWithout) (pc := 22) (T := TX5) (ci := 8) (fks := _) rfl rfl in_X5 7 (by decide) wf_X9_65 dX9_roomWithout_22 (ho 8 (by decide)) rfl ?_
    rw [hN]
    refine J.icmp_ge (μ := mX9_roomWithout) (pc := 25) 79 dX9_roomWithout_25 (by decide) (fun hc => ?_) (fun hc => ?_)
    · exact absurd hc (nI_nle_of hi (by omega))
    · refine J.aload_n (μ := mX9_roomWithout) (pc := 28) dX9_roomWithout_28 rfl ?_
      refine J.gr (μ := mX9_roomWithout) (pc := 29) (T := TX9) (ci := 12) (fks := _) rfl rfl in_X9 1 (by decide) wf_X9_21 dX9_roomWithout_29 (ho 0 (by decide)) rfl ?_
      refine J.gr (μ := mX9_roomWithout) (pc := 32) (T := TX5) (ci := 8) (fks := _) rfl rfl in_X5 4 (by decide) wf_X9_78 dX9_roomWithout_32 (ho 8 (by decide)) rfl ?_
      refine J.iload (μ := mX9_roomWithout) (pc := 35) dX9_roomWithout_35 rfl ?_
      refine J.cV (μ := mX9_roomWithout) (pc := 37) (g_pl ho _) rfl wm_X9_59 mi_X7_get rfl dX9_roomWithout_37 (Rp.isa (T := TX7) rfl (ho 17 (by decide))) rfl rfl ⟨(Nat.le_of_ble_eq_true rfl), (Nat.le_of_ble_eq_true rfl)⟩ ⟨(Nat.le_of_ble_eq_true rfl), (Nat.le_of_ble_eq_true rfl)⟩ (Nat.le_of_ble_eq_true rfl) ?_
      refine J.iload_n (μ := mX9_roomWithout) (pc := 40) dX9_roomWithout_40 rfl ?_
      refine J.icmp_ne (μ := mX9_roomWithout) (pc := 41) 73 dX9_roomWithout_41 (by decide) (fun c7 => ?_) (fun c7 => ?_)
      · refine J.iinc (μ := mX9_roomWithout) (pc := 73) (v := 1) dX9_roomWithout_73 rfl (by decide) (Nat.le_of_ble_eq_true rfl) rfl ?_
        refine J.goto (μ := mX9_roomWithout) (pc := 76) 16 dX9_roomWithout_76 (by decide) ?_
        exact J.sub (by simp [lsub, sd, nI_succ, *]) ih
      · refine J.iload (μ := mX9_roomWithout) (pc := 44) dX9_roomWithout_44 rfl ?_
        refine J.iload_n (μ := mX9_roomWithout) (pc := 46) dX9_roomWithout_46 rfl ?_
        refine J.icmp_eq (μ := mX9_roomWithout) (pc := 47) 73 dX9_roomWithout_47 (by decide) (fun c12 => ?_) (fun c12 => ?_)
        · refine J.iinc (μ := mX9_roomWithout) (pc := 73) (v := 1) dX9_roomWithout_73 rfl (by decide) (Nat.le_of_ble_eq_true rfl) rfl ?_
          refine J.goto (μ := mX9_roomWithout) (pc := 76) 16 dX9_roomWithout_76 (by decide) ?_
          exact J.sub (by simp [lsub, sd, nI_succ, *]) ih
        · refine J.iload (μ := mX9_roomWithout) (pc := 50) dX9_roomWithout_50 rfl ?_
          refine J.iload_n (μ := mX9_roomWithout) (pc := 52) dX9_roomWithout_52 rfl ?_
          refine J.icmp_eq (μ := mX9_roomWithout) (pc := 53) 73 dX9_roomWithout_53 (by decide) (fun c17 => ?_) (fun c17 => ?_)
          · refine J.iinc (μ := mX9_roomWithout) (pc := 73) (v := 1) dX9_roomWithout_73 rfl (by decide) (Nat.le_of_ble_eq_true rfl) rfl ?_
            refine J.goto (μ := mX9_roomWithout) (pc := 76) 16 dX9_roomWithout_76 (by decide) ?_
            exact J.sub (by simp [lsub, sd, nI_succ, *]) ih
          · refine J.iload (μ := mX9_roomWithout) (pc := 56) dX9_roomWithout_56 rfl ?_
            refine J.aload_n (μ := mX9_roomWithout) (pc := 58) dX9_roomWithout_58 rfl ?_
            refine J.gr (μ := mX9_roomWithout) (pc := 59) (T := TX9) (ci := 12) (fks := _) rfl rfl in_X9 1 (by decide) wf_X9_21 dX9_roomWithout_59 (ho 0 (by decide)) rfl ?_
            refine J.gr (μ := mX9_roomWithout) (pc := 62) (T := TX5) (ci := 8) (fks := _) rfl rfl in_X5 2 (by decide) wf_X9_81 dX9_roomWithout_62 (ho 8 (by decide)) rfl ?_
            refine J.iload (μ := mX9_roomWithout) (pc := 65) dX9_roomWithout_65 rfl ?_
            refine J.cV (μ := mX9_roomWithout) (pc := 67) (g_vo ho _) rfl wm_X9_59 mi_X7_get rfl dX9_roomWithout_67 (Rp.isa (T := TX7) rfl (ho 13 (by decide))) rfl rfl ⟨(Nat.le_of_ble_eq_true rfl), (Nat.le_of_ble_eq_true rfl)⟩ ⟨(Nat.le_of_ble_eq_true rfl), (Nat.le_of_ble_eq_true rfl)⟩ (Nat.le_of_ble_eq_true rfl) ?_
            refine J.isub (μ := mX9_roomWithout) (pc := 70) dX9_roomWithout_70 ?_
            refine J.istore (μ := mX9_roomWithout) (pc := 71) dX9_roomWithout_71 (Nat.le_of_ble_eq_true rfl) rfl ?_
            refine J.iinc (μ := mX9_roomWithout) (pc := 73) (v := 1) dX9_roomWithout_73 rfl (by decide) (Nat.le_of_ble_eq_true rfl) rfl ?_
            refine J.goto (μ := mX9_roomWithout) (pc := 76) 16 dX9_roomWithout_76 (by decide) ?_
            exact J.sub (by simp [lsub, sd, nI_succ, *]) ih
/-- the best shelf so far, and its room -/
def pfs (v : Vs) (o N : Nat) (z w a b : Int32) : Nat → Int32 × Int32
  | 0 => (-1, 0)
  | i + 1 => if gZn v o (nI i) = z ∧ w ≤ roomW v o N (nI i) a b ∧ ((pfs v o N z w a b i).1 = -1 ∨ roomW v o N (nI i) a b < (pfs v o N z w a b i).2) then (nI i, roomW v o N (nI i) a b) else pfs v o N z w a b i
theorem nlt_of_le {a b : Int32} (h : a ≤ b) : ¬ b < a := Int32.not_lt.mpr h
theorem nle_of_lt {a b : Int32} (h : a < b) : ¬ b ≤ a := Int32.not_le.mpr h
theorem s_X9_placeFor {γ : Gm} {v : Vs} {o : Nat} (ho : IsStk o) {N M : Nat} (hN : v (o + 8) 7 = nI N) (h20 : N ≤ 20) (hM : v (o + 1) 3 = nI M) (h8 : M ≤ 8) (z w a b : Int32) : Er γ mX9_placeFor yX9_placeFor 2 [.ref (gz γ + o), .int z, .int w, .int a, .int b] v (.int (pfs v o N z w a b M).1) := by
  refine Ev.ofJ (by decide) rfl (fun h => by cases h) (Nat.le_of_ble_eq_true rfl) ?_
  refine J.iconst (μ := mX9_placeFor) (pc := 0) (v := -1) dX9_placeFor_0 (by decide) ?_
  refine J.istore (μ := mX9_placeFor) (pc := 1) dX9_placeFor_1 (Nat.le_of_ble_eq_true rfl) rfl ?_
  refine J.iconst (μ := mX9_placeFor) (pc := 3) (v := 0) dX9_placeFor_3 (by decide) ?_
  refine J.istore (μ := mX9_placeFor) (pc := 4) dX9_placeFor_4 (Nat.le_of_ble_eq_true rfl) rfl ?_
  refine J.iconst (μ := mX9_placeFor) (pc := 6) (v := 0) dX9_placeFor_6 (by decide) ?_
  refine J.istore (μ := mX9_placeFor) (pc := 7) dX9_placeFor_7 (Nat.le_of_ble_eq_true rfl) rfl ?_
  refine J.for (Lf := fun i => [some (.ref (gz γ + o)), some (.int z), some (.int w), some (.int a), some (.int b), some (.int (pfs v o N z w a b i).1), some (.int (pfs v o N z w a b i).2), some (.int (nI i)), none]) (Pf := fun _ => Rp γ v) M ?_ (fun i hi ih => ?_)
  · refine J.iload (μ := mX9_placeFor) (pc := 9) dX9_placeFor_9 rfl ?_
    refine J.aload_n (μ := mX9_placeFor) (pc := 11) dX9_placeFor_11 rfl ?_
    refine J.gr (μ := mX9_placeFor) (pc := 12) (T := TX9) (ci := 12) (fks := _) rfl rfl in_X9 0 (by decide) wf_X9_12 dX9_placeFor_12 (ho 0 (by decide)) rfl ?_
    refine J.gi (μ := mX9_placeFor) (pc := 15) (T := TX8) (ci := 11) (fks := _) rfl rfl in_X8 3 (by decide) wf_X9_84 dX9_placeFor_15 (ho 1 (by decide)) rfl ?_
    rw [hM]
    refine J.icmp_ge (μ := mX9_placeFor) (pc := 18) 81 dX9_placeFor_18 (by decide) (fun hc => ?_) (fun hc => ?_)
    · refine J.iload (μ := mX9_placeFor) (pc := 81) dX9_placeFor_81 rfl ?_
      exact J.iret (μ := mX9_placeFor) (pc := 83) dX9_placeFor_83 rfl (Nat.le_of_ble_eq_true rfl) (Nat.le_of_ble_eq_true rfl) (fun H h => ⟨rfl, h⟩)
    · exact absurd hc (nI_nlt_of (Nat.le_refl M) (by omega))
  · refine J.iload (μ := mX9_placeFor) (pc := 9) dX9_placeFor_9 rfl ?_
    refine J.aload_n (μ := mX9_placeFor) (pc := 11) dX9_placeFor_11 rfl ?_
    refine J.gr (μ := mX9_placeFor) (pc := 12) (T := TX9) (ci := 12) (fks := _) rfl rfl in_X9 0 (by decide) wf_X9_12 dX9_placeFor_12 (ho 0 (by decide)) rfl ?_
    refine J.gi (μ := mX9_placeFor) (pc := 15) (T := TX8) (ci := 11) (fks := _) rfl rfl in_X8 3 (by decide) wf_X9_84 dX9_placeFor_15 (ho 1 (by decide)) rfl ?_
    rw [hM]
    refine J.icmp_ge (μ := mX9_placeFor) (pc := 18) 81 dX9_placeFor_18 (by decide) (fun hc => ?_) (fun hc => ?_)
    · exact absurd hc (nI_nle_of hi (by omega))
    · refine J.aload_n (μ := mX9_placeFor) (pc := 21) dX9_placeFor_21 rfl ?_
      refine J.gr (μ := mX9_placeFor) (pc := 22) (T := TX9) (ci := 12) (fks := _) rfl rfl in_X9 0 (by decide) wf_X9_12 dX9_placeFor_22 (ho 0 (by decide)) rfl ?_
      refine J.gr (μ := mX9_placeFor) (pc := 25) (T := TX8) (ci := 11) (fks := _) rfl rfl in_X8 0 (by decide) wf_X9_85 dX9_placeFor_25 (ho 1 (by decide)) rfl ?_
      refine J.iload (μ := mX9_placeFor) (pc := 28) dX9_placeFor_28 rfl ?_
      refine J.cV (μ := mX9_placeFor) (pc := 30) (g_zn ho _) rfl wm_X9_59 mi_X7_get rfl dX9_placeFor_30 (Rp.isa (T := TX7) rfl (ho 2 (by decide))) rfl rfl ⟨(Nat.le_of_ble_eq_true rfl), (Nat.le_of_ble_eq_true rfl)⟩ ⟨(Nat.le_of_ble_eq_true rfl), (Nat.le_of_ble_eq_true rfl)⟩ (Nat.le_of_ble_eq_true rfl) ?_
      refine J.iload_n (μ := mX9_placeFor) (pc := 33) dX9_placeFor_33 rfl ?_
      refine J.icmp_ne (μ := mX9_placeFor) (pc := 34) 75 dX9_placeFor_34 (by decide) (fun c7 => ?_) (fun c7 => ?_)
      · refine J.iinc (μ := mX9_placeFor) (pc := 75) (v := 1) dX9_placeFor_75 rfl (by decide) (Nat.le_of_ble_eq_true rfl) rfl ?_
        refine J.goto (μ := mX9_placeFor) (pc := 78) 9 dX9_placeFor_78 (by decide) ?_
        exact J.sub (by simp [lsub, pfs, nI_succ, nlt_of_le, nle_of_lt, *]) ih
      · refine J.aload_n (μ := mX9_placeFor) (pc := 37) dX9_placeFor_37 rfl ?_
        refine J.iload (μ := mX9_placeFor) (pc := 38) dX9_placeFor_38 rfl ?_
        refine J.iload_n (μ := mX9_placeFor) (pc := 40) dX9_placeFor_40 rfl ?_
        refine J.iload (μ := mX9_placeFor) (pc := 41) dX9_placeFor_41 rfl ?_
        refine J.cV (μ := mX9_placeFor) (pc := 43) (s_X9_roomWithout ho hN h20 _ _ _) rfl wm_X9_88 mi_X9_roomWithout rfl dX9_placeFor_43 (Rp.isa (T := TX9) rfl (ho 0 (by decide))) rfl rfl ⟨(Nat.le_of_ble_eq_true rfl), (Nat.le_of_ble_eq_true rfl)⟩ ⟨(Nat.le_of_ble_eq_true rfl), (Nat.le_of_ble_eq_true rfl)⟩ (Nat.le_of_ble_eq_true rfl) ?_
        refine J.istore (μ := mX9_placeFor) (pc := 46) dX9_placeFor_46 (Nat.le_of_ble_eq_true rfl) rfl ?_
        refine J.iload (μ := mX9_placeFor) (pc := 48) dX9_placeFor_48 rfl ?_
        refine J.iload_n (μ := mX9_placeFor) (pc := 50) dX9_placeFor_50 rfl ?_
        refine J.icmp_lt (μ := mX9_placeFor) (pc := 51) 75 dX9_placeFor_51 (by decide) (fun c18 => ?_) (fun c18 => ?_)
        · refine J.iinc (μ := mX9_placeFor) (pc := 75) (v := 1) dX9_placeFor_75 rfl (by decide) (Nat.le_of_ble_eq_true rfl) rfl ?_
          refine J.goto (μ := mX9_placeFor) (pc := 78) 9 dX9_placeFor_78 (by decide) ?_
          exact J.sub (by simp [lsub, pfs, nI_succ, nlt_of_le, nle_of_lt, *]) ih
        · refine J.iload (μ := mX9_placeFor) (pc := 54) dX9_placeFor_54 rfl ?_
          refine J.iconst (μ := mX9_placeFor) (pc := 56) (v := -1) dX9_placeFor_56 (by decide) ?_
          refine J.icmp_eq (μ := mX9_placeFor) (pc := 57) 67 dX9_placeFor_57 (by decide) (fun c23 => ?_) (fun c23 => ?_)
          · refine J.iload (μ := mX9_placeFor) (pc := 67) dX9_placeFor_67 rfl ?_
            refine J.istore (μ := mX9_placeFor) (pc := 69) dX9_placeFor_69 (Nat.le_of_ble_eq_true rfl) rfl ?_
            refine J.iload (μ := mX9_placeFor) (pc := 71) dX9_placeFor_71 rfl ?_
            refine J.istore (μ := mX9_placeFor) (pc := 73) dX9_placeFor_73 (Nat.le_of_ble_eq_true rfl) rfl ?_
            refine J.iinc (μ := mX9_placeFor) (pc := 75) (v := 1) dX9_placeFor_75 rfl (by decide) (Nat.le_of_ble_eq_true rfl) rfl ?_
            refine J.goto (μ := mX9_placeFor) (pc := 78) 9 dX9_placeFor_78 (by decide) ?_
            exact J.sub (by simp [lsub, pfs, nI_succ, nlt_of_le, nle_of_lt, *]) ih
          · refine J.iload (μ := mX9_placeFor) (pc := 60) dX9_placeFor_60 rfl ?_
            refine J.iload (μ := mX9_placeFor) (pc := 62) dX9_placeFor_62 rfl ?_
            refine J.icmp_ge (μ := mX9_placeFor) (pc := 64) 75 dX9_placeFor_64 (by decide) (fun c32 => ?_) (fun c32 => ?_)
            · refine J.iinc (μ := mX9_placeFor) (pc := 75) (v := 1) dX9_placeFor_75 rfl (by decide) (Nat.le_of_ble_eq_true rfl) rfl ?_
              refine J.goto (μ := mX9_placeFor) (pc := 78) 9 dX9_placeFor_78 (by decide) ?_
              exact J.sub (by simp [lsub, pfs, nI_succ, nlt_of_le, nle_of_lt, *]) ih
            · refine J.iload (μ := mX9_placeFor) (pc := 67) dX9_placeFor_67 rfl ?_
              refine J.istore (μ := mX9_placeFor) (pc := 69) dX9_placeFor_69 (Nat.le_of_ble_eq_true rfl) rfl ?_
              refine J.iload (μ := mX9_placeFor) (pc := 71) dX9_placeFor_71 rfl ?_
              refine J.istore (μ := mX9_placeFor) (pc := 73) dX9_placeFor_73 (Nat.le_of_ble_eq_true rfl) rfl ?_
              refine J.iinc (μ := mX9_placeFor) (pc := 75) (v := 1) dX9_placeFor_75 rfl (by decide) (Nat.le_of_ble_eq_true rfl) rfl ?_
              refine J.goto (μ := mX9_placeFor) (pc := 78) 9 dX9_placeFor_78 (by decide) ?_
              exact J.sub (by simp [lsub, pfs, nI_succ, nlt_of_le, nle_of_lt, *]) ih
