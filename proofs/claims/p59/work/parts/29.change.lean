/-! the class's own methods that change: refuse, change, undo, the snapshot -/
theorem J.no {γ : Gm} {μ : Mu} {R : Room} {Q : Fin_} {k n pc : Nat} {L : List (Option Value)} {st : List Value} {P : Heap → Prop} (h : ∀ H, ¬ P H) : J γ μ R Q k n pc L st P :=
  fun p l e s m args below meth c B H locs ls hL hP hS => absurd hP (h H)
theorem JX.no {γ : Gm} {μ : Mu} {R : Room} {Q : Fin_} {k n pc : Nat} {L : List (Option Value)} {E : String} {P : Heap → Prop} (h : ∀ H, ¬ P H) : JX γ μ R Q k n pc L E P :=
  fun p l e s m args below meth c B H locs ls rest q ce hL hP hS => absurd hP (h H)
/-- the exception that a verdict brings, and what is kept of it -/
def excOf (x : Int32) : String := if x = -1 then nsC else if x = -2 then ioE else if x = -3 then iaE else uoE
def rfV (v : Vs) (x : Int32) : Vs := if x = -1 then v else if x = -2 then v else if x = -3 then v else kdV v x (v 289 0) (-1)
theorem s_X11_refuse {γ : Gm} {v : Vs} (x : Int32) : Xm γ mX11_refuse yX11_refuse 8 [.ref (gz γ + 0), .int x] v (fun _ _ => False) (fun E H => E = excOf x ∧ Rp γ (rfV v x) H) := by
  refine Ex.ofJ (by decide) rfl (fun h => by cases h) (Nat.le_of_ble_eq_true rfl) ?_
  refine J.iload_n (μ := mX11_refuse) (pc := 0) dX11_refuse_0 rfl ?_
  refine J.iconst (μ := mX11_refuse) (pc := 1) (v := -1) dX11_refuse_1 (by decide) ?_
  refine J.icmp_ne (μ := mX11_refuse) (pc := 2) 16 dX11_refuse_2 (by decide) (fun h1 => ?_) (fun h1 => ?_)
  · refine J.iload_n (μ := mX11_refuse) (pc := 16) dX11_refuse_16 rfl ?_
    refine J.bipush (μ := mX11_refuse) (pc := 17) (v := -2) dX11_refuse_17 (by decide) ?_
    refine J.icmp_ne (μ := mX11_refuse) (pc := 19) 33 dX11_refuse_19 (by decide) (fun h2 => ?_) (fun h2 => ?_)
    · refine J.iload_n (μ := mX11_refuse) (pc := 33) dX11_refuse_33 rfl ?_
      refine J.bipush (μ := mX11_refuse) (pc := 34) (v := -3) dX11_refuse_34 (by decide) ?_
      refine J.icmp_ne (μ := mX11_refuse) (pc := 36) 50 dX11_refuse_36 (by decide) (fun h3 => ?_) (fun h3 => ?_)
      · refine J.aload_n (μ := mX11_refuse) (pc := 50) dX11_refuse_50 rfl ?_
        refine J.iload_n (μ := mX11_refuse) (pc := 51) dX11_refuse_51 rfl ?_
        refine J.aload_n (μ := mX11_refuse) (pc := 52) dX11_refuse_52 rfl ?_
        refine J.gr (μ := mX11_refuse) (pc := 53) (T := TX11) (ci := 14) (fks := _) rfl rfl in_X11 4 (by decide) wf_X11_32 dX11_refuse_53 sh0 rfl ?_
        refine J.gi (μ := mX11_refuse) (pc := 56) (T := TX3) (ci := 6) (fks := _) rfl rfl in_X3 0 (by decide) wf_X11_344 dX11_refuse_56 sh289 rfl ?_
        refine J.iconst (μ := mX11_refuse) (pc := 59) (v := -1) dX11_refuse_59 (by decide) ?_
        refine J.cV0 (μ := mX11_refuse) (pc := 60) (s_X11_keepDenial _ _ _) rfl wm_X11_347 mi_X11_keepDenial rfl dX11_refuse_60 (Rp.isa (T := TX11) rfl sh0) rfl rfl ⟨(Nat.le_of_ble_eq_true rfl), (Nat.le_of_ble_eq_true rfl)⟩ ⟨(Nat.le_of_ble_eq_true rfl), (Nat.le_of_ble_eq_true rfl)⟩ (Nat.le_of_ble_eq_true rfl) ?_
        have he : excOf x = uoE := by unfold excOf; rw [if_neg h1, if_neg h2, if_neg h3]
        have hv : rfV v x = kdV v x (v 289 0) (-1) := by unfold rfV; rw [if_neg h1, if_neg h2, if_neg h3]
        exact J.throwW (μ := mX11_refuse) (pc := 63) (names := nmE) (cls := uoE) (si := 3) rfl (by decide) (by decide) wk_X11_261 wn_java_lang_UnsupportedOperationException rfl tw_uo.1 tw_uo.2 dX11_refuse_63 dX11_refuse_66 dX11_refuse_67 dX11_refuse_70 dX11_refuse_73 rfl (Nat.le_of_ble_eq_true rfl) (Nat.le_of_ble_eq_true rfl) (Nat.le_of_ble_eq_true rfl) (Nat.le_of_ble_eq_true rfl) (Nat.le_of_ble_eq_true rfl) (Nat.le_of_ble_eq_true rfl) (fun H H' h hz hq => by have h := Rp.ext h hq; exact ⟨he.symm, by rw [hv]; exact h⟩)
      · have he : excOf x = iaE := by unfold excOf; rw [if_neg h1, if_neg h2, if_pos h3]
        have hv : rfV v x = v := by unfold rfV; rw [if_neg h1, if_neg h2, if_pos h3]
        exact J.throwW (μ := mX11_refuse) (pc := 39) (names := nmE) (cls := iaE) (si := 2) rfl (by decide) (by decide) wk_X11_253 wn_java_lang_IllegalArgumentException rfl tw_ia.1 tw_ia.2 dX11_refuse_39 dX11_refuse_42 dX11_refuse_43 dX11_refuse_46 dX11_refuse_49 rfl (Nat.le_of_ble_eq_true rfl) (Nat.le_of_ble_eq_true rfl) (Nat.le_of_ble_eq_true rfl) (Nat.le_of_ble_eq_true rfl) (Nat.le_of_ble_eq_true rfl) (Nat.le_of_ble_eq_true rfl) (fun H H' h hz hq => by have h := Rp.ext h hq; exact ⟨he.symm, by rw [hv]; exact h⟩)
    · have he : excOf x = ioE := by unfold excOf; rw [if_neg h1, if_pos h2]
      have hv : rfV v x = v := by unfold rfV; rw [if_neg h1, if_pos h2]
      exact J.throwW (μ := mX11_refuse) (pc := 22) (names := nmE) (cls := ioE) (si := 1) rfl (by decide) (by decide) wk_X11_303 wn_java_lang_IndexOutOfBoundsException rfl tw_io.1 tw_io.2 dX11_refuse_22 dX11_refuse_25 dX11_refuse_26 dX11_refuse_29 dX11_refuse_32 rfl (Nat.le_of_ble_eq_true rfl) (Nat.le_of_ble_eq_true rfl) (Nat.le_of_ble_eq_true rfl) (Nat.le_of_ble_eq_true rfl) (Nat.le_of_ble_eq_true rfl) (Nat.le_of_ble_eq_true rfl) (fun H H' h hz hq => by have h := Rp.ext h hq; exact ⟨he.symm, by rw [hv]; exact h⟩)
  · have he : excOf x = nsC := if_pos h1
    have hv : rfV v x = v := if_pos h1
    refine J.throwN (μ := mX11_refuse) (pc := 5) (si := 0) (P' := Rp γ v) rfl wk_X11_335 rfl tw_ns.1 tw_ns.2 dX11_refuse_5 dX11_refuse_8 dX11_refuse_9 dX11_refuse_12 dX11_refuse_15 (Nat.le_of_ble_eq_true rfl) (Nat.le_of_ble_eq_true rfl) (Nat.le_of_ble_eq_true rfl) (Nat.le_of_ble_eq_true rfl) (fun H H' h hz hq => h.ext hq) ?_
    exact JX.out rfl (Nat.le_of_ble_eq_true rfl) (Nat.le_of_ble_eq_true rfl) (fun H' h => ⟨he.symm, by rw [hv]; exact h⟩)

def lf (v : Vs) (p : Int32 × Vs) : Prop := p.1 = 0 → p.2 = v
theorem lf_i {v : Vs} {p q : Int32 × Vs} {φ : Prop} [Decidable φ] (h1 : lf v p) (h2 : lf v q) : lf v (if φ then p else q) := by split <;> assumption
theorem lf_0 {v : Vs} : lf v (0, v) := fun _ => rfl
theorem lf_k {v w : Vs} {k : Int32} (h : k ≠ 0) : lf v (k, w) := fun q => absurd q h
theorem vdOf_0 {v : Vs} {o N M : Nat} {c a b e f : Int32} : (vdOf v o N M c a b e f).1 = 0 → (vdOf v o N M c a b e f).2 = v := by
  show lf v _
  unfold vdOf vdShelf vdRecv vdSplit vdMix vdMove vdShip
  repeat' (first | exact lf_0 | exact lf_k (by decide) | refine lf_i ?_ ?_)
theorem vdOf_6 {v : Vs} {o N M : Nat} {a b e f : Int32} (h : (vdOf v o N M 6 a b e f).1 = 0) : hasL v o a := by
  unfold vdOf at h
  rw [if_neg (by decide), if_neg (by decide), if_neg (by decide), if_neg (by decide), if_neg (by decide), if_neg (by decide), if_pos rfl] at h
  split at h
  · assumption
  · simp at h
theorem vdOf_7 {v : Vs} {o N M : Nat} {a b e f : Int32} (h : (vdOf v o N M 7 a b e f).1 = 0) : 0 < v (o + 23) 1 := by
  unfold vdOf at h
  rw [if_neg (by decide), if_neg (by decide), if_neg (by decide), if_neg (by decide), if_neg (by decide), if_neg (by decide), if_neg (by decide), if_pos rfl] at h
  split at h
  · assumption
  · simp at h
/-- what the machine's steps ask of a depot's numbers: how many lots, shelves, lots on the heap; the ring -/
def OK (v : Vs) (N M H n s : Nat) : Prop := (v (1 + 8) 7 = nI N ∧ N ≤ 20) ∧ (v (1 + 1) 3 = nI M ∧ M ≤ 8) ∧ (v (1 + 23) 1 = nI H ∧ H ≤ 20) ∧ (v 79 1 = nI n ∧ n < 8) ∧ (v 79 2 = nI s ∧ s ≤ 8)
theorem keepV_lo {v : Vs} {n s k : Nat} (h : k < 79) : keepV v n s k = v k := by
  unfold keepV
  rw [up2_o _ _ _ (by omega), up2_o _ _ _ (by omega), cpR_out (.inl (by omega))]
theorem s_X11_change {γ : Gm} {v : Vs} {N M H n s : Nat} (h : OK v N M H n s) (c a b e f : Int32) : Xm γ mX11_change yX11_change 30 [.ref (gz γ + 0), .int c, .int a, .int b, .int e, .int f] v (fun w K => (vdOf v 1 N M c a b e f).1 = 0 ∧ w = some (.int (pfOf (keepV v n s) 1 N M H c a b e f).1) ∧ Rp γ (pfOf (keepV v n s) 1 N M H c a b e f).2 K) (fun E K => (vdOf v 1 N M c a b e f).1 ≠ 0 ∧ E = excOf (vdOf v 1 N M c a b e f).1 ∧ Rp γ (rfV (vdOf v 1 N M c a b e f).2 (vdOf v 1 N M c a b e f).1) K) := by
  obtain ⟨⟨hN, h20⟩, ⟨hM, h8⟩, ⟨hH, hb⟩, ⟨hn, hn8⟩, ⟨hs, hs8⟩⟩ := h
  refine Ex.ofJ (by decide) rfl (fun h => by cases h) (Nat.le_of_ble_eq_true rfl) ?_
  refine J.aload_n (μ := mX11_change) (pc := 0) dX11_change_0 rfl ?_
  refine J.gr (μ := mX11_change) (pc := 1) (T := TX11) (ci := 14) (fks := _) rfl rfl in_X11 4 (by decide) wf_X11_32 dX11_change_1 sh0 rfl ?_
  refine J.aload_n (μ := mX11_change) (pc := 4) dX11_change_4 rfl ?_
  refine J.gr (μ := mX11_change) (pc := 5) (T := TX11) (ci := 14) (fks := _) rfl rfl in_X11 0 (by decide) wf_X11_10 dX11_change_5 sh0 rfl ?_
  refine J.iload_n (μ := mX11_change) (pc := 8) dX11_change_8 rfl ?_
  refine J.iload_n (μ := mX11_change) (pc := 9) dX11_change_9 rfl ?_
  refine J.iload_n (μ := mX11_change) (pc := 10) dX11_change_10 rfl ?_
  refine J.iload (μ := mX11_change) (pc := 11) dX11_change_11 rfl ?_
  refine J.iload (μ := mX11_change) (pc := 13) dX11_change_13 rfl ?_
  refine J.cV (μ := mX11_change) (pc := 15) (s_X3_verdict st1 hN h20 hM h8 _ _ _ _ _) rfl wm_X11_323 mi_X3_verdict rfl dX11_change_15 (Rp.isa (T := TX3) rfl sh289) rfl rfl ⟨(Nat.le_of_ble_eq_true rfl), (Nat.le_of_ble_eq_true rfl)⟩ ⟨(Nat.le_of_ble_eq_true rfl), (Nat.le_of_ble_eq_true rfl)⟩ (Nat.le_of_ble_eq_true rfl) ?_
  refine J.istore (μ := mX11_change) (pc := 18) dX11_change_18 (Nat.le_of_ble_eq_true rfl) rfl ?_
  refine J.iload (μ := mX11_change) (pc := 20) dX11_change_20 rfl ?_
  refine J.if_eq (μ := mX11_change) (pc := 22) 31 dX11_change_22 (by decide) (fun h1 => ?_) (fun h1 => ?_)
  · rw [vdOf_0 h1]
    have hK : ∀ k, k < 79 → keepV v n s k = v k := fun k hk => keepV_lo hk
    refine J.aload_n (μ := mX11_change) (pc := 31) dX11_change_31 rfl ?_
    refine J.gr (μ := mX11_change) (pc := 32) (T := TX11) (ci := 14) (fks := _) rfl rfl in_X11 3 (by decide) wf_X11_25 dX11_change_32 sh0 rfl ?_
    refine J.aload_n (μ := mX11_change) (pc := 35) dX11_change_35 rfl ?_
    refine J.gr (μ := mX11_change) (pc := 36) (T := TX11) (ci := 14) (fks := _) rfl rfl in_X11 0 (by decide) wf_X11_10 dX11_change_36 sh0 rfl ?_
    refine J.cV0 (μ := mX11_change) (pc := 39) (s_X4_keep hn hn8 hs hs8) rfl wm_X11_266 mi_X4_keep rfl dX11_change_39 (Rp.isa (T := TX4) rfl sh79) rfl rfl ⟨(Nat.le_of_ble_eq_true rfl), (Nat.le_of_ble_eq_true rfl)⟩ ⟨(Nat.le_of_ble_eq_true rfl), (Nat.le_of_ble_eq_true rfl)⟩ (Nat.le_of_ble_eq_true rfl) ?_
    refine J.aload_n (μ := mX11_change) (pc := 42) dX11_change_42 rfl ?_
    refine J.gr (μ := mX11_change) (pc := 43) (T := TX11) (ci := 14) (fks := _) rfl rfl in_X11 0 (by decide) wf_X11_10 dX11_change_43 sh0 rfl ?_
    refine J.iload_n (μ := mX11_change) (pc := 46) dX11_change_46 rfl ?_
    refine J.iload_n (μ := mX11_change) (pc := 47) dX11_change_47 rfl ?_
    refine J.iload_n (μ := mX11_change) (pc := 48) dX11_change_48 rfl ?_
    refine J.iload (μ := mX11_change) (pc := 49) dX11_change_49 rfl ?_
    refine J.iload (μ := mX11_change) (pc := 51) dX11_change_51 rfl ?_
    refine J.cS (μ := mX11_change) (pc := 53) (s_X0_perform st1 (v := keepV v n s) (by rw [hK _ (by decide)]; exact hN) h20 (by rw [hK _ (by decide)]; exact hM) h8 (by rw [hK _ (by decide)]; exact hH) (by omega) c a b e f (fun q => by subst q; have := vdOf_6 h1; unfold hasL at this ⊢; rw [hK _ (by decide)]; exact this) (fun q => by subst q; have := vdOf_7 h1; rw [hH] at this; exact (nI_ltI (a := 0) (by omega) (by omega)).mp this)) rfl wm_X11_330 mi_X0_perform rfl dX11_change_53 rfl rfl ⟨(Nat.le_of_ble_eq_true rfl), (Nat.le_of_ble_eq_true rfl)⟩ ⟨(Nat.le_of_ble_eq_true rfl), (Nat.le_of_ble_eq_true rfl)⟩ (Nat.le_of_ble_eq_true rfl) ?_
    refine J.toX ?_
    exact J.iret (μ := mX11_change) (pc := 56) dX11_change_56 rfl (Nat.le_of_ble_eq_true rfl) (Nat.le_of_ble_eq_true rfl) (fun K k => ⟨h1, rfl, k⟩)
  · refine J.aload_n (μ := mX11_change) (pc := 25) dX11_change_25 rfl ?_
    refine J.iload (μ := mX11_change) (pc := 26) dX11_change_26 rfl ?_
    refine J.callVx (μ := mX11_change) (pc := 28) (s_X11_refuse _) rfl wm_X11_327 mi_X11_refuse rfl dX11_change_28 (Rp.isa (T := TX11) rfl sh0) rfl rfl ⟨(Nat.le_of_ble_eq_true rfl), (Nat.le_of_ble_eq_true rfl)⟩ ⟨(Nat.le_of_ble_eq_true rfl), (Nat.le_of_ble_eq_true rfl)⟩ (Nat.le_of_ble_eq_true rfl) (fun E => JX.out rfl (Nat.le_of_ble_eq_true rfl) (Nat.le_of_ble_eq_true rfl) (fun K k => ⟨h1, k⟩)) (fun w => J.no (fun K k => k))

theorem s_X11_addShelf {γ : Gm} {v : Vs} {N M H n s : Nat} (h : OK v N M H n s) (a b : Int32) : Xm γ mX11_addShelf yX11_addShelf 31 [.ref (gz γ + 0), .int a, .int b] v (fun w K => (vdOf v 1 N M 0 a b 0 0).1 = 0 ∧ w = some (.int (pfOf (keepV v n s) 1 N M H 0 a b 0 0).1) ∧ Rp γ (pfOf (keepV v n s) 1 N M H 0 a b 0 0).2 K) (fun E K => (vdOf v 1 N M 0 a b 0 0).1 ≠ 0 ∧ E = excOf (vdOf v 1 N M 0 a b 0 0).1 ∧ Rp γ (rfV (vdOf v 1 N M 0 a b 0 0).2 (vdOf v 1 N M 0 a b 0 0).1) K) := by
  refine Ex.ofJ (by decide) rfl (fun h => by cases h) (Nat.le_of_ble_eq_true rfl) ?_
  refine J.aload_n (μ := mX11_addShelf) (pc := 0) dX11_addShelf_0 rfl ?_
  refine J.iconst (μ := mX11_addShelf) (pc := 1) (v := 0) dX11_addShelf_1 (by decide) ?_
  refine J.iload_n (μ := mX11_addShelf) (pc := 2) dX11_addShelf_2 rfl ?_
  refine J.iload_n (μ := mX11_addShelf) (pc := 3) dX11_addShelf_3 rfl ?_
  refine J.iconst (μ := mX11_addShelf) (pc := 4) (v := 0) dX11_addShelf_4 (by decide) ?_
  refine J.iconst (μ := mX11_addShelf) (pc := 5) (v := 0) dX11_addShelf_5 (by decide) ?_
  refine J.callVx (μ := mX11_addShelf) (pc := 6) (s_X11_change h 0 a b 0 0) rfl wm_X11_78 mi_X11_change rfl dX11_addShelf_6 (Rp.isa (T := TX11) rfl sh0) rfl rfl ⟨(Nat.le_of_ble_eq_true rfl), (Nat.le_of_ble_eq_true rfl)⟩ ⟨(Nat.le_of_ble_eq_true rfl), (Nat.le_of_ble_eq_true rfl)⟩ (Nat.le_of_ble_eq_true rfl) (fun E => JX.out rfl (Nat.le_of_ble_eq_true rfl) (Nat.le_of_ble_eq_true rfl) (fun K k => k)) (fun w => J.and fun h1 => J.and fun e9 => J.toX ?_)
  subst e9
  exact J.iret (μ := mX11_addShelf) (pc := 9) dX11_addShelf_9 rfl (Nat.le_of_ble_eq_true rfl) (Nat.le_of_ble_eq_true rfl) (fun K k => ⟨h1, rfl, k⟩)

theorem s_X11_receive {γ : Gm} {v : Vs} {N M H n s : Nat} (h : OK v N M H n s) (a b e f : Int32) : Xm γ mX11_receive yX11_receive 31 [.ref (gz γ + 0), .int a, .int b, .int e, .int f] v (fun w K => (vdOf v 1 N M 1 a b e f).1 = 0 ∧ w = some (.int (pfOf (keepV v n s) 1 N M H 1 a b e f).1) ∧ Rp γ (pfOf (keepV v n s) 1 N M H 1 a b e f).2 K) (fun E K => (vdOf v 1 N M 1 a b e f).1 ≠ 0 ∧ E = excOf (vdOf v 1 N M 1 a b e f).1 ∧ Rp γ (rfV (vdOf v 1 N M 1 a b e f).2 (vdOf v 1 N M 1 a b e f).1) K) := by
  refine Ex.ofJ (by decide) rfl (fun h => by cases h) (Nat.le_of_ble_eq_true rfl) ?_
  refine J.aload_n (μ := mX11_receive) (pc := 0) dX11_receive_0 rfl ?_
  refine J.iconst (μ := mX11_receive) (pc := 1) (v := 1) dX11_receive_1 (by decide) ?_
  refine J.iload_n (μ := mX11_receive) (pc := 2) dX11_receive_2 rfl ?_
  refine J.iload_n (μ := mX11_receive) (pc := 3) dX11_receive_3 rfl ?_
  refine J.iload_n (μ := mX11_receive) (pc := 4) dX11_receive_4 rfl ?_
  refine J.iload (μ := mX11_receive) (pc := 5) dX11_receive_5 rfl ?_
  refine J.callVx (μ := mX11_receive) (pc := 7) (s_X11_change h 1 a b e f) rfl wm_X11_78 mi_X11_change rfl dX11_receive_7 (Rp.isa (T := TX11) rfl sh0) rfl rfl ⟨(Nat.le_of_ble_eq_true rfl), (Nat.le_of_ble_eq_true rfl)⟩ ⟨(Nat.le_of_ble_eq_true rfl), (Nat.le_of_ble_eq_true rfl)⟩ (Nat.le_of_ble_eq_true rfl) (fun E => JX.out rfl (Nat.le_of_ble_eq_true rfl) (Nat.le_of_ble_eq_true rfl) (fun K k => k)) (fun w => J.and fun h1 => J.and fun e9 => J.toX ?_)
  subst e9
  exact J.iret (μ := mX11_receive) (pc := 10) dX11_receive_10 rfl (Nat.le_of_ble_eq_true rfl) (Nat.le_of_ble_eq_true rfl) (fun K k => ⟨h1, rfl, k⟩)

theorem s_X11_split {γ : Gm} {v : Vs} {N M H n s : Nat} (h : OK v N M H n s) (a b : Int32) : Xm γ mX11_split yX11_split 31 [.ref (gz γ + 0), .int a, .int b] v (fun w K => (vdOf v 1 N M 2 a b 0 0).1 = 0 ∧ w = some (.int (pfOf (keepV v n s) 1 N M H 2 a b 0 0).1) ∧ Rp γ (pfOf (keepV v n s) 1 N M H 2 a b 0 0).2 K) (fun E K => (vdOf v 1 N M 2 a b 0 0).1 ≠ 0 ∧ E = excOf (vdOf v 1 N M 2 a b 0 0).1 ∧ Rp γ (rfV (vdOf v 1 N M 2 a b 0 0).2 (vdOf v 1 N M 2 a b 0 0).1) K) := by
  refine Ex.ofJ (by decide) rfl (fun h => by cases h) (Nat.le_of_ble_eq_true rfl) ?_
  refine J.aload_n (μ := mX11_split) (pc := 0) dX11_split_0 rfl ?_
  refine J.iconst (μ := mX11_split) (pc := 1) (v := 2) dX11_split_1 (by decide) ?_
  refine J.iload_n (μ := mX11_split) (pc := 2) dX11_split_2 rfl ?_
  refine J.iload_n (μ := mX11_split) (pc := 3) dX11_split_3 rfl ?_
  refine J.iconst (μ := mX11_split) (pc := 4) (v := 0) dX11_split_4 (by decide) ?_
  refine J.iconst (μ := mX11_split) (pc := 5) (v := 0) dX11_split_5 (by decide) ?_
  refine J.callVx (μ := mX11_split) (pc := 6) (s_X11_change h 2 a b 0 0) rfl wm_X11_78 mi_X11_change rfl dX11_split_6 (Rp.isa (T := TX11) rfl sh0) rfl rfl ⟨(Nat.le_of_ble_eq_true rfl), (Nat.le_of_ble_eq_true rfl)⟩ ⟨(Nat.le_of_ble_eq_true rfl), (Nat.le_of_ble_eq_true rfl)⟩ (Nat.le_of_ble_eq_true rfl) (fun E => JX.out rfl (Nat.le_of_ble_eq_true rfl) (Nat.le_of_ble_eq_true rfl) (fun K k => k)) (fun w => J.and fun h1 => J.and fun e9 => J.toX ?_)
  subst e9
  exact J.iret (μ := mX11_split) (pc := 9) dX11_split_9 rfl (Nat.le_of_ble_eq_true rfl) (Nat.le_of_ble_eq_true rfl) (fun K k => ⟨h1, rfl, k⟩)

theorem s_X11_mix {γ : Gm} {v : Vs} {N M H n s : Nat} (h : OK v N M H n s) (a b : Int32) : Xm γ mX11_mix yX11_mix 31 [.ref (gz γ + 0), .int a, .int b] v (fun w K => (vdOf v 1 N M 3 a b 0 0).1 = 0 ∧ w = some (.int (pfOf (keepV v n s) 1 N M H 3 a b 0 0).1) ∧ Rp γ (pfOf (keepV v n s) 1 N M H 3 a b 0 0).2 K) (fun E K => (vdOf v 1 N M 3 a b 0 0).1 ≠ 0 ∧ E = excOf (vdOf v 1 N M 3 a b 0 0).1 ∧ Rp γ (rfV (vdOf v 1 N M 3 a b 0 0).2 (vdOf v 1 N M 3 a b 0 0).1) K) := by
  refine Ex.ofJ (by decide) rfl (fun h => by cases h) (Nat.le_of_ble_eq_true rfl) ?_
  refine J.aload_n (μ := mX11_mix) (pc := 0) dX11_mix_0 rfl ?_
  refine J.iconst (μ := mX11_mix) (pc := 1) (v := 3) dX11_mix_1 (by decide) ?_
  refine J.iload_n (μ := mX11_mix) (pc := 2) dX11_mix_2 rfl ?_
  refine J.iload_n (μ := mX11_mix) (pc := 3) dX11_mix_3 rfl ?_
  refine J.iconst (μ := mX11_mix) (pc := 4) (v := 0) dX11_mix_4 (by decide) ?_
  refine J.iconst (μ := mX11_mix) (pc := 5) (v := 0) dX11_mix_5 (by decide) ?_
  refine J.callVx (μ := mX11_mix) (pc := 6) (s_X11_change h 3 a b 0 0) rfl wm_X11_78 mi_X11_change rfl dX11_mix_6 (Rp.isa (T := TX11) rfl sh0) rfl rfl ⟨(Nat.le_of_ble_eq_true rfl), (Nat.le_of_ble_eq_true rfl)⟩ ⟨(Nat.le_of_ble_eq_true rfl), (Nat.le_of_ble_eq_true rfl)⟩ (Nat.le_of_ble_eq_true rfl) (fun E => JX.out rfl (Nat.le_of_ble_eq_true rfl) (Nat.le_of_ble_eq_true rfl) (fun K k => k)) (fun w => J.and fun h1 => J.and fun e9 => J.toX ?_)
  subst e9
  exact J.iret (μ := mX11_mix) (pc := 9) dX11_mix_9 rfl (Nat.le_of_ble_eq_true rfl) (Nat.le_of_ble_eq_true rfl) (fun K k => ⟨h1, rfl, k⟩)

theorem s_X11_move {γ : Gm} {v : Vs} {N M H n s : Nat} (h : OK v N M H n s) (a b : Int32) : Xm γ mX11_move yX11_move 31 [.ref (gz γ + 0), .int a, .int b] v (fun w K => (vdOf v 1 N M 4 a b 0 0).1 = 0 ∧ w = some (.int (pfOf (keepV v n s) 1 N M H 4 a b 0 0).1) ∧ Rp γ (pfOf (keepV v n s) 1 N M H 4 a b 0 0).2 K) (fun E K => (vdOf v 1 N M 4 a b 0 0).1 ≠ 0 ∧ E = excOf (vdOf v 1 N M 4 a b 0 0).1 ∧ Rp γ (rfV (vdOf v 1 N M 4 a b 0 0).2 (vdOf v 1 N M 4 a b 0 0).1) K) := by
  refine Ex.ofJ (by decide) rfl (fun h => by cases h) (Nat.le_of_ble_eq_true rfl) ?_
  refine J.aload_n (μ := mX11_move) (pc := 0) dX11_move_0 rfl ?_
  refine J.iconst (μ := mX11_move) (pc := 1) (v := 4) dX11_move_1 (by decide) ?_
  refine J.iload_n (μ := mX11_move) (pc := 2) dX11_move_2 rfl ?_
  refine J.iload_n (μ := mX11_move) (pc := 3) dX11_move_3 rfl ?_
  refine J.iconst (μ := mX11_move) (pc := 4) (v := 0) dX11_move_4 (by decide) ?_
  refine J.iconst (μ := mX11_move) (pc := 5) (v := 0) dX11_move_5 (by decide) ?_
  refine J.callVx (μ := mX11_move) (pc := 6) (s_X11_change h 4 a b 0 0) rfl wm_X11_78 mi_X11_change rfl dX11_move_6 (Rp.isa (T := TX11) rfl sh0) rfl rfl ⟨(Nat.le_of_ble_eq_true rfl), (Nat.le_of_ble_eq_true rfl)⟩ ⟨(Nat.le_of_ble_eq_true rfl), (Nat.le_of_ble_eq_true rfl)⟩ (Nat.le_of_ble_eq_true rfl) (fun E => JX.out rfl (Nat.le_of_ble_eq_true rfl) (Nat.le_of_ble_eq_true rfl) (fun K k => k)) (fun w => J.and fun h1 => J.and fun e9 => J.toX ?_)
  subst e9
  exact J.iret (μ := mX11_move) (pc := 9) dX11_move_9 rfl (Nat.le_of_ble_eq_true rfl) (Nat.le_of_ble_eq_true rfl) (fun K k => ⟨h1, rfl, k⟩)

theorem s_X11_ship {γ : Gm} {v : Vs} {N M H n s : Nat} (h : OK v N M H n s) (a b : Int32) : Xm γ mX11_ship yX11_ship 31 [.ref (gz γ + 0), .int a, .int b] v (fun w K => (vdOf v 1 N M 5 a b 0 0).1 = 0 ∧ w = some (.int (pfOf (keepV v n s) 1 N M H 5 a b 0 0).1) ∧ Rp γ (pfOf (keepV v n s) 1 N M H 5 a b 0 0).2 K) (fun E K => (vdOf v 1 N M 5 a b 0 0).1 ≠ 0 ∧ E = excOf (vdOf v 1 N M 5 a b 0 0).1 ∧ Rp γ (rfV (vdOf v 1 N M 5 a b 0 0).2 (vdOf v 1 N M 5 a b 0 0).1) K) := by
  refine Ex.ofJ (by decide) rfl (fun h => by cases h) (Nat.le_of_ble_eq_true rfl) ?_
  refine J.aload_n (μ := mX11_ship) (pc := 0) dX11_ship_0 rfl ?_
  refine J.iconst (μ := mX11_ship) (pc := 1) (v := 5) dX11_ship_1 (by decide) ?_
  refine J.iload_n (μ := mX11_ship) (pc := 2) dX11_ship_2 rfl ?_
  refine J.iload_n (μ := mX11_ship) (pc := 3) dX11_ship_3 rfl ?_
  refine J.iconst (μ := mX11_ship) (pc := 4) (v := 0) dX11_ship_4 (by decide) ?_
  refine J.iconst (μ := mX11_ship) (pc := 5) (v := 0) dX11_ship_5 (by decide) ?_
  refine J.callVx (μ := mX11_ship) (pc := 6) (s_X11_change h 5 a b 0 0) rfl wm_X11_78 mi_X11_change rfl dX11_ship_6 (Rp.isa (T := TX11) rfl sh0) rfl rfl ⟨(Nat.le_of_ble_eq_true rfl), (Nat.le_of_ble_eq_true rfl)⟩ ⟨(Nat.le_of_ble_eq_true rfl), (Nat.le_of_ble_eq_true rfl)⟩ (Nat.le_of_ble_eq_true rfl) (fun E => JX.out rfl (Nat.le_of_ble_eq_true rfl) (Nat.le_of_ble_eq_true rfl) (fun K k => k)) (fun w => J.and fun h1 => J.and fun e9 => J.toX ?_)
  subst e9
  exact J.iret (μ := mX11_ship) (pc := 9) dX11_ship_9 rfl (Nat.le_of_ble_eq_true rfl) (Nat.le_of_ble_eq_true rfl) (fun K k => ⟨h1, rfl, k⟩)

theorem s_X11_recall {γ : Gm} {v : Vs} {N M H n s : Nat} (h : OK v N M H n s) (a : Int32) : Xm γ mX11_recall yX11_recall 31 [.ref (gz γ + 0), .int a] v (fun w K => (vdOf v 1 N M 6 a 0 0 0).1 = 0 ∧ w = some (.int (pfOf (keepV v n s) 1 N M H 6 a 0 0 0).1) ∧ Rp γ (pfOf (keepV v n s) 1 N M H 6 a 0 0 0).2 K) (fun E K => (vdOf v 1 N M 6 a 0 0 0).1 ≠ 0 ∧ E = excOf (vdOf v 1 N M 6 a 0 0 0).1 ∧ Rp γ (rfV (vdOf v 1 N M 6 a 0 0 0).2 (vdOf v 1 N M 6 a 0 0 0).1) K) := by
  refine Ex.ofJ (by decide) rfl (fun h => by cases h) (Nat.le_of_ble_eq_true rfl) ?_
  refine J.aload_n (μ := mX11_recall) (pc := 0) dX11_recall_0 rfl ?_
  refine J.bipush (μ := mX11_recall) (pc := 1) (v := 6) dX11_recall_1 (by decide) ?_
  refine J.iload_n (μ := mX11_recall) (pc := 3) dX11_recall_3 rfl ?_
  refine J.iconst (μ := mX11_recall) (pc := 4) (v := 0) dX11_recall_4 (by decide) ?_
  refine J.iconst (μ := mX11_recall) (pc := 5) (v := 0) dX11_recall_5 (by decide) ?_
  refine J.iconst (μ := mX11_recall) (pc := 6) (v := 0) dX11_recall_6 (by decide) ?_
  refine J.callVx (μ := mX11_recall) (pc := 7) (s_X11_change h 6 a 0 0 0) rfl wm_X11_78 mi_X11_change rfl dX11_recall_7 (Rp.isa (T := TX11) rfl sh0) rfl rfl ⟨(Nat.le_of_ble_eq_true rfl), (Nat.le_of_ble_eq_true rfl)⟩ ⟨(Nat.le_of_ble_eq_true rfl), (Nat.le_of_ble_eq_true rfl)⟩ (Nat.le_of_ble_eq_true rfl) (fun E => JX.out rfl (Nat.le_of_ble_eq_true rfl) (Nat.le_of_ble_eq_true rfl) (fun K k => k)) (fun w => J.and fun h1 => J.and fun e9 => J.toX ?_)
  subst e9
  exact J.iret (μ := mX11_recall) (pc := 10) dX11_recall_10 rfl (Nat.le_of_ble_eq_true rfl) (Nat.le_of_ble_eq_true rfl) (fun K k => ⟨h1, rfl, k⟩)

theorem s_X11_compost {γ : Gm} {v : Vs} {N M H n s : Nat} (h : OK v N M H n s) : Xm γ mX11_compost yX11_compost 31 [.ref (gz γ + 0)] v (fun w K => (vdOf v 1 N M 7 0 0 0 0).1 = 0 ∧ w = some (.int (pfOf (keepV v n s) 1 N M H 7 0 0 0 0).1) ∧ Rp γ (pfOf (keepV v n s) 1 N M H 7 0 0 0 0).2 K) (fun E K => (vdOf v 1 N M 7 0 0 0 0).1 ≠ 0 ∧ E = excOf (vdOf v 1 N M 7 0 0 0 0).1 ∧ Rp γ (rfV (vdOf v 1 N M 7 0 0 0 0).2 (vdOf v 1 N M 7 0 0 0 0).1) K) := by
  refine Ex.ofJ (by decide) rfl (fun h => by cases h) (Nat.le_of_ble_eq_true rfl) ?_
  refine J.aload_n (μ := mX11_compost) (pc := 0) dX11_compost_0 rfl ?_
  refine J.bipush (μ := mX11_compost) (pc := 1) (v := 7) dX11_compost_1 (by decide) ?_
  refine J.iconst (μ := mX11_compost) (pc := 3) (v := 0) dX11_compost_3 (by decide) ?_
  refine J.iconst (μ := mX11_compost) (pc := 4) (v := 0) dX11_compost_4 (by decide) ?_
  refine J.iconst (μ := mX11_compost) (pc := 5) (v := 0) dX11_compost_5 (by decide) ?_
  refine J.iconst (μ := mX11_compost) (pc := 6) (v := 0) dX11_compost_6 (by decide) ?_
  refine J.callVx (μ := mX11_compost) (pc := 7) (s_X11_change h 7 0 0 0 0) rfl wm_X11_78 mi_X11_change rfl dX11_compost_7 (Rp.isa (T := TX11) rfl sh0) rfl rfl ⟨(Nat.le_of_ble_eq_true rfl), (Nat.le_of_ble_eq_true rfl)⟩ ⟨(Nat.le_of_ble_eq_true rfl), (Nat.le_of_ble_eq_true rfl)⟩ (Nat.le_of_ble_eq_true rfl) (fun E => JX.out rfl (Nat.le_of_ble_eq_true rfl) (Nat.le_of_ble_eq_true rfl) (fun K k => k)) (fun w => J.and fun h1 => J.and fun e9 => J.toX ?_)
  subst e9
  exact J.iret (μ := mX11_compost) (pc := 10) dX11_compost_10 rfl (Nat.le_of_ble_eq_true rfl) (Nat.le_of_ble_eq_true rfl) (fun K k => ⟨h1, rfl, k⟩)

theorem s_X11_count {γ : Gm} {v : Vs} {N M H n s : Nat} (h : OK v N M H n s) (a : Int32) : Xm γ mX11_count yX11_count 31 [.ref (gz γ + 0), .int a] v (fun w K => (vdOf v 1 N M 8 a 0 0 0).1 = 0 ∧ w = some (.int (pfOf (keepV v n s) 1 N M H 8 a 0 0 0).1) ∧ Rp γ (pfOf (keepV v n s) 1 N M H 8 a 0 0 0).2 K) (fun E K => (vdOf v 1 N M 8 a 0 0 0).1 ≠ 0 ∧ E = excOf (vdOf v 1 N M 8 a 0 0 0).1 ∧ Rp γ (rfV (vdOf v 1 N M 8 a 0 0 0).2 (vdOf v 1 N M 8 a 0 0 0).1) K) := by
  refine Ex.ofJ (by decide) rfl (fun h => by cases h) (Nat.le_of_ble_eq_true rfl) ?_
  refine J.aload_n (μ := mX11_count) (pc := 0) dX11_count_0 rfl ?_
  refine J.bipush (μ := mX11_count) (pc := 1) (v := 8) dX11_count_1 (by decide) ?_
  refine J.iload_n (μ := mX11_count) (pc := 3) dX11_count_3 rfl ?_
  refine J.iconst (μ := mX11_count) (pc := 4) (v := 0) dX11_count_4 (by decide) ?_
  refine J.iconst (μ := mX11_count) (pc := 5) (v := 0) dX11_count_5 (by decide) ?_
  refine J.iconst (μ := mX11_count) (pc := 6) (v := 0) dX11_count_6 (by decide) ?_
  refine J.callVx (μ := mX11_count) (pc := 7) (s_X11_change h 8 a 0 0 0) rfl wm_X11_78 mi_X11_change rfl dX11_count_7 (Rp.isa (T := TX11) rfl sh0) rfl rfl ⟨(Nat.le_of_ble_eq_true rfl), (Nat.le_of_ble_eq_true rfl)⟩ ⟨(Nat.le_of_ble_eq_true rfl), (Nat.le_of_ble_eq_true rfl)⟩ (Nat.le_of_ble_eq_true rfl) (fun E => JX.out rfl (Nat.le_of_ble_eq_true rfl) (Nat.le_of_ble_eq_true rfl) (fun K k => k)) (fun w => J.and fun h1 => J.and fun e9 => J.toX ?_)
  subst e9
  exact J.iret (μ := mX11_count) (pc := 10) dX11_count_10 rfl (Nat.le_of_ble_eq_true rfl) (Nat.le_of_ble_eq_true rfl) (fun K k => ⟨h1, rfl, k⟩)

theorem s_X11_pass {γ : Gm} {v : Vs} {N M H n s : Nat} (h : OK v N M H n s) (a : Int32) : Xm γ mX11_pass yX11_pass 31 [.ref (gz γ + 0), .int a] v (fun w K => (vdOf v 1 N M 9 a 0 0 0).1 = 0 ∧ w = some (.int (pfOf (keepV v n s) 1 N M H 9 a 0 0 0).1) ∧ Rp γ (pfOf (keepV v n s) 1 N M H 9 a 0 0 0).2 K) (fun E K => (vdOf v 1 N M 9 a 0 0 0).1 ≠ 0 ∧ E = excOf (vdOf v 1 N M 9 a 0 0 0).1 ∧ Rp γ (rfV (vdOf v 1 N M 9 a 0 0 0).2 (vdOf v 1 N M 9 a 0 0 0).1) K) := by
  refine Ex.ofJ (by decide) rfl (fun h => by cases h) (Nat.le_of_ble_eq_true rfl) ?_
  refine J.aload_n (μ := mX11_pass) (pc := 0) dX11_pass_0 rfl ?_
  refine J.bipush (μ := mX11_pass) (pc := 1) (v := 9) dX11_pass_1 (by decide) ?_
  refine J.iload_n (μ := mX11_pass) (pc := 3) dX11_pass_3 rfl ?_
  refine J.iconst (μ := mX11_pass) (pc := 4) (v := 0) dX11_pass_4 (by decide) ?_
  refine J.iconst (μ := mX11_pass) (pc := 5) (v := 0) dX11_pass_5 (by decide) ?_
  refine J.iconst (μ := mX11_pass) (pc := 6) (v := 0) dX11_pass_6 (by decide) ?_
  refine J.callVx (μ := mX11_pass) (pc := 7) (s_X11_change h 9 a 0 0 0) rfl wm_X11_78 mi_X11_change rfl dX11_pass_7 (Rp.isa (T := TX11) rfl sh0) rfl rfl ⟨(Nat.le_of_ble_eq_true rfl), (Nat.le_of_ble_eq_true rfl)⟩ ⟨(Nat.le_of_ble_eq_true rfl), (Nat.le_of_ble_eq_true rfl)⟩ (Nat.le_of_ble_eq_true rfl) (fun E => JX.out rfl (Nat.le_of_ble_eq_true rfl) (Nat.le_of_ble_eq_true rfl) (fun K k => k)) (fun w => J.and fun h1 => J.and fun e9 => J.toX ?_)
  subst e9
  exact J.iret (μ := mX11_pass) (pc := 10) dX11_pass_10 rfl (Nat.le_of_ble_eq_true rfl) (Nat.le_of_ble_eq_true rfl) (fun K k => ⟨h1, rfl, k⟩)

theorem giveV_79 {v : Vs} {n s : Nat} : giveV v n s 79 2 = nI (s - 1) := by
  unfold giveV
  rw [cpR_out (.inr (by decide)), up2_ss]
theorem s_X11_undo {γ : Gm} {v : Vs} {N M H n s : Nat} (h : OK v N M H n s) : Xm γ mX11_undo yX11_undo 30 [.ref (gz γ + 0)] v (fun w K => s ≠ 0 ∧ w = some (.int (nI (s - 1))) ∧ Rp γ (giveV v n s) K) (fun E K => s = 0 ∧ E = isE ∧ Rp γ v K) := by
  obtain ⟨-, -, -, ⟨hn, hn8⟩, ⟨hs, hs8⟩⟩ := h
  refine Ex.ofJ (by decide) rfl (fun h => by cases h) (Nat.le_of_ble_eq_true rfl) ?_
  refine J.aload_n (μ := mX11_undo) (pc := 0) dX11_undo_0 rfl ?_
  refine J.gr (μ := mX11_undo) (pc := 1) (T := TX11) (ci := 14) (fks := _) rfl rfl in_X11 3 (by decide) wf_X11_25 dX11_undo_1 sh0 rfl ?_
  refine J.gi (μ := mX11_undo) (pc := 4) (T := TX4) (ci := 7) (fks := _) rfl rfl in_X4 2 (by decide) wf_X11_312 dX11_undo_4 sh79 rfl ?_
  rw [hs]
  refine J.if_ne (μ := mX11_undo) (pc := 7) 21 dX11_undo_7 (by decide) (fun h1 => ?_) (fun h1 => ?_)
  · have h0 : s ≠ 0 := fun q => h1 (by rw [q]; rfl)
    obtain ⟨s, rfl⟩ : ∃ s', s = s' + 1 := ⟨s - 1, by omega⟩
    refine J.aload_n (μ := mX11_undo) (pc := 21) dX11_undo_21 rfl ?_
    refine J.gr (μ := mX11_undo) (pc := 22) (T := TX11) (ci := 14) (fks := _) rfl rfl in_X11 3 (by decide) wf_X11_25 dX11_undo_22 sh0 rfl ?_
    refine J.aload_n (μ := mX11_undo) (pc := 25) dX11_undo_25 rfl ?_
    refine J.gr (μ := mX11_undo) (pc := 26) (T := TX11) (ci := 14) (fks := _) rfl rfl in_X11 0 (by decide) wf_X11_10 dX11_undo_26 sh0 rfl ?_
    refine J.cV0 (μ := mX11_undo) (pc := 29) (s_X4_giveBack hn hn8 hs (by omega)) rfl wm_X11_315 mi_X4_giveBack rfl dX11_undo_29 (Rp.isa (T := TX4) rfl sh79) rfl rfl ⟨(Nat.le_of_ble_eq_true rfl), (Nat.le_of_ble_eq_true rfl)⟩ ⟨(Nat.le_of_ble_eq_true rfl), (Nat.le_of_ble_eq_true rfl)⟩ (Nat.le_of_ble_eq_true rfl) ?_
    refine J.aload_n (μ := mX11_undo) (pc := 32) dX11_undo_32 rfl ?_
    refine J.gr (μ := mX11_undo) (pc := 33) (T := TX11) (ci := 14) (fks := _) rfl rfl in_X11 3 (by decide) wf_X11_25 dX11_undo_33 sh0 rfl ?_
    refine J.gi (μ := mX11_undo) (pc := 36) (T := TX4) (ci := 7) (fks := _) rfl rfl in_X4 2 (by decide) wf_X11_312 dX11_undo_36 sh79 rfl ?_
    rw [giveV_79]
    refine J.toX ?_
    exact J.iret (μ := mX11_undo) (pc := 39) dX11_undo_39 rfl (Nat.le_of_ble_eq_true rfl) (Nat.le_of_ble_eq_true rfl) (fun K k => ⟨h0, rfl, k⟩)
  · have h0 : s = 0 := by
      rcases Nat.eq_zero_or_pos s with q | q
      · exact q
      · exact absurd h1 (nI_ne0 q (by omega))
    exact J.throwW (μ := mX11_undo) (pc := 10) (names := nmE) (cls := isE) (si := 17) rfl (by decide) (by decide) wk_X11_238 wn_java_lang_IllegalStateException rfl tw_is.1 tw_is.2 dX11_undo_10 dX11_undo_13 dX11_undo_14 dX11_undo_17 dX11_undo_20 rfl (Nat.le_of_ble_eq_true rfl) (Nat.le_of_ble_eq_true rfl) (Nat.le_of_ble_eq_true rfl) (Nat.le_of_ble_eq_true rfl) (Nat.le_of_ble_eq_true rfl) (Nat.le_of_ble_eq_true rfl) (fun H H' h hz hq => by have h := Rp.ext h hq; exact ⟨h0, rfl, h⟩)

def saveV (v : Vs) : Vs := up2 (cpR v 53 1 26) 0 9 1
theorem s_X11_saveSnapshot {γ : Gm} {v : Vs} : Ew γ mX11_saveSnapshot yX11_saveSnapshot 30 [.ref (gz γ + 0)] v (some (.int (v (1 + 8) 7))) (saveV v) := by
  refine Ev.ofJ (by decide) rfl (fun h => by cases h) (Nat.le_of_ble_eq_true rfl) ?_
  refine J.aload_n (μ := mX11_saveSnapshot) (pc := 0) dX11_saveSnapshot_0 rfl ?_
  refine J.gr (μ := mX11_saveSnapshot) (pc := 1) (T := TX11) (ci := 14) (fks := _) rfl rfl in_X11 2 (by decide) wf_X11_19 dX11_saveSnapshot_1 sh0 rfl ?_
  refine J.aload_n (μ := mX11_saveSnapshot) (pc := 4) dX11_saveSnapshot_4 rfl ?_
  refine J.gr (μ := mX11_saveSnapshot) (pc := 5) (T := TX11) (ci := 14) (fks := _) rfl rfl in_X11 0 (by decide) wf_X11_10 dX11_saveSnapshot_5 sh0 rfl ?_
  refine J.cV0 (μ := mX11_saveSnapshot) (pc := 8) (s_X9_copyFrom st53 st1 (.inl (by omega))) rfl wm_X11_270 mi_X9_copyFrom rfl dX11_saveSnapshot_8 (Rp.isa (T := TX9) rfl (st53 0 (by decide))) rfl rfl ⟨(Nat.le_of_ble_eq_true rfl), (Nat.le_of_ble_eq_true rfl)⟩ ⟨(Nat.le_of_ble_eq_true rfl), (Nat.le_of_ble_eq_true rfl)⟩ (Nat.le_of_ble_eq_true rfl) ?_
  refine J.aload_n (μ := mX11_saveSnapshot) (pc := 11) dX11_saveSnapshot_11 rfl ?_
  refine J.iconst (μ := mX11_saveSnapshot) (pc := 12) (v := 1) dX11_saveSnapshot_12 (by decide) ?_
  refine J.pi (μ := mX11_saveSnapshot) (pc := 13) (T := TX11) (ci := 14) (ty0 := tyX11) (fks := _) rfl rfl in_X11 tyX11_ok nmX11 9 (by decide) wf_X11_64 dX11_saveSnapshot_13 rfl rfl rfl sh0 rfl ?_
  refine J.aload_n (μ := mX11_saveSnapshot) (pc := 16) dX11_saveSnapshot_16 rfl ?_
  refine J.gr (μ := mX11_saveSnapshot) (pc := 17) (T := TX11) (ci := 14) (fks := _) rfl rfl in_X11 0 (by decide) wf_X11_10 dX11_saveSnapshot_17 sh0 rfl ?_
  refine J.gr (μ := mX11_saveSnapshot) (pc := 20) (T := TX9) (ci := 12) (fks := _) rfl rfl in_X9 1 (by decide) wf_X11_109 dX11_saveSnapshot_20 (st1 0 (by decide)) rfl ?_
  refine J.gi (μ := mX11_saveSnapshot) (pc := 23) (T := TX5) (ci := 8) (fks := _) rfl rfl in_X5 7 (by decide) wf_X11_142 dX11_saveSnapshot_23 (st1 8 (by decide)) rfl ?_
  rw [show up2 (cpR v 53 1 26) 0 9 1 (1 + 8) 7 = v (1 + 8) 7 by rw [up2_o _ _ _ (by decide), cpR_out (.inl (by decide))]]
  exact J.iret (μ := mX11_saveSnapshot) (pc := 26) dX11_saveSnapshot_26 rfl (Nat.le_of_ble_eq_true rfl) (Nat.le_of_ble_eq_true rfl) (fun H h => ⟨rfl, h⟩)
def restV (v : Vs) : Vs := up2 (cpR v 1 53 26) 79 2 0
theorem s_X11_restoreSnapshot {γ : Gm} {v : Vs} : Xm γ mX11_restoreSnapshot yX11_restoreSnapshot 30 [.ref (gz γ + 0)] v (fun w K => v 0 9 ≠ 0 ∧ w = some (.int (v (53 + 8) 7)) ∧ Rp γ (restV v) K) (fun E K => v 0 9 = 0 ∧ E = isE ∧ Rp γ v K) := by
  refine Ex.ofJ (by decide) rfl (fun h => by cases h) (Nat.le_of_ble_eq_true rfl) ?_
  refine J.aload_n (μ := mX11_restoreSnapshot) (pc := 0) dX11_restoreSnapshot_0 rfl ?_
  refine J.gi (μ := mX11_restoreSnapshot) (pc := 1) (T := TX11) (ci := 14) (fks := _) rfl rfl in_X11 9 (by decide) wf_X11_64 dX11_restoreSnapshot_1 sh0 rfl ?_
  refine J.if_ne (μ := mX11_restoreSnapshot) (pc := 4) 18 dX11_restoreSnapshot_4 (by decide) (fun h1 => ?_) (fun h1 => ?_)
  · refine J.aload_n (μ := mX11_restoreSnapshot) (pc := 18) dX11_restoreSnapshot_18 rfl ?_
    refine J.gr (μ := mX11_restoreSnapshot) (pc := 19) (T := TX11) (ci := 14) (fks := _) rfl rfl in_X11 0 (by decide) wf_X11_10 dX11_restoreSnapshot_19 sh0 rfl ?_
    refine J.aload_n (μ := mX11_restoreSnapshot) (pc := 22) dX11_restoreSnapshot_22 rfl ?_
    refine J.gr (μ := mX11_restoreSnapshot) (pc := 23) (T := TX11) (ci := 14) (fks := _) rfl rfl in_X11 2 (by decide) wf_X11_19 dX11_restoreSnapshot_23 sh0 rfl ?_
    refine J.cV0 (μ := mX11_restoreSnapshot) (pc := 26) (s_X9_copyFrom st1 st53 (.inr (by omega))) rfl wm_X11_270 mi_X9_copyFrom rfl dX11_restoreSnapshot_26 (Rp.isa (T := TX9) rfl (st1 0 (by decide))) rfl rfl ⟨(Nat.le_of_ble_eq_true rfl), (Nat.le_of_ble_eq_true rfl)⟩ ⟨(Nat.le_of_ble_eq_true rfl), (Nat.le_of_ble_eq_true rfl)⟩ (Nat.le_of_ble_eq_true rfl) ?_
    refine J.aload_n (μ := mX11_restoreSnapshot) (pc := 29) dX11_restoreSnapshot_29 rfl ?_
    refine J.gr (μ := mX11_restoreSnapshot) (pc := 30) (T := TX11) (ci := 14) (fks := _) rfl rfl in_X11 3 (by decide) wf_X11_25 dX11_restoreSnapshot_30 sh0 rfl ?_
    refine J.cV0 (μ := mX11_restoreSnapshot) (pc := 33) (s_X4_forget) rfl wm_X11_320 mi_X4_forget rfl dX11_restoreSnapshot_33 (Rp.isa (T := TX4) rfl sh79) rfl rfl ⟨(Nat.le_of_ble_eq_true rfl), (Nat.le_of_ble_eq_true rfl)⟩ ⟨(Nat.le_of_ble_eq_true rfl), (Nat.le_of_ble_eq_true rfl)⟩ (Nat.le_of_ble_eq_true rfl) ?_
    refine J.aload_n (μ := mX11_restoreSnapshot) (pc := 36) dX11_restoreSnapshot_36 rfl ?_
    refine J.gr (μ := mX11_restoreSnapshot) (pc := 37) (T := TX11) (ci := 14) (fks := _) rfl rfl in_X11 0 (by decide) wf_X11_10 dX11_restoreSnapshot_37 sh0 rfl ?_
    refine J.gr (μ := mX11_restoreSnapshot) (pc := 40) (T := TX9) (ci := 12) (fks := _) rfl rfl in_X9 1 (by decide) wf_X11_109 dX11_restoreSnapshot_40 (st1 0 (by decide)) rfl ?_
    refine J.gi (μ := mX11_restoreSnapshot) (pc := 43) (T := TX5) (ci := 8) (fks := _) rfl rfl in_X5 7 (by decide) wf_X11_142 dX11_restoreSnapshot_43 (st1 8 (by decide)) rfl ?_
    rw [show up2 (cpR v 1 53 26) 79 2 0 (1 + 8) 7 = v (53 + 8) 7 by rw [up2_o _ _ _ (by decide), cpR_at ⟨by decide, by decide⟩]]
    refine J.toX ?_
    exact J.iret (μ := mX11_restoreSnapshot) (pc := 46) dX11_restoreSnapshot_46 rfl (Nat.le_of_ble_eq_true rfl) (Nat.le_of_ble_eq_true rfl) (fun K k => ⟨h1, rfl, k⟩)
  · skip
    exact J.throwW (μ := mX11_restoreSnapshot) (pc := 7) (names := nmE) (cls := isE) (si := 18) rfl (by decide) (by decide) wk_X11_238 wn_java_lang_IllegalStateException rfl tw_is.1 tw_is.2 dX11_restoreSnapshot_7 dX11_restoreSnapshot_10 dX11_restoreSnapshot_11 dX11_restoreSnapshot_14 dX11_restoreSnapshot_17 rfl (Nat.le_of_ble_eq_true rfl) (Nat.le_of_ble_eq_true rfl) (Nat.le_of_ble_eq_true rfl) (Nat.le_of_ble_eq_true rfl) (Nat.le_of_ble_eq_true rfl) (Nat.le_of_ble_eq_true rfl) (fun H H' h hz hq => by have h := Rp.ext h hq; exact ⟨h1, rfl, h⟩)

theorem s_X11_feed {γ : Gm} {v : Vs} {t : List Nat} (ht : tx v t) (hl : t.length < 60) (x : Int32) : Ew γ mX11_feed yX11_feed 6 [.ref (gz γ + 0), .int x] v (some (.int (apV v x 302 2))) (apV v x) := by
  refine Ev.ofJ (by decide) rfl (fun h => by cases h) (Nat.le_of_ble_eq_true rfl) ?_
  refine J.aload_n (μ := mX11_feed) (pc := 0) dX11_feed_0 rfl ?_
  refine J.gr (μ := mX11_feed) (pc := 1) (T := TX11) (ci := 14) (fks := _) rfl rfl in_X11 7 (by decide) wf_X11_53 dX11_feed_1 sh0 rfl ?_
  refine J.gi (μ := mX11_feed) (pc := 4) (T := TX10) (ci := 13) (fks := _) rfl rfl in_X10 2 (by decide) wf_X11_235 dX11_feed_4 sh302 rfl ?_
  refine J.bipush (μ := mX11_feed) (pc := 7) (v := 60) dX11_feed_7 (by decide) ?_
  rw [ht.1]
  refine J.icmp_lt (μ := mX11_feed) (pc := 9) 22 dX11_feed_9 (by decide) (fun h1 => ?_) (fun h1 => ?_)
  · refine J.aload_n (μ := mX11_feed) (pc := 22) dX11_feed_22 rfl ?_
    refine J.gr (μ := mX11_feed) (pc := 23) (T := TX11) (ci := 14) (fks := _) rfl rfl in_X11 7 (by decide) wf_X11_53 dX11_feed_23 sh0 rfl ?_
    refine J.iload_n (μ := mX11_feed) (pc := 26) dX11_feed_26 rfl ?_
    refine J.cV0 (μ := mX11_feed) (pc := 27) (s_X10_append _) rfl wm_X11_243 mi_X10_append rfl dX11_feed_27 (Rp.isa (T := TX10) rfl sh302) rfl rfl ⟨(Nat.le_of_ble_eq_true rfl), (Nat.le_of_ble_eq_true rfl)⟩ ⟨(Nat.le_of_ble_eq_true rfl), (Nat.le_of_ble_eq_true rfl)⟩ (Nat.le_of_ble_eq_true rfl) ?_
    refine J.aload_n (μ := mX11_feed) (pc := 30) dX11_feed_30 rfl ?_
    refine J.gr (μ := mX11_feed) (pc := 31) (T := TX11) (ci := 14) (fks := _) rfl rfl in_X11 7 (by decide) wf_X11_53 dX11_feed_31 sh0 rfl ?_
    refine J.gi (μ := mX11_feed) (pc := 34) (T := TX10) (ci := 13) (fks := _) rfl rfl in_X10 2 (by decide) wf_X11_235 dX11_feed_34 sh302 rfl ?_
    exact J.iret (μ := mX11_feed) (pc := 37) dX11_feed_37 rfl (Nat.le_of_ble_eq_true rfl) (Nat.le_of_ble_eq_true rfl) (fun H h => ⟨rfl, h⟩)
  · exact absurd (nI_lt_of (b := 60) hl (by omega)) (Int32.not_lt.mpr h1)
