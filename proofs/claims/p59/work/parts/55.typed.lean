/-! the law types a text -/
/-- nothing but the text has changed -/
def Ty (v u : Vs) : Prop := ∀ k, k ≠ 302 → k ≠ 304 → u k = v k
theorem Ty.rf {v : Vs} : Ty v v := fun _ _ _ => rfl
theorem Ty.tr {u v w : Vs} (h : Ty u v) (h2 : Ty v w) : Ty u w := fun k a b => (h2 k a b).trans (h k a b)
theorem Ty.ap {v : Vs} {x : Int32} : Ty v (apV v x) := fun k a b => by unfold apV; rw [up2_o _ _ _ a, rs_o b]
theorem l_put {γ : Gm} {v : Vs} {t : List Nat} (ht : tx v t) (hl : t.length < 60) (x : Int32) : Ev γ mL_put yL_put 8 0 0 [.ref (gz γ + 0), .int x] (Rp γ v) (fun w K => w = some (.int 1) ∧ Rp γ (apV v x) K) := by
  refine Ev.ofJ (by decide) rfl (fun h => by cases h) (Nat.le_of_ble_eq_true rfl) ?_
  refine J.aload_n (μ := mL_put) (pc := 0) dL_put_0 rfl ?_
  refine J.iload_n (μ := mL_put) (pc := 1) dL_put_1 rfl ?_
  refine J.cV (μ := mL_put) (pc := 2) (s_X11_feed ht hl _) rfl wm_L_109 mi_X11_feed rfl dL_put_2 (Rp.isa (T := TX11) rfl sh0) rfl rfl ⟨(Nat.le_of_ble_eq_true rfl), (Nat.le_of_ble_eq_true rfl)⟩ ⟨(Nat.le_of_ble_eq_true rfl), (Nat.le_of_ble_eq_true rfl)⟩ (Nat.le_of_ble_eq_true rfl) ?_
  refine J.pop (μ := mL_put) (pc := 5) dL_put_5 rfl ?_
  refine J.goto (μ := mL_put) (pc := 6) 12 dL_put_6 (by decide) ?_
  refine J.iconst (μ := mL_put) (pc := 12) (v := 1) dL_put_12 (by decide) ?_
  exact J.zret (μ := mL_put) (pc := 13) dL_put_13 rfl rfl (Nat.le_of_ble_eq_true rfl) (Nat.le_of_ble_eq_true rfl) (fun H h => ⟨rfl, h⟩)
theorem l_typed {γ : Gm} {v : Vs} {si : Nat} {bs : List Nat} (hq : SK si bs) (hb : ∀ c ∈ bs, c < 128) (h60 : bs.length ≤ 60) (ht : tx v []) : Ev γ mL_typed yL_typed 12 0 0 [.ref (gz γ + 0), .ref (go γ (2 * si))] (Rp γ v) (fun w K => w = some (.ref (gz γ + 0)) ∧ ∃ u, (Ty v u ∧ tx u bs) ∧ Rp γ u K) := by
  refine Ev.ofJ (by decide) rfl (fun h => by cases h) (Nat.le_of_ble_eq_true rfl) ?_
  have key : ∀ (m i : Nat) (u : Vs), i + m = bs.length → tx u (bs.take i) → Ty v u → J γ mL_typed (rmD 12 0 0) (fEv γ 0 0 (fun w K => w = some (.ref (gz γ + 0)) ∧ ∃ u, (Ty v u ∧ tx u bs) ∧ Rp γ u K)) 0 0 2 [some (.ref (gz γ + 0)), some (.ref (go γ (2 * si))), some (.int (nI i))] [] (Rp γ u) := by
    intro m
    induction m with
    | zero =>
      intro i u hi hu hy
      have hi : i = bs.length := by omega
      subst hi
      rw [List.take_length] at hu
      refine J.iload_n (μ := mL_typed) (pc := 2) dL_typed_2 rfl ?_
      refine J.aload_n (μ := mL_typed) (pc := 3) dL_typed_3 rfl ?_
      refine J.callO (μ := mL_typed) (pc := 4) (s_J0_length hq) rfl wm_L_113 mi_J0_length_8abf5 rfl dL_typed_4 (fun s hK => (hq.ko hK).1) rfl rfl ⟨(Nat.le_of_ble_eq_true rfl), (Nat.le_of_ble_eq_true rfl)⟩ ⟨(Nat.le_of_ble_eq_true rfl), (Nat.le_of_ble_eq_true rfl)⟩ (Nat.le_of_ble_eq_true rfl) (fun w => J.and (fun e => ?_))
      subst e
      refine J.icmp_ge (μ := mL_typed) (pc := 7) 26 dL_typed_7 (by decide) (fun hc => ?_) (fun hc => ?_)
      · refine J.aload_n (μ := mL_typed) (pc := 26) dL_typed_26 rfl ?_
        exact J.aretO (μ := mL_typed) (pc := 27) dL_typed_27 rfl (.inl ⟨_, rfl⟩) (Nat.le_of_ble_eq_true rfl) (Nat.le_of_ble_eq_true rfl) (fun K k => ⟨rfl, u, ⟨hy, hu⟩, k⟩)
      · exact absurd hc (nI_nlt (Nat.le_refl _) (by omega))
    | succ m ih =>
      intro i u hi hu hy
      have hi2 : i < bs.length := by omega
      refine J.iload_n (μ := mL_typed) (pc := 2) dL_typed_2 rfl ?_
      refine J.aload_n (μ := mL_typed) (pc := 3) dL_typed_3 rfl ?_
      refine J.callO (μ := mL_typed) (pc := 4) (s_J0_length hq) rfl wm_L_113 mi_J0_length_8abf5 rfl dL_typed_4 (fun s hK => (hq.ko hK).1) rfl rfl ⟨(Nat.le_of_ble_eq_true rfl), (Nat.le_of_ble_eq_true rfl)⟩ ⟨(Nat.le_of_ble_eq_true rfl), (Nat.le_of_ble_eq_true rfl)⟩ (Nat.le_of_ble_eq_true rfl) (fun w => J.and (fun e => ?_))
      subst e
      refine J.icmp_ge (μ := mL_typed) (pc := 7) 26 dL_typed_7 (by decide) (fun hc => ?_) (fun hc => ?_)
      · exact absurd hc (nI_ge hi2 (by omega))
      · refine J.aload_n (μ := mL_typed) (pc := 10) dL_typed_10 rfl ?_
        refine J.aload_n (μ := mL_typed) (pc := 11) dL_typed_11 rfl ?_
        refine J.iload_n (μ := mL_typed) (pc := 12) dL_typed_12 rfl ?_
        refine J.callO (μ := mL_typed) (pc := 13) (s_J0_charAt hq hi2 (by omega) hb) rfl wm_L_118 mi_J0_charAt_5068e rfl dL_typed_13 (fun s hK => (hq.ko hK).1) rfl rfl ⟨(Nat.le_of_ble_eq_true rfl), (Nat.le_of_ble_eq_true rfl)⟩ ⟨(Nat.le_of_ble_eq_true rfl), (Nat.le_of_ble_eq_true rfl)⟩ (Nat.le_of_ble_eq_true rfl) (fun w => J.and (fun e => ?_))
        subst e
        refine J.callSW (μ := mL_typed) (pc := 16) (l_put hu (by rw [List.length_take]; omega) (nI (bs.getD i 0))) rfl wm_L_122 mi_L_put (fun h => by cases h) dL_typed_16 rfl rfl ⟨(Nat.le_of_ble_eq_true rfl), (Nat.le_of_ble_eq_true rfl)⟩ ⟨(Nat.le_of_ble_eq_true rfl), (Nat.le_of_ble_eq_true rfl)⟩ (Nat.le_of_ble_eq_true rfl) (fun w => J.and (fun e => ?_))
        subst e
        refine J.pop (μ := mL_typed) (pc := 19) dL_typed_19 rfl ?_
        refine J.iinc (μ := mL_typed) (pc := 20) (v := 1) dL_typed_20 rfl (by decide) (Nat.le_of_ble_eq_true rfl) rfl ?_
        refine J.goto (μ := mL_typed) (pc := 23) 2 dL_typed_23 (by decide) ?_
        have h1 := tx_ap hu (c := bs.getD i 0) (getD_lt hb hi2) (by rw [List.length_take]; omega)
        have h2 : bs.take i ++ [bs.getD i 0] = bs.take (i + 1) := by
          rw [List.take_add_one, List.getD_eq_getElem?_getD, List.getElem?_eq_getElem hi2]; rfl
        rw [h2] at h1
        refine J.sub ?_ (ih (i + 1) _ (by omega) h1 (hy.tr Ty.ap))
        exact ⟨rfl, rfl, by rw [nI_1], trivial⟩
  refine J.iconst (μ := mL_typed) (pc := 0) (v := 0) dL_typed_0 (by decide) ?_
  refine J.istore_n (μ := mL_typed) (pc := 1) dL_typed_1 (Nat.le_of_ble_eq_true rfl) rfl ?_
  refine J.sub ?_ (key bs.length 0 v (Nat.zero_add _) ht Ty.rf)
  exact ⟨rfl, rfl, rfl, trivial⟩
