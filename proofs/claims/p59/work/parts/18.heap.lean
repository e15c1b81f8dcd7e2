/-! the compost heap: push, removeTop -/
theorem rs_o {v : Vs} {a n k : Nat} {x y : Int32} (h : k ≠ a) : rs v a n x y k = v k := by
  unfold rs
  split
  · exact up2_o v _ _ h
  · rfl
theorem fin3 : ((3 : Fin 4) : Nat) = 3 := rfl
theorem nI_half : ∀ c, c < 101 → 0 < c → (nI c - 1) / 2 = nI ((c - 1) / 2) := by decide +kernel
theorem nI_2c1 (c : Nat) : 2 * nI c + 1 = nI (2 * c + 1) := by rw [show (2 : Int32) = nI 2 from rfl, nI_mul, nI_1]
theorem nI_2c2 (c : Nat) : 2 * nI c + 2 = nI (2 * c + 2) := by rw [show (2 : Int32) = nI 2 from rfl, nI_mul, nI_add]
theorem swV_o {v : Vs} {o k : Nat} {x y : Int32} (h : k ≠ o + 25) : swV v o x y k = v k := by
  unfold swV sHp
  rw [rs_o h, rs_o h]
def puF (o : Nat) (x : Int32) : Nat → Vs → Nat → Vs
  | 0, v, _ => v
  | f + 1, v, c => if 0 < c ∧ cmpB v o x (gHp v o (nI ((c - 1) / 2))) then puF o x f (swV v o (nI c) (nI ((c - 1) / 2))) ((c - 1) / 2) else v
/-- the heap of H lots when x has come -/
def pushV (v : Vs) (o H : Nat) (x : Int32) : Vs := puF o x H (up2 (sHp v o (nI H) x) (o + 23) 1 (nI (H + 1))) H
theorem s_X1_push {γ : Gm} {v : Vs} {o : Nat} (ho : IsStk o) {H : Nat} (hH : v (o + 23) 1 = nI H) (hb : H ≤ 100) (x : Int32) : Ew γ mX1_push yX1_push 2 [.ref (gz γ + (o + 23)), .ref (gz γ + (o + 8)), .int x] v none (pushV v o H x) := by
  refine Ev.ofJ (by decide) rfl (fun h => by cases h) (Nat.le_of_ble_eq_true rfl) ?_
  have key : ∀ f c w, c ≤ f → c ≤ 100 → puF o x f w c = pushV v o H x → J γ mX1_push (rmD 2 0 0) (fEv γ 0 0 (fun r h => r = none ∧ Rp γ (pushV v o H x) h)) 0 0 24 [some (.ref (gz γ + (o + 23))), some (.ref (gz γ + (o + 8))), some (.int x), some (.int (nI c)), none] [] (Rp γ w) := by
    intro f
    induction f with
    | zero =>
      intro c w hc hc1 he
      have hc0 : c = 0 := by omega
      subst hc0
      refine J.iload_n (μ := mX1_push) (pc := 24) dX1_push_24 rfl ?_
      refine J.if_le (μ := mX1_push) (pc := 25) 68 dX1_push_25 (by decide) (fun h1 => ?_) (fun h1 => ?_)
      · exact J.vret (μ := mX1_push) (pc := 68) dX1_push_68 rfl (Nat.le_of_ble_eq_true rfl) (Nat.le_of_ble_eq_true rfl) (fun H h => ⟨rfl, by rw [← he]; exact h⟩)
      · exact absurd h1 (by decide)
    | succ f ih =>
      intro c w hc hc1 he
      refine J.iload_n (μ := mX1_push) (pc := 24) dX1_push_24 rfl ?_
      refine J.if_le (μ := mX1_push) (pc := 25) 68 dX1_push_25 (by decide) (fun h1 => ?_) (fun h1 => ?_)
      · have h0 : c = 0 := by
          rcases Nat.eq_zero_or_pos c with q | q
          · exact q
          · exact absurd h1 (nI_nle q (by omega))
        have he2 : puF o x (f + 1) w c = w := by
          unfold puF
          rw [if_neg (fun h => by omega)]
        rw [he2] at he
        exact J.vret (μ := mX1_push) (pc := 68) dX1_push_68 rfl (Nat.le_of_ble_eq_true rfl) (Nat.le_of_ble_eq_true rfl) (fun H h => ⟨rfl, by rw [← he]; exact h⟩)
      · have h0 : 0 < c := by
          rcases Nat.eq_zero_or_pos c with q | q
          · subst q; exact absurd h1 (by decide)
          · exact q
        refine J.iload_n (μ := mX1_push) (pc := 28) dX1_push_28 rfl ?_
        refine J.iconst (μ := mX1_push) (pc := 29) (v := 1) dX1_push_29 (by decide) ?_
        refine J.isub (μ := mX1_push) (pc := 30) dX1_push_30 ?_
        refine J.iconst (μ := mX1_push) (pc := 31) (v := 2) dX1_push_31 (by decide) ?_
        refine J.idiv (μ := mX1_push) (pc := 32) dX1_push_32 (by decide) ?_
        rw [nI_half c (by omega) h0]
        refine J.istore (μ := mX1_push) (pc := 33) dX1_push_33 (Nat.le_of_ble_eq_true rfl) rfl ?_
        refine J.aload_n (μ := mX1_push) (pc := 35) dX1_push_35 rfl ?_
        refine J.iload_n (μ := mX1_push) (pc := 36) dX1_push_36 rfl ?_
        refine J.aload_n (μ := mX1_push) (pc := 37) dX1_push_37 rfl ?_
        refine J.gr (μ := mX1_push) (pc := 38) (T := TX1) (ci := 4) (fks := _) rfl rfl in_X1 0 (by decide) wf_X1_14 dX1_push_38 (ho 23 (by decide)) rfl ?_
        refine J.iload (μ := mX1_push) (pc := 41) dX1_push_41 rfl ?_
        refine J.cV (μ := mX1_push) (pc := 43) (g_hp ho _) rfl wm_X1_28 mi_X7_get rfl dX1_push_43 (Rp.isa (T := TX7) rfl (ho 24 (by decide))) rfl rfl ⟨(Nat.le_of_ble_eq_true rfl), (Nat.le_of_ble_eq_true rfl)⟩ ⟨(Nat.le_of_ble_eq_true rfl), (Nat.le_of_ble_eq_true rfl)⟩ (Nat.le_of_ble_eq_true rfl) ?_
        refine J.cV (μ := mX1_push) (pc := 46) (s_X5_compostsBefore ho  _ _) rfl wm_X1_36 mi_X5_compostsBefore rfl dX1_push_46 (Rp.isa (T := TX5) rfl (ho 8 (by decide))) rfl rfl ⟨(Nat.le_of_ble_eq_true rfl), (Nat.le_of_ble_eq_true rfl)⟩ ⟨(Nat.le_of_ble_eq_true rfl), (Nat.le_of_ble_eq_true rfl)⟩ (Nat.le_of_ble_eq_true rfl) ?_
        refine J.ifB_ne (μ := mX1_push) (pc := 49) 55 dX1_push_49 (by decide) (fun h2 => ?_) (fun h2 => ?_)
        · have he2 : puF o x (f + 1) w c = puF o x f (swV w o (nI c) (nI ((c - 1) / 2))) ((c - 1) / 2) := by
            show (if _ then _ else _) = _
            rw [if_pos ⟨h0, h2⟩]
          rw [he2] at he
          refine J.aload_n (μ := mX1_push) (pc := 55) dX1_push_55 rfl ?_
          refine J.iload_n (μ := mX1_push) (pc := 56) dX1_push_56 rfl ?_
          refine J.iload (μ := mX1_push) (pc := 57) dX1_push_57 rfl ?_
          refine J.cV0 (μ := mX1_push) (pc := 59) (s_X1_swap ho  _ _) rfl wm_X1_42 mi_X1_swap rfl dX1_push_59 (Rp.isa (T := TX1) rfl (ho 23 (by decide))) rfl rfl ⟨(Nat.le_of_ble_eq_true rfl), (Nat.le_of_ble_eq_true rfl)⟩ ⟨(Nat.le_of_ble_eq_true rfl), (Nat.le_of_ble_eq_true rfl)⟩ (Nat.le_of_ble_eq_true rfl) ?_
          refine J.iload (μ := mX1_push) (pc := 62) dX1_push_62 rfl ?_
          refine J.istore_n (μ := mX1_push) (pc := 64) dX1_push_64 (Nat.le_of_ble_eq_true rfl) rfl ?_
          refine J.goto (μ := mX1_push) (pc := 65) 24 dX1_push_65 (by decide) ?_
          exact J.sub (by simp [lsub, fin3]) (ih _ _ (by omega) (by omega) he)
        · have he2 : puF o x (f + 1) w c = w := by
            show (if _ then _ else _) = _
            rw [if_neg (fun h => h2 h.2)]
          rw [he2] at he
          refine J.goto (μ := mX1_push) (pc := 52) 68 dX1_push_52 (by decide) ?_
          exact J.vret (μ := mX1_push) (pc := 68) dX1_push_68 rfl (Nat.le_of_ble_eq_true rfl) (Nat.le_of_ble_eq_true rfl) (fun H h => ⟨rfl, by rw [← he]; exact h⟩)
  refine J.aload_n (μ := mX1_push) (pc := 0) dX1_push_0 rfl ?_
  refine J.gi (μ := mX1_push) (pc := 1) (T := TX1) (ci := 4) (fks := _) rfl rfl in_X1 1 (by decide) wf_X1_20 dX1_push_1 (ho 23 (by decide)) rfl ?_
  refine J.istore_n (μ := mX1_push) (pc := 4) dX1_push_4 (Nat.le_of_ble_eq_true rfl) rfl ?_
  refine J.aload_n (μ := mX1_push) (pc := 5) dX1_push_5 rfl ?_
  refine J.gr (μ := mX1_push) (pc := 6) (T := TX1) (ci := 4) (fks := _) rfl rfl in_X1 0 (by decide) wf_X1_14 dX1_push_6 (ho 23 (by decide)) rfl ?_
  refine J.iload_n (μ := mX1_push) (pc := 9) dX1_push_9 rfl ?_
  refine J.iload_n (μ := mX1_push) (pc := 10) dX1_push_10 rfl ?_
  refine J.cV0 (μ := mX1_push) (pc := 11) (p_hp ho _ _) rfl wm_X1_32 mi_X7_set rfl dX1_push_11 (Rp.isa (T := TX7) rfl (ho 24 (by decide))) rfl rfl ⟨(Nat.le_of_ble_eq_true rfl), (Nat.le_of_ble_eq_true rfl)⟩ ⟨(Nat.le_of_ble_eq_true rfl), (Nat.le_of_ble_eq_true rfl)⟩ (Nat.le_of_ble_eq_true rfl) ?_
  refine J.aload_n (μ := mX1_push) (pc := 14) dX1_push_14 rfl ?_
  refine J.dup (μ := mX1_push) (pc := 15) dX1_push_15 rfl ?_
  rw [hH]
  refine J.gi (μ := mX1_push) (pc := 16) (T := TX1) (ci := 4) (fks := _) rfl rfl in_X1 1 (by decide) wf_X1_20 dX1_push_16 (ho 23 (by decide)) rfl ?_
  rw [show sHp v o (nI H) x (o + 23) 1 = nI H by unfold sHp; rw [rs_o (by omega)]; exact hH]
  refine J.iconst (μ := mX1_push) (pc := 19) (v := 1) dX1_push_19 (by decide) ?_
  refine J.iadd (μ := mX1_push) (pc := 20) dX1_push_20 ?_
  refine J.pi (μ := mX1_push) (pc := 21) (T := TX1) (ci := 4) (ty0 := tyX1) (fks := _) rfl rfl in_X1 tyX1_ok nmX1 1 (by decide) wf_X1_20 dX1_push_21 rfl rfl rfl (ho 23 (by decide)) rfl ?_
  rw [nI_1]
  refine J.sub ?_ (key H H _ (Nat.le_refl H) hb rfl)
  exact ⟨rfl, rfl, rfl, rfl, trivial⟩
/-- the cell among c and the two below it that is composted first -/
def f3a (v : Vs) (o n c : Nat) : Nat := if 2 * c + 1 < n ∧ cmpB v o (gHp v o (nI (2 * c + 1))) (gHp v o (nI c)) then 2 * c + 1 else c
def f3 (v : Vs) (o n c : Nat) : Nat := if 2 * c + 2 < n ∧ cmpB v o (gHp v o (nI (2 * c + 2))) (gHp v o (nI (f3a v o n c))) then 2 * c + 2 else f3a v o n c
theorem f3_lt {v : Vs} {o n c : Nat} (h : c < f3 v o n c) : f3 v o n c < n := by
  unfold f3 at h ⊢
  split
  · rename_i q; exact q.1
  · rename_i q
    rw [if_neg q] at h
    unfold f3a at h ⊢
    split
    · rename_i q2; exact q2.1
    · rename_i q2
      rw [if_neg q2] at h
      omega
theorem f3_le (v : Vs) (o n c : Nat) : f3 v o n c ≤ 2 * c + 2 := by
  unfold f3
  split
  · omega
  · unfold f3a
    split <;> omega
theorem s_X1_firstOfThree {γ : Gm} {v : Vs} {o : Nat} (ho : IsStk o) {n : Nat} (hn : v (o + 23) 1 = nI n) (hb : n ≤ 100) {c : Nat} (hc : c ≤ 100) : Er γ mX1_firstOfThree yX1_firstOfThree 2 [.ref (gz γ + (o + 23)), .ref (gz γ + (o + 8)), .int (nI c)] v (.int (nI (f3 v o n c))) := by
  refine Ev.ofJ (by decide) rfl (fun h => by cases h) (Nat.le_of_ble_eq_true rfl) ?_
  have exit_ : ∀ a b : Nat, (b = 2 * c + 3 ∨ n ≤ b) → b ≤ 300 → a = f3 v o n c → J γ mX1_firstOfThree (rmD 2 0 0) (fEv γ 0 0 (fun r h => r = some (.int (nI (f3 v o n c))) ∧ Rp γ v h)) 0 0 9 [some (.ref (gz γ + (o + 23))), some (.ref (gz γ + (o + 8))), some (.int (nI c)), some (.int (nI a)), some (.int (nI b))] [] (Rp γ v) := by
    intro a b h1 h2 h3
    subst h3
    refine J.iload (μ := mX1_firstOfThree) (pc := 9) dX1_firstOfThree_9 rfl ?_
    refine J.iconst (μ := mX1_firstOfThree) (pc := 11) (v := 2) dX1_firstOfThree_11 (by decide) ?_
    refine J.iload_n (μ := mX1_firstOfThree) (pc := 12) dX1_firstOfThree_12 rfl ?_
    refine J.imul (μ := mX1_firstOfThree) (pc := 13) dX1_firstOfThree_13 ?_
    refine J.iconst (μ := mX1_firstOfThree) (pc := 14) (v := 2) dX1_firstOfThree_14 (by decide) ?_
    refine J.iadd (μ := mX1_firstOfThree) (pc := 15) dX1_firstOfThree_15 ?_
    rw [nI_2c2]
    refine J.icmp_gt (μ := mX1_firstOfThree) (pc := 16) 61 dX1_firstOfThree_16 (by decide) (fun h4 => ?_) (fun h4 => ?_)
    · refine J.iload_n (μ := mX1_firstOfThree) (pc := 61) dX1_firstOfThree_61 rfl ?_
      exact J.iret (μ := mX1_firstOfThree) (pc := 62) dX1_firstOfThree_62 rfl (Nat.le_of_ble_eq_true rfl) (Nat.le_of_ble_eq_true rfl) (fun H h => ⟨rfl, h⟩)
    · refine J.iload (μ := mX1_firstOfThree) (pc := 19) dX1_firstOfThree_19 rfl ?_
      refine J.aload_n (μ := mX1_firstOfThree) (pc := 21) dX1_firstOfThree_21 rfl ?_
      refine J.gi (μ := mX1_firstOfThree) (pc := 22) (T := TX1) (ci := 4) (fks := _) rfl rfl in_X1 1 (by decide) wf_X1_20 dX1_firstOfThree_22 (ho 23 (by decide)) rfl ?_
      rw [hn]
      refine J.icmp_ge (μ := mX1_firstOfThree) (pc := 25) 61 dX1_firstOfThree_25 (by decide) (fun h5 => ?_) (fun h5 => ?_)
      · refine J.iload_n (μ := mX1_firstOfThree) (pc := 61) dX1_firstOfThree_61 rfl ?_
        exact J.iret (μ := mX1_firstOfThree) (pc := 62) dX1_firstOfThree_62 rfl (Nat.le_of_ble_eq_true rfl) (Nat.le_of_ble_eq_true rfl) (fun H h => ⟨rfl, h⟩)
      · have a1 := (nI_leI (by omega) (by omega)).mp h4
        have a2 := (nI_ltI (by omega) (by omega)).mp h5
        omega
  have turn : ∀ a b : Nat, b ≤ 2 * c + 2 → b < n → J γ mX1_firstOfThree (rmD 2 0 0) (fEv γ 0 0 (fun r h => r = some (.int (nI (f3 v o n c))) ∧ Rp γ v h)) 0 0 9 [some (.ref (gz γ + (o + 23))), some (.ref (gz γ + (o + 8))), some (.int (nI c)), some (.int (nI (if cmpB v o (gHp v o (nI b)) (gHp v o (nI a)) then b else a))), some (.int (nI (b + 1)))] [] (Rp γ v) → J γ mX1_firstOfThree (rmD 2 0 0) (fEv γ 0 0 (fun r h => r = some (.int (nI (f3 v o n c))) ∧ Rp γ v h)) 0 0 9 [some (.ref (gz γ + (o + 23))), some (.ref (gz γ + (o + 8))), some (.int (nI c)), some (.int (nI a)), some (.int (nI b))] [] (Rp γ v) := by
    intro a b h1 h2 hk
    refine J.iload (μ := mX1_firstOfThree) (pc := 9) dX1_firstOfThree_9 rfl ?_
    refine J.iconst (μ := mX1_firstOfThree) (pc := 11) (v := 2) dX1_firstOfThree_11 (by decide) ?_
    refine J.iload_n (μ := mX1_firstOfThree) (pc := 12) dX1_firstOfThree_12 rfl ?_
    refine J.imul (μ := mX1_firstOfThree) (pc := 13) dX1_firstOfThree_13 ?_
    refine J.iconst (μ := mX1_firstOfThree) (pc := 14) (v := 2) dX1_firstOfThree_14 (by decide) ?_
    refine J.iadd (μ := mX1_firstOfThree) (pc := 15) dX1_firstOfThree_15 ?_
    rw [nI_2c2]
    refine J.icmp_gt (μ := mX1_firstOfThree) (pc := 16) 61 dX1_firstOfThree_16 (by decide) (fun h4 => ?_) (fun h4 => ?_)
    · exact absurd h4 (nI_nlt (by omega) (by omega))
    · refine J.iload (μ := mX1_firstOfThree) (pc := 19) dX1_firstOfThree_19 rfl ?_
      refine J.aload_n (μ := mX1_firstOfThree) (pc := 21) dX1_firstOfThree_21 rfl ?_
      refine J.gi (μ := mX1_firstOfThree) (pc := 22) (T := TX1) (ci := 4) (fks := _) rfl rfl in_X1 1 (by decide) wf_X1_20 dX1_firstOfThree_22 (ho 23 (by decide)) rfl ?_
      rw [hn]
      refine J.icmp_ge (μ := mX1_firstOfThree) (pc := 25) 61 dX1_firstOfThree_25 (by decide) (fun h5 => ?_) (fun h5 => ?_)
      · exact absurd h5 (nI_ge (by omega) (by omega))
      · refine J.aload_n (μ := mX1_firstOfThree) (pc := 28) dX1_firstOfThree_28 rfl ?_
        refine J.aload_n (μ := mX1_firstOfThree) (pc := 29) dX1_firstOfThree_29 rfl ?_
        refine J.gr (μ := mX1_firstOfThree) (pc := 30) (T := TX1) (ci := 4) (fks := _) rfl rfl in_X1 0 (by decide) wf_X1_14 dX1_firstOfThree_30 (ho 23 (by decide)) rfl ?_
        refine J.iload (μ := mX1_firstOfThree) (pc := 33) dX1_firstOfThree_33 rfl ?_
        refine J.cV (μ := mX1_firstOfThree) (pc := 35) (g_hp ho _) rfl wm_X1_28 mi_X7_get rfl dX1_firstOfThree_35 (Rp.isa (T := TX7) rfl (ho 24 (by decide))) rfl rfl ⟨(Nat.le_of_ble_eq_true rfl), (Nat.le_of_ble_eq_true rfl)⟩ ⟨(Nat.le_of_ble_eq_true rfl), (Nat.le_of_ble_eq_true rfl)⟩ (Nat.le_of_ble_eq_true rfl) ?_
        refine J.aload_n (μ := mX1_firstOfThree) (pc := 38) dX1_firstOfThree_38 rfl ?_
        refine J.gr (μ := mX1_firstOfThree) (pc := 39) (T := TX1) (ci := 4) (fks := _) rfl rfl in_X1 0 (by decide) wf_X1_14 dX1_firstOfThree_39 (ho 23 (by decide)) rfl ?_
        refine J.iload_n (μ := mX1_firstOfThree) (pc := 42) dX1_firstOfThree_42 rfl ?_
        refine J.cV (μ := mX1_firstOfThree) (pc := 43) (g_hp ho _) rfl wm_X1_28 mi_X7_get rfl dX1_firstOfThree_43 (Rp.isa (T := TX7) rfl (ho 24 (by decide))) rfl rfl ⟨(Nat.le_of_ble_eq_true rfl), (Nat.le_of_ble_eq_true rfl)⟩ ⟨(Nat.le_of_ble_eq_true rfl), (Nat.le_of_ble_eq_true rfl)⟩ (Nat.le_of_ble_eq_true rfl) ?_
        refine J.cV (μ := mX1_firstOfThree) (pc := 46) (s_X5_compostsBefore ho  _ _) rfl wm_X1_36 mi_X5_compostsBefore rfl dX1_firstOfThree_46 (Rp.isa (T := TX5) rfl (ho 8 (by decide))) rfl rfl ⟨(Nat.le_of_ble_eq_true rfl), (Nat.le_of_ble_eq_true rfl)⟩ ⟨(Nat.le_of_ble_eq_true rfl), (Nat.le_of_ble_eq_true rfl)⟩ (Nat.le_of_ble_eq_true rfl) ?_
        refine J.ifB_eq (μ := mX1_firstOfThree) (pc := 49) 55 dX1_firstOfThree_49 (by decide) (fun h6 => ?_) (fun h6 => ?_)
        · rw [if_neg h6] at hk
          refine J.iinc (μ := mX1_firstOfThree) (pc := 55) (v := 1) dX1_firstOfThree_55 rfl (by decide) (Nat.le_of_ble_eq_true rfl) rfl ?_
          refine J.goto (μ := mX1_firstOfThree) (pc := 58) 9 dX1_firstOfThree_58 (by decide) ?_
          exact J.sub (by simp [lsub, fin3, nI_succ]) hk
        · rw [if_pos h6] at hk
          refine J.iload (μ := mX1_firstOfThree) (pc := 52) dX1_firstOfThree_52 rfl ?_
          refine J.istore_n (μ := mX1_firstOfThree) (pc := 54) dX1_firstOfThree_54 (Nat.le_of_ble_eq_true rfl) rfl ?_
          refine J.iinc (μ := mX1_firstOfThree) (pc := 55) (v := 1) dX1_firstOfThree_55 rfl (by decide) (Nat.le_of_ble_eq_true rfl) rfl ?_
          refine J.goto (μ := mX1_firstOfThree) (pc := 58) 9 dX1_firstOfThree_58 (by decide) ?_
          exact J.sub (by simp [lsub, fin3, nI_succ]) hk
  refine J.iload_n (μ := mX1_firstOfThree) (pc := 0) dX1_firstOfThree_0 rfl ?_
  refine J.istore_n (μ := mX1_firstOfThree) (pc := 1) dX1_firstOfThree_1 (Nat.le_of_ble_eq_true rfl) rfl ?_
  refine J.iconst (μ := mX1_firstOfThree) (pc := 2) (v := 2) dX1_firstOfThree_2 (by decide) ?_
  refine J.iload_n (μ := mX1_firstOfThree) (pc := 3) dX1_firstOfThree_3 rfl ?_
  refine J.imul (μ := mX1_firstOfThree) (pc := 4) dX1_firstOfThree_4 ?_
  refine J.iconst (μ := mX1_firstOfThree) (pc := 5) (v := 1) dX1_firstOfThree_5 (by decide) ?_
  refine J.iadd (μ := mX1_firstOfThree) (pc := 6) dX1_firstOfThree_6 ?_
  rw [nI_2c1]
  refine J.istore (μ := mX1_firstOfThree) (pc := 7) dX1_firstOfThree_7 (Nat.le_of_ble_eq_true rfl) rfl ?_
  by_cases h1 : 2 * c + 1 < n
  · refine turn c (2 * c + 1) (by omega) h1 ?_
    by_cases h2 : 2 * c + 2 < n
    · refine turn _ (2 * c + 2) (by omega) h2 (exit_ _ _ (.inl rfl) (by omega) ?_)
      unfold f3 f3a
      simp only [h1, h2, true_and]
    · refine exit_ _ _ (.inr (by omega)) (by omega) ?_
      unfold f3 f3a
      simp only [h1, h2, true_and, false_and, ↓reduceIte]
  · refine exit_ _ _ (.inr (by omega)) (by omega) ?_
    unfold f3
    rw [if_neg (fun h => absurd h.1 (by omega))]
    unfold f3a
    rw [if_neg (fun h => h1 h.1)]
def rtF (o n : Nat) : Nat → Vs → Nat → Vs
  | 0, v, _ => v
  | f + 1, v, c => if c < n ∧ c < f3 v o n c then rtF o n f (swV v o (nI c) (nI (f3 v o n c))) (f3 v o n c) else v
/-- the heap of h + 1 lots when its top has gone -/
def remV (v : Vs) (o h : Nat) : Vs := rtF o h h (sHp (up2 v (o + 23) 1 (nI h)) o 0 (gHp (up2 v (o + 23) 1 (nI h)) o (nI h))) 0
theorem s_X1_removeTop {γ : Gm} {v : Vs} {o : Nat} (ho : IsStk o) {n : Nat} (hn : v (o + 23) 1 = nI (n + 1)) (hb : n ≤ 100) : Ew γ mX1_removeTop yX1_removeTop 3 [.ref (gz γ + (o + 23)), .ref (gz γ + (o + 8))] v none (remV v o n) := by
  refine Ev.ofJ (by decide) rfl (fun h => by cases h) (Nat.le_of_ble_eq_true rfl) ?_
  have key : ∀ f c w, n ≤ c + f → c ≤ 100 → w (o + 23) 1 = nI n → rtF o n f w c = remV v o n → J γ mX1_removeTop (rmD 3 0 0) (fEv γ 0 0 (fun r h => r = none ∧ Rp γ (remV v o n) h)) 0 0 31 [some (.ref (gz γ + (o + 23))), some (.ref (gz γ + (o + 8))), some (.int (nI c)), none] [] (Rp γ w) := by
    intro f
    induction f with
    | zero =>
      intro c w hc hc1 hw he
      refine J.iload_n (μ := mX1_removeTop) (pc := 31) dX1_removeTop_31 rfl ?_
      refine J.aload_n (μ := mX1_removeTop) (pc := 32) dX1_removeTop_32 rfl ?_
      refine J.gi (μ := mX1_removeTop) (pc := 33) (T := TX1) (ci := 4) (fks := _) rfl rfl in_X1 1 (by decide) wf_X1_20 dX1_removeTop_33 (ho 23 (by decide)) rfl ?_
      rw [hw]
      refine J.icmp_ge (μ := mX1_removeTop) (pc := 36) 65 dX1_removeTop_36 (by decide) (fun h1 => ?_) (fun h1 => ?_)
      · exact J.vret (μ := mX1_removeTop) (pc := 65) dX1_removeTop_65 rfl (Nat.le_of_ble_eq_true rfl) (Nat.le_of_ble_eq_true rfl) (fun H h => ⟨rfl, by rw [← he]; exact h⟩)
      · exact absurd h1 (nI_nlt (by omega) (by omega))
    | succ f ih =>
      intro c w hc hc1 hw he
      refine J.iload_n (μ := mX1_removeTop) (pc := 31) dX1_removeTop_31 rfl ?_
      refine J.aload_n (μ := mX1_removeTop) (pc := 32) dX1_removeTop_32 rfl ?_
      refine J.gi (μ := mX1_removeTop) (pc := 33) (T := TX1) (ci := 4) (fks := _) rfl rfl in_X1 1 (by decide) wf_X1_20 dX1_removeTop_33 (ho 23 (by decide)) rfl ?_
      rw [hw]
      refine J.icmp_ge (μ := mX1_removeTop) (pc := 36) 65 dX1_removeTop_36 (by decide) (fun h1 => ?_) (fun h1 => ?_)
      · have h0 : ¬ c < n := fun q => absurd h1 (nI_ge q (by omega))
        have he2 : rtF o n (f + 1) w c = w := by
          show (if _ then _ else _) = _
          rw [if_neg (fun h => h0 h.1)]
        rw [he2] at he
        exact J.vret (μ := mX1_removeTop) (pc := 65) dX1_removeTop_65 rfl (Nat.le_of_ble_eq_true rfl) (Nat.le_of_ble_eq_true rfl) (fun H h => ⟨rfl, by rw [← he]; exact h⟩)
      · have h0 : c < n := (nI_ltI (by omega) (by omega)).mp h1
        refine J.aload_n (μ := mX1_removeTop) (pc := 39) dX1_removeTop_39 rfl ?_
        refine J.aload_n (μ := mX1_removeTop) (pc := 40) dX1_removeTop_40 rfl ?_
        refine J.iload_n (μ := mX1_removeTop) (pc := 41) dX1_removeTop_41 rfl ?_
        refine J.cV (μ := mX1_removeTop) (pc := 42) (s_X1_firstOfThree ho hw hb hc1) rfl wm_X1_45 mi_X1_firstOfThree rfl dX1_removeTop_42 (Rp.isa (T := TX1) rfl (ho 23 (by decide))) rfl rfl ⟨(Nat.le_of_ble_eq_true rfl), (Nat.le_of_ble_eq_true rfl)⟩ ⟨(Nat.le_of_ble_eq_true rfl), (Nat.le_of_ble_eq_true rfl)⟩ (Nat.le_of_ble_eq_true rfl) ?_
        refine J.istore_n (μ := mX1_removeTop) (pc := 45) dX1_removeTop_45 (Nat.le_of_ble_eq_true rfl) rfl ?_
        refine J.iload_n (μ := mX1_removeTop) (pc := 46) dX1_removeTop_46 rfl ?_
        refine J.iload_n (μ := mX1_removeTop) (pc := 47) dX1_removeTop_47 rfl ?_
        have hle := f3_le w o n c
        refine J.icmp_gt (μ := mX1_removeTop) (pc := 48) 54 dX1_removeTop_48 (by decide) (fun h2 => ?_) (fun h2 => ?_)
        · have h3 := (nI_ltI (by omega) (by omega)).mp h2
          have he2 : rtF o n (f + 1) w c = rtF o n f (swV w o (nI c) (nI (f3 w o n c))) (f3 w o n c) := by
            show (if _ then _ else _) = _
            rw [if_pos ⟨h0, h3⟩]
          rw [he2] at he
          have h4 := f3_lt h3
          refine J.aload_n (μ := mX1_removeTop) (pc := 54) dX1_removeTop_54 rfl ?_
          refine J.iload_n (μ := mX1_removeTop) (pc := 55) dX1_removeTop_55 rfl ?_
          refine J.iload_n (μ := mX1_removeTop) (pc := 56) dX1_removeTop_56 rfl ?_
          refine J.cV0 (μ := mX1_removeTop) (pc := 57) (s_X1_swap ho  _ _) rfl wm_X1_42 mi_X1_swap rfl dX1_removeTop_57 (Rp.isa (T := TX1) rfl (ho 23 (by decide))) rfl rfl ⟨(Nat.le_of_ble_eq_true rfl), (Nat.le_of_ble_eq_true rfl)⟩ ⟨(Nat.le_of_ble_eq_true rfl), (Nat.le_of_ble_eq_true rfl)⟩ (Nat.le_of_ble_eq_true rfl) ?_
          refine J.iload_n (μ := mX1_removeTop) (pc := 60) dX1_removeTop_60 rfl ?_
          refine J.istore_n (μ := mX1_removeTop) (pc := 61) dX1_removeTop_61 (Nat.le_of_ble_eq_true rfl) rfl ?_
          refine J.goto (μ := mX1_removeTop) (pc := 62) 31 dX1_removeTop_62 (by decide) ?_
          exact J.sub (by simp [lsub, fin3]) (ih _ _ (by omega) (by omega) (by rw [swV_o (by omega)]; exact hw) he)
        · have h3 : ¬ c < f3 w o n c := fun q => absurd h2 (nI_ge q (by omega))
          have he2 : rtF o n (f + 1) w c = w := by
            show (if _ then _ else _) = _
            rw [if_neg (fun h => h3 h.2)]
          rw [he2] at he
          refine J.goto (μ := mX1_removeTop) (pc := 51) 65 dX1_removeTop_51 (by decide) ?_
          exact J.vret (μ := mX1_removeTop) (pc := 65) dX1_removeTop_65 rfl (Nat.le_of_ble_eq_true rfl) (Nat.le_of_ble_eq_true rfl) (fun H h => ⟨rfl, by rw [← he]; exact h⟩)
  refine J.aload_n (μ := mX1_removeTop) (pc := 0) dX1_removeTop_0 rfl ?_
  refine J.dup (μ := mX1_removeTop) (pc := 1) dX1_removeTop_1 rfl ?_
  refine J.gi (μ := mX1_removeTop) (pc := 2) (T := TX1) (ci := 4) (fks := _) rfl rfl in_X1 1 (by decide) wf_X1_20 dX1_removeTop_2 (ho 23 (by decide)) rfl ?_
  refine J.iconst (μ := mX1_removeTop) (pc := 5) (v := 1) dX1_removeTop_5 (by decide) ?_
  rw [hn]
  refine J.isub (μ := mX1_removeTop) (pc := 6) dX1_removeTop_6 ?_
  rw [nI_pred]
  refine J.pi (μ := mX1_removeTop) (pc := 7) (T := TX1) (ci := 4) (ty0 := tyX1) (fks := _) rfl rfl in_X1 tyX1_ok nmX1 1 (by decide) wf_X1_20 dX1_removeTop_7 rfl rfl rfl (ho 23 (by decide)) rfl ?_
  refine J.aload_n (μ := mX1_removeTop) (pc := 10) dX1_removeTop_10 rfl ?_
  refine J.gr (μ := mX1_removeTop) (pc := 11) (T := TX1) (ci := 4) (fks := _) rfl rfl in_X1 0 (by decide) wf_X1_14 dX1_removeTop_11 (ho 23 (by decide)) rfl ?_
  refine J.iconst (μ := mX1_removeTop) (pc := 14) (v := 0) dX1_removeTop_14 (by decide) ?_
  refine J.aload_n (μ := mX1_removeTop) (pc := 15) dX1_removeTop_15 rfl ?_
  refine J.gr (μ := mX1_removeTop) (pc := 16) (T := TX1) (ci := 4) (fks := _) rfl rfl in_X1 0 (by decide) wf_X1_14 dX1_removeTop_16 (ho 23 (by decide)) rfl ?_
  refine J.aload_n (μ := mX1_removeTop) (pc := 19) dX1_removeTop_19 rfl ?_
  refine J.gi (μ := mX1_removeTop) (pc := 20) (T := TX1) (ci := 4) (fks := _) rfl rfl in_X1 1 (by decide) wf_X1_20 dX1_removeTop_20 (ho 23 (by decide)) rfl ?_
  rw [show up2 v (o + 23) 1 (nI n) (o + 23) 1 = nI n from up2_ss]
  refine J.cV (μ := mX1_removeTop) (pc := 23) (g_hp ho _) rfl wm_X1_28 mi_X7_get rfl dX1_removeTop_23 (Rp.isa (T := TX7) rfl (ho 24 (by decide))) rfl rfl ⟨(Nat.le_of_ble_eq_true rfl), (Nat.le_of_ble_eq_true rfl)⟩ ⟨(Nat.le_of_ble_eq_true rfl), (Nat.le_of_ble_eq_true rfl)⟩ (Nat.le_of_ble_eq_true rfl) ?_
  refine J.cV0 (μ := mX1_removeTop) (pc := 26) (p_hp ho _ _) rfl wm_X1_32 mi_X7_set rfl dX1_removeTop_26 (Rp.isa (T := TX7) rfl (ho 24 (by decide))) rfl rfl ⟨(Nat.le_of_ble_eq_true rfl), (Nat.le_of_ble_eq_true rfl)⟩ ⟨(Nat.le_of_ble_eq_true rfl), (Nat.le_of_ble_eq_true rfl)⟩ (Nat.le_of_ble_eq_true rfl) ?_
  refine J.iconst (μ := mX1_removeTop) (pc := 29) (v := 0) dX1_removeTop_29 (by decide) ?_
  refine J.istore_n (μ := mX1_removeTop) (pc := 30) dX1_removeTop_30 (Nat.le_of_ble_eq_true rfl) rfl ?_
  refine J.sub ?_ (key n 0 _ (by omega) (by omega) (by unfold sHp; rw [rs_o (by omega)]; exact up2_ss) rfl)
  exact ⟨rfl, rfl, rfl, trivial⟩
