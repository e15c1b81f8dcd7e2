/-! packing: gathering, fillings, search -/
/-- the cell k is f -/
def upC (v : Vs) (k : Nat) (f : Nat → Int32) : Vs := fun k' => if k' = k then f else v k'
theorem upC_s {v : Vs} {k : Nat} {f : Nat → Int32} : upC v k f k = f := if_pos rfl
theorem upC_o {v : Vs} {k k' : Nat} {f : Nat → Int32} (h : k' ≠ k) : upC v k f k' = v k' := if_neg h
theorem upC_self (v : Vs) (k : Nat) : upC v k (v k) = v := funext fun k' => by
  unfold upC
  split
  · rename_i h; rw [h]
  · rfl
theorem up2_C {v : Vs} {k j : Nat} {f : Nat → Int32} {x : Int32} : up2 (upC v k f) k j x = upC v k (upd f j x) := by
  funext k'
  unfold up2 upC
  by_cases e : k' = k
  · rw [if_pos e, if_pos e, if_pos rfl]
  · rw [if_neg e, if_neg e, if_neg e]
theorem rs_C {v : Vs} {k n j : Nat} {f : Nat → Int32} {x : Int32} (h : j < n) (hn : n ≤ 1000) : rs (upC v k f) k n (nI j) x = upC v k (upd f j x) := by
  rw [rs_nI h hn, up2_C]
theorem s_X7_fill {γ : Gm} {v : Vs} {r n : Nat} (hr : IsRow r n) (hn : n ≤ 1000) (x : Int32) : Ew γ mX7_fill yX7_fill 1 [.ref (gz γ + r), .int x] v none (upC v (r + 1) (fun _ => x)) := by
  refine Ev.ofJ (by decide) rfl (fun h => by cases h) (Nat.le_of_ble_eq_true rfl) ?_
  refine J.iconst (μ := mX7_fill) (pc := 0) (v := 0) dX7_fill_0 (by decide) ?_
  refine J.istore_n (μ := mX7_fill) (pc := 1) dX7_fill_1 (Nat.le_of_ble_eq_true rfl) rfl ?_
  refine J.of (P' := fun H => ∃ g : Nat → Int32, (∀ j, j < 0 → g j = x) ∧ Rp γ (upC v (r + 1) g) H) (fun H h => ⟨v (r + 1), fun j hj => absurd hj (Nat.not_lt_zero j), by rw [upC_self]; exact h⟩) ?_
  refine J.for (Lf := fun i => [some (.ref (gz γ + r)), some (.int x), some (.int (nI i))]) (Pf := fun i H => ∃ g : Nat → Int32, (∀ j, j < i → g j = x) ∧ Rp γ (upC v (r + 1) g) H) n (J.ex fun g => J.and fun hg => ?_) (fun i hi ih => J.ex fun g => J.and fun hg => ?_)
  · refine J.iload_n (μ := mX7_fill) (pc := 2) dX7_fill_2 rfl ?_
    refine J.aload_n (μ := mX7_fill) (pc := 3) dX7_fill_3 rfl ?_
    refine J.gr (μ := mX7_fill) (pc := 4) (T := TX7) (ci := 10) (fks := _) rfl rfl in_X7 0 (by decide) wf_X7_7 dX7_fill_4 hr.1 rfl ?_
    refine J.al (μ := mX7_fill) (pc := 7) dX7_fill_7 hr.2 rfl ?_
    refine J.icmp_ge (μ := mX7_fill) (pc := 8) 24 dX7_fill_8 (by decide) (fun hc => ?_) (fun hc => ?_)
    · refine J.vret (μ := mX7_fill) (pc := 24) dX7_fill_24 rfl (Nat.le_of_ble_eq_true rfl) (Nat.le_of_ble_eq_true rfl) (fun H h => ⟨rfl, h.congr (fun k s hk => ?_)⟩)
      by_cases e : k = r + 1
      · subst e
        cases Option.some.inj (hk.symm.trans hr.2)
        intro j hj
        rw [upC_s, upC_s]
        exact hg j hj
      · cases s <;> (intro j _; rw [upC_o e, upC_o e])
    · exact absurd hc (nI_nlt_of (Nat.le_refl n) hn)
  · refine J.iload_n (μ := mX7_fill) (pc := 2) dX7_fill_2 rfl ?_
    refine J.aload_n (μ := mX7_fill) (pc := 3) dX7_fill_3 rfl ?_
    refine J.gr (μ := mX7_fill) (pc := 4) (T := TX7) (ci := 10) (fks := _) rfl rfl in_X7 0 (by decide) wf_X7_7 dX7_fill_4 hr.1 rfl ?_
    refine J.al (μ := mX7_fill) (pc := 7) dX7_fill_7 hr.2 rfl ?_
    refine J.icmp_ge (μ := mX7_fill) (pc := 8) 24 dX7_fill_8 (by decide) (fun hc => ?_) (fun hc => ?_)
    · exact absurd hc (nI_nle_of hi hn)
    · refine J.aload_n (μ := mX7_fill) (pc := 11) dX7_fill_11 rfl ?_
      refine J.gr (μ := mX7_fill) (pc := 12) (T := TX7) (ci := 10) (fks := _) rfl rfl in_X7 0 (by decide) wf_X7_7 dX7_fill_12 hr.1 rfl ?_
      refine J.iload_n (μ := mX7_fill) (pc := 15) dX7_fill_15 rfl ?_
      refine J.iload_n (μ := mX7_fill) (pc := 16) dX7_fill_16 rfl ?_
      refine J.as (μ := mX7_fill) (pc := 17) dX7_fill_17 hr.2 (vp_in_nI hi (by omega)) ?_
      refine J.iinc (μ := mX7_fill) (pc := 18) (v := 1) dX7_fill_18 rfl (by decide) (Nat.le_of_ble_eq_true rfl) rfl ?_
      refine J.goto (μ := mX7_fill) (pc := 21) 2 dX7_fill_21 (by decide) ?_
      refine J.sub (by simp [lsub, fin3, nI_succ]) (J.of (fun H h => ?_) ih)
      rw [nI_clamp (by omega), up2_C] at h
      refine ⟨_, fun j hj => ?_, h⟩
      unfold upd
      split
      · rfl
      · exact hg j (by omega)
/-- x comes into a row of u numbers, behind those that are no less -/
def insF (f : Nat → Int32) : Nat → Int32 → (Nat → Int32)
  | 0, x => upd f 0 x
  | u + 1, x => if f u < x then insF (upd f (u + 1) (f u)) u x else upd f (u + 1) x
theorem s_X6_insert {γ : Gm} {v : Vs} {r : Nat} {f : Nat → Int32} (hr : IsRow r 8) {u : Nat} (hu : u ≤ 7) (x : Int32) : Ew γ mX6_insert yX6_insert 1 [.ref (gz γ + r), .int (nI u), .int x] (upC v (r + 1) f) none (upC v (r + 1) (insF f u x)) := by
  refine Ev.ofJ (by decide) rfl (fun h => by cases h) (Nat.le_of_ble_eq_true rfl) ?_
  have hrd : ∀ (g : Nat → Int32) j, j < 8 → rg (upC v (r + 1) g (r + 1)) 8 (nI j) = g j := fun g j hj => by rw [rg_nI hj (by omega), upC_s]
  have out : ∀ (g : Nat → Int32) (w : Nat) (y : Int32), w ≤ 7 → upd g w x = insF f u x → J γ mX6_insert (rmD 1 0 0) (fEv γ 0 0 (fun q h => q = none ∧ Rp γ (upC v (r + 1) (insF f u x)) h)) 0 0 42 [some (.ref (gz γ + r)), some (.int (nI u)), some (.int x), some (.int (nI w)), some (.int y)] [] (Rp γ (upC v (r + 1) g)) := by
    intro g w y hw he
    refine J.aload_n (μ := mX6_insert) (pc := 42) dX6_insert_42 rfl ?_
    refine J.iload_n (μ := mX6_insert) (pc := 43) dX6_insert_43 rfl ?_
    refine J.iload_n (μ := mX6_insert) (pc := 44) dX6_insert_44 rfl ?_
    refine J.cV0 (μ := mX6_insert) (pc := 45) (s_X7_set hr _ _) rfl wm_X6_40 mi_X7_set rfl dX6_insert_45 (Rp.isa (T := TX7) rfl hr.1) rfl rfl ⟨(Nat.le_of_ble_eq_true rfl), (Nat.le_of_ble_eq_true rfl)⟩ ⟨(Nat.le_of_ble_eq_true rfl), (Nat.le_of_ble_eq_true rfl)⟩ (Nat.le_of_ble_eq_true rfl) ?_
    rw [rs_C (by omega) (by omega), he]
    exact J.vret (μ := mX6_insert) (pc := 48) dX6_insert_48 rfl (Nat.le_of_ble_eq_true rfl) (Nat.le_of_ble_eq_true rfl) (fun H h => ⟨rfl, h⟩)
  have key : ∀ (w : Nat) (g : Nat → Int32), w ≤ 7 → insF g w x = insF f u x → J γ mX6_insert (rmD 1 0 0) (fEv γ 0 0 (fun q h => q = none ∧ Rp γ (upC v (r + 1) (insF f u x)) h)) 0 0 7 [some (.ref (gz γ + r)), some (.int (nI u)), some (.int x), some (.int (nI w)), some (.int (nI w - 1))] [] (Rp γ (upC v (r + 1) g)) := by
    intro w
    induction w with
    | zero =>
      intro g hw he
      refine J.iload (μ := mX6_insert) (pc := 7) dX6_insert_7 rfl ?_
      refine J.if_lt (μ := mX6_insert) (pc := 9) 42 dX6_insert_9 (by decide) (fun h1 => ?_) (fun h1 => ?_)
      · exact out g 0 _ (by omega) he
      · exact absurd h1 (by decide)
    | succ w ih =>
      intro g hw he
      rw [nI_pred]
      refine J.iload (μ := mX6_insert) (pc := 7) dX6_insert_7 rfl ?_
      refine J.if_lt (μ := mX6_insert) (pc := 9) 42 dX6_insert_9 (by decide) (fun h1 => ?_) (fun h1 => ?_)
      · exact absurd h1 (nI_pos (by omega))
      · refine J.aload_n (μ := mX6_insert) (pc := 12) dX6_insert_12 rfl ?_
        refine J.iload (μ := mX6_insert) (pc := 13) dX6_insert_13 rfl ?_
        refine J.cV (μ := mX6_insert) (pc := 15) (s_X7_get hr _) rfl wm_X6_48 mi_X7_get rfl dX6_insert_15 (Rp.isa (T := TX7) rfl hr.1) rfl rfl ⟨(Nat.le_of_ble_eq_true rfl), (Nat.le_of_ble_eq_true rfl)⟩ ⟨(Nat.le_of_ble_eq_true rfl), (Nat.le_of_ble_eq_true rfl)⟩ (Nat.le_of_ble_eq_true rfl) ?_
        refine J.iload_n (μ := mX6_insert) (pc := 18) dX6_insert_18 rfl ?_
        rw [hrd g w (by omega)]
        refine J.icmp_ge (μ := mX6_insert) (pc := 19) 42 dX6_insert_19 (by decide) (fun h2 => ?_) (fun h2 => ?_)
        · have he2 : insF g (w + 1) x = upd g (w + 1) x := if_neg (Int32.not_lt.mpr h2)
          rw [he2] at he
          exact out g (w + 1) _ hw he
        · have he2 : insF g (w + 1) x = insF (upd g (w + 1) (g w)) w x := if_pos h2
          rw [he2] at he
          refine J.aload_n (μ := mX6_insert) (pc := 22) dX6_insert_22 rfl ?_
          refine J.iload_n (μ := mX6_insert) (pc := 23) dX6_insert_23 rfl ?_
          refine J.aload_n (μ := mX6_insert) (pc := 24) dX6_insert_24 rfl ?_
          refine J.iload (μ := mX6_insert) (pc := 25) dX6_insert_25 rfl ?_
          refine J.cV (μ := mX6_insert) (pc := 27) (s_X7_get hr _) rfl wm_X6_48 mi_X7_get rfl dX6_insert_27 (Rp.isa (T := TX7) rfl hr.1) rfl rfl ⟨(Nat.le_of_ble_eq_true rfl), (Nat.le_of_ble_eq_true rfl)⟩ ⟨(Nat.le_of_ble_eq_true rfl), (Nat.le_of_ble_eq_true rfl)⟩ (Nat.le_of_ble_eq_true rfl) ?_
          rw [hrd g w (by omega)]
          refine J.cV0 (μ := mX6_insert) (pc := 30) (s_X7_set hr _ _) rfl wm_X6_40 mi_X7_set rfl dX6_insert_30 (Rp.isa (T := TX7) rfl hr.1) rfl rfl ⟨(Nat.le_of_ble_eq_true rfl), (Nat.le_of_ble_eq_true rfl)⟩ ⟨(Nat.le_of_ble_eq_true rfl), (Nat.le_of_ble_eq_true rfl)⟩ (Nat.le_of_ble_eq_true rfl) ?_
          rw [rs_C (by omega) (by omega)]
          refine J.iload (μ := mX6_insert) (pc := 33) dX6_insert_33 rfl ?_
          refine J.istore_n (μ := mX6_insert) (pc := 35) dX6_insert_35 (Nat.le_of_ble_eq_true rfl) rfl ?_
          refine J.iinc (μ := mX6_insert) (pc := 36) (v := -1) dX6_insert_36 rfl (by decide) (Nat.le_of_ble_eq_true rfl) rfl ?_
          refine J.goto (μ := mX6_insert) (pc := 39) 7 dX6_insert_39 (by decide) ?_
          refine J.sub ?_ (ih _ (by omega) he)
          exact ⟨rfl, rfl, rfl, rfl, by rw [Int32.sub_eq_add_neg], trivial⟩
  refine J.iload_n (μ := mX6_insert) (pc := 0) dX6_insert_0 rfl ?_
  refine J.istore_n (μ := mX6_insert) (pc := 1) dX6_insert_1 (Nat.le_of_ble_eq_true rfl) rfl ?_
  refine J.iload_n (μ := mX6_insert) (pc := 2) dX6_insert_2 rfl ?_
  refine J.iconst (μ := mX6_insert) (pc := 3) (v := 1) dX6_insert_3 (by decide) ?_
  refine J.isub (μ := mX6_insert) (pc := 4) dX6_insert_4 ?_
  refine J.istore (μ := mX6_insert) (pc := 5) dX6_insert_5 (Nat.le_of_ble_eq_true rfl) rfl ?_
  refine J.sub ?_ (key u f hu rfl)
  exact ⟨rfl, rfl, rfl, rfl, rfl, trivial⟩
theorem s_X6_insertV {γ : Gm} {v : Vs} {r : Nat} (hr : IsRow r 8) {u : Nat} (hu : u ≤ 7) (x : Int32) : Ew γ mX6_insert yX6_insert 1 [.ref (gz γ + r), .int (nI u), .int x] v none (upC v (r + 1) (insF (v (r + 1)) u x)) := by
  have := s_X6_insert (γ := γ) (v := v) (f := v (r + 1)) hr hu x
  rwa [upC_self] at this
/-- the packing's numbers: capacities, volumes, rooms, fillings, how many shelves and lots -/
def pk (v : Vs) (fc fv fr ff : Nat → Int32) (S T : Nat) : Vs := fun k => if k = 295 then fc else if k = 297 then fv else if k = 299 then fr else if k = 301 then ff else if k = 293 then (fun j => if j = 4 then nI S else if j = 5 then nI T else v 293 j) else v k
section PK
variable {v : Vs} {fc fv fr ff : Nat → Int32} {S T : Nat}
theorem pk_lo {k : Nat} (h : k < 293) : pk v fc fv fr ff S T k = v k := by
  unfold pk
  rw [if_neg (by omega), if_neg (by omega), if_neg (by omega), if_neg (by omega), if_neg (by omega)]
theorem pk_hi {k : Nat} (h : 301 < k) : pk v fc fv fr ff S T k = v k := by
  unfold pk
  rw [if_neg (by omega), if_neg (by omega), if_neg (by omega), if_neg (by omega), if_neg (by omega)]
theorem pk_S : pk v fc fv fr ff S T 293 4 = nI S := rfl
theorem pk_T : pk v fc fv fr ff S T 293 5 = nI T := rfl
theorem pk_c : pk v fc fv fr ff S T 295 = fc := rfl
theorem pk_v : pk v fc fv fr ff S T 297 = fv := rfl
theorem pk_r : pk v fc fv fr ff S T 299 = fr := rfl
theorem pk_f : pk v fc fv fr ff S T 301 = ff := rfl
theorem pk_uc {g : Nat → Int32} : upC (pk v fc fv fr ff S T) 295 g = pk v g fv fr ff S T := by
  funext k; unfold upC pk; split <;> rfl
theorem pk_uv {g : Nat → Int32} : upC (pk v fc fv fr ff S T) 297 g = pk v fc g fr ff S T := by
  funext k; unfold upC pk
  by_cases h : k = 297
  · subst h; rfl
  · rw [if_neg h]; simp only [h, if_false]
theorem pk_ur {g : Nat → Int32} : upC (pk v fc fv fr ff S T) 299 g = pk v fc fv g ff S T := by
  funext k; unfold upC pk
  by_cases h : k = 299
  · subst h; rfl
  · rw [if_neg h]; simp only [h, if_false]
theorem pk_uf {g : Nat → Int32} : upC (pk v fc fv fr ff S T) 301 g = pk v fc fv fr g S T := by
  funext k; unfold upC pk
  by_cases h : k = 301
  · subst h; rfl
  · rw [if_neg h]; simp only [h, if_false]
theorem pk_uS {S' : Nat} : up2 (pk v fc fv fr ff S T) 293 4 (nI S') = pk v fc fv fr ff S' T := by
  funext k; unfold up2
  by_cases h : k = 293
  · subst h
    rw [if_pos rfl]
    funext j
    unfold upd
    show (if j = 4 then _ else if j = 4 then nI S else if j = 5 then nI T else v 293 j) = (if j = 4 then nI S' else if j = 5 then nI T else v 293 j)
    split <;> rfl
  · rw [if_neg h]; unfold pk; simp only [h, if_false]
theorem pk_uT {T' : Nat} : up2 (pk v fc fv fr ff S T) 293 5 (nI T') = pk v fc fv fr ff S T' := by
  funext k; unfold up2
  by_cases h : k = 293
  · subst h
    rw [if_pos rfl]
    funext j
    unfold upd
    show (if j = 5 then _ else if j = 4 then nI S else if j = 5 then nI T else v 293 j) = (if j = 4 then nI S else if j = 5 then nI T' else v 293 j)
    by_cases h4 : j = 4
    · subst h4; rfl
    · rw [if_neg h4, if_neg h4]; split <;> rfl
  · rw [if_neg h]; unfold pk; simp only [h, if_false]
end PK
/-- the zone's shelves' capacities, and its lots' volumes, in descending order -/
def gC (v : Vs) (o : Nat) (z : Int32) : Nat → (Nat → Int32) × Nat
  | 0 => (fun _ => 0, 0)
  | i + 1 => if gZn v o (nI i) = z then (insF (gC v o z i).1 (gC v o z i).2 (gCp v o (nI i)), (gC v o z i).2 + 1) else gC v o z i
def gL (v : Vs) (o : Nat) (z : Int32) : Nat → (Nat → Int32) × Nat
  | 0 => (fun _ => 0, 0)
  | i + 1 => if (gL v o z i).2 < 8 ∧ 0 ≤ gPl v o (nI i) ∧ gLz v o (nI i) = z then (insF (gL v o z i).1 (gL v o z i).2 (gVo v o (nI i)), (gL v o z i).2 + 1) else gL v o z i
theorem gC_le {v : Vs} {o : Nat} {z : Int32} : ∀ i, (gC v o z i).2 ≤ i
  | 0 => Nat.le_refl 0
  | i + 1 => by
    have := gC_le (v := v) (o := o) (z := z) i
    simp only [gC]
    split <;> (try simp only) <;> omega
theorem gL_le {v : Vs} {o : Nat} {z : Int32} : ∀ i, (gL v o z i).2 ≤ 8
  | 0 => by simp [gL]
  | i + 1 => by
    have := gL_le (v := v) (o := o) (z := z) i
    simp only [gL]
    split <;> (try simp only) <;> omega
theorem gL_full {v : Vs} {o : Nat} {z : Int32} {i : Nat} (h : (gL v o z i).2 = 8) : ∀ j, gL v o z (i + j) = gL v o z i
  | 0 => rfl
  | j + 1 => by
    have ih := gL_full h j
    have e : gL v o z (i + (j + 1)) = gL v o z (i + j) := if_neg (fun q => by
      have q1 : (gL v o z (i + j)).2 < 8 := q.1
      rw [ih, h] at q1
      omega)
    rw [e, ih]
theorem gCp_at {v w : Vs} {o : Nat} (h : ∀ k, k < 289 → w k = v k) (ho : o + 26 ≤ 289) : (∀ x, gZn w o x = gZn v o x) ∧ (∀ x, gCp w o x = gCp v o x) ∧ (∀ x, gPl w o x = gPl v o x) ∧ (∀ x, gLz w o x = gLz v o x) ∧ (∀ x, gVo w o x = gVo v o x) ∧ w (o + 8) 7 = v (o + 8) 7 ∧ w (o + 1) 3 = v (o + 1) 3 := by
  refine ⟨fun x => ?_, fun x => ?_, fun x => ?_, fun x => ?_, fun x => ?_, ?_, ?_⟩
  · unfold gZn; rw [h _ (by omega)]
  · unfold gCp; rw [h _ (by omega)]
  · unfold gPl; rw [h _ (by omega)]
  · unfold gLz; rw [h _ (by omega)]
  · unfold gVo; rw [h _ (by omega)]
  · rw [h _ (by omega)]
  · rw [h _ (by omega)]
theorem s_X6_gather {γ : Gm} {v : Vs} {o : Nat} (ho : IsStk o) {N M : Nat} (hN : v (o + 8) 7 = nI N) (h20 : N ≤ 20) (hM : v (o + 1) 3 = nI M) (h8 : M ≤ 8) (z : Int32) : Ew γ mX6_gather yX6_gather 2 [.ref (gz γ + 293), .ref (gz γ + o), .int z] v none (pk v (gC v o z M).1 (gL v o z N).1 (v 299) (v 301) (gC v o z M).2 (gL v o z N).2) := by
  have hi9 := stk_hi ho
  have hat := fun (fc fv : Nat → Int32) (S T : Nat) => gCp_at (v := v) (w := pk v fc fv (v 299) (v 301) S T) (fun k hk => pk_lo (by omega)) hi9
  refine Ev.ofJ (by decide) rfl (fun h => by cases h) (Nat.le_of_ble_eq_true rfl) ?_
  refine J.aload_n (μ := mX6_gather) (pc := 0) dX6_gather_0 rfl ?_
  refine J.gr (μ := mX6_gather) (pc := 1) (T := TX6) (ci := 9) (fks := _) rfl rfl in_X6 0 (by decide) wf_X6_16 dX6_gather_1 sh293 rfl ?_
  refine J.iconst (μ := mX6_gather) (pc := 4) (v := 0) dX6_gather_4 (by decide) ?_
  refine J.cV0 (μ := mX6_gather) (pc := 5) (s_X7_fill row294 (by omega) _) rfl wm_X6_72 mi_X7_fill rfl dX6_gather_5 (Rp.isa (T := TX7) rfl row294.1) rfl rfl ⟨(Nat.le_of_ble_eq_true rfl), (Nat.le_of_ble_eq_true rfl)⟩ ⟨(Nat.le_of_ble_eq_true rfl), (Nat.le_of_ble_eq_true rfl)⟩ (Nat.le_of_ble_eq_true rfl) ?_
  refine J.aload_n (μ := mX6_gather) (pc := 8) dX6_gather_8 rfl ?_
  refine J.gr (μ := mX6_gather) (pc := 9) (T := TX6) (ci := 9) (fks := _) rfl rfl in_X6 1 (by decide) wf_X6_20 dX6_gather_9 sh293 rfl ?_
  refine J.iconst (μ := mX6_gather) (pc := 12) (v := 0) dX6_gather_12 (by decide) ?_
  refine J.cV0 (μ := mX6_gather) (pc := 13) (s_X7_fill row296 (by omega) _) rfl wm_X6_72 mi_X7_fill rfl dX6_gather_13 (Rp.isa (T := TX7) rfl row296.1) rfl rfl ⟨(Nat.le_of_ble_eq_true rfl), (Nat.le_of_ble_eq_true rfl)⟩ ⟨(Nat.le_of_ble_eq_true rfl), (Nat.le_of_ble_eq_true rfl)⟩ (Nat.le_of_ble_eq_true rfl) ?_
  refine J.aload_n (μ := mX6_gather) (pc := 16) dX6_gather_16 rfl ?_
  refine J.iconst (μ := mX6_gather) (pc := 17) (v := 0) dX6_gather_17 (by decide) ?_
  refine J.pi (μ := mX6_gather) (pc := 18) (T := TX6) (ci := 9) (ty0 := tyX6) (fks := _) rfl rfl in_X6 tyX6_ok nmX6 4 (by decide) wf_X6_29 dX6_gather_18 rfl rfl rfl sh293 rfl ?_
  refine J.aload_n (μ := mX6_gather) (pc := 21) dX6_gather_21 rfl ?_
  refine J.iconst (μ := mX6_gather) (pc := 22) (v := 0) dX6_gather_22 (by decide) ?_
  refine J.pi (μ := mX6_gather) (pc := 23) (T := TX6) (ci := 9) (ty0 := tyX6) (fks := _) rfl rfl in_X6 tyX6_ok nmX6 5 (by decide) wf_X6_33 dX6_gather_23 rfl rfl rfl sh293 rfl ?_
  rw [show up2 (up2 (upC (upC v (294 + 1) fun _ => 0) (296 + 1) fun _ => 0) 293 4 0) 293 5 0 = pk v (fun _ => 0) (fun _ => 0) (v 299) (v 301) 0 0 by
    funext k
    unfold up2 upC pk upd
    by_cases h1 : k = 293
    · subst h1
      funext j
      by_cases h4 : j = 4
      · subst h4; rfl
      · by_cases h5 : j = 5
        · subst h5; rfl
        · simp [h4, h5]
    · by_cases h2 : k = 295
      · subst h2; rfl
      · by_cases h3 : k = 297
        · subst h3; rfl
        · by_cases h4 : k = 299
          · subst h4; rfl
          · by_cases h5 : k = 301
            · subst h5; rfl
            · simp [h1, h2, h3, h4, h5]]
  refine J.iconst (μ := mX6_gather) (pc := 26) (v := 0) dX6_gather_26 (by decide) ?_
  refine J.istore_n (μ := mX6_gather) (pc := 27) dX6_gather_27 (Nat.le_of_ble_eq_true rfl) rfl ?_
  refine J.for (Lf := fun i => [some (.ref (gz γ + 293)), some (.ref (gz γ + o)), some (.int z), some (.int (nI i))]) (Pf := fun i => Rp γ (pk v (gC v o z i).1 (fun _ => 0) (v 299) (v 301) (gC v o z i).2 0)) M ?_ (fun i hi ih => ?_)
  · have hs := gC_le (v := v) (o := o) (z := z) M
    have out : ∀ i, i ≤ N → (i = N ∨ (gL v o z i).2 = 8) → J γ mX6_gather (rmD 2 0 0) (fEv γ 0 0 (fun q h => q = none ∧ Rp γ (pk v (gC v o z M).1 (gL v o z N).1 (v 299) (v 301) (gC v o z M).2 (gL v o z N).2) h)) 0 0 187 [some (.ref (gz γ + 293)), some (.ref (gz γ + o)), some (.int z), some (.int (nI i))] [] (Rp γ (pk v (gC v o z M).1 (gL v o z i).1 (v 299) (v 301) (gC v o z M).2 (gL v o z i).2)) := by
      intro i hi hh
      have e : gL v o z i = gL v o z N := by
        rcases hh with q | q
        · rw [q]
        · have := gL_full q (N - i)
          rw [show i + (N - i) = N by omega] at this
          exact this.symm
      rw [e]
      exact J.vret (μ := mX6_gather) (pc := 187) dX6_gather_187 rfl (Nat.le_of_ble_eq_true rfl) (Nat.le_of_ble_eq_true rfl) (fun H h => ⟨rfl, h⟩)
    have lots : J γ mX6_gather (rmD 2 0 0) (fEv γ 0 0 (fun q h => q = none ∧ Rp γ (pk v (gC v o z M).1 (gL v o z N).1 (v 299) (v 301) (gC v o z M).2 (gL v o z N).2) h)) 0 0 103 [some (.ref (gz γ + 293)), some (.ref (gz γ + o)), some (.int z), some (.int (nI 0))] [] (Rp γ (pk v (gC v o z M).1 (fun _ => 0) (v 299) (v 301) (gC v o z M).2 0)) := by
      refine J.for (Lf := fun i => [some (.ref (gz γ + 293)), some (.ref (gz γ + o)), some (.int z), some (.int (nI i))]) (Pf := fun i => Rp γ (pk v (gC v o z M).1 (gL v o z i).1 (v 299) (v 301) (gC v o z M).2 (gL v o z i).2)) N ?_ (fun i hi ih => ?_)
      · obtain ⟨a1, a2, a3, a4, a5, a6, a7⟩ := hat (gC v o z M).1 (gL v o z N).1 (gC v o z M).2 (gL v o z N).2
        refine J.iload_n (μ := mX6_gather) (pc := 103) dX6_gather_103 rfl ?_
        refine J.aload_n (μ := mX6_gather) (pc := 104) dX6_gather_104 rfl ?_
        refine J.gr (μ := mX6_gather) (pc := 105) (T := TX9) (ci := 12) (fks := _) rfl rfl in_X9 1 (by decide) wf_X6_94 dX6_gather_105 (ho 0 (by decide)) rfl ?_
        refine J.gi (μ := mX6_gather) (pc := 108) (T := TX5) (ci := 8) (fks := _) rfl rfl in_X5 7 (by decide) wf_X6_98 dX6_gather_108 (ho 8 (by decide)) rfl ?_
        rw [a6, hN]
        refine J.icmp_ge (μ := mX6_gather) (pc := 111) 187 dX6_gather_111 (by decide) (fun hc => ?_) (fun hc => ?_)
        · exact out N (Nat.le_refl N) (.inl rfl)
        · exact absurd hc (nI_nlt_of (Nat.le_refl N) (by omega))
      · obtain ⟨a1, a2, a3, a4, a5, a6, a7⟩ := hat (gC v o z M).1 (gL v o z i).1 (gC v o z M).2 (gL v o z i).2
        have hl := gL_le (v := v) (o := o) (z := z) i
        refine J.iload_n (μ := mX6_gather) (pc := 103) dX6_gather_103 rfl ?_
        refine J.aload_n (μ := mX6_gather) (pc := 104) dX6_gather_104 rfl ?_
        refine J.gr (μ := mX6_gather) (pc := 105) (T := TX9) (ci := 12) (fks := _) rfl rfl in_X9 1 (by decide) wf_X6_94 dX6_gather_105 (ho 0 (by decide)) rfl ?_
        refine J.gi (μ := mX6_gather) (pc := 108) (T := TX5) (ci := 8) (fks := _) rfl rfl in_X5 7 (by decide) wf_X6_98 dX6_gather_108 (ho 8 (by decide)) rfl ?_
        rw [a6, hN]
        refine J.icmp_ge (μ := mX6_gather) (pc := 111) 187 dX6_gather_111 (by decide) (fun hc => ?_) (fun hc => ?_)
        · exact absurd hc (nI_nle_of hi (by omega))
        · refine J.aload_n (μ := mX6_gather) (pc := 114) dX6_gather_114 rfl ?_
          refine J.gi (μ := mX6_gather) (pc := 115) (T := TX6) (ci := 9) (fks := _) rfl rfl in_X6 5 (by decide) wf_X6_33 dX6_gather_115 sh293 rfl ?_
          refine J.bipush (μ := mX6_gather) (pc := 118) (v := 8) dX6_gather_118 (by decide) ?_
          rw [pk_T]
          refine J.icmp_ge (μ := mX6_gather) (pc := 120) 187 dX6_gather_120 (by decide) (fun hc2 => ?_) (fun hc2 => ?_)
          · exact out i (by omega) (.inr (by have := (nI_leI (a := 8) (by omega) (by omega)).mp hc2; omega))
          · have hc3 : (gL v o z i).2 < 8 := (nI_ltI (b := 8) (by omega) (by omega)).mp hc2
            refine J.aload_n (μ := mX6_gather) (pc := 123) dX6_gather_123 rfl ?_
            refine J.gr (μ := mX6_gather) (pc := 124) (T := TX9) (ci := 12) (fks := _) rfl rfl in_X9 1 (by decide) wf_X6_94 dX6_gather_124 (ho 0 (by decide)) rfl ?_
            refine J.iload_n (μ := mX6_gather) (pc := 127) dX6_gather_127 rfl ?_
            refine J.cV (μ := mX6_gather) (pc := 128) (s_X5_isShelved ho  _) rfl wm_X6_101 mi_X5_isShelved rfl dX6_gather_128 (Rp.isa (T := TX5) rfl (ho 8 (by decide))) rfl rfl ⟨(Nat.le_of_ble_eq_true rfl), (Nat.le_of_ble_eq_true rfl)⟩ ⟨(Nat.le_of_ble_eq_true rfl), (Nat.le_of_ble_eq_true rfl)⟩ (Nat.le_of_ble_eq_true rfl) ?_
            refine J.ifB_eq (μ := mX6_gather) (pc := 131) 181 dX6_gather_131 (by decide) (fun h1 => ?_) (fun h1 => ?_)
            · rw [a3] at h1
              rw [show gL v o z (i + 1) = gL v o z i from if_neg (fun q => h1 q.2.1)] at ih
              refine J.iinc (μ := mX6_gather) (pc := 181) (v := 1) dX6_gather_181 rfl (by decide) (Nat.le_of_ble_eq_true rfl) rfl ?_
              refine J.goto (μ := mX6_gather) (pc := 184) 103 dX6_gather_184 (by decide) ?_
              exact J.sub (by simp [lsub, fin3, nI_succ]) ih
            · rw [a3] at h1
              refine J.aload_n (μ := mX6_gather) (pc := 134) dX6_gather_134 rfl ?_
              refine J.gr (μ := mX6_gather) (pc := 135) (T := TX9) (ci := 12) (fks := _) rfl rfl in_X9 1 (by decide) wf_X6_94 dX6_gather_135 (ho 0 (by decide)) rfl ?_
              refine J.gr (μ := mX6_gather) (pc := 138) (T := TX5) (ci := 8) (fks := _) rfl rfl in_X5 1 (by decide) wf_X6_105 dX6_gather_138 (ho 8 (by decide)) rfl ?_
              refine J.iload_n (μ := mX6_gather) (pc := 141) dX6_gather_141 rfl ?_
              refine J.cV (μ := mX6_gather) (pc := 142) (g_lz ho _) rfl wm_X6_48 mi_X7_get rfl dX6_gather_142 (Rp.isa (T := TX7) rfl (ho 11 (by decide))) rfl rfl ⟨(Nat.le_of_ble_eq_true rfl), (Nat.le_of_ble_eq_true rfl)⟩ ⟨(Nat.le_of_ble_eq_true rfl), (Nat.le_of_ble_eq_true rfl)⟩ (Nat.le_of_ble_eq_true rfl) ?_
              refine J.iload_n (μ := mX6_gather) (pc := 145) dX6_gather_145 rfl ?_
              rw [a4]
              refine J.icmp_ne (μ := mX6_gather) (pc := 146) 181 dX6_gather_146 (by decide) (fun h2 => ?_) (fun h2 => ?_)
              · rw [show gL v o z (i + 1) = gL v o z i from if_neg (fun q => h2 q.2.2)] at ih
                refine J.iinc (μ := mX6_gather) (pc := 181) (v := 1) dX6_gather_181 rfl (by decide) (Nat.le_of_ble_eq_true rfl) rfl ?_
                refine J.goto (μ := mX6_gather) (pc := 184) 103 dX6_gather_184 (by decide) ?_
                exact J.sub (by simp [lsub, fin3, nI_succ]) ih
              · rw [show gL v o z (i + 1) = (insF (gL v o z i).1 (gL v o z i).2 (gVo v o (nI i)), (gL v o z i).2 + 1) from if_pos ⟨hc3, h1, h2⟩] at ih
                refine J.aload_n (μ := mX6_gather) (pc := 149) dX6_gather_149 rfl ?_
                refine J.gr (μ := mX6_gather) (pc := 150) (T := TX6) (ci := 9) (fks := _) rfl rfl in_X6 1 (by decide) wf_X6_20 dX6_gather_150 sh293 rfl ?_
                refine J.aload_n (μ := mX6_gather) (pc := 153) dX6_gather_153 rfl ?_
                refine J.gi (μ := mX6_gather) (pc := 154) (T := TX6) (ci := 9) (fks := _) rfl rfl in_X6 5 (by decide) wf_X6_33 dX6_gather_154 sh293 rfl ?_
                refine J.aload_n (μ := mX6_gather) (pc := 157) dX6_gather_157 rfl ?_
                refine J.gr (μ := mX6_gather) (pc := 158) (T := TX9) (ci := 12) (fks := _) rfl rfl in_X9 1 (by decide) wf_X6_94 dX6_gather_158 (ho 0 (by decide)) rfl ?_
                refine J.gr (μ := mX6_gather) (pc := 161) (T := TX5) (ci := 8) (fks := _) rfl rfl in_X5 2 (by decide) wf_X6_106 dX6_gather_161 (ho 8 (by decide)) rfl ?_
                refine J.iload_n (μ := mX6_gather) (pc := 164) dX6_gather_164 rfl ?_
                refine J.cV (μ := mX6_gather) (pc := 165) (g_vo ho _) rfl wm_X6_48 mi_X7_get rfl dX6_gather_165 (Rp.isa (T := TX7) rfl (ho 13 (by decide))) rfl rfl ⟨(Nat.le_of_ble_eq_true rfl), (Nat.le_of_ble_eq_true rfl)⟩ ⟨(Nat.le_of_ble_eq_true rfl), (Nat.le_of_ble_eq_true rfl)⟩ (Nat.le_of_ble_eq_true rfl) ?_
                rw [a5, pk_T]
                refine J.cS0 (μ := mX6_gather) (pc := 168) (s_X6_insertV row296 (by omega) _) rfl wm_X6_90 mi_X6_insert rfl dX6_gather_168 rfl rfl ⟨(Nat.le_of_ble_eq_true rfl), (Nat.le_of_ble_eq_true rfl)⟩ ⟨(Nat.le_of_ble_eq_true rfl), (Nat.le_of_ble_eq_true rfl)⟩ (Nat.le_of_ble_eq_true rfl) ?_
                rw [show upC (pk v (gC v o z M).1 (gL v o z i).1 (v 299) (v 301) (gC v o z M).2 (gL v o z i).2) (296 + 1) (insF (pk v (gC v o z M).1 (gL v o z i).1 (v 299) (v 301) (gC v o z M).2 (gL v o z i).2 (296 + 1)) (gL v o z i).2 (gVo v o (nI i))) = pk v (gC v o z M).1 (insF (gL v o z i).1 (gL v o z i).2 (gVo v o (nI i))) (v 299) (v 301) (gC v o z M).2 (gL v o z i).2 from pk_uv]
                refine J.aload_n (μ := mX6_gather) (pc := 171) dX6_gather_171 rfl ?_
                refine J.dup (μ := mX6_gather) (pc := 172) dX6_gather_172 rfl ?_
                refine J.gi (μ := mX6_gather) (pc := 173) (T := TX6) (ci := 9) (fks := _) rfl rfl in_X6 5 (by decide) wf_X6_33 dX6_gather_173 sh293 rfl ?_
                rw [pk_T]
                refine J.iconst (μ := mX6_gather) (pc := 176) (v := 1) dX6_gather_176 (by decide) ?_
                refine J.iadd (μ := mX6_gather) (pc := 177) dX6_gather_177 ?_
                rw [nI_1]
                refine J.pi (μ := mX6_gather) (pc := 178) (T := TX6) (ci := 9) (ty0 := tyX6) (fks := _) rfl rfl in_X6 tyX6_ok nmX6 5 (by decide) wf_X6_33 dX6_gather_178 rfl rfl rfl sh293 rfl ?_
                rw [pk_uT]
                refine J.iinc (μ := mX6_gather) (pc := 181) (v := 1) dX6_gather_181 rfl (by decide) (Nat.le_of_ble_eq_true rfl) rfl ?_
                refine J.goto (μ := mX6_gather) (pc := 184) 103 dX6_gather_184 (by decide) ?_
                exact J.sub (by simp [lsub, fin3, nI_succ]) ih
    obtain ⟨a1, a2, a3, a4, a5, a6, a7⟩ := hat (gC v o z M).1 (fun _ => 0) (gC v o z M).2 0
    refine J.iload_n (μ := mX6_gather) (pc := 28) dX6_gather_28 rfl ?_
    refine J.aload_n (μ := mX6_gather) (pc := 29) dX6_gather_29 rfl ?_
    refine J.gr (μ := mX6_gather) (pc := 30) (T := TX9) (ci := 12) (fks := _) rfl rfl in_X9 0 (by decide) wf_X6_75 dX6_gather_30 (ho 0 (by decide)) rfl ?_
    refine J.gi (μ := mX6_gather) (pc := 33) (T := TX8) (ci := 11) (fks := _) rfl rfl in_X8 3 (by decide) wf_X6_81 dX6_gather_33 (ho 1 (by decide)) rfl ?_
    rw [a7, hM]
    refine J.icmp_ge (μ := mX6_gather) (pc := 36) 101 dX6_gather_36 (by decide) (fun hc => ?_) (fun hc => ?_)
    · refine J.iconst (μ := mX6_gather) (pc := 101) (v := 0) dX6_gather_101 (by decide) ?_
      refine J.istore_n (μ := mX6_gather) (pc := 102) dX6_gather_102 (Nat.le_of_ble_eq_true rfl) rfl ?_
      refine J.sub ?_ lots
      exact ⟨rfl, rfl, rfl, rfl, trivial⟩
    · exact absurd hc (nI_nlt_of (Nat.le_refl M) (by omega))
  · obtain ⟨a1, a2, a3, a4, a5, a6, a7⟩ := hat (gC v o z i).1 (fun _ => 0) (gC v o z i).2 0
    have hs := gC_le (v := v) (o := o) (z := z) i
    refine J.iload_n (μ := mX6_gather) (pc := 28) dX6_gather_28 rfl ?_
    refine J.aload_n (μ := mX6_gather) (pc := 29) dX6_gather_29 rfl ?_
    refine J.gr (μ := mX6_gather) (pc := 30) (T := TX9) (ci := 12) (fks := _) rfl rfl in_X9 0 (by decide) wf_X6_75 dX6_gather_30 (ho 0 (by decide)) rfl ?_
    refine J.gi (μ := mX6_gather) (pc := 33) (T := TX8) (ci := 11) (fks := _) rfl rfl in_X8 3 (by decide) wf_X6_81 dX6_gather_33 (ho 1 (by decide)) rfl ?_
    rw [a7, hM]
    refine J.icmp_ge (μ := mX6_gather) (pc := 36) 101 dX6_gather_36 (by decide) (fun hc => ?_) (fun hc => ?_)
    · exact absurd hc (nI_nle_of hi (by omega))
    · refine J.aload_n (μ := mX6_gather) (pc := 39) dX6_gather_39 rfl ?_
      refine J.gi (μ := mX6_gather) (pc := 40) (T := TX6) (ci := 9) (fks := _) rfl rfl in_X6 4 (by decide) wf_X6_29 dX6_gather_40 sh293 rfl ?_
      refine J.bipush (μ := mX6_gather) (pc := 43) (v := 8) dX6_gather_43 (by decide) ?_
      rw [pk_S]
      refine J.icmp_ge (μ := mX6_gather) (pc := 45) 101 dX6_gather_45 (by decide) (fun hc2 => ?_) (fun hc2 => ?_)
      · exact absurd hc2 (nI_nle_of (b := 8) (by omega) (by omega))
      · refine J.aload_n (μ := mX6_gather) (pc := 48) dX6_gather_48 rfl ?_
        refine J.gr (μ := mX6_gather) (pc := 49) (T := TX9) (ci := 12) (fks := _) rfl rfl in_X9 0 (by decide) wf_X6_75 dX6_gather_49 (ho 0 (by decide)) rfl ?_
        refine J.gr (μ := mX6_gather) (pc := 52) (T := TX8) (ci := 11) (fks := _) rfl rfl in_X8 0 (by decide) wf_X6_86 dX6_gather_52 (ho 1 (by decide)) rfl ?_
        refine J.iload_n (μ := mX6_gather) (pc := 55) dX6_gather_55 rfl ?_
        refine J.cV (μ := mX6_gather) (pc := 56) (g_zn ho _) rfl wm_X6_48 mi_X7_get rfl dX6_gather_56 (Rp.isa (T := TX7) rfl (ho 2 (by decide))) rfl rfl ⟨(Nat.le_of_ble_eq_true rfl), (Nat.le_of_ble_eq_true rfl)⟩ ⟨(Nat.le_of_ble_eq_true rfl), (Nat.le_of_ble_eq_true rfl)⟩ (Nat.le_of_ble_eq_true rfl) ?_
        refine J.iload_n (μ := mX6_gather) (pc := 59) dX6_gather_59 rfl ?_
        rw [a1]
        refine J.icmp_ne (μ := mX6_gather) (pc := 60) 95 dX6_gather_60 (by decide) (fun h1 => ?_) (fun h1 => ?_)
        · rw [show gC v o z (i + 1) = gC v o z i from if_neg h1] at ih
          refine J.iinc (μ := mX6_gather) (pc := 95) (v := 1) dX6_gather_95 rfl (by decide) (Nat.le_of_ble_eq_true rfl) rfl ?_
          refine J.goto (μ := mX6_gather) (pc := 98) 28 dX6_gather_98 (by decide) ?_
          exact J.sub (by simp [lsub, fin3, nI_succ]) ih
        · rw [show gC v o z (i + 1) = (insF (gC v o z i).1 (gC v o z i).2 (gCp v o (nI i)), (gC v o z i).2 + 1) from if_pos h1] at ih
          refine J.aload_n (μ := mX6_gather) (pc := 63) dX6_gather_63 rfl ?_
          refine J.gr (μ := mX6_gather) (pc := 64) (T := TX6) (ci := 9) (fks := _) rfl rfl in_X6 0 (by decide) wf_X6_16 dX6_gather_64 sh293 rfl ?_
          refine J.aload_n (μ := mX6_gather) (pc := 67) dX6_gather_67 rfl ?_
          refine J.gi (μ := mX6_gather) (pc := 68) (T := TX6) (ci := 9) (fks := _) rfl rfl in_X6 4 (by decide) wf_X6_29 dX6_gather_68 sh293 rfl ?_
          refine J.aload_n (μ := mX6_gather) (pc := 71) dX6_gather_71 rfl ?_
          refine J.gr (μ := mX6_gather) (pc := 72) (T := TX9) (ci := 12) (fks := _) rfl rfl in_X9 0 (by decide) wf_X6_75 dX6_gather_72 (ho 0 (by decide)) rfl ?_
          refine J.gr (μ := mX6_gather) (pc := 75) (T := TX8) (ci := 11) (fks := _) rfl rfl in_X8 1 (by decide) wf_X6_89 dX6_gather_75 (ho 1 (by decide)) rfl ?_
          refine J.iload_n (μ := mX6_gather) (pc := 78) dX6_gather_78 rfl ?_
          refine J.cV (μ := mX6_gather) (pc := 79) (g_cp ho _) rfl wm_X6_48 mi_X7_get rfl dX6_gather_79 (Rp.isa (T := TX7) rfl (ho 4 (by decide))) rfl rfl ⟨(Nat.le_of_ble_eq_true rfl), (Nat.le_of_ble_eq_true rfl)⟩ ⟨(Nat.le_of_ble_eq_true rfl), (Nat.le_of_ble_eq_true rfl)⟩ (Nat.le_of_ble_eq_true rfl) ?_
          rw [a2, pk_S]
          refine J.cS0 (μ := mX6_gather) (pc := 82) (s_X6_insertV row294 (by omega) _) rfl wm_X6_90 mi_X6_insert rfl dX6_gather_82 rfl rfl ⟨(Nat.le_of_ble_eq_true rfl), (Nat.le_of_ble_eq_true rfl)⟩ ⟨(Nat.le_of_ble_eq_true rfl), (Nat.le_of_ble_eq_true rfl)⟩ (Nat.le_of_ble_eq_true rfl) ?_
          rw [show upC (pk v (gC v o z i).1 (fun _ => 0) (v 299) (v 301) (gC v o z i).2 0) (294 + 1) (insF (pk v (gC v o z i).1 (fun _ => 0) (v 299) (v 301) (gC v o z i).2 0 (294 + 1)) (gC v o z i).2 (gCp v o (nI i))) = pk v (insF (gC v o z i).1 (gC v o z i).2 (gCp v o (nI i))) (fun _ => 0) (v 299) (v 301) (gC v o z i).2 0 from pk_uc]
          refine J.aload_n (μ := mX6_gather) (pc := 85) dX6_gather_85 rfl ?_
          refine J.dup (μ := mX6_gather) (pc := 86) dX6_gather_86 rfl ?_
          refine J.gi (μ := mX6_gather) (pc := 87) (T := TX6) (ci := 9) (fks := _) rfl rfl in_X6 4 (by decide) wf_X6_29 dX6_gather_87 sh293 rfl ?_
          rw [pk_S]
          refine J.iconst (μ := mX6_gather) (pc := 90) (v := 1) dX6_gather_90 (by decide) ?_
          refine J.iadd (μ := mX6_gather) (pc := 91) dX6_gather_91 ?_
          rw [nI_1]
          refine J.pi (μ := mX6_gather) (pc := 92) (T := TX6) (ci := 9) (ty0 := tyX6) (fks := _) rfl rfl in_X6 tyX6_ok nmX6 4 (by decide) wf_X6_29 dX6_gather_92 rfl rfl rfl sh293 rfl ?_
          rw [pk_uS]
          refine J.iinc (μ := mX6_gather) (pc := 95) (v := 1) dX6_gather_95 rfl (by decide) (Nat.le_of_ble_eq_true rfl) rfl ?_
          refine J.goto (μ := mX6_gather) (pc := 98) 28 dX6_gather_98 (by decide) ?_
          exact J.sub (by simp [lsub, fin3, nI_succ]) ih
