/-! Math.min, Math.max, System.arraycopy; fill and copyFrom -/
theorem J.mmin {γ : Gm} {μ : Mu} {R : Room} {Q : Fin_} {k n pc : Nat} {L : List (Option Value)} {rest : List Value} {P : Heap → Prop} {own : String} {index : Nat} {x y : Int32} (hown : μ.1 = own) (w : Cond.methodLink own index Lib.Math.min.name ∈ WSA) (d : decode μ.2.1 pc = .ok (.invokestatic index, 3)) (hR : 1 ≤ R.frames ∧ (rest.map fun v => v.category).sum + 13 ≤ R.locals) (hk : k ≤ R.cells ∧ n ≤ R.slots) (kk : J γ μ R Q k n (pc + 3) L (.int (if y < x then y else x) :: rest) P) : J γ μ R Q k n pc L (.int y :: .int x :: rest) P :=
  fun p l e s m args below meth c B H locs ls hL hP hS => va_mmin B.1 B.2.1 (B.2.2.1.trans hL.1.symm) (hown ▸ B.2.2.2.2.2.1) (B.2.2.2.2.2.2.1 _ w) (B.2.2.2.2.2.2.1 _ wt_J9_min_7cf53) (B.2.2.2.2.2.2.1 _ wn_J9) (B.2.2.2.2.2.2.1 _ wc_J9_min_7cf53) hR.1 hR.2 hk.1 hk.2 d (kk p l e s m args below meth c B H locs ls hL hP hS)
theorem J.mmax {γ : Gm} {μ : Mu} {R : Room} {Q : Fin_} {k n pc : Nat} {L : List (Option Value)} {rest : List Value} {P : Heap → Prop} {own : String} {index : Nat} {x y : Int32} (hown : μ.1 = own) (w : Cond.methodLink own index Lib.Math.max.name ∈ WSA) (d : decode μ.2.1 pc = .ok (.invokestatic index, 3)) (hR : 1 ≤ R.frames ∧ (rest.map fun v => v.category).sum + 13 ≤ R.locals) (hk : k ≤ R.cells ∧ n ≤ R.slots) (kk : J γ μ R Q k n (pc + 3) L (.int (if x < y then y else x) :: rest) P) : J γ μ R Q k n pc L (.int y :: .int x :: rest) P :=
  fun p l e s m args below meth c B H locs ls hL hP hS => va_mmax B.1 B.2.1 (B.2.2.1.trans hL.1.symm) (hown ▸ B.2.2.2.2.2.1) (B.2.2.2.2.2.2.1 _ w) (B.2.2.2.2.2.2.1 _ wt_J9_max_7cf53) (B.2.2.2.2.2.2.1 _ wn_J9) (B.2.2.2.2.2.2.1 _ wc_J9_max_7cf53) hR.1 hR.2 hk.1 hk.2 d (kk p l e s m args below meth c B H locs ls hL hP hS)
theorem J.copy {γ : Gm} {μ : Mu} {R : Room} {Q : Fin_} {k n pc : Nat} {L : List (Option Value)} {rest : List Value} {P P' : Heap → Prop} {own : String} {index a0 a n0 n1 : Nat} {cA : ClassId} {f g : Nat → Int32} {ty : FieldType} {sp dp m : Int32} (t0 : Nat) (ht : (tysOf γ)[t0]? = some (cA, ty)) (hprim : refKind ty = false) (hown : μ.1 = own) (w : Cond.methodLink own index arraycopyName ∈ WSA) (wn : Cond.native arraycopyName ∈ WSA) (wt : Cond.static arraycopyName ∈ WSA) (wi : Cond.initialized "java/lang/System" ∈ WSA)
    (d : decode μ.2.1 pc = .ok (.invokestatic index, 3)) (h1 : 0 ≤ sp) (h2 : 0 ≤ dp) (h3 : 0 ≤ m) (h4 : sp.toNatClampNeg + m.toNatClampNeg ≤ n0) (h5 : dp.toNatClampNeg + m.toNatClampNeg ≤ n1) (hfit : ∀ i, i < m.toNatClampNeg → fits ty (.int (f (sp.toNatClampNeg + i))) = true) (hat0 : ∀ H, P H → va_at γ.1 vwCl (a0, .inl (cA, n0, .inl f)) H) (hat1 : ∀ H, P H → va_at γ.1 vwCl (a, .inl (cA, n1, .inl g)) H) (ha : gz γ ≤ a)
    (hf : 1 ≤ R.frames) (hlo : (rest.map fun v => v.category).sum + (nativeFrameWords "java/lang/System" "arraycopy" 5 + 11) ≤ R.locals)
    (hput : ∀ H H' : Heap, P H → va_at γ.1 vwCl (a, .inl (cA, n1, .inl (va_cpy f g sp.toNatClampNeg dp.toNatClampNeg m.toNatClampNeg))) H' → H'.size = H.size → (∀ q : Nat, q ≠ a → H'[q]? = H[q]?) → P' H') (kk : J γ μ R Q k n (pc + 3) L rest P') : J γ μ R Q k n pc L (.int m :: .int dp :: .ref a :: .int sp :: .ref a0 :: rest) P := by
  intro p l e s me args below meth c B H locs ls hL hP hS
  have hts := B.2.2.2.2.2.2.1
  have hK : va_K γ.1 vwCl (tysOf γ) s := B.2.2.2.2.2.2.2.1.1
  have nn : ∀ z : Int32, ¬ z < 0 → z.toInt = (z.toNatClampNeg : Int) := by
    intro z hz
    have hz0 : (0 : Int) ≤ z.toInt := by
      have := Int32.not_lt.mp hz
      simpa using Int32.le_iff_toInt_le.mp this
    show z.toInt = ((z.toInt.toNat : Nat) : Int)
    omega
  have h1 : ¬ sp < 0 := Int32.not_lt.mpr h1
  have h2 : ¬ dp < 0 := Int32.not_lt.mpr h2
  have h3 : ¬ m < 0 := Int32.not_lt.mpr h3
  intro T hT X
  have hc0 : H[a0]? = some (vp_cell cA (n0, .inl f)) := hat0 H hP
  have hc1 : H[a]? = some (vp_cell cA (n1, .inl g)) := hat1 H hP
  obtain ⟨-, k0, hk0, cm0, hkk0⟩ := (hK.2 t0 _ ht).1 n0 (fun j => .int (f j))
  obtain ⟨-, k1, hk1, cm1, hkk1⟩ := (hK.2 t0 _ ht).1 n1 (fun j => .int (g j))
  obtain ⟨vm', X', step⟩ := X.arraycopy B.1 (hown ▸ B.2.2.2.2.2.1) (hts _ w) (hts _ wn) (hts _ wt) (hts _ wi) (src := a0) (dst := a) (cs := vp_cell cA (n0, .inl f)) (cd := vp_cell cA (n1, .inl g)) (srcPos := sp) (destPos := dp) (n := m) (by rw [hT]; exact hc0) (by rw [hT]; exact hc1)
    (fun _ h => by cases h) (fun _ h => by cases h) (fun h => by cases h) (fun h => by cases h) hk0 hk1 hkk0 hkk1 (by simp [hprim]) h1 h2 h3
    (by rw [nn sp h1, nn m h3]; show ¬ _ > ((arrV cA n0 (fun j => .int (f j))).slots.size : Int); rw [arrV_size]; omega)
    (by rw [nn dp h2, nn m h3]; show ¬ _ > ((arrV cA n1 (fun j => .int (g j))).slots.size : Int); rw [arrV_size]; omega)
    (fun vm₁ _ i hi => by
      have e : (vp_cell cA (n0, .inl f)).slots.getD (sp.toNatClampNeg + i) .null = .int (f (sp.toNatClampNeg + i)) := by
        show (arrV cA n0 (fun j => .int (f j))).slots.getD _ _ = _
        rw [Array.getD_eq_getD_getElem?, arrV_read _ _ (by omega)]
        rfl
      refine ⟨?_, ?_⟩
      · rw [e]
        exact hfit i hi
      · rw [e]
        exact trivial)
    (g := F0 me pc ls (.int m :: .int dp :: .ref a :: .int sp :: .ref a0 :: rest)) rfl (by show ls.size = _; rw [hL.1, B.2.2.1]) (rest := rest) rfl (by rw [B.2.1]; exact d) hf (by show 2 * 0 + _ + _ ≤ _; omega)
  have e1 : copied (vp_cell cA (n0, .inl f)) (vp_cell cA (n1, .inl g)) sp dp m = vp_cell cA (n1, .inl (va_cpy f g sp.toNatClampNeg dp.toNatClampNeg m.toNatClampNeg)) := va_copied (fun z => .int z) cA cA f g h4
  rw [e1] at X' step
  have hl : a < H.size := (Array.getElem?_eq_some_iff.mp hc1).1
  have hheap : ((T.setVm vm').setCell a (vp_cell cA (n1, .inl (va_cpy f g sp.toNatClampNeg dp.toNatClampNeg m.toNatClampNeg)))).heap = H.setIfInBounds a (vp_cell cA (n1, .inl (va_cpy f g sp.toNatClampNeg dp.toNatClampNeg m.toNatClampNeg))) := by rw [← hT]; rfl
  have oq : ∀ q : Nat, q ≠ a → (H.setIfInBounds a (vp_cell cA (n1, .inl (va_cpy f g sp.toNatClampNeg dp.toNatClampNeg m.toNatClampNeg))))[q]? = H[q]? := fun q hq => by simp [Array.getElem?_setIfInBounds, Ne.symm hq]
  obtain ⟨t, a1, b1⟩ := kk p l e s me args below meth c B _ _ ls hL (hput H _ hP (show (H.setIfInBounds a _)[a]? = some _ by simp [Array.getElem?_setIfInBounds, hl]) (by simp) oq) ⟨by simp; exact hS.1, fun q g1 g2 => by
      rw [oq q (fun e => g2 (by rw [e]; exact ha))]
      exact hS.2.1 q g1 g2, fun q hq => by
      rcases List.mem_append.mp hq with h | h
      · exact hS.2.2 q h
      · obtain ⟨z, -, hz⟩ := List.mem_map.mp h
        rw [← hz]
        exact ha⟩ _ hheap X'
  exact ⟨t, step t a1, b1⟩
theorem arrV_congr {c : ClassId} {n : Nat} {f g : Nat → Value} (h : ∀ j, j < n → f j = g j) : arrV c n f = arrV c n g := by
  unfold arrV
  congr 1
  exact congrArg Array.ofFn (funext fun j => h j.1 j.2)
theorem vp_cell_congr {c : ClassId} {n : Nat} {f g : Nat → Int32} (h : ∀ j, j < n → f j = g j) : vp_cell c (n, .inl f) = vp_cell c (n, .inl g) := by
  rw [vp_cell_i, vp_cell_i]
  exact arrV_congr (fun j hj => by rw [h j hj])
theorem fvs_congr {z : Nat} {f g : Nat → Int32} : ∀ (fks : List (Option Nat)) (i : Nat), (∀ j, fks[j]? = some none → f (i + j) = g (i + j)) → fvs z f i fks = fvs z g i fks
  | [], i, h => rfl
  | none :: t, i, h => by
    have e1 := fvs_congr (z := z) (f := f) (g := g) t (i + 1) (fun j hj => by
      have h2 := h (j + 1) (by simpa using hj)
      rw [show i + 1 + j = i + (j + 1) by omega]
      exact h2)
    have e2 : f i = g i := h 0 rfl
    simp only [fvs]
    rw [e1, e2]
  | some r :: t, i, h => by
    have e1 := fvs_congr (z := z) (f := f) (g := g) t (i + 1) (fun j hj => by
      have h2 := h (j + 1) (by simpa using hj)
      rw [show i + 1 + j = i + (j + 1) by omega]
      exact h2)
    simp only [fvs]
    rw [e1]
/-- two pictures of the same numbers -/
def sameN (v v' : Vs) (k : Nat) : Sh → Prop
  | .inl x => ∀ j, x.2[j]? = some none → v k j = v' k j
  | .inr n => ∀ j, j < n → v k j = v' k j
theorem Rp.congr {γ : Gm} {v v' : Vs} {H : Heap} (hv : ∀ (k : Nat) (x : Sh), shape k = some x → sameN v v' k x) (h : Rp γ v H) : Rp γ v' H := by
  refine ⟨fun k x hk => ?_, h.2⟩
  have h1 := h.1 k x hk
  have h2 := hv k x hk
  cases x with
  | inl x =>
    have e := fvs_congr (z := gz γ) (f := v k) (g := v' k) x.2 0 (fun j hj => by rw [Nat.zero_add]; exact h2 j hj)
    show va_at γ.1 vwCl (gz γ + k, .inr (x.1, fvs (gz γ) (v' k) 0 x.2)) H
    rw [← e]
    exact h1
  | inr m =>
    show H[gz γ + k]? = some (vp_cell γ.2.1.1 (m, .inl (v' k)))
    rw [← vp_cell_congr (f := v k) h2]
    exact h1
/-- n cells from b on, copied to a -/
def cpR (v : Vs) (a b n : Nat) : Vs := fun k => if a ≤ k ∧ k < a + n then v (b + (k - a)) else v k
theorem cpR_in {v : Vs} {a b n c : Nat} (h : c < n) : cpR v a b n (a + c) = v (b + c) := by
  unfold cpR
  rw [if_pos ⟨by omega, by omega⟩, show a + c - a = c by omega]
theorem cpR_out {v : Vs} {a b n k : Nat} (h : k < a ∨ a + n ≤ k) : cpR v a b n k = v k := by
  unfold cpR
  rw [if_neg (by omega)]
theorem s_X7_copyFrom {γ : Gm} {v : Vs} {r r2 n : Nat} (hr : IsRow r n) (hr2 : IsRow r2 n) : Ew γ mX7_copyFrom yX7_copyFrom 1 [.ref (gz γ + r), .ref (gz γ + r2)] v none (cpR v r r2 2) := by
  refine Ev.ofJ (by decide) rfl (fun h => by cases h) (Nat.le_of_ble_eq_true rfl) ?_
  refine J.aload_n (μ := mX7_copyFrom) (pc := 0) dX7_copyFrom_0 rfl ?_
  refine J.gr (μ := mX7_copyFrom) (pc := 1) (T := TX7) (ci := 10) (fks := _) rfl rfl in_X7 0 (by decide) wf_X7_7 dX7_copyFrom_1 hr2.1 rfl ?_
  refine J.iconst (μ := mX7_copyFrom) (pc := 4) (v := 0) dX7_copyFrom_4 (by decide) ?_
  refine J.aload_n (μ := mX7_copyFrom) (pc := 5) dX7_copyFrom_5 rfl ?_
  refine J.gr (μ := mX7_copyFrom) (pc := 6) (T := TX7) (ci := 10) (fks := _) rfl rfl in_X7 0 (by decide) wf_X7_7 dX7_copyFrom_6 hr.1 rfl ?_
  refine J.iconst (μ := mX7_copyFrom) (pc := 9) (v := 0) dX7_copyFrom_9 (by decide) ?_
  refine J.aload_n (μ := mX7_copyFrom) (pc := 10) dX7_copyFrom_10 rfl ?_
  refine J.gr (μ := mX7_copyFrom) (pc := 11) (T := TX7) (ci := 10) (fks := _) rfl rfl in_X7 0 (by decide) wf_X7_7 dX7_copyFrom_11 hr.1 rfl ?_
  refine J.al (μ := mX7_copyFrom) (pc := 14) dX7_copyFrom_14 hr.2 rfl ?_
  refine J.aload_n (μ := mX7_copyFrom) (pc := 15) dX7_copyFrom_15 rfl ?_
  refine J.gr (μ := mX7_copyFrom) (pc := 16) (T := TX7) (ci := 10) (fks := _) rfl rfl in_X7 0 (by decide) wf_X7_7 dX7_copyFrom_16 hr2.1 rfl ?_
  refine J.al (μ := mX7_copyFrom) (pc := 19) dX7_copyFrom_19 hr2.2 rfl ?_
  refine J.mmin (μ := mX7_copyFrom) (pc := 20) rfl wm_X7_13 dX7_copyFrom_20 ⟨(Nat.le_of_ble_eq_true rfl), (Nat.le_of_ble_eq_true rfl)⟩ ⟨(Nat.le_of_ble_eq_true rfl), (Nat.le_of_ble_eq_true rfl)⟩ ?_
  -- stops at 23: ('stop', 'Ejava_lang_System_arraycopy__Ljava_lang_Object_ILjava_lang_Object_II_V')
  refine J.copy (μ := mX7_copyFrom) (pc := 23) (n0 := n) (n1 := n) (f := v (r2 + 1)) (g := v (r + 1)) 0 rfl rfl rfl wm_X7_19 wv_Ejava_lang_System_arraycopy__Ljava_lang_Object_ILjava_lang_Object_II_V wt_Ejava_lang_System_arraycopy__Ljava_lang_Object_ILjava_lang_Object_II_V wn_J10 dX7_copyFrom_23 (by decide) (by decide) ?_ ?_ ?_ (fun _ _ => rfl) (Rp.arr hr2.2) (Rp.arr hr.2) (Nat.le_add_right _ _) (Nat.le_of_ble_eq_true rfl) (Nat.le_of_ble_eq_true rfl) (P' := Rp γ (cpR v r r2 2)) ?_ ?_
  · rw [ite_self]; exact nI_pos' hr.small
  · rw [ite_self]; show (0 : Int32).toNatClampNeg + (nI n).toNatClampNeg ≤ n; rw [nI_clamp hr.small]; show 0 + n ≤ n; omega
  · rw [ite_self]; show (0 : Int32).toNatClampNeg + (nI n).toNatClampNeg ≤ n; rw [nI_clamp hr.small]; show 0 + n ≤ n; omega
  · intro H H' hP hat hz hq
    rw [ite_self] at hat
    have e : (Int32.ofNat n).toNatClampNeg = n := nI_clamp hr.small
    rw [e] at hat
    have h1 : Rp γ (fun k => if k = r + 1 then v (r2 + 1) else v k) H' := by
      refine hP.cell hr.2 (fun k' hk' => if_neg hk') ?_ hq
      show H'[gz γ + (r + 1)]? = some (vp_cell γ.2.1.1 (n, .inl (if r + 1 = r + 1 then v (r2 + 1) else v (r + 1))))
      rw [if_pos rfl]
      refine Eq.trans (show H'[gz γ + (r + 1)]? = some (vp_cell γ.2.1.1 (n, .inl (va_cpy (v (r2 + 1)) (v (r + 1)) (0 : Int32).toNatClampNeg (0 : Int32).toNatClampNeg n))) from hat) ?_
      rw [vp_cell_congr (g := v (r2 + 1)) (fun j hj => ?_)]
      show va_cpy _ _ 0 0 n j = _
      unfold va_cpy
      rw [if_pos ⟨by omega, by omega⟩, show 0 + (j - 0) = j by omega]
    refine h1.congr (fun k x hk => ?_)
    by_cases e1 : k = r + 1
    · subst e1
      have := cpR_in (v := v) (a := r) (b := r2) (n := 2) (c := 1) (by omega)
      cases Option.some.inj (hk.symm.trans hr.2)
      intro j hj
      rw [this]; simp
    · by_cases e2 : k = r
      · subst e2
        cases Option.some.inj (hk.symm.trans hr.1)
        intro j hj
        match j, hj with
        | 0, hj => simp at hj
        | j + 1, hj => simp at hj
      · have : cpR v r r2 2 k = v k := cpR_out (by omega)
        cases x <;> (intro j _; rw [this]; simp [e1])
  · exact J.vret (μ := mX7_copyFrom) (pc := 26) dX7_copyFrom_26 rfl (Nat.le_of_ble_eq_true rfl) (Nat.le_of_ble_eq_true rfl) (fun H h => ⟨rfl, h⟩)

theorem up2_ss {v : Vs} {k j : Nat} {x : Int32} : up2 v k j x k j = x := by simp [up2, upd]
theorem up2_sn {v : Vs} {k j j' : Nat} {x : Int32} (h : j' ≠ j) : up2 v k j x k j' = v k j' := by simp [up2, upd, h]
/-- the picture of a stock's part, cell by cell -/
theorem stk_same {o a n : Nat} (ho : IsStk o) {v w : Vs} (ha : o ≤ a) (han : a + n ≤ o + 26) (hin : ∀ c, a ≤ o + c → o + c < a + n → sameN v w (o + c) (stkSh o c)) (hout : ∀ k, k < a ∨ a + n ≤ k → v k = w k) : ∀ (k : Nat) (x : Sh), shape k = some x → sameN v w k x := by
  intro k x hk
  by_cases h : a ≤ k ∧ k < a + n
  · obtain ⟨c, rfl⟩ : ∃ c, k = o + c := ⟨k - o, by omega⟩
    cases Option.some.inj (hk.symm.trans (ho c (by omega)))
    exact hin c h.1 h.2
  · have e := hout k (by omega)
    cases x <;> (intro j _; rw [e])
theorem sameN_obj0 {v w : Vs} {k ci r : Nat} : sameN v w k (.inl (ci, [some r])) := by
  intro j hj
  match j, hj with
  | 0, hj => simp at hj
  | j + 1, hj => simp at hj
theorem sameN_arr {v w : Vs} {k n : Nat} (h : v k = w k) : sameN v w k (.inr n) := fun j _ => by rw [h]
/-- o and o2 begin two stocks that share nothing -/
abbrev apart (o o2 : Nat) : Prop := o2 + 26 ≤ o ∨ o + 26 ≤ o2
theorem cpR_at {v : Vs} {a b n k : Nat} (h : a ≤ k ∧ k < a + n) : cpR v a b n k = v (b + (k - a)) := if_pos h
theorem s_X8_copyFrom {γ : Gm} {v : Vs} {o o2 : Nat} (ho : IsStk o) (ho2 : IsStk o2) (hd : apart o o2) : Ew γ mX8_copyFrom yX8_copyFrom 2 [.ref (gz γ + (o + 1)), .ref (gz γ + (o2 + 1))] v none (cpR v (o + 1) (o2 + 1) 7) := by
  refine Ev.ofJ (by decide) rfl (fun h => by cases h) (Nat.le_of_ble_eq_true rfl) ?_
  refine J.aload_n (μ := mX8_copyFrom) (pc := 0) dX8_copyFrom_0 rfl ?_
  refine J.gr (μ := mX8_copyFrom) (pc := 1) (T := TX8) (ci := 11) (fks := _) rfl rfl in_X8 0 (by decide) wf_X8_14 dX8_copyFrom_1 (ho 1 (by decide)) rfl ?_
  refine J.aload_n (μ := mX8_copyFrom) (pc := 4) dX8_copyFrom_4 rfl ?_
  refine J.gr (μ := mX8_copyFrom) (pc := 5) (T := TX8) (ci := 11) (fks := _) rfl rfl in_X8 0 (by decide) wf_X8_14 dX8_copyFrom_5 (ho2 1 (by decide)) rfl ?_
  refine J.cV0 (μ := mX8_copyFrom) (pc := 8) (s_X7_copyFrom ho.zn ho2.zn) rfl wm_X8_30 mi_X7_copyFrom rfl dX8_copyFrom_8 (Rp.isa (T := TX7) rfl (ho 2 (by decide))) rfl rfl ⟨(Nat.le_of_ble_eq_true rfl), (Nat.le_of_ble_eq_true rfl)⟩ ⟨(Nat.le_of_ble_eq_true rfl), (Nat.le_of_ble_eq_true rfl)⟩ (Nat.le_of_ble_eq_true rfl) ?_
  refine J.aload_n (μ := mX8_copyFrom) (pc := 11) dX8_copyFrom_11 rfl ?_
  refine J.gr (μ := mX8_copyFrom) (pc := 12) (T := TX8) (ci := 11) (fks := _) rfl rfl in_X8 1 (by decide) wf_X8_20 dX8_copyFrom_12 (ho 1 (by decide)) rfl ?_
  refine J.aload_n (μ := mX8_copyFrom) (pc := 15) dX8_copyFrom_15 rfl ?_
  refine J.gr (μ := mX8_copyFrom) (pc := 16) (T := TX8) (ci := 11) (fks := _) rfl rfl in_X8 1 (by decide) wf_X8_20 dX8_copyFrom_16 (ho2 1 (by decide)) rfl ?_
  refine J.cV0 (μ := mX8_copyFrom) (pc := 19) (s_X7_copyFrom ho.cp ho2.cp) rfl wm_X8_30 mi_X7_copyFrom rfl dX8_copyFrom_19 (Rp.isa (T := TX7) rfl (ho 4 (by decide))) rfl rfl ⟨(Nat.le_of_ble_eq_true rfl), (Nat.le_of_ble_eq_true rfl)⟩ ⟨(Nat.le_of_ble_eq_true rfl), (Nat.le_of_ble_eq_true rfl)⟩ (Nat.le_of_ble_eq_true rfl) ?_
  refine J.aload_n (μ := mX8_copyFrom) (pc := 22) dX8_copyFrom_22 rfl ?_
  refine J.gr (μ := mX8_copyFrom) (pc := 23) (T := TX8) (ci := 11) (fks := _) rfl rfl in_X8 2 (by decide) wf_X8_23 dX8_copyFrom_23 (ho 1 (by decide)) rfl ?_
  refine J.aload_n (μ := mX8_copyFrom) (pc := 26) dX8_copyFrom_26 rfl ?_
  refine J.gr (μ := mX8_copyFrom) (pc := 27) (T := TX8) (ci := 11) (fks := _) rfl rfl in_X8 2 (by decide) wf_X8_23 dX8_copyFrom_27 (ho2 1 (by decide)) rfl ?_
  refine J.cV0 (μ := mX8_copyFrom) (pc := 30) (s_X7_copyFrom ho.cd ho2.cd) rfl wm_X8_30 mi_X7_copyFrom rfl dX8_copyFrom_30 (Rp.isa (T := TX7) rfl (ho 6 (by decide))) rfl rfl ⟨(Nat.le_of_ble_eq_true rfl), (Nat.le_of_ble_eq_true rfl)⟩ ⟨(Nat.le_of_ble_eq_true rfl), (Nat.le_of_ble_eq_true rfl)⟩ (Nat.le_of_ble_eq_true rfl) ?_
  refine J.aload_n (μ := mX8_copyFrom) (pc := 33) dX8_copyFrom_33 rfl ?_
  refine J.aload_n (μ := mX8_copyFrom) (pc := 34) dX8_copyFrom_34 rfl ?_
  refine J.gi (μ := mX8_copyFrom) (pc := 35) (T := TX8) (ci := 11) (fks := _) rfl rfl in_X8 3 (by decide) wf_X8_26 dX8_copyFrom_35 (ho2 1 (by decide)) rfl ?_
  refine J.pi (μ := mX8_copyFrom) (pc := 38) (T := TX8) (ci := 11) (ty0 := tyX8) (fks := _) rfl rfl in_X8 tyX8_ok nmX8 3 (by decide) wf_X8_26 dX8_copyFrom_38 rfl rfl rfl (ho 1 (by decide)) rfl ?_
  refine J.of (P' := Rp γ (cpR v (o + 1) (o2 + 1) 7)) (fun H h => h.congr (stk_same ho (a := o + 1) (n := 7) (by omega) (by omega) (fun c h1 h2 => ?_) (fun k hk => ?_))) ?_
  · rcases (show c = 1 ∨ c = 2 ∨ c = 3 ∨ c = 4 ∨ c = 5 ∨ c = 6 ∨ c = 7 by omega) with rfl | rfl | rfl | rfl | rfl | rfl | rfl
    · intro j hj
      match j, hj with
      | 0, hj => cases hj
      | 1, hj => cases hj
      | 2, hj => cases hj
      | 3, hj => simp (disch := omega) only [Nat.add_zero, up2_ss, up2_sn, up2_o, cpR_out, cpR_at]; first | done | exact congrFun (congrArg v (by omega)) _
      | j + 4, hj => cases hj
    · exact sameN_obj0
    · refine sameN_arr ?_
      simp (disch := omega) only [Nat.add_zero, up2_ss, up2_sn, up2_o, cpR_out, cpR_at]; first | done | exact congrArg v (by omega)
    · exact sameN_obj0
    · refine sameN_arr ?_
      simp (disch := omega) only [Nat.add_zero, up2_ss, up2_sn, up2_o, cpR_out, cpR_at]; first | done | exact congrArg v (by omega)
    · exact sameN_obj0
    · refine sameN_arr ?_
      simp (disch := omega) only [Nat.add_zero, up2_ss, up2_sn, up2_o, cpR_out, cpR_at]; first | done | exact congrArg v (by omega)
  · simp (disch := omega) only [Nat.add_zero, up2_ss, up2_sn, up2_o, cpR_out, cpR_at]
  · exact J.vret (μ := mX8_copyFrom) (pc := 41) dX8_copyFrom_41 rfl (Nat.le_of_ble_eq_true rfl) (Nat.le_of_ble_eq_true rfl) (fun H h => ⟨rfl, h⟩)
theorem s_X5_copyFrom {γ : Gm} {v : Vs} {o o2 : Nat} (ho : IsStk o) (ho2 : IsStk o2) (hd : apart o o2) : Ew γ mX5_copyFrom yX5_copyFrom 2 [.ref (gz γ + (o + 8)), .ref (gz γ + (o2 + 8))] v none (cpR v (o + 8) (o2 + 8) 15) := by
  refine Ev.ofJ (by decide) rfl (fun h => by cases h) (Nat.le_of_ble_eq_true rfl) ?_
  refine J.aload_n (μ := mX5_copyFrom) (pc := 0) dX5_copyFrom_0 rfl ?_
  refine J.gr (μ := mX5_copyFrom) (pc := 1) (T := TX5) (ci := 8) (fks := _) rfl rfl in_X5 0 (by decide) wf_X5_14 dX5_copyFrom_1 (ho 8 (by decide)) rfl ?_
  refine J.aload_n (μ := mX5_copyFrom) (pc := 4) dX5_copyFrom_4 rfl ?_
  refine J.gr (μ := mX5_copyFrom) (pc := 5) (T := TX5) (ci := 8) (fks := _) rfl rfl in_X5 0 (by decide) wf_X5_14 dX5_copyFrom_5 (ho2 8 (by decide)) rfl ?_
  refine J.cV0 (μ := mX5_copyFrom) (pc := 8) (s_X7_copyFrom ho.ki ho2.ki) rfl wm_X5_42 mi_X7_copyFrom rfl dX5_copyFrom_8 (Rp.isa (T := TX7) rfl (ho 9 (by decide))) rfl rfl ⟨(Nat.le_of_ble_eq_true rfl), (Nat.le_of_ble_eq_true rfl)⟩ ⟨(Nat.le_of_ble_eq_true rfl), (Nat.le_of_ble_eq_true rfl)⟩ (Nat.le_of_ble_eq_true rfl) ?_
  refine J.aload_n (μ := mX5_copyFrom) (pc := 11) dX5_copyFrom_11 rfl ?_
  refine J.gr (μ := mX5_copyFrom) (pc := 12) (T := TX5) (ci := 8) (fks := _) rfl rfl in_X5 1 (by decide) wf_X5_20 dX5_copyFrom_12 (ho 8 (by decide)) rfl ?_
  refine J.aload_n (μ := mX5_copyFrom) (pc := 15) dX5_copyFrom_15 rfl ?_
  refine J.gr (μ := mX5_copyFrom) (pc := 16) (T := TX5) (ci := 8) (fks := _) rfl rfl in_X5 1 (by decide) wf_X5_20 dX5_copyFrom_16 (ho2 8 (by decide)) rfl ?_
  refine J.cV0 (μ := mX5_copyFrom) (pc := 19) (s_X7_copyFrom ho.lz ho2.lz) rfl wm_X5_42 mi_X7_copyFrom rfl dX5_copyFrom_19 (Rp.isa (T := TX7) rfl (ho 11 (by decide))) rfl rfl ⟨(Nat.le_of_ble_eq_true rfl), (Nat.le_of_ble_eq_true rfl)⟩ ⟨(Nat.le_of_ble_eq_true rfl), (Nat.le_of_ble_eq_true rfl)⟩ (Nat.le_of_ble_eq_true rfl) ?_
  refine J.aload_n (μ := mX5_copyFrom) (pc := 22) dX5_copyFrom_22 rfl ?_
  refine J.gr (μ := mX5_copyFrom) (pc := 23) (T := TX5) (ci := 8) (fks := _) rfl rfl in_X5 2 (by decide) wf_X5_23 dX5_copyFrom_23 (ho 8 (by decide)) rfl ?_
  refine J.aload_n (μ := mX5_copyFrom) (pc := 26) dX5_copyFrom_26 rfl ?_
  refine J.gr (μ := mX5_copyFrom) (pc := 27) (T := TX5) (ci := 8) (fks := _) rfl rfl in_X5 2 (by decide) wf_X5_23 dX5_copyFrom_27 (ho2 8 (by decide)) rfl ?_
  refine J.cV0 (μ := mX5_copyFrom) (pc := 30) (s_X7_copyFrom ho.vo ho2.vo) rfl wm_X5_42 mi_X7_copyFrom rfl dX5_copyFrom_30 (Rp.isa (T := TX7) rfl (ho 13 (by decide))) rfl rfl ⟨(Nat.le_of_ble_eq_true rfl), (Nat.le_of_ble_eq_true rfl)⟩ ⟨(Nat.le_of_ble_eq_true rfl), (Nat.le_of_ble_eq_true rfl)⟩ (Nat.le_of_ble_eq_true rfl) ?_
  refine J.aload_n (μ := mX5_copyFrom) (pc := 33) dX5_copyFrom_33 rfl ?_
  refine J.gr (μ := mX5_copyFrom) (pc := 34) (T := TX5) (ci := 8) (fks := _) rfl rfl in_X5 3 (by decide) wf_X5_26 dX5_copyFrom_34 (ho 8 (by decide)) rfl ?_
  refine J.aload_n (μ := mX5_copyFrom) (pc := 37) dX5_copyFrom_37 rfl ?_
  refine J.gr (μ := mX5_copyFrom) (pc := 38) (T := TX5) (ci := 8) (fks := _) rfl rfl in_X5 3 (by decide) wf_X5_26 dX5_copyFrom_38 (ho2 8 (by decide)) rfl ?_
  refine J.cV0 (μ := mX5_copyFrom) (pc := 41) (s_X7_copyFrom ho.ep ho2.ep) rfl wm_X5_42 mi_X7_copyFrom rfl dX5_copyFrom_41 (Rp.isa (T := TX7) rfl (ho 15 (by decide))) rfl rfl ⟨(Nat.le_of_ble_eq_true rfl), (Nat.le_of_ble_eq_true rfl)⟩ ⟨(Nat.le_of_ble_eq_true rfl), (Nat.le_of_ble_eq_true rfl)⟩ (Nat.le_of_ble_eq_true rfl) ?_
  refine J.aload_n (μ := mX5_copyFrom) (pc := 44) dX5_copyFrom_44 rfl ?_
  refine J.gr (μ := mX5_copyFrom) (pc := 45) (T := TX5) (ci := 8) (fks := _) rfl rfl in_X5 4 (by decide) wf_X5_29 dX5_copyFrom_45 (ho 8 (by decide)) rfl ?_
  refine J.aload_n (μ := mX5_copyFrom) (pc := 48) dX5_copyFrom_48 rfl ?_
  refine J.gr (μ := mX5_copyFrom) (pc := 49) (T := TX5) (ci := 8) (fks := _) rfl rfl in_X5 4 (by decide) wf_X5_29 dX5_copyFrom_49 (ho2 8 (by decide)) rfl ?_
  refine J.cV0 (μ := mX5_copyFrom) (pc := 52) (s_X7_copyFrom ho.pl ho2.pl) rfl wm_X5_42 mi_X7_copyFrom rfl dX5_copyFrom_52 (Rp.isa (T := TX7) rfl (ho 17 (by decide))) rfl rfl ⟨(Nat.le_of_ble_eq_true rfl), (Nat.le_of_ble_eq_true rfl)⟩ ⟨(Nat.le_of_ble_eq_true rfl), (Nat.le_of_ble_eq_true rfl)⟩ (Nat.le_of_ble_eq_true rfl) ?_
  refine J.aload_n (μ := mX5_copyFrom) (pc := 55) dX5_copyFrom_55 rfl ?_
  refine J.gr (μ := mX5_copyFrom) (pc := 56) (T := TX5) (ci := 8) (fks := _) rfl rfl in_X5 5 (by decide) wf_X5_32 dX5_copyFrom_56 (ho 8 (by decide)) rfl ?_
  refine J.aload_n (μ := mX5_copyFrom) (pc := 59) dX5_copyFrom_59 rfl ?_
  refine J.gr (μ := mX5_copyFrom) (pc := 60) (T := TX5) (ci := 8) (fks := _) rfl rfl in_X5 5 (by decide) wf_X5_32 dX5_copyFrom_60 (ho2 8 (by decide)) rfl ?_
  refine J.cV0 (μ := mX5_copyFrom) (pc := 63) (s_X7_copyFrom ho.p1 ho2.p1) rfl wm_X5_42 mi_X7_copyFrom rfl dX5_copyFrom_63 (Rp.isa (T := TX7) rfl (ho 19 (by decide))) rfl rfl ⟨(Nat.le_of_ble_eq_true rfl), (Nat.le_of_ble_eq_true rfl)⟩ ⟨(Nat.le_of_ble_eq_true rfl), (Nat.le_of_ble_eq_true rfl)⟩ (Nat.le_of_ble_eq_true rfl) ?_
  refine J.aload_n (μ := mX5_copyFrom) (pc := 66) dX5_copyFrom_66 rfl ?_
  refine J.gr (μ := mX5_copyFrom) (pc := 67) (T := TX5) (ci := 8) (fks := _) rfl rfl in_X5 6 (by decide) wf_X5_35 dX5_copyFrom_67 (ho 8 (by decide)) rfl ?_
  refine J.aload_n (μ := mX5_copyFrom) (pc := 70) dX5_copyFrom_70 rfl ?_
  refine J.gr (μ := mX5_copyFrom) (pc := 71) (T := TX5) (ci := 8) (fks := _) rfl rfl in_X5 6 (by decide) wf_X5_35 dX5_copyFrom_71 (ho2 8 (by decide)) rfl ?_
  refine J.cV0 (μ := mX5_copyFrom) (pc := 74) (s_X7_copyFrom ho.p2 ho2.p2) rfl wm_X5_42 mi_X7_copyFrom rfl dX5_copyFrom_74 (Rp.isa (T := TX7) rfl (ho 21 (by decide))) rfl rfl ⟨(Nat.le_of_ble_eq_true rfl), (Nat.le_of_ble_eq_true rfl)⟩ ⟨(Nat.le_of_ble_eq_true rfl), (Nat.le_of_ble_eq_true rfl)⟩ (Nat.le_of_ble_eq_true rfl) ?_
  refine J.aload_n (μ := mX5_copyFrom) (pc := 77) dX5_copyFrom_77 rfl ?_
  refine J.aload_n (μ := mX5_copyFrom) (pc := 78) dX5_copyFrom_78 rfl ?_
  refine J.gi (μ := mX5_copyFrom) (pc := 79) (T := TX5) (ci := 8) (fks := _) rfl rfl in_X5 7 (by decide) wf_X5_38 dX5_copyFrom_79 (ho2 8 (by decide)) rfl ?_
  refine J.pi (μ := mX5_copyFrom) (pc := 82) (T := TX5) (ci := 8) (ty0 := tyX5) (fks := _) rfl rfl in_X5 tyX5_ok nmX5 7 (by decide) wf_X5_38 dX5_copyFrom_82 rfl rfl rfl (ho 8 (by decide)) rfl ?_
  refine J.of (P' := Rp γ (cpR v (o + 8) (o2 + 8) 15)) (fun H h => h.congr (stk_same ho (a := o + 8) (n := 15) (by omega) (by omega) (fun c h1 h2 => ?_) (fun k hk => ?_))) ?_
  · rcases (show c = 8 ∨ c = 9 ∨ c = 10 ∨ c = 11 ∨ c = 12 ∨ c = 13 ∨ c = 14 ∨ c = 15 ∨ c = 16 ∨ c = 17 ∨ c = 18 ∨ c = 19 ∨ c = 20 ∨ c = 21 ∨ c = 22 by omega) with rfl | rfl | rfl | rfl | rfl | rfl | rfl | rfl | rfl | rfl | rfl | rfl | rfl | rfl | rfl
    · intro j hj
      match j, hj with
      | 0, hj => cases hj
      | 1, hj => cases hj
      | 2, hj => cases hj
      | 3, hj => cases hj
      | 4, hj => cases hj
      | 5, hj => cases hj
      | 6, hj => cases hj
      | 7, hj => simp (disch := omega) only [Nat.add_zero, up2_ss, up2_sn, up2_o, cpR_out, cpR_at]; first | done | exact congrFun (congrArg v (by omega)) _
      | j + 8, hj => cases hj
    · exact sameN_obj0
    · refine sameN_arr ?_
      simp (disch := omega) only [Nat.add_zero, up2_ss, up2_sn, up2_o, cpR_out, cpR_at]; first | done | exact congrArg v (by omega)
    · exact sameN_obj0
    · refine sameN_arr ?_
      simp (disch := omega) only [Nat.add_zero, up2_ss, up2_sn, up2_o, cpR_out, cpR_at]; first | done | exact congrArg v (by omega)
    · exact sameN_obj0
    · refine sameN_arr ?_
      simp (disch := omega) only [Nat.add_zero, up2_ss, up2_sn, up2_o, cpR_out, cpR_at]; first | done | exact congrArg v (by omega)
    · exact sameN_obj0
    · refine sameN_arr ?_
      simp (disch := omega) only [Nat.add_zero, up2_ss, up2_sn, up2_o, cpR_out, cpR_at]; first | done | exact congrArg v (by omega)
    · exact sameN_obj0
    · refine sameN_arr ?_
      simp (disch := omega) only [Nat.add_zero, up2_ss, up2_sn, up2_o, cpR_out, cpR_at]; first | done | exact congrArg v (by omega)
    · exact sameN_obj0
    · refine sameN_arr ?_
      simp (disch := omega) only [Nat.add_zero, up2_ss, up2_sn, up2_o, cpR_out, cpR_at]; first | done | exact congrArg v (by omega)
    · exact sameN_obj0
    · refine sameN_arr ?_
      simp (disch := omega) only [Nat.add_zero, up2_ss, up2_sn, up2_o, cpR_out, cpR_at]; first | done | exact congrArg v (by omega)
  · simp (disch := omega) only [Nat.add_zero, up2_ss, up2_sn, up2_o, cpR_out, cpR_at]
  · exact J.vret (μ := mX5_copyFrom) (pc := 85) dX5_copyFrom_85 rfl (Nat.le_of_ble_eq_true rfl) (Nat.le_of_ble_eq_true rfl) (fun H h => ⟨rfl, h⟩)
theorem s_X1_copyFrom {γ : Gm} {v : Vs} {o o2 : Nat} (ho : IsStk o) (ho2 : IsStk o2) (hd : apart o o2) : Ew γ mX1_copyFrom yX1_copyFrom 2 [.ref (gz γ + (o + 23)), .ref (gz γ + (o2 + 23))] v none (cpR v (o + 23) (o2 + 23) 3) := by
  refine Ev.ofJ (by decide) rfl (fun h => by cases h) (Nat.le_of_ble_eq_true rfl) ?_
  refine J.aload_n (μ := mX1_copyFrom) (pc := 0) dX1_copyFrom_0 rfl ?_
  refine J.gr (μ := mX1_copyFrom) (pc := 1) (T := TX1) (ci := 4) (fks := _) rfl rfl in_X1 0 (by decide) wf_X1_14 dX1_copyFrom_1 (ho 23 (by decide)) rfl ?_
  refine J.aload_n (μ := mX1_copyFrom) (pc := 4) dX1_copyFrom_4 rfl ?_
  refine J.gr (μ := mX1_copyFrom) (pc := 5) (T := TX1) (ci := 4) (fks := _) rfl rfl in_X1 0 (by decide) wf_X1_14 dX1_copyFrom_5 (ho2 23 (by decide)) rfl ?_
  refine J.cV0 (μ := mX1_copyFrom) (pc := 8) (s_X7_copyFrom ho.hp ho2.hp) rfl wm_X1_24 mi_X7_copyFrom rfl dX1_copyFrom_8 (Rp.isa (T := TX7) rfl (ho 24 (by decide))) rfl rfl ⟨(Nat.le_of_ble_eq_true rfl), (Nat.le_of_ble_eq_true rfl)⟩ ⟨(Nat.le_of_ble_eq_true rfl), (Nat.le_of_ble_eq_true rfl)⟩ (Nat.le_of_ble_eq_true rfl) ?_
  refine J.aload_n (μ := mX1_copyFrom) (pc := 11) dX1_copyFrom_11 rfl ?_
  refine J.aload_n (μ := mX1_copyFrom) (pc := 12) dX1_copyFrom_12 rfl ?_
  refine J.gi (μ := mX1_copyFrom) (pc := 13) (T := TX1) (ci := 4) (fks := _) rfl rfl in_X1 1 (by decide) wf_X1_20 dX1_copyFrom_13 (ho2 23 (by decide)) rfl ?_
  refine J.pi (μ := mX1_copyFrom) (pc := 16) (T := TX1) (ci := 4) (ty0 := tyX1) (fks := _) rfl rfl in_X1 tyX1_ok nmX1 1 (by decide) wf_X1_20 dX1_copyFrom_16 rfl rfl rfl (ho 23 (by decide)) rfl ?_
  refine J.of (P' := Rp γ (cpR v (o + 23) (o2 + 23) 3)) (fun H h => h.congr (stk_same ho (a := o + 23) (n := 3) (by omega) (by omega) (fun c h1 h2 => ?_) (fun k hk => ?_))) ?_
  · rcases (show c = 23 ∨ c = 24 ∨ c = 25 by omega) with rfl | rfl | rfl
    · intro j hj
      match j, hj with
      | 0, hj => cases hj
      | 1, hj => simp (disch := omega) only [Nat.add_zero, up2_ss, up2_sn, up2_o, cpR_out, cpR_at]; first | done | exact congrFun (congrArg v (by omega)) _
      | j + 2, hj => cases hj
    · exact sameN_obj0
    · refine sameN_arr ?_
      simp (disch := omega) only [Nat.add_zero, up2_ss, up2_sn, up2_o, cpR_out, cpR_at]; first | done | exact congrArg v (by omega)
  · simp (disch := omega) only [Nat.add_zero, up2_ss, up2_sn, up2_o, cpR_out, cpR_at]
  · exact J.vret (μ := mX1_copyFrom) (pc := 19) dX1_copyFrom_19 rfl (Nat.le_of_ble_eq_true rfl) (Nat.le_of_ble_eq_true rfl) (fun H h => ⟨rfl, h⟩)
