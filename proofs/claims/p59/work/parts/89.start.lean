/-! the system's givens hold at the start -/
section StK
variable {s : State} {b L : Nat} {xs : Nat → Int32}
theorem tab_at {args : Array Value} {A : Nat → Prop} {tm : Term} {n a k : Nat} {f : Nat → Int32} (hn : n < 1000) (hf : ∀ c ∈ FN, c.before args s = true) (h : (FN.drop a).take k = tabW tm n f) (hA : ∀ a : Nat, a < s.heap.size → ¬ A a) : ∃ t : Nat, tm.eval args s none [] s = some (.ref t) ∧ va_T .byte t n (fun j => .int (f j)) A s s.heap := by
  have hw : ∀ c ∈ tabW tm n f, c.before args s = true := fun c hc => hf c (fn_mem h hc)
  exact va_Tof (f := fun j => .int (f j)) (by omega) (hw _ List.mem_cons_self) (va_eqt (hw _ (List.mem_cons_of_mem _ List.mem_cons_self))) (fun j hj => va_eqt (hw _ (List.mem_cons_of_mem _ (List.mem_cons_of_mem _ (List.mem_map.mpr ⟨j, List.mem_range.mpr hj, rfl⟩))))) hA
theorem str_at {args : Array Value} {A : Nat → Prop} {i : Nat} {q : String × Nat × String × List Nat} (hq : SKs[i]? = some q) (hf : ∀ c ∈ FN, c.before args s = true) (hts : ∀ w ∈ lw_tbl, w.before args s = true) (hA : ∀ a : Nat, a < s.heap.size → ¬ A a) : ∃ a t : Nat, (Term.string q.1 q.2.1).eval args s none [] s = some (.ref a) ∧ vk_R q.1 q.2.1 q.2.2.1 a s ∧ va_O "java/lang/String" a A s s.heap ∧ va_OF "java/lang/String" "coder" "B" (.int 0) a A s s.heap ∧ va_OF "java/lang/String" "value" "[B" (.ref t) a A s s.heap ∧ va_T .byte t q.2.2.2.length (fun j => .int (nI (q.2.2.2.getD j 0))) A s s.heap := by
  obtain ⟨h1, h2, h3⟩ := skOk_all hq
  have hw : ∀ c ∈ expC q, c.before args s = true := fun c hc => hf c (fn_mem h1 hc)
  have w0 := hw _ (show Cond.exactly (.string q.1 q.2.1) "java/lang/String" ∈ expC q from List.mem_cons_self)
  have w1 := hw _ (show Cond.eq (.field (.string q.1 q.2.1) "java/lang/String" "coder" "B") (.int 0) ∈ expC q from List.mem_cons_of_mem _ List.mem_cons_self)
  have w2 := hw _ (show Cond.arrayOf (.field (.string q.1 q.2.1) "java/lang/String" "value" "[B") .byte ∈ expC q from List.mem_cons_of_mem _ (List.mem_cons_of_mem _ List.mem_cons_self))
  have w3 := hw _ (show Cond.eq (.length (.field (.string q.1 q.2.1) "java/lang/String" "value" "[B")) (.int (Int32.ofNat q.2.2.2.length)) ∈ expC q from List.mem_cons_of_mem _ (List.mem_cons_of_mem _ (List.mem_cons_of_mem _ List.mem_cons_self)))
  obtain ⟨a, c, cA, kA, q1, q2, q3, q4, q5, q6, -⟩ := Cond.exactly_spec (args := args) (first := s) (o := none) (s := s) (idx := []) (t := .string q.1 q.2.1) (cls := "java/lang/String") w0
  obtain ⟨t, ht, hT⟩ := va_Tof (f := fun j => .int (nI (q.2.2.2.getD j 0))) (A := A) (show q.2.2.2.length < 2 ^ 31 by omega) w2 (va_eqt w3) (fun j hj => va_eqt (hw _ (List.mem_cons_of_mem _ (List.mem_cons_of_mem _ (List.mem_cons_of_mem _ (List.mem_cons_of_mem _ (List.mem_map.mpr ⟨j, List.mem_range.mpr hj, rfl⟩))))))) hA
  exact ⟨a, t, q1, vk_R.of (hts _ (List.mem_of_getElem? h2)) q1, ⟨cA, q3, q5, by rw [q6]; exact q2, hA a (Array.getElem?_eq_some_iff.mp q3).1⟩, vk_OFof q1 (va_eqt w1) hA, vk_OFof q1 ht hA, hT⟩
/-- the addresses that the system reads -/
def goF (ad : Nat → Nat × Nat) (t0 t1 t2 b L : Nat) (xs : Nat → Int32) : Nat → Nat := fun n => if n < 1000 then (if n % 2 = 0 then (ad (n / 2)).1 else (ad (n / 2)).2) else if n = 1000 then t0 else if n = 1001 then t1 else if n = 1002 then t2 else if n = 1003 then b else if n = 1004 then L else (xs (n - 2000)).toBitVec.toNat
theorem goF_k {ad : Nat → Nat × Nat} {t0 t1 t2 b L i : Nat} {xs : Nat → Int32} (h : i < 500) : goF ad t0 t1 t2 b L xs (2 * i) = (ad i).1 := by
  unfold goF
  rw [if_pos (by omega), if_pos (by omega), show 2 * i / 2 = i by omega]
theorem goF_v {ad : Nat → Nat × Nat} {t0 t1 t2 b L i : Nat} {xs : Nat → Int32} (h : i < 499) : goF ad t0 t1 t2 b L xs (2 * i + 1) = (ad i).2 := by
  unfold goF
  rw [if_pos (by omega), if_neg (by omega), show (2 * i + 1) / 2 = i by omega]
theorem goF_x {ad : Nat → Nat × Nat} {t0 t1 t2 b L j : Nat} {xs : Nat → Int32} : nI (goF ad t0 t1 t2 b L xs (2000 + j)) = xs j := by
  unfold goF
  rw [if_neg (by omega), if_neg (by omega), if_neg (by omega), if_neg (by omega), if_neg (by omega), if_neg (by omega), show 2000 + j - 2000 = j by omega]
  apply Int32.toBitVec_inj.mp
  show BitVec.ofNat 32 _ = _
  rw [BitVec.ofNat_toNat, BitVec.setWidth_eq]
theorem aOver {t : FieldType} {args : Array Value} (h : (Cond.arrayClass t).before args s = true) (hp : ∀ C, t ≠ .object C) : ∃ cA, ArrOfT s cA t ∧ va_RA s cA t := by
  obtain ⟨c, k, comp, h1, h2, h3⟩ := Cond.arrayClass_spec (args := args) (first := s) (o := none) (s := s) (idx := []) h
  refine ⟨c, fun n z => ⟨fun k h => (by cases h), k, h2, comp, h3⟩, ?_⟩
  cases t <;> first | exact h1 | exact absurd rfl (hp _)
theorem cl_known {args : Array Value} (htsA : ∀ w ∈ WSA, w.before args s = true) : ∃ (dC : Nat → ClassId) (dI : Nat → Nat → Nat), ∀ (k : Nat) (q : vw_C), vwCl[k]? = some q → u_Kn s q.1 q.2.1 q.2.2 (dC k) (dI k) := by
  obtain ⟨c0, i0, k0⟩ := u_known (C := RJ0) (T := TJ0) (N := 4) (n := 4) htsA in_J0 (htsA _ wj_J0)
  obtain ⟨c1, i1, k1⟩ := u_known (C := RJ4) (T := TJ4) (N := 4) (n := 4) htsA in_J4 (htsA _ wj_J4)
  obtain ⟨c2, i2, k2⟩ := u_known (C := RJx00060) (T := TJx00060) (N := 6) (n := 6) htsA in_Jx00060 (htsA _ wj_Jx00060)
  obtain ⟨c3, i3, k3⟩ := u_known (C := RJx7c733) (T := TJx7c733) (N := 6) (n := 6) htsA in_Jx7c733 (htsA _ wj_Jx7c733)
  obtain ⟨c4, i4, k4⟩ := u_known (C := RX1) (T := TX1) (N := 2) (n := 2) htsA in_X1 (htsA _ wj_X1)
  obtain ⟨c5, i5, k5⟩ := u_known (C := RX2) (T := TX2) (N := 1) (n := 1) htsA in_X2 (htsA _ wj_X2)
  obtain ⟨c6, i6, k6⟩ := u_known (C := RX3) (T := TX3) (N := 1) (n := 1) htsA in_X3 (htsA _ wj_X3)
  obtain ⟨c7, i7, k7⟩ := u_known (C := RX4) (T := TX4) (N := 3) (n := 3) htsA in_X4 (htsA _ wj_X4)
  obtain ⟨c8, i8, k8⟩ := u_known (C := RX5) (T := TX5) (N := 8) (n := 8) htsA in_X5 (htsA _ wj_X5)
  obtain ⟨c9, i9, k9⟩ := u_known (C := RX6) (T := TX6) (N := 6) (n := 6) htsA in_X6 (htsA _ wj_X6)
  obtain ⟨c10, i10, k10⟩ := u_known (C := RX7) (T := TX7) (N := 1) (n := 1) htsA in_X7 (htsA _ wj_X7)
  obtain ⟨c11, i11, k11⟩ := u_known (C := RX8) (T := TX8) (N := 4) (n := 4) htsA in_X8 (htsA _ wj_X8)
  obtain ⟨c12, i12, k12⟩ := u_known (C := RX9) (T := TX9) (N := 7) (n := 7) htsA in_X9 (htsA _ wj_X9)
  obtain ⟨c13, i13, k13⟩ := u_known (C := RX10) (T := TX10) (N := 6) (n := 6) htsA in_X10 (htsA _ wj_X10)
  obtain ⟨c14, i14, k14⟩ := u_known (C := RX11) (T := TX11) (N := 13) (n := 13) htsA in_X11 (htsA _ wj_X11)
  refine ⟨fun k => if k = 0 then c0 else if k = 1 then c1 else if k = 2 then c2 else if k = 3 then c3 else if k = 4 then c4 else if k = 5 then c5 else if k = 6 then c6 else if k = 7 then c7 else if k = 8 then c8 else if k = 9 then c9 else if k = 10 then c10 else if k = 11 then c11 else if k = 12 then c12 else if k = 13 then c13 else c14, fun k => if k = 0 then i0 else if k = 1 then i1 else if k = 2 then i2 else if k = 3 then i3 else if k = 4 then i4 else if k = 5 then i5 else if k = 6 then i6 else if k = 7 then i7 else if k = 8 then i8 else if k = 9 then i9 else if k = 10 then i10 else if k = 11 then i11 else if k = 12 then i12 else if k = 13 then i13 else i14, ?_⟩
  intro k q hq
  match k, hq with
  | 0, hq => cases hq; exact k0
  | 1, hq => cases hq; exact k1
  | 2, hq => cases hq; exact k2
  | 3, hq => cases hq; exact k3
  | 4, hq => cases hq; exact k4
  | 5, hq => cases hq; exact k5
  | 6, hq => cases hq; exact k6
  | 7, hq => cases hq; exact k7
  | 8, hq => cases hq; exact k8
  | 9, hq => cases hq; exact k9
  | 10, hq => cases hq; exact k10
  | 11, hq => cases hq; exact k11
  | 12, hq => cases hq; exact k12
  | 13, hq => cases hq; exact k13
  | 14, hq => cases hq; exact k14
  | k + 15, hq => simp [vwCl] at hq
theorem start_K {args : Array Value} (hts : ∀ w ∈ lw_tbl, w.before args s = true) (hX : va_X b L xs s s.heap) (hb : b < s.heap.size) (hL : L ≤ 260) (hgv : (Jvm.Cond.and given_1 narrow_1).before args s = true) : ∃ γ : Gm, Kn γ s ∧ gz γ = s.heap.size ∧ go γ 1003 = b ∧ go γ 1004 = L := by
  have hf : ∀ c ∈ FN, c.before args s = true := flat_of_before _ hgv
  have htsA : ∀ w ∈ WSA, w.before args s = true := fun w h => hts w (List.mem_filter.mp h).1
  have hA : ∀ a : Nat, a < s.heap.size → ¬ (fun q : Nat => s.heap.size ≤ q) a := fun a h q => by
    have q : s.heap.size ≤ a := q
    omega
  have hN : ∀ i : Nat, ∃ q : Nat × Nat, ∀ x : String × Nat × String × List Nat, SKs[i]? = some x → (Term.string x.1 x.2.1).eval args s none [] s = some (.ref q.1) ∧ vk_R x.1 x.2.1 x.2.2.1 q.1 s ∧ va_O "java/lang/String" q.1 (fun q : Nat => s.heap.size ≤ q) s s.heap ∧ va_OF "java/lang/String" "coder" "B" (.int 0) q.1 (fun q : Nat => s.heap.size ≤ q) s s.heap ∧ va_OF "java/lang/String" "value" "[B" (.ref q.2) q.1 (fun q : Nat => s.heap.size ≤ q) s s.heap ∧ va_T .byte q.2 x.2.2.2.length (fun j => .int (nI (x.2.2.2.getD j 0))) (fun q : Nat => s.heap.size ≤ q) s s.heap := by
    intro i
    cases h : SKs[i]? with
    | none => exact ⟨(0, 0), fun x hx => by cases hx⟩
    | some y =>
      obtain ⟨a, t, g⟩ := str_at h hf hts hA
      exact ⟨(a, t), fun x hx => by cases hx; exact g⟩
  obtain ⟨ad, had⟩ := Classical.axiomOfChoice hN
  have hi57 : ∀ {i : Nat} {x : String × Nat × String × List Nat}, SKs[i]? = some x → i < 57 := fun {i x} h => by
    have := (List.getElem?_eq_some_iff.mp h).1
    rw [SKs_len] at this
    exact this
  -- the texts
  have hw : ∀ c ∈ txtW, c.before args s = true := fun c hc => hf c (fn_mem txts_ok hc)
  obtain ⟨t0, e0, T0⟩ := va_Tof (args := args) (tm := .static "PromiseDepotLaw" "TEXTS" "[Ljava/lang/String;") (ty := .object "java/lang/String") (N := 30) (f := fun j => .ref (ad (27 + j)).1) (A := fun q : Nat => s.heap.size ≤ q) (by decide) (hw _ List.mem_cons_self) (va_eqt (hw _ (List.mem_cons_of_mem _ List.mem_cons_self))) (fun j hj => by
    have h1 := hw _ (List.mem_cons_of_mem _ (List.mem_cons_of_mem _ (List.mem_map.mpr ⟨j, List.mem_range.mpr hj, rfl⟩)))
    obtain ⟨x, hx⟩ : ∃ x, SKs[27 + j]? = some x := ⟨_, List.getElem?_eq_getElem (by rw [SKs_len]; omega)⟩
    simp only [hx] at h1
    exact va_eqv h1 (had (27 + j) x hx).1) hA
  obtain ⟨t1, e1, T1⟩ := tab_at (s := s) (A := fun q : Nat => s.heap.size ≤ q) (by decide) hf tens_ok hA
  obtain ⟨t2, e2, T2⟩ := tab_at (s := s) (A := fun q : Nat => s.heap.size ≤ q) (by decide) hf ones_ok hA
  obtain ⟨dC, dI, hKc⟩ := cl_known htsA
  obtain ⟨cI, rI⟩ := aOver (htsA _ wa_int) (fun C h => by cases h)
  obtain ⟨cB, rB⟩ := aOver (htsA _ wa_byte) (fun C h => by cases h)
  have hover : (Cond.arrayOver (.object "PromiseDepot$Stock")).before args s = true := hts _ (List.mem_of_getElem? (i := 251) (by decide +kernel))
  obtain ⟨comp, cQ, kQ, f1, -, f3, f4, f5⟩ := Cond.arrayOver_spec (args := args) (first := s) (o := none) (s := s) (idx := []) hover
  have rQ : ArrOfT s cQ (.object "PromiseDepot$Stock") ∧ va_RA s cQ (.object "PromiseDepot$Stock") := ⟨fun n z => ⟨fun k h => (by cases h), kQ, f3, comp, f4⟩, kQ, comp, f3, f4, f1, f5⟩
  have cell : ∀ (i : Nat) {w : Cond}, FN[i]? = some w → w.before args s = true := fun i w h => hf w (List.mem_of_getElem? h)
  have word : ∀ (i : Nat) {w : Cond}, lw_tbl[i]? = some w → w.before args s = true := fun i w h => hts w (List.mem_of_getElem? h)
  refine ⟨((dC, dI), (cI, cB, cQ), s.heap.size, goF ad t0 t1 t2 b L xs), ⟨⟨hKc, fun k q hq => ?_⟩, Nat.le_refl _, fun w hw => ?_, fun q hq => ?_, fun i q hq => ?_, va_AO.of hover, ?_, ?_, ?_⟩, rfl, rfl, rfl⟩
  · match k, hq with
    | 0, hq => cases hq; exact rI
    | 1, hq => cases hq; exact rB
    | 2, hq => cases hq; exact rQ
    | k + 3, hq => simp [tysOf] at hq
  · obtain ⟨h1, h2⟩ := List.mem_filter.mp hw
    have h3 := hts w h1
    cases w <;> simp only [isB, Bool.false_eq_true] at h2
    all_goals exact va_Nw.of rfl h3
  · obtain ⟨i, hi, ei⟩ := List.mem_iff_getElem.mp hq
    have hi40 : i < 40 := by rw [← NCl_len]; exact hi
    have ok := ncOk_all i hi40
    unfold ncOk at ok
    rw [List.getElem?_eq_getElem hi, ei] at ok
    exact va_Nc.of (cell _ (of_decide_eq_true ok))
  · show vk_R q.1 q.2.1 q.2.2.1 (goF ad t0 t1 t2 b L xs (2 * i)) s
    rw [goF_k (by have := hi57 hq; omega)]
    exact (had i q hq).2.1
  · exact vx_Zqof (args := args) (word 592 (by decide +kernel)) (word 47 (by decide +kernel)) (cell 5 (by decide +kernel)) hA
  · exact vx_Zqof (args := args) (word 594 (by decide +kernel)) (word 47 (by decide +kernel)) (cell 6 (by decide +kernel)) hA
  · refine ⟨fun i q hq => ?_, va_Zof (args := args) (word 355 (by decide +kernel)) (word 45 (by decide +kernel)) (va_eqi (cell 4 (by decide +kernel))) hA, va_Zof (args := args) (word 1075 (by decide +kernel)) (word 31 (by decide +kernel)) e0 hA, ?_, va_Zof (args := args) (word 1280 (by decide +kernel)) (word 58 (by decide +kernel)) e1 hA, T1, va_Zof (args := args) (word 1278 (by decide +kernel)) (word 58 (by decide +kernel)) e2 hA, T2, va_Zqof (args := args) (word 874 (by decide +kernel)) (word 63 (by decide +kernel)) (cell 7 (by decide +kernel)) hA, ?_⟩
    · have h57 := hi57 hq
      obtain ⟨-, -, g1, g2, g3, g4⟩ := had i q hq
      show va_O "java/lang/String" (goF ad t0 t1 t2 b L xs (2 * i)) _ s s.heap ∧ va_OF "java/lang/String" "coder" "B" (.int 0) (goF ad t0 t1 t2 b L xs (2 * i)) _ s s.heap ∧ va_OF "java/lang/String" "value" "[B" (.ref (goF ad t0 t1 t2 b L xs (2 * i + 1))) (goF ad t0 t1 t2 b L xs (2 * i)) _ s s.heap ∧ va_T .byte (goF ad t0 t1 t2 b L xs (2 * i + 1)) q.2.2.2.length _ _ s s.heap
      rw [goF_k (by omega), goF_v (by omega)]
      exact ⟨g1, g2, g3, g4⟩
    · obtain ⟨cell, h1, h2, h3, h4, h5, h6, h7⟩ := T0
      exact ⟨cell, h1, h2, h3, h4, h5, fun j hj => by
        show cell.slots[j]? = some (.ref (goF ad t0 t1 t2 b L xs (2 * (27 + j))))
        rw [goF_k (by omega)]
        exact h6 j hj, h7⟩
    · obtain ⟨scr, h1, h2, h3, h4, h5⟩ := hX
      refine ⟨scr, h1, h2, h3, Nat.le_of_eq h4.symm, ?_, fun j hj => ?_, hA b hb⟩
      · show scr.slots.size.toInt32 = Int32.ofNat L
        rw [h4]
      · show scr.slots[j]? = some (.int (nI (goF ad t0 t1 t2 b L xs (2000 + j))))
        rw [goF_x]
        exact h5 j hj
end StK