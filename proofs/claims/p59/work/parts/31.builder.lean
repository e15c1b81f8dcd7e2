/-! the output line: a StringBuilder of Latin-1 letters at the place 307; q its bytes, cap how many, cnt how many are used -/
def Rc (γ : Gm) (v : Vs) (H : Heap) : Prop := (∀ (k : Nat) (x : Sh), shape k = some x → va_at γ.1 vwCl (gz γ + k, shE γ v k x) H) ∧ va_at γ.1 vwCl (gz γ + 80, .inl (γ.2.1.2.2, 8, .inr (.inr (.inr (.inr (fun j => some (gz γ + (81 + 26 * j)))))))) H
theorem Rc.keep {γ : Gm} {v : Vs} {H H' : Heap} (h : Rc γ v H) (hq : ∀ a : Nat, a < gz γ + 307 → H'[a]? = H[a]?) : Rc γ v H' := by
  refine ⟨fun k x hk => (h.1 k x hk).kept (hq _ (by have := (shape_lt hk).1; show gz γ + k < _; omega)), h.2.kept (hq _ (by show gz γ + 80 < _; omega))⟩
def Bq (γ : Gm) (v : Vs) (q cap cnt : Nat) (ml : Int32) (f : Nat → Int32) (H : Heap) : Prop := Rc γ v H ∧ va_at γ.1 vwCl (gz γ + 307, .inr (1, [.ref q, .int 0, .int ml, .int (nI cnt)])) H ∧ va_at γ.1 vwCl (q, .inl (γ.2.1.2.1, cap, .inl f)) H ∧ gz γ + 308 ≤ q ∧ sb_Fit f
theorem Rp.bq {γ : Gm} {v : Vs} {H : Heap} (h : Rp γ v H) : ∃ (q cap cnt : Nat) (ml : Int32) (f : Nat → Int32), ((cap = 16 ∨ cap = 34) ∧ cnt ≤ cap) ∧ Bq γ v q cap cnt ml f H := by
  obtain ⟨q, cap, cnt, ml, f, h1, h2, h3, h4, h5, h6⟩ := h.2.2
  exact ⟨q, cap, cnt, ml, f, ⟨h4, h5⟩, ⟨h.1, h.2.1⟩, h1, h2, h3, h6⟩
theorem Bq.rp {γ : Gm} {v : Vs} {q cap cnt : Nat} {ml : Int32} {f : Nat → Int32} {H : Heap} (h : Bq γ v q cap cnt ml f H) (hc : cap = 16 ∨ cap = 34) (hn : cnt ≤ cap) : Rp γ v H :=
  ⟨h.1.1, h.1.2, q, cap, cnt, ml, f, h.2.1, h.2.2.1, h.2.2.2.1, hc, hn, h.2.2.2.2⟩
section JB
variable {γ : Gm} {μ : Mu} {R : Room} {Q : Fin_} {k n pc : Nat} {L : List (Option Value)} {rest : List Value} {v : Vs} {q cap cnt : Nat} {ml : Int32} {f : Nat → Int32}
theorem bq_isa : Isa γ sbC (gz γ + 307) (Bq γ v q cap cnt ml f) := Isa.of (T := TJ4) (N := 4) (ci := 1) rfl (fun H h => h.2.1)
theorem J.bV {own : String} {index : Nat} (hown : μ.1 = own) (w : Cond.fieldLink own index "java/lang/AbstractStringBuilder" "value" "[B" ∈ WSA) (d : decode μ.2.1 pc = .ok (.getfield index, 3)) (kk : J γ μ R Q k n (pc + 3) L (.ref q :: rest) (Bq γ v q cap cnt ml f)) : J γ μ R Q k n pc L (.ref (gz γ + 307) :: rest) (Bq γ v q cap cnt ml f) :=
  J.getf (T := TJ4) (ci := 1) hown rfl in_J4 0 (by decide) w d (fun H h => h.2.1) rfl kk
theorem J.bC {own : String} {index : Nat} (hown : μ.1 = own) (w : Cond.fieldLink own index "java/lang/AbstractStringBuilder" "coder" "B" ∈ WSA) (d : decode μ.2.1 pc = .ok (.getfield index, 3)) (kk : J γ μ R Q k n (pc + 3) L (.int 0 :: rest) (Bq γ v q cap cnt ml f)) : J γ μ R Q k n pc L (.ref (gz γ + 307) :: rest) (Bq γ v q cap cnt ml f) :=
  J.getf (T := TJ4) (ci := 1) hown rfl in_J4 1 (by decide) w d (fun H h => h.2.1) rfl kk
theorem J.bN {own : String} {index : Nat} (hown : μ.1 = own) (w : Cond.fieldLink own index "java/lang/AbstractStringBuilder" "count" "I" ∈ WSA) (d : decode μ.2.1 pc = .ok (.getfield index, 3)) (kk : J γ μ R Q k n (pc + 3) L (.int (nI cnt) :: rest) (Bq γ v q cap cnt ml f)) : J γ μ R Q k n pc L (.ref (gz γ + 307) :: rest) (Bq γ v q cap cnt ml f) :=
  J.getf (T := TJ4) (ci := 1) hown rfl in_J4 3 (by decide) w d (fun H h => h.2.1) rfl kk
theorem Bq.put {H H' : Heap} {fs : List Value} {q' cap' cnt' : Nat} {ml' : Int32} {f' : Nat → Int32} (h : Bq γ v q cap cnt ml f H) (hat : va_at γ.1 vwCl (gz γ + 307, .inr (1, fs)) H') (hfs : fs = [.ref q', .int 0, .int ml', .int (nI cnt')]) (hq : ∀ a : Nat, a ≠ gz γ + 307 → H'[a]? = H[a]?) (hA : va_at γ.1 vwCl (q', .inl (γ.2.1.2.1, cap', .inl f')) H) (hge : gz γ + 308 ≤ q') (hf : sb_Fit f') : Bq γ v q' cap' cnt' ml' f' H' := by
  subst hfs
  exact ⟨h.1.keep (fun a ha => hq a (by omega)), hat, hA.kept (hq _ (by show q' ≠ _; omega)), hge, hf⟩
theorem J.bpN {own : String} {index c' : Nat} (hown : μ.1 = own) (w : Cond.fieldLink own index "java/lang/AbstractStringBuilder" "count" "I" ∈ WSA) (d : decode μ.2.1 pc = .ok (.putfield index, 3)) (kk : J γ μ R Q k n (pc + 3) L rest (Bq γ v q cap c' ml f)) : J γ μ R Q k n pc L (.int (nI c') :: .ref (gz γ + 307) :: rest) (Bq γ v q cap cnt ml f) :=
  J.putf (T := TJ4) (ci := 1) (ty0 := tyJ4) hown rfl in_J4 tyJ4_ok nmJ4 3 (by decide) w d rfl rfl rfl (Nat.le_add_right _ _) (fun H h => h.2.1) (by simp) (fun H H' h hat _ hq => h.put hat rfl hq h.2.2.1 h.2.2.2.1 h.2.2.2.2) kk
theorem J.bpM {own : String} {index : Nat} (hown : μ.1 = own) (w : Cond.fieldLink own index "java/lang/AbstractStringBuilder" "maybeLatin1" "Z" ∈ WSA) (d : decode μ.2.1 pc = .ok (.putfield index, 3)) (kk : J γ μ R Q k n (pc + 3) L rest (Bq γ v q cap cnt 1 f)) : J γ μ R Q k n pc L (.int 1 :: .ref (gz γ + 307) :: rest) (Bq γ v q cap cnt ml f) :=
  J.putf (T := TJ4) (ci := 1) (ty0 := tyJ4) hown rfl in_J4 tyJ4_ok nmJ4 2 (by decide) w d rfl rfl rfl (Nat.le_add_right _ _) (fun H h => h.2.1) (by simp) (fun H H' h hat _ hq => h.put hat rfl hq h.2.2.1 h.2.2.2.1 h.2.2.2.2) kk
theorem J.bpV {own : String} {index q' cap' : Nat} {f' : Nat → Int32} (hown : μ.1 = own) (w : Cond.fieldLink own index "java/lang/AbstractStringBuilder" "value" "[B" ∈ WSA) (d : decode μ.2.1 pc = .ok (.putfield index, 3)) (hge : gz γ + 308 ≤ q') (hf : sb_Fit f') (kk : J γ μ R Q k n (pc + 3) L rest (Bq γ v q' cap' cnt ml f')) : J γ μ R Q k n pc L (.ref q' :: .ref (gz γ + 307) :: rest) (fun H => Bq γ v q cap cnt ml f H ∧ va_at γ.1 vwCl (q', .inl (γ.2.1.2.1, cap', .inl f')) H) :=
  J.putf (T := TJ4) (ci := 1) (ty0 := tyJ4) hown rfl in_J4 tyJ4_ok nmJ4 0 (by decide) w d rfl rfl rfl (Nat.le_add_right _ _) (fun H h => h.1.2.1) (by simp) (fun H H' h hat _ hq => h.1.put hat rfl hq h.2 hge hf) kk
theorem J.bal (d : decode μ.2.1 pc = .ok (.arraylength, 1)) (kk : J γ μ R Q k n (pc + 1) L (.int (nI cap) :: rest) (Bq γ v q cap cnt ml f)) : J γ μ R Q k n pc L (.ref q :: rest) (Bq γ v q cap cnt ml f) := J.alenB d (fun H h => h.2.2.1) rfl kk
theorem by_fit : ∀ c, c < 128 → fits .byte (.int (vp_nar .byte (nI c))) = true := by decide +kernel
theorem J.bst {i : Nat} {x : Int32} (d : decode μ.2.1 pc = .ok (.bastore, 1)) (hi : i < cap) (hcap : cap ≤ 1000) (hx : fits .byte (.int (vp_nar .byte x)) = true) (kk : ∀ f', J γ μ R Q k n (pc + 1) L rest (Bq γ v q cap cnt ml f')) : J γ μ R Q k n pc L (.int x :: .int (nI i) :: .ref q :: rest) (Bq γ v q cap cnt ml f) :=
  fun p l e s m args below meth c0 B H locs ls hL hP hS =>
    J.bast (P' := Bq γ v q cap cnt ml (upd f (nI i).toNatClampNeg (vp_nar .byte x))) d (fun H h => h.2.2.1) (vp_in_nI hi (by omega)) (by have := hP.2.2.2.1; omega) (fun H H' h hat _ hq => ⟨h.1.keep (fun a ha => hq a (by have := h.2.2.2.1; omega)), h.2.1.kept (hq _ (by have := h.2.2.2.1; show gz γ + 307 ≠ q; omega)), hat, h.2.2.2.1, sb_fitU h.2.2.2.2 hx⟩) (kk _) p l e s m args below meth c0 B H locs ls hL hP hS
end JB

theorem s_J5_isLatin1 {γ : Gm} {v : Vs} {q cap cnt : Nat} {ml : Int32} {f : Nat → Int32} : Ep γ mJ5_isLatin1_aae02 yJ5_isLatin1_aae02 0 [.ref (gz γ + 307)] (Bq γ v q cap cnt ml f) (some (.int 1)) := by
  refine Ev.ofJ (by decide) rfl (fun h => by cases h) (Nat.le_of_ble_eq_true rfl) ?_
  refine J.getZ (μ := mJ5_isLatin1_aae02) (pc := 0) (fun s hK => hK.ko.2.1) rfl wf_J5_18 dJ5_isLatin1_aae02_0 ?_
  refine J.if_eq (μ := mJ5_isLatin1_aae02) (pc := 3) 17 dJ5_isLatin1_aae02_3 (by decide) (fun h => absurd h (by decide)) (fun _ => ?_)
  refine J.aload_n (μ := mJ5_isLatin1_aae02) (pc := 6) dJ5_isLatin1_aae02_6 rfl ?_
  refine J.bC (μ := mJ5_isLatin1_aae02) (pc := 7) rfl wf_J5_22 dJ5_isLatin1_aae02_7 ?_
  refine J.if_ne (μ := mJ5_isLatin1_aae02) (pc := 10) 17 dJ5_isLatin1_aae02_10 (by decide) (fun h => absurd h (by decide)) (fun _ => ?_)
  refine J.iconst (μ := mJ5_isLatin1_aae02) (pc := 13) (v := 1) dJ5_isLatin1_aae02_13 (by decide) ?_
  refine J.goto (μ := mJ5_isLatin1_aae02) (pc := 14) 18 dJ5_isLatin1_aae02_14 (by decide) ?_
  exact J.zret (μ := mJ5_isLatin1_aae02) (pc := 18) dJ5_isLatin1_aae02_18 rfl rfl (Nat.le_of_ble_eq_true rfl) (Nat.le_of_ble_eq_true rfl) (fun H h => ⟨rfl, h⟩)
theorem c_sub : ∀ a, a < 60 → ∀ b, b < 60 → ((nI a - nI b ≤ 0) ↔ a ≤ b) := by decide +kernel
theorem s_J5_ensure0 {γ : Gm} {v : Vs} {q cap cnt : Nat} {ml : Int32} {f : Nat → Int32} {m : Nat} (hm : m ≤ cap) (hc : cap < 60) : Ep γ mJ5_ensureCapacityInternal_d00df yJ5_ensureCapacityInternal_d00df 3 [.ref (gz γ + 307), .int (nI m)] (Bq γ v q cap cnt ml f) none := by
  refine Ev.ofJ (by decide) rfl (fun h => by cases h) (Nat.le_of_ble_eq_true rfl) ?_
  refine J.aload_n (μ := mJ5_ensureCapacityInternal_d00df) (pc := 0) dJ5_ensureCapacityInternal_d00df_0 rfl ?_
  refine J.bV (μ := mJ5_ensureCapacityInternal_d00df) (pc := 1) rfl wf_J5_15 dJ5_ensureCapacityInternal_d00df_1 ?_
  refine J.bal (μ := mJ5_ensureCapacityInternal_d00df) (pc := 4) dJ5_ensureCapacityInternal_d00df_4 ?_
  refine J.aload_n (μ := mJ5_ensureCapacityInternal_d00df) (pc := 5) dJ5_ensureCapacityInternal_d00df_5 rfl ?_
  refine J.bC (μ := mJ5_ensureCapacityInternal_d00df) (pc := 6) rfl wf_J5_22 dJ5_ensureCapacityInternal_d00df_6 ?_
  refine J.ishr (μ := mJ5_ensureCapacityInternal_d00df) (pc := 9) dJ5_ensureCapacityInternal_d00df_9 ?_
  rw [sb_shr0]
  refine J.istore_n (μ := mJ5_ensureCapacityInternal_d00df) (pc := 10) dJ5_ensureCapacityInternal_d00df_10 (Nat.le_of_ble_eq_true rfl) rfl ?_
  refine J.iload_n (μ := mJ5_ensureCapacityInternal_d00df) (pc := 11) dJ5_ensureCapacityInternal_d00df_11 rfl ?_
  refine J.iload_n (μ := mJ5_ensureCapacityInternal_d00df) (pc := 12) dJ5_ensureCapacityInternal_d00df_12 rfl ?_
  refine J.isub (μ := mJ5_ensureCapacityInternal_d00df) (pc := 13) dJ5_ensureCapacityInternal_d00df_13 ?_
  refine J.if_le (μ := mJ5_ensureCapacityInternal_d00df) (pc := 14) 38 dJ5_ensureCapacityInternal_d00df_14 (by decide) (fun h1 => ?_) (fun h1 => ?_)
  · exact J.vret (μ := mJ5_ensureCapacityInternal_d00df) (pc := 38) dJ5_ensureCapacityInternal_d00df_38 rfl (Nat.le_of_ble_eq_true rfl) (Nat.le_of_ble_eq_true rfl) (fun H h => ⟨rfl, h⟩)
  · exact absurd ((c_sub m (by omega) cap hc).mpr hm) (Int32.not_le.mpr h1)
theorem c_new : ∀ m, m < 35 → 16 < m → nI m <<< ((0 : Int32) &&& 31) = nI m ∧ nI m - nI 16 = nI (m - 16) ∧ (if nI (m - 16) < nI 16 + (2 <<< ((0 : Int32) &&& 31)) then nI 16 + (2 <<< ((0 : Int32) &&& 31)) else nI (m - 16)) = nI 18 := by decide +kernel
theorem s_J8_newLength {γ : Gm} {P : Heap → Prop} {m : Nat} (h1 : 16 < m) (h2 : m < 35) : Ep γ mJ8_newLength_cabcc yJ8_newLength_cabcc 1 [.int (nI 16), .int (nI (m - 16)), .int (nI 16 + (2 <<< ((0 : Int32) &&& 31)))] P (some (.int (nI 34))) := by
  refine Ev.ofJ (by decide) rfl (fun h => by cases h) (Nat.le_of_ble_eq_true rfl) ?_
  refine J.iload_n (μ := mJ8_newLength_cabcc) (pc := 0) dJ8_newLength_cabcc_0 rfl ?_
  refine J.iload_n (μ := mJ8_newLength_cabcc) (pc := 1) dJ8_newLength_cabcc_1 rfl ?_
  refine J.iload_n (μ := mJ8_newLength_cabcc) (pc := 2) dJ8_newLength_cabcc_2 rfl ?_
  refine J.mmax (μ := mJ8_newLength_cabcc) (pc := 3) rfl wm_J8_194 dJ8_newLength_cabcc_3 ⟨(Nat.le_of_ble_eq_true rfl), (Nat.le_of_ble_eq_true rfl)⟩ ⟨(Nat.le_of_ble_eq_true rfl), (Nat.le_of_ble_eq_true rfl)⟩ ?_
  rw [(c_new m h2 h1).2.2]
  refine J.iadd (μ := mJ8_newLength_cabcc) (pc := 6) dJ8_newLength_cabcc_6 ?_
  refine J.istore_n (μ := mJ8_newLength_cabcc) (pc := 7) dJ8_newLength_cabcc_7 (Nat.le_of_ble_eq_true rfl) rfl ?_
  refine J.iconst (μ := mJ8_newLength_cabcc) (pc := 8) (v := 0) dJ8_newLength_cabcc_8 (by decide) ?_
  refine J.iload_n (μ := mJ8_newLength_cabcc) (pc := 9) dJ8_newLength_cabcc_9 rfl ?_
  refine J.icmp_ge (μ := mJ8_newLength_cabcc) (pc := 10) 21 dJ8_newLength_cabcc_10 (by decide) (fun h3 => ?_) (fun h3 => ?_)
  · exact absurd h3 (by decide)
  · refine J.iload_n (μ := mJ8_newLength_cabcc) (pc := 13) dJ8_newLength_cabcc_13 rfl ?_
    refine J.ldc (μ := mJ8_newLength_cabcc) (pc := 14) rfl wo_J8_200 dJ8_newLength_cabcc_14 ?_
    refine J.icmp_gt (μ := mJ8_newLength_cabcc) (pc := 16) 21 dJ8_newLength_cabcc_16 (by decide) (fun h4 => ?_) (fun h4 => ?_)
    · exact absurd h4 (by decide)
    · refine J.iload_n (μ := mJ8_newLength_cabcc) (pc := 19) dJ8_newLength_cabcc_19 rfl ?_
      exact J.iret (μ := mJ8_newLength_cabcc) (pc := 20) dJ8_newLength_cabcc_20 rfl (Nat.le_of_ble_eq_true rfl) (Nat.le_of_ble_eq_true rfl) (fun H h => ⟨rfl, h⟩)
theorem s_J5_newCapacity {γ : Gm} {v : Vs} {q cnt : Nat} {ml : Int32} {f : Nat → Int32} {m : Nat} (h1 : 16 < m) (h2 : m < 35) : Ep γ mJ5_newCapacity_0f7a4 yJ5_newCapacity_0f7a4 2 [.ref (gz γ + 307), .int (nI m)] (Bq γ v q 16 cnt ml f) (some (.int (nI 34))) := by
  refine Ev.ofJ (by decide) rfl (fun h => by cases h) (Nat.le_of_ble_eq_true rfl) ?_
  refine J.aload_n (μ := mJ5_newCapacity_0f7a4) (pc := 0) dJ5_newCapacity_0f7a4_0 rfl ?_
  refine J.bV (μ := mJ5_newCapacity_0f7a4) (pc := 1) rfl wf_J5_15 dJ5_newCapacity_0f7a4_1 ?_
  refine J.bal (μ := mJ5_newCapacity_0f7a4) (pc := 4) dJ5_newCapacity_0f7a4_4 ?_
  refine J.istore_n (μ := mJ5_newCapacity_0f7a4) (pc := 5) dJ5_newCapacity_0f7a4_5 (Nat.le_of_ble_eq_true rfl) rfl ?_
  refine J.iload_n (μ := mJ5_newCapacity_0f7a4) (pc := 6) dJ5_newCapacity_0f7a4_6 rfl ?_
  refine J.aload_n (μ := mJ5_newCapacity_0f7a4) (pc := 7) dJ5_newCapacity_0f7a4_7 rfl ?_
  refine J.bC (μ := mJ5_newCapacity_0f7a4) (pc := 8) rfl wf_J5_22 dJ5_newCapacity_0f7a4_8 ?_
  refine J.ishl (μ := mJ5_newCapacity_0f7a4) (pc := 11) dJ5_newCapacity_0f7a4_11 ?_
  rw [(c_new m h2 h1).1]
  refine J.istore_n (μ := mJ5_newCapacity_0f7a4) (pc := 12) dJ5_newCapacity_0f7a4_12 (Nat.le_of_ble_eq_true rfl) rfl ?_
  refine J.iload_n (μ := mJ5_newCapacity_0f7a4) (pc := 13) dJ5_newCapacity_0f7a4_13 rfl ?_
  refine J.iload_n (μ := mJ5_newCapacity_0f7a4) (pc := 14) dJ5_newCapacity_0f7a4_14 rfl ?_
  refine J.isub (μ := mJ5_newCapacity_0f7a4) (pc := 15) dJ5_newCapacity_0f7a4_15 ?_
  rw [(c_new m h2 h1).2.1]
  refine J.istore (μ := mJ5_newCapacity_0f7a4) (pc := 16) dJ5_newCapacity_0f7a4_16 (Nat.le_of_ble_eq_true rfl) rfl ?_
  refine J.iload_n (μ := mJ5_newCapacity_0f7a4) (pc := 18) dJ5_newCapacity_0f7a4_18 rfl ?_
  refine J.iload (μ := mJ5_newCapacity_0f7a4) (pc := 19) dJ5_newCapacity_0f7a4_19 rfl ?_
  refine J.iload_n (μ := mJ5_newCapacity_0f7a4) (pc := 21) dJ5_newCapacity_0f7a4_21 rfl ?_
  refine J.iconst (μ := mJ5_newCapacity_0f7a4) (pc := 22) (v := 2) dJ5_newCapacity_0f7a4_22 (by decide) ?_
  refine J.aload_n (μ := mJ5_newCapacity_0f7a4) (pc := 23) dJ5_newCapacity_0f7a4_23 rfl ?_
  refine J.bC (μ := mJ5_newCapacity_0f7a4) (pc := 24) rfl wf_J5_22 dJ5_newCapacity_0f7a4_24 ?_
  refine J.ishl (μ := mJ5_newCapacity_0f7a4) (pc := 27) dJ5_newCapacity_0f7a4_27 ?_
  refine J.iadd (μ := mJ5_newCapacity_0f7a4) (pc := 28) dJ5_newCapacity_0f7a4_28 ?_
  refine J.cS (μ := mJ5_newCapacity_0f7a4) (pc := 29) (s_J8_newLength h1 h2) rfl wm_J5_114 mi_J8_newLength_cabcc rfl dJ5_newCapacity_0f7a4_29 rfl rfl ⟨(Nat.le_of_ble_eq_true rfl), (Nat.le_of_ble_eq_true rfl)⟩ ⟨(Nat.le_of_ble_eq_true rfl), (Nat.le_of_ble_eq_true rfl)⟩ (Nat.le_of_ble_eq_true rfl) ?_
  refine J.istore (μ := mJ5_newCapacity_0f7a4) (pc := 32) dJ5_newCapacity_0f7a4_32 (Nat.le_of_ble_eq_true rfl) rfl ?_
  refine J.iload (μ := mJ5_newCapacity_0f7a4) (pc := 34) dJ5_newCapacity_0f7a4_34 rfl ?_
  refine J.ldc (μ := mJ5_newCapacity_0f7a4) (pc := 36) rfl wo_J5_39 dJ5_newCapacity_0f7a4_36 ?_
  refine J.icmp_ne (μ := mJ5_newCapacity_0f7a4) (pc := 38) 51 dJ5_newCapacity_0f7a4_38 (by decide) (fun h3 => ?_) (fun h3 => ?_)
  · refine J.iload (μ := mJ5_newCapacity_0f7a4) (pc := 51) dJ5_newCapacity_0f7a4_51 rfl ?_
    refine J.aload_n (μ := mJ5_newCapacity_0f7a4) (pc := 53) dJ5_newCapacity_0f7a4_53 rfl ?_
    refine J.bC (μ := mJ5_newCapacity_0f7a4) (pc := 54) rfl wf_J5_22 dJ5_newCapacity_0f7a4_54 ?_
    refine J.ishr (μ := mJ5_newCapacity_0f7a4) (pc := 57) dJ5_newCapacity_0f7a4_57 ?_
    rw [sb_shr0]
    exact J.iret (μ := mJ5_newCapacity_0f7a4) (pc := 58) dJ5_newCapacity_0f7a4_58 rfl (Nat.le_of_ble_eq_true rfl) (Nat.le_of_ble_eq_true rfl) (fun H h => ⟨rfl, h⟩)
  · exact absurd h3 (by decide)
theorem s_J7_copyOf {γ : Gm} {v : Vs} {q cnt : Nat} {ml : Int32} {f : Nat → Int32} : Ev γ mJ7_copyOf_9075b yJ7_copyOf_9075b 1 1 34 [.ref q, .int (nI 34)] (Bq γ v q 16 cnt ml f) (fun w H => ∃ q' g, w = some (.ref q') ∧ (gz γ + 308 ≤ q' ∧ sb_Fit g) ∧ Bq γ v q 16 cnt ml f H ∧ va_at γ.1 vwCl (q', .inl (γ.2.1.2.1, 34, .inl g)) H) := by
  refine Ev.ofJ (by decide) rfl (fun h => by cases h) (Nat.le_of_ble_eq_true rfl) ?_
  refine J.iload_n (μ := mJ7_copyOf_9075b) (pc := 0) dJ7_copyOf_9075b_0 rfl ?_
  refine J.aload_n (μ := mJ7_copyOf_9075b) (pc := 1) dJ7_copyOf_9075b_1 rfl ?_
  refine J.bal (μ := mJ7_copyOf_9075b) (pc := 2) dJ7_copyOf_9075b_2 ?_
  refine J.icmp_ne (μ := mJ7_copyOf_9075b) (pc := 3) 14 dJ7_copyOf_9075b_3 (by decide) (fun h1 => ?_) (fun h1 => ?_)
  · refine J.iload_n (μ := mJ7_copyOf_9075b) (pc := 14) dJ7_copyOf_9075b_14 rfl ?_
    refine J.newB (μ := mJ7_copyOf_9075b) (pc := 15) (len := 34) dJ7_copyOf_9075b_15 rfl (by decide) (Nat.le_of_ble_eq_true rfl) (Nat.le_of_ble_eq_true rfl) (fun q' => ?_)
    refine J.of (P' := fun H => (gz γ + 308 ≤ q' ∧ sb_Fit f) ∧ Bq γ v q 16 cnt ml f H ∧ va_at γ.1 vwCl (q', .inl (γ.2.1.2.1, 34, .inl (fun _ => 0))) H) (fun H' h => ?_) (J.and fun hq' => ?_)
    · obtain ⟨H, hP, hge, hsz, hk, hat⟩ := h
      have l1 : gz γ + 307 < H.size := hP.2.1.lt
      refine ⟨⟨by omega, hP.2.2.2.2⟩, ⟨hP.1.keep (fun a ha => hk a (by omega)), hP.2.1.kept (hk _ l1), hP.2.2.1.kept (hk _ hP.2.2.1.lt), hP.2.2.2.1, hP.2.2.2.2⟩, hat⟩
    · refine J.astore_n (μ := mJ7_copyOf_9075b) (pc := 17) dJ7_copyOf_9075b_17 (Nat.le_of_ble_eq_true rfl) rfl ?_
      refine J.aload_n (μ := mJ7_copyOf_9075b) (pc := 18) dJ7_copyOf_9075b_18 rfl ?_
      refine J.iconst (μ := mJ7_copyOf_9075b) (pc := 19) (v := 0) dJ7_copyOf_9075b_19 (by decide) ?_
      refine J.aload_n (μ := mJ7_copyOf_9075b) (pc := 20) dJ7_copyOf_9075b_20 rfl ?_
      refine J.iconst (μ := mJ7_copyOf_9075b) (pc := 21) (v := 0) dJ7_copyOf_9075b_21 (by decide) ?_
      refine J.aload_n (μ := mJ7_copyOf_9075b) (pc := 22) dJ7_copyOf_9075b_22 rfl ?_
      refine J.alenB (μ := mJ7_copyOf_9075b) (pc := 23) (v := nI 16) dJ7_copyOf_9075b_23 (fun H h => h.1.2.2.1) rfl ?_
      refine J.iload_n (μ := mJ7_copyOf_9075b) (pc := 24) dJ7_copyOf_9075b_24 rfl ?_
      refine J.mmin (μ := mJ7_copyOf_9075b) (pc := 25) rfl wm_J7_304 dJ7_copyOf_9075b_25 ⟨(Nat.le_of_ble_eq_true rfl), (Nat.le_of_ble_eq_true rfl)⟩ ⟨(Nat.le_of_ble_eq_true rfl), (Nat.le_of_ble_eq_true rfl)⟩ ?_
      rw [show (if nI 34 < nI 16 then nI 34 else nI 16) = nI 16 by decide +kernel]
      refine J.copy (μ := mJ7_copyOf_9075b) (pc := 28) (n0 := 16) (n1 := 34) (f := f) (g := fun _ => 0) 1 rfl rfl rfl wm_J7_150 wv_Ejava_lang_System_arraycopy__Ljava_lang_Object_ILjava_lang_Object_II_V wt_Ejava_lang_System_arraycopy__Ljava_lang_Object_ILjava_lang_Object_II_V wn_J10 dJ7_copyOf_9075b_28 (by decide) (by decide) (by decide) (by decide) (by decide) (fun i _ => hq'.2 _) (fun H h => h.1.2.2.1) (fun H h => h.2) (by omega) (Nat.le_of_ble_eq_true rfl) (Nat.le_of_ble_eq_true rfl) (P' := fun H => Bq γ v q 16 cnt ml f H ∧ va_at γ.1 vwCl (q', .inl (γ.2.1.2.1, 34, .inl (va_cpy f (fun _ => 0) (0 : Int32).toNatClampNeg (0 : Int32).toNatClampNeg (nI 16).toNatClampNeg))) H) ?_ ?_
      · intro H H' hP hat hz hk
        have hne : q ≠ q' := by
          intro e
          subst e
          obtain ⟨r1, e1⟩ : ∃ c1, H[q]? = some (vp_cell c1 (16, .inl f)) := ⟨_, hP.1.2.2.1⟩
          have e2 : H[q]? = some (vp_cell γ.2.1.2.1 (34, .inl (fun _ => 0))) := hP.2
          rw [e2] at e1
          have e3 := congrArg (fun c : Option Cell => (c.map (fun x => x.slots.size)).getD 0) e1
          simp [vp_cell_i, arrV_size] at e3
        exact ⟨⟨hP.1.1.keep (fun a ha => hk a (by omega)), hP.1.2.1.kept (hk _ (by show gz γ + 307 ≠ q'; omega)), hP.1.2.2.1.kept (hk _ hne), hP.1.2.2.2.1, hP.1.2.2.2.2⟩, hat⟩
      · refine J.aload_n (μ := mJ7_copyOf_9075b) (pc := 31) dJ7_copyOf_9075b_31 rfl ?_
        exact J.aretO (μ := mJ7_copyOf_9075b) (pc := 32) dJ7_copyOf_9075b_32 rfl (.inr ⟨_, rfl⟩) (Nat.le_of_ble_eq_true rfl) (Nat.le_of_ble_eq_true rfl) (fun H h => ⟨q', _, rfl, ⟨hq'.1, sb_fitC hq'.2 sb_fit0⟩, h⟩)
  · exact absurd h1 (by decide)
theorem s_J5_ensure1 {γ : Gm} {v : Vs} {q cnt : Nat} {ml : Int32} {f : Nat → Int32} {m : Nat} (h1 : 16 < m) (h2 : m < 35) : Ev γ mJ5_ensureCapacityInternal_d00df yJ5_ensureCapacityInternal_d00df 3 1 34 [.ref (gz γ + 307), .int (nI m)] (Bq γ v q 16 cnt ml f) (fun w H => w = none ∧ ∃ q' g, Bq γ v q' 34 cnt ml g H) := by
  refine Ev.ofJ (by decide) rfl (fun h => by cases h) (Nat.le_of_ble_eq_true rfl) ?_
  refine J.aload_n (μ := mJ5_ensureCapacityInternal_d00df) (pc := 0) dJ5_ensureCapacityInternal_d00df_0 rfl ?_
  refine J.bV (μ := mJ5_ensureCapacityInternal_d00df) (pc := 1) rfl wf_J5_15 dJ5_ensureCapacityInternal_d00df_1 ?_
  refine J.bal (μ := mJ5_ensureCapacityInternal_d00df) (pc := 4) dJ5_ensureCapacityInternal_d00df_4 ?_
  refine J.aload_n (μ := mJ5_ensureCapacityInternal_d00df) (pc := 5) dJ5_ensureCapacityInternal_d00df_5 rfl ?_
  refine J.bC (μ := mJ5_ensureCapacityInternal_d00df) (pc := 6) rfl wf_J5_22 dJ5_ensureCapacityInternal_d00df_6 ?_
  refine J.ishr (μ := mJ5_ensureCapacityInternal_d00df) (pc := 9) dJ5_ensureCapacityInternal_d00df_9 ?_
  rw [sb_shr0]
  refine J.istore_n (μ := mJ5_ensureCapacityInternal_d00df) (pc := 10) dJ5_ensureCapacityInternal_d00df_10 (Nat.le_of_ble_eq_true rfl) rfl ?_
  refine J.iload_n (μ := mJ5_ensureCapacityInternal_d00df) (pc := 11) dJ5_ensureCapacityInternal_d00df_11 rfl ?_
  refine J.iload_n (μ := mJ5_ensureCapacityInternal_d00df) (pc := 12) dJ5_ensureCapacityInternal_d00df_12 rfl ?_
  refine J.isub (μ := mJ5_ensureCapacityInternal_d00df) (pc := 13) dJ5_ensureCapacityInternal_d00df_13 ?_
  refine J.if_le (μ := mJ5_ensureCapacityInternal_d00df) (pc := 14) 38 dJ5_ensureCapacityInternal_d00df_14 (by decide) (fun h3 => ?_) (fun h3 => ?_)
  · exact absurd ((c_sub m (by omega) 16 (by decide)).mp h3) (by omega)
  · refine J.aload_n (μ := mJ5_ensureCapacityInternal_d00df) (pc := 17) dJ5_ensureCapacityInternal_d00df_17 rfl ?_
    refine J.aload_n (μ := mJ5_ensureCapacityInternal_d00df) (pc := 18) dJ5_ensureCapacityInternal_d00df_18 rfl ?_
    refine J.bV (μ := mJ5_ensureCapacityInternal_d00df) (pc := 19) rfl wf_J5_15 dJ5_ensureCapacityInternal_d00df_19 ?_
    refine J.aload_n (μ := mJ5_ensureCapacityInternal_d00df) (pc := 22) dJ5_ensureCapacityInternal_d00df_22 rfl ?_
    refine J.iload_n (μ := mJ5_ensureCapacityInternal_d00df) (pc := 23) dJ5_ensureCapacityInternal_d00df_23 rfl ?_
    refine J.callU (μ := mJ5_ensureCapacityInternal_d00df) (pc := 24) (s_J5_newCapacity h1 h2) rfl wm_J5_104 mu_new (sel_p rfl ⟨by decide, by decide⟩ wi_J5_newCapacity_0f7a4 pv_new) rfl dJ5_ensureCapacityInternal_d00df_24 bq_isa rfl rfl ⟨(Nat.le_of_ble_eq_true rfl), (Nat.le_of_ble_eq_true rfl)⟩ ⟨(Nat.le_of_ble_eq_true rfl), (Nat.le_of_ble_eq_true rfl)⟩ (Nat.le_of_ble_eq_true rfl) (fun w => J.and fun e => ?_)
    subst e
    refine J.aload_n (μ := mJ5_ensureCapacityInternal_d00df) (pc := 27) dJ5_ensureCapacityInternal_d00df_27 rfl ?_
    refine J.bC (μ := mJ5_ensureCapacityInternal_d00df) (pc := 28) rfl wf_J5_22 dJ5_ensureCapacityInternal_d00df_28 ?_
    refine J.ishl (μ := mJ5_ensureCapacityInternal_d00df) (pc := 31) dJ5_ensureCapacityInternal_d00df_31 ?_
    rw [sb_shl0]
    refine J.callS (μ := mJ5_ensureCapacityInternal_d00df) (pc := 32) s_J7_copyOf rfl wm_J5_108 mi_J7_copyOf_9075b rfl dJ5_ensureCapacityInternal_d00df_32 rfl rfl ⟨(Nat.le_of_ble_eq_true rfl), (Nat.le_of_ble_eq_true rfl)⟩ ⟨(Nat.le_of_ble_eq_true rfl), (Nat.le_of_ble_eq_true rfl)⟩ (Nat.le_of_ble_eq_true rfl) (fun w => J.ex fun q' => J.ex fun g => J.and fun e => J.and fun hq => ?_)
    subst e
    refine J.bpV (μ := mJ5_ensureCapacityInternal_d00df) (pc := 35) rfl wf_J5_15 dJ5_ensureCapacityInternal_d00df_35 hq.1 hq.2 ?_
    exact J.vret (μ := mJ5_ensureCapacityInternal_d00df) (pc := 38) dJ5_ensureCapacityInternal_d00df_38 rfl (Nat.le_of_ble_eq_true rfl) (Nat.le_of_ble_eq_true rfl) (fun H h => ⟨rfl, q', g, h⟩)
theorem s_J1_canEncode {γ : Gm} {P : Heap → Prop} {c : Nat} (hc : c < 256) : Ep γ mJ1_canEncode_fc78d yJ1_canEncode_fc78d 0 [.int (nI c)] P (some (.int 1)) := by
  refine Ev.ofJ (by decide) rfl (fun h => by cases h) (Nat.le_of_ble_eq_true rfl) ?_
  refine J.iload_n (μ := mJ1_canEncode_fc78d) (pc := 0) dJ1_canEncode_fc78d_0 rfl ?_
  refine J.sipush (μ := mJ1_canEncode_fc78d) (pc := 1) (v := 255) dJ1_canEncode_fc78d_1 (by decide) ?_
  refine J.icmp_gt (μ := mJ1_canEncode_fc78d) (pc := 4) 11 dJ1_canEncode_fc78d_4 (by decide) (fun h1 => ?_) (fun h1 => ?_)
  · exact absurd h1 (nI_nlt_of (a := 255) (by omega) (by omega))
  · refine J.iconst (μ := mJ1_canEncode_fc78d) (pc := 7) (v := 1) dJ1_canEncode_fc78d_7 (by decide) ?_
    refine J.goto (μ := mJ1_canEncode_fc78d) (pc := 8) 12 dJ1_canEncode_fc78d_8 (by decide) ?_
    exact J.zret (μ := mJ1_canEncode_fc78d) (pc := 12) dJ1_canEncode_fc78d_12 rfl rfl (Nat.le_of_ble_eq_true rfl) (Nat.le_of_ble_eq_true rfl) (fun H h => ⟨rfl, h⟩)

theorem i2b_c : ∀ c, c < 128 → (nI c).toInt8.toInt32 = nI c := by decide +kernel
theorem apc_tail {γ : Gm} {v : Vs} {c k0 n0 k n : Nat} (hc : c < 128) (hk : k ≤ k0) (hn : n ≤ n0) (hk1 : k ≤ 1) (hn1 : n ≤ 34) (hk2 : k0 ≤ 1) {q cap cnt : Nat} {ml : Int32} {f : Nat → Int32} (hl : cnt < cap) (hcap : cap < 60) (hR : k ≤ (rmD 4 k0 n0).cells ∧ n ≤ (rmD 4 k0 n0).slots) : J γ mJ5_append_3fe6f (rmD 4 k0 n0) (fEv γ k0 n0 (fun w H => w = some (.ref (gz γ + 307)) ∧ ∃ q' f', Bq γ v q' cap (cnt + 1) ml f' H)) k n 10 [some (.ref (gz γ + 307)), some (.int (nI c))] [] (Bq γ v q cap cnt ml f) := by
  refine J.aload_n (μ := mJ5_append_3fe6f) (pc := 10) dJ5_append_3fe6f_10 rfl ?_
  refine J.callU (μ := mJ5_append_3fe6f) (pc := 11) s_J5_isLatin1 rfl wm_J5_83 mu_isl (sel_w se_isl) rfl dJ5_append_3fe6f_11 bq_isa rfl rfl ⟨(Nat.le_of_ble_eq_true rfl), (Nat.le_of_ble_eq_true rfl)⟩ hR (Nat.le_of_ble_eq_true rfl) (fun w => J.and fun e => ?_)
  subst e
  refine J.if_eq (μ := mJ5_append_3fe6f) (pc := 14) 45 dJ5_append_3fe6f_14 (by decide) (fun h => absurd h (by decide)) (fun _ => ?_)
  refine J.iload_n (μ := mJ5_append_3fe6f) (pc := 17) dJ5_append_3fe6f_17 rfl ?_
  refine J.callS (μ := mJ5_append_3fe6f) (pc := 18) (s_J1_canEncode (c := c) (by omega)) rfl wm_J5_191 mi_J1_canEncode_fc78d rfl dJ5_append_3fe6f_18 rfl rfl ⟨(Nat.le_of_ble_eq_true rfl), (Nat.le_of_ble_eq_true rfl)⟩ hR (Nat.le_of_ble_eq_true rfl) (fun w => J.and fun e => ?_)
  subst e
  refine J.if_eq (μ := mJ5_append_3fe6f) (pc := 21) 45 dJ5_append_3fe6f_21 (by decide) (fun h => absurd h (by decide)) (fun _ => ?_)
  refine J.aload_n (μ := mJ5_append_3fe6f) (pc := 24) dJ5_append_3fe6f_24 rfl ?_
  refine J.bV (μ := mJ5_append_3fe6f) (pc := 25) rfl wf_J5_15 dJ5_append_3fe6f_25 ?_
  refine J.aload_n (μ := mJ5_append_3fe6f) (pc := 28) dJ5_append_3fe6f_28 rfl ?_
  refine J.dup (μ := mJ5_append_3fe6f) (pc := 29) dJ5_append_3fe6f_29 rfl ?_
  refine J.bN (μ := mJ5_append_3fe6f) (pc := 30) rfl wf_J5_79 dJ5_append_3fe6f_30 ?_
  refine J.dup_x1 (μ := mJ5_append_3fe6f) (pc := 33) dJ5_append_3fe6f_33 rfl rfl ?_
  refine J.iconst (μ := mJ5_append_3fe6f) (pc := 34) (v := 1) dJ5_append_3fe6f_34 (by decide) ?_
  refine J.iadd (μ := mJ5_append_3fe6f) (pc := 35) dJ5_append_3fe6f_35 ?_
  rw [nI_1]
  refine J.bpN (μ := mJ5_append_3fe6f) (pc := 36) rfl wf_J5_79 dJ5_append_3fe6f_36 ?_
  refine J.iload_n (μ := mJ5_append_3fe6f) (pc := 39) dJ5_append_3fe6f_39 rfl ?_
  refine J.i2b (μ := mJ5_append_3fe6f) (pc := 40) dJ5_append_3fe6f_40 ?_
  rw [i2b_c c hc]
  refine J.bst (μ := mJ5_append_3fe6f) (pc := 41) dJ5_append_3fe6f_41 hl (by omega) (by_fit c hc) (fun f' => ?_)
  refine J.goto (μ := mJ5_append_3fe6f) (pc := 42) 75 dJ5_append_3fe6f_42 (by decide) ?_
  refine J.aload_n (μ := mJ5_append_3fe6f) (pc := 75) dJ5_append_3fe6f_75 rfl ?_
  exact J.aretO (μ := mJ5_append_3fe6f) (pc := 76) dJ5_append_3fe6f_76 rfl (.inl ⟨_, rfl⟩) hk hn (fun H h => ⟨rfl, q, f', h⟩)
theorem s_J5_appendC0 {γ : Gm} {v : Vs} {q cap cnt : Nat} {ml : Int32} {f : Nat → Int32} {c : Nat} (hc : c < 128) (hl : cnt < cap) (hcap : cap < 60) : Ev γ mJ5_append_3fe6f yJ5_append_3fe6f 4 0 0 [.ref (gz γ + 307), .int (nI c)] (Bq γ v q cap cnt ml f) (fun w H => w = some (.ref (gz γ + 307)) ∧ ∃ q' f', Bq γ v q' cap (cnt + 1) ml f' H) := by
  refine Ev.ofJ (by decide) rfl (fun h => by cases h) (Nat.le_of_ble_eq_true rfl) ?_
  refine J.aload_n (μ := mJ5_append_3fe6f) (pc := 0) dJ5_append_3fe6f_0 rfl ?_
  refine J.aload_n (μ := mJ5_append_3fe6f) (pc := 1) dJ5_append_3fe6f_1 rfl ?_
  refine J.bN (μ := mJ5_append_3fe6f) (pc := 2) rfl wf_J5_79 dJ5_append_3fe6f_2 ?_
  refine J.iconst (μ := mJ5_append_3fe6f) (pc := 5) (v := 1) dJ5_append_3fe6f_5 (by decide) ?_
  refine J.iadd (μ := mJ5_append_3fe6f) (pc := 6) dJ5_append_3fe6f_6 ?_
  rw [nI_1]
  refine J.callU (μ := mJ5_append_3fe6f) (pc := 7) (s_J5_ensure0 (m := cnt + 1) hl hcap) rfl wm_J5_100 mu_ens (sel_p rfl ⟨by decide, by decide⟩ wi_J5_ensureCapacityInternal_d00df pv_ens) rfl dJ5_append_3fe6f_7 bq_isa rfl rfl ⟨(Nat.le_of_ble_eq_true rfl), (Nat.le_of_ble_eq_true rfl)⟩ ⟨(Nat.le_of_ble_eq_true rfl), (Nat.le_of_ble_eq_true rfl)⟩ (Nat.le_of_ble_eq_true rfl) (fun w => J.and fun e => ?_)
  subst e
  refine J.sub ?_ (apc_tail hc (Nat.le_refl _) (Nat.le_refl _) (by decide) (by decide) (by decide) hl hcap ⟨(Nat.le_of_ble_eq_true rfl), (Nat.le_of_ble_eq_true rfl)⟩)
  exact ⟨rfl, rfl, trivial⟩
theorem s_J5_appendC1 {γ : Gm} {v : Vs} {q : Nat} {ml : Int32} {f : Nat → Int32} {c : Nat} (hc : c < 128) : Ev γ mJ5_append_3fe6f yJ5_append_3fe6f 4 1 34 [.ref (gz γ + 307), .int (nI c)] (Bq γ v q 16 16 ml f) (fun w H => w = some (.ref (gz γ + 307)) ∧ ∃ q' f', Bq γ v q' 34 (16 + 1) ml f' H) := by
  refine Ev.ofJ (by decide) rfl (fun h => by cases h) (Nat.le_of_ble_eq_true rfl) ?_
  refine J.aload_n (μ := mJ5_append_3fe6f) (pc := 0) dJ5_append_3fe6f_0 rfl ?_
  refine J.aload_n (μ := mJ5_append_3fe6f) (pc := 1) dJ5_append_3fe6f_1 rfl ?_
  refine J.bN (μ := mJ5_append_3fe6f) (pc := 2) rfl wf_J5_79 dJ5_append_3fe6f_2 ?_
  refine J.iconst (μ := mJ5_append_3fe6f) (pc := 5) (v := 1) dJ5_append_3fe6f_5 (by decide) ?_
  refine J.iadd (μ := mJ5_append_3fe6f) (pc := 6) dJ5_append_3fe6f_6 ?_
  rw [nI_1]
  refine J.callU (μ := mJ5_append_3fe6f) (pc := 7) (s_J5_ensure1 (m := 16 + 1) (by decide) (by decide)) rfl wm_J5_100 mu_ens (sel_p rfl ⟨by decide, by decide⟩ wi_J5_ensureCapacityInternal_d00df pv_ens) rfl dJ5_append_3fe6f_7 bq_isa rfl rfl ⟨(Nat.le_of_ble_eq_true rfl), (Nat.le_of_ble_eq_true rfl)⟩ ⟨(Nat.le_of_ble_eq_true rfl), (Nat.le_of_ble_eq_true rfl)⟩ (Nat.le_of_ble_eq_true rfl) (fun w => J.and fun e => J.ex fun q' => J.ex fun g => ?_)
  subst e
  refine J.sub ?_ (apc_tail hc (Nat.le_refl _) (Nat.le_refl _) (by decide) (by decide) (by decide) (cap := 34) (by decide) (by decide) ⟨(Nat.le_of_ble_eq_true rfl), (Nat.le_of_ble_eq_true rfl)⟩)
  exact ⟨rfl, rfl, trivial⟩
