/-! old cells: string constants, tables, statics; String.length and charAt -/
section JOld
variable {γ : Gm} {μ : Mu} {R : Room} {Q : Fin_} {k n pc : Nat} {L : List (Option Value)} {rest : List Value} {P : Heap → Prop}
theorem Kn.ko {γ : Gm} {s : State} (h : Kn γ s) : Ko γ s s.heap := h.2.2.2.2.2.2.2.2
theorem J.ldcS {own text : String} {index si : Nat} {bs : List Nat} (hown : μ.1 = own) (hstr : SKs[si]? = some (own, index, text, bs)) (d : decode μ.2.1 pc = .ok (.ldc index, 2)) (kk : J γ μ R Q k n (pc + 2) L (.ref (go γ (2 * si)) :: rest) P) : J γ μ R Q k n pc L rest P :=
  fun p l e s m args below meth c B H locs ls hL hP hS => va_ldcS B.1 B.2.1 (hown ▸ B.2.2.2.2.2.1) (B.2.2.2.2.2.2.2.1.2.2.2.2.1 si _ hstr) d (kk p l e s m args below meth c B H locs ls hL hP hS)
theorem J.getO {own o nm de : String} {index q : Nat} {v : Value} (hf : ∀ s, Kn γ s → va_OF o nm de v q (gA γ) s s.heap) (hown : μ.1 = own) (w : Cond.fieldLink own index o nm de ∈ WSA) (d : decode μ.2.1 pc = .ok (.getfield index, 3)) (kk : J γ μ R Q k n (pc + 3) L (v :: rest) P) : J γ μ R Q k n pc L (.ref q :: rest) P :=
  fun p l e s m args below meth c B H locs ls hL hP hS => vk_getf B.1 B.2.1 (hf s B.2.2.2.2.2.2.2.1) hS (hown ▸ B.2.2.2.2.2.1) (B.2.2.2.2.2.2.1 _ w) (fun _ h => h) d (kk p l e s m args below meth c B H locs ls hL hP hS)
theorem J.getZ {own C nm de : String} {index : Nat} {v : Value} (hf : ∀ s, Kn γ s → va_Z C nm de v (gA γ) s s.heap) (hown : μ.1 = own) (w : Cond.fieldLink own index C nm de ∈ WSA) (d : decode μ.2.1 pc = .ok (.getstatic index, 3)) (kk : J γ μ R Q k n (pc + 3) L (v :: rest) P) : J γ μ R Q k n pc L rest P :=
  fun p l e s m args below meth c B H locs ls hL hP hS => va_gets B.1 B.2.1 (hf s B.2.2.2.2.2.2.2.1) hS (hown ▸ B.2.2.2.2.2.1) (B.2.2.2.2.2.2.1 _ w) (fun _ h => h) d (kk p l e s m args below meth c B H locs ls hL hP hS)
theorem J.getZq {own C nm de : String} {index : Nat} (hf : ∀ s, Kn γ s → va_Zq C nm de (gA γ) s s.heap) (hown : μ.1 = own) (w : Cond.fieldLink own index C nm de ∈ WSA) (d : decode μ.2.1 pc = .ok (.getstatic index, 3)) (kk : ∀ v : Value, (v = .null ∨ ∃ a, v = .ref a) → J γ μ R Q k n (pc + 3) L (v :: rest) P) : J γ μ R Q k n pc L rest P :=
  fun p l e s m args below meth c B H locs ls hL hP hS => by
    rcases hf s B.2.2.2.2.2.2.2.1 with h | ⟨a, h⟩
    · exact va_gets B.1 B.2.1 h hS (hown ▸ B.2.2.2.2.2.1) (B.2.2.2.2.2.2.1 _ w) (fun _ h => h) d (kk _ (.inl rfl) p l e s m args below meth c B H locs ls hL hP hS)
    · exact va_gets B.1 B.2.1 h hS (hown ▸ B.2.2.2.2.2.1) (B.2.2.2.2.2.2.1 _ w) (fun _ h => h) d (kk _ (.inr ⟨a, rfl⟩) p l e s m args below meth c B H locs ls hL hP hS)
theorem J.tb {t N : Nat} {f : Nat → Value} {i : Int32} {v : Value} (hf : ∀ s, Kn γ s → va_T .byte t N f (gA γ) s s.heap) (hin : vp_in i N) (hv : f i.toNatClampNeg = v) (d : decode μ.2.1 pc = .ok (.baload, 1)) (kk : J γ μ R Q k n (pc + 1) L (v :: rest) P) : J γ μ R Q k n pc L (.int i :: .ref t :: rest) P :=
  fun p l e s m args below meth c B H locs ls hL hP hS => va_tb B.1 B.2.1 (hf s B.2.2.2.2.2.2.2.1) hS hin hv d (kk p l e s m args below meth c B H locs ls hL hP hS)
theorem J.ti {t N : Nat} {f : Nat → Value} {i : Int32} {v : Value} (hf : ∀ s, Kn γ s → va_T .int t N f (gA γ) s s.heap) (hin : vp_in i N) (hv : f i.toNatClampNeg = v) (d : decode μ.2.1 pc = .ok (.iaload, 1)) (kk : J γ μ R Q k n (pc + 1) L (v :: rest) P) : J γ μ R Q k n pc L (.int i :: .ref t :: rest) P :=
  fun p l e s m args below meth c B H locs ls hL hP hS => va_ti B.1 B.2.1 (hf s B.2.2.2.2.2.2.2.1) hS hin hv d (kk p l e s m args below meth c B H locs ls hL hP hS)
theorem J.tq {t N : Nat} {C : String} {f : Nat → Value} {i : Int32} {v : Value} (hf : ∀ s, Kn γ s → va_T (.object C) t N f (gA γ) s s.heap) (hin : vp_in i N) (hv : f i.toNatClampNeg = v) (d : decode μ.2.1 pc = .ok (.aaload, 1)) (kk : J γ μ R Q k n (pc + 1) L (v :: rest) P) : J γ μ R Q k n pc L (.int i :: .ref t :: rest) P :=
  fun p l e s m args below meth c B H locs ls hL hP hS => vb_tq B.1 B.2.1 (hf s B.2.2.2.2.2.2.2.1) hS hin hv d (kk p l e s m args below meth c B H locs ls hL hP hS)
theorem J.tlen {t N : Nat} {ty : FieldType} {f : Nat → Value} {v : Int32} (hf : ∀ s, Kn γ s → va_T ty t N f (gA γ) s s.heap) (hv : Int32.ofNat N = v) (d : decode μ.2.1 pc = .ok (.arraylength, 1)) (kk : J γ μ R Q k n (pc + 1) L (.int v :: rest) P) : J γ μ R Q k n pc L (.ref t :: rest) P :=
  fun p l e s m args below meth c B H locs ls hL hP hS => va_tlen B.1 B.2.1 (hf s B.2.2.2.2.2.2.2.1) hS hv d (kk p l e s m args below meth c B H locs ls hL hP hS)
/-- a call of a method of an old object -/
theorem J.callO {own : String} {index d k' n' nn b : Nat} {μ' : Mu} {y : MethodName} {As st : List Value} {Po : Option Value → Heap → Prop} (hE : Ev γ μ' y d k' n' (.ref b :: As) P Po) (hown : μ.1 = own) (w : Cond.methodLink own index y ∈ WSA) (mi : MI y μ' nn) (h0 : μ'.2.2.2.2.1 = []) (dd : decode μ.2.1 pc = .ok (.invokevirtual index, 3)) (hb : ∀ s, Kn γ s → va_O y.cls b (gA γ) s s.heap) (hst : st = As.reverse ++ .ref b :: rest) (hn : As.length = nn)
    (hR : d + 1 ≤ R.frames ∧ 8 + (μ'.2.2.1 + 11) + 64 * d ≤ R.locals) (hk : k + k' ≤ R.cells ∧ n + n' ≤ R.slots) (hr : (rest.map fun v => v.category).sum ≤ 8) (kk : ∀ v, J γ μ R Q (k + k') (n + n') (pc + 3) L (v.toList ++ rest) (Po v)) : J γ μ R Q k n pc L st P := by
  intro p l e s m args below meth c B H locs ls hL hP hS
  have hts := B.2.2.2.2.2.2.1
  have hK := B.2.2.2.2.2.2.2.1
  obtain ⟨cell, q1, q2, q3, -⟩ := (hb s hK).kept hS.2.1
  exact J_run (va_runV (cc := μ.2.1) (nL := μ.2.2.1) (Ts := WSA) (own := own) ⟨B.1, B.2.1, B.2.2.1, hown ▸ B.2.2.2.2.2.1, hts⟩ (hE l B.2.2.2.2.2.2.2.2.1) ⟨callB_J hts w mi.1 h0 mi.2.2.2.1 mi.2.2.2.2 hR, hts _ mi.2.1, hts _ mi.2.2.1⟩ ⟨blindK, ⟨cell, q1, q2, q3⟩, fun U hU hW => ⟨rfl, hK.go hS hU hW, by rw [hU]; exact hP⟩⟩ rfl hn hL.1 hst (lv_room hr) dd hk) hS
    (fun v H1 locs1 hPo hS1 => kk v p l e s m args below meth c B H1 locs1 ls hL hPo hS1)
end JOld
/-- a method that reads alone, whatever the heap holds -/
abbrev Ep (γ : Gm) (μ : Mu) (y : MethodName) (d : Nat) (av : List Value) (P : Heap → Prop) (r : Option Value) : Prop := Ev γ μ y d 0 0 av P (fun w H => w = r ∧ P H)
theorem s_J3_checkIndex {γ : Gm} {P : Heap → Prop} {i n : Nat} (h : i < n) (hn : n < 2 ^ 31) {v : Value} (hv : v = .null ∨ ∃ a, v = .ref a) : Ep γ mJ3_checkIndex_8e157 yJ3_checkIndex_8e157 0 [.int (nI i), .int (nI n), v] P (some (.int (nI i))) := by
  rcases hv with rfl | ⟨a, rfl⟩
  · refine Ev.ofJ (by decide) rfl (fun h => by cases h) (Nat.le_of_ble_eq_true rfl) ?_
    refine J.iload_n (μ := mJ3_checkIndex_8e157) (pc := 0) dJ3_checkIndex_8e157_0 rfl ?_
    refine J.if_lt (μ := mJ3_checkIndex_8e157) (pc := 1) 9 dJ3_checkIndex_8e157_1 (by decide) (fun h1 => ?_) (fun h1 => ?_)
    · exact absurd h1 (nI_pos (by omega))
    · refine J.iload_n (μ := mJ3_checkIndex_8e157) (pc := 4) dJ3_checkIndex_8e157_4 rfl ?_
      refine J.iload_n (μ := mJ3_checkIndex_8e157) (pc := 5) dJ3_checkIndex_8e157_5 rfl ?_
      refine J.icmp_lt (μ := mJ3_checkIndex_8e157) (pc := 6) 16 dJ3_checkIndex_8e157_6 (by decide) (fun h2 => ?_) (fun h2 => ?_)
      · refine J.iload_n (μ := mJ3_checkIndex_8e157) (pc := 16) dJ3_checkIndex_8e157_16 rfl ?_
        exact J.iret (μ := mJ3_checkIndex_8e157) (pc := 17) dJ3_checkIndex_8e157_17 rfl (Nat.le_of_ble_eq_true rfl) (Nat.le_of_ble_eq_true rfl) (fun H h => ⟨rfl, h⟩)
      · exact absurd h2 (nI_ge h hn)
  · refine Ev.ofJ (by decide) rfl (fun h => by cases h) (Nat.le_of_ble_eq_true rfl) ?_
    refine J.iload_n (μ := mJ3_checkIndex_8e157) (pc := 0) dJ3_checkIndex_8e157_0 rfl ?_
    refine J.if_lt (μ := mJ3_checkIndex_8e157) (pc := 1) 9 dJ3_checkIndex_8e157_1 (by decide) (fun h1 => ?_) (fun h1 => ?_)
    · exact absurd h1 (nI_pos (by omega))
    · refine J.iload_n (μ := mJ3_checkIndex_8e157) (pc := 4) dJ3_checkIndex_8e157_4 rfl ?_
      refine J.iload_n (μ := mJ3_checkIndex_8e157) (pc := 5) dJ3_checkIndex_8e157_5 rfl ?_
      refine J.icmp_lt (μ := mJ3_checkIndex_8e157) (pc := 6) 16 dJ3_checkIndex_8e157_6 (by decide) (fun h2 => ?_) (fun h2 => ?_)
      · refine J.iload_n (μ := mJ3_checkIndex_8e157) (pc := 16) dJ3_checkIndex_8e157_16 rfl ?_
        exact J.iret (μ := mJ3_checkIndex_8e157) (pc := 17) dJ3_checkIndex_8e157_17 rfl (Nat.le_of_ble_eq_true rfl) (Nat.le_of_ble_eq_true rfl) (fun H h => ⟨rfl, h⟩)
      · exact absurd h2 (nI_ge h hn)
theorem s_J0_checkIndex {γ : Gm} {P : Heap → Prop} {i n : Nat} (h : i < n) (hn : n < 2 ^ 31) : Ep γ mJ0_checkIndex_df160 yJ0_checkIndex_df160 1 [.int (nI i), .int (nI n)] P none := by
  refine Ev.ofJ (by decide) rfl (fun h => by cases h) (Nat.le_of_ble_eq_true rfl) ?_
  refine J.iload_n (μ := mJ0_checkIndex_df160) (pc := 0) dJ0_checkIndex_df160_0 rfl ?_
  refine J.iload_n (μ := mJ0_checkIndex_df160) (pc := 1) dJ0_checkIndex_df160_1 rfl ?_
  refine J.getZq (μ := mJ0_checkIndex_df160) (pc := 2) (fun s hK => hK.ko.2.2.2.2.2.2.2.2.1) rfl wf_J0_1053 dJ0_checkIndex_df160_2 (fun v hv => ?_)
  refine J.cS (μ := mJ0_checkIndex_df160) (pc := 5) (s_J3_checkIndex h hn hv) rfl wm_J0_1059 mi_J3_checkIndex_8e157 rfl dJ0_checkIndex_df160_5 rfl rfl ⟨(Nat.le_of_ble_eq_true rfl), (Nat.le_of_ble_eq_true rfl)⟩ ⟨(Nat.le_of_ble_eq_true rfl), (Nat.le_of_ble_eq_true rfl)⟩ (Nat.le_of_ble_eq_true rfl) ?_
  refine J.pop (μ := mJ0_checkIndex_df160) (pc := 8) dJ0_checkIndex_df160_8 rfl ?_
  exact J.vret (μ := mJ0_checkIndex_df160) (pc := 9) dJ0_checkIndex_df160_9 rfl (Nat.le_of_ble_eq_true rfl) (Nat.le_of_ble_eq_true rfl) (fun H h => ⟨rfl, h⟩)
/-- the string constant i has the letters bs -/
abbrev SK (i : Nat) (bs : List Nat) : Prop := ∃ (own : String) (ix : Nat) (tx : String), SKs[i]? = some (own, ix, tx, bs)
theorem SK.ko {γ : Gm} {i : Nat} {bs : List Nat} (h : SK i bs) {s : State} (hK : Kn γ s) : va_O "java/lang/String" (go γ (2 * i)) (gA γ) s s.heap ∧ va_OF "java/lang/String" "coder" "B" (.int 0) (go γ (2 * i)) (gA γ) s s.heap ∧ va_OF "java/lang/String" "value" "[B" (.ref (go γ (2 * i + 1))) (go γ (2 * i)) (gA γ) s s.heap ∧ va_T .byte (go γ (2 * i + 1)) bs.length (fun j => .int (nI (bs.getD j 0))) (gA γ) s s.heap := by
  obtain ⟨own, ix, tx, hq⟩ := h
  exact hK.ko.1 i _ hq
theorem s_J0_coder {γ : Gm} {P : Heap → Prop} {i : Nat} {bs : List Nat} (hq : SK i bs) : Ep γ mJ0_coder_7d493 yJ0_coder_7d493 0 [.ref (go γ (2 * i))] P (some (.int 0)) := by
  refine Ev.ofJ (by decide) rfl (fun h => by cases h) (Nat.le_of_ble_eq_true rfl) ?_
  refine J.getZ (μ := mJ0_coder_7d493) (pc := 0) (fun s hK => hK.ko.2.1) rfl wf_J0_38 dJ0_coder_7d493_0 ?_
  refine J.if_eq (μ := mJ0_coder_7d493) (pc := 3) 13 dJ0_coder_7d493_3 (by decide) (fun h => absurd h (by decide)) (fun _ => ?_)
  refine J.aload_n (μ := mJ0_coder_7d493) (pc := 6) dJ0_coder_7d493_6 rfl ?_
  refine J.getO (μ := mJ0_coder_7d493) (pc := 7) (fun s hK => (hq.ko hK).2.1) rfl wf_J0_15 dJ0_coder_7d493_7 ?_
  refine J.goto (μ := mJ0_coder_7d493) (pc := 10) 14 dJ0_coder_7d493_10 (by decide) ?_
  exact J.zret (μ := mJ0_coder_7d493) (pc := 14) dJ0_coder_7d493_14 rfl rfl (Nat.le_of_ble_eq_true rfl) (Nat.le_of_ble_eq_true rfl) (fun H h => ⟨rfl, h⟩)
theorem s_J0_isLatin1 {γ : Gm} {P : Heap → Prop} {i : Nat} {bs : List Nat} (hq : SK i bs) : Ep γ mJ0_isLatin1_aae02 yJ0_isLatin1_aae02 0 [.ref (go γ (2 * i))] P (some (.int 1)) := by
  refine Ev.ofJ (by decide) rfl (fun h => by cases h) (Nat.le_of_ble_eq_true rfl) ?_
  refine J.getZ (μ := mJ0_isLatin1_aae02) (pc := 0) (fun s hK => hK.ko.2.1) rfl wf_J0_38 dJ0_isLatin1_aae02_0 ?_
  refine J.if_eq (μ := mJ0_isLatin1_aae02) (pc := 3) 17 dJ0_isLatin1_aae02_3 (by decide) (fun h => absurd h (by decide)) (fun _ => ?_)
  refine J.aload_n (μ := mJ0_isLatin1_aae02) (pc := 6) dJ0_isLatin1_aae02_6 rfl ?_
  refine J.getO (μ := mJ0_isLatin1_aae02) (pc := 7) (fun s hK => (hq.ko hK).2.1) rfl wf_J0_15 dJ0_isLatin1_aae02_7 ?_
  refine J.if_ne (μ := mJ0_isLatin1_aae02) (pc := 10) 17 dJ0_isLatin1_aae02_10 (by decide) (fun h => absurd h (by decide)) (fun _ => ?_)
  refine J.iconst (μ := mJ0_isLatin1_aae02) (pc := 13) (v := 1) dJ0_isLatin1_aae02_13 (by decide) ?_
  refine J.goto (μ := mJ0_isLatin1_aae02) (pc := 14) 18 dJ0_isLatin1_aae02_14 (by decide) ?_
  exact J.zret (μ := mJ0_isLatin1_aae02) (pc := 18) dJ0_isLatin1_aae02_18 rfl rfl (Nat.le_of_ble_eq_true rfl) (Nat.le_of_ble_eq_true rfl) (fun H h => ⟨rfl, h⟩)
theorem s_J0_length {γ : Gm} {P : Heap → Prop} {i : Nat} {bs : List Nat} (hq : SK i bs) : Ep γ mJ0_length_8abf5 yJ0_length_8abf5 1 [.ref (go γ (2 * i))] P (some (.int (nI bs.length))) := by
  refine Ev.ofJ (by decide) rfl (fun h => by cases h) (Nat.le_of_ble_eq_true rfl) ?_
  refine J.aload_n (μ := mJ0_length_8abf5) (pc := 0) dJ0_length_8abf5_0 rfl ?_
  refine J.getO (μ := mJ0_length_8abf5) (pc := 1) (fun s hK => (hq.ko hK).2.2.1) rfl wf_J0_9 dJ0_length_8abf5_1 ?_
  refine J.tlen (μ := mJ0_length_8abf5) (pc := 4) (v := nI bs.length) (fun s hK => (hq.ko hK).2.2.2) rfl dJ0_length_8abf5_4 ?_
  refine J.aload_n (μ := mJ0_length_8abf5) (pc := 5) dJ0_length_8abf5_5 rfl ?_
  refine J.callO (μ := mJ0_length_8abf5) (pc := 6) (s_J0_coder hq) rfl wm_J0_335 mi_J0_coder_7d493 rfl dJ0_length_8abf5_6 (fun s hK => (hq.ko hK).1) rfl rfl ⟨(Nat.le_of_ble_eq_true rfl), (Nat.le_of_ble_eq_true rfl)⟩ ⟨(Nat.le_of_ble_eq_true rfl), (Nat.le_of_ble_eq_true rfl)⟩ (Nat.le_of_ble_eq_true rfl) (fun w => J.and (fun e => ?_))
  subst e
  refine J.ishr (μ := mJ0_length_8abf5) (pc := 9) dJ0_length_8abf5_9 ?_
  rw [show nI bs.length >>> ((0 : Int32) &&& 31) = nI bs.length from sb_shr0 _]
  exact J.iret (μ := mJ0_length_8abf5) (pc := 10) dJ0_length_8abf5_10 rfl (Nat.le_of_ble_eq_true rfl) (Nat.le_of_ble_eq_true rfl) (fun H h => ⟨rfl, h⟩)
theorem by_255 : ∀ c, c < 256 → (nI c &&& 255) = nI c ∧ ((nI c).toUInt32 % 65536).toInt32 = nI c := by decide +kernel
theorem s_J1_charAt {γ : Gm} {P : Heap → Prop} {t N i : Nat} {f : Nat → Nat} (hf : ∀ s, Kn γ s → va_T .byte t N (fun j => .int (nI (f j))) (gA γ) s s.heap) (hi : i < N) (hN : N < 2 ^ 31) (hc : f i < 256) : Ep γ mJ1_charAt_3b067 yJ1_charAt_3b067 2 [.ref t, .int (nI i)] P (some (.int (nI (f i)))) := by
  refine Ev.ofJ (by decide) rfl (fun h => by cases h) (Nat.le_of_ble_eq_true rfl) ?_
  refine J.iload_n (μ := mJ1_charAt_3b067) (pc := 0) dJ1_charAt_3b067_0 rfl ?_
  refine J.aload_n (μ := mJ1_charAt_3b067) (pc := 1) dJ1_charAt_3b067_1 rfl ?_
  refine J.tlen (μ := mJ1_charAt_3b067) (pc := 2) (v := nI N) hf rfl dJ1_charAt_3b067_2 ?_
  refine J.cS0 (μ := mJ1_charAt_3b067) (pc := 3) (s_J0_checkIndex hi hN) rfl wm_J1_9 mi_J0_checkIndex_df160 rfl dJ1_charAt_3b067_3 rfl rfl ⟨(Nat.le_of_ble_eq_true rfl), (Nat.le_of_ble_eq_true rfl)⟩ ⟨(Nat.le_of_ble_eq_true rfl), (Nat.le_of_ble_eq_true rfl)⟩ (Nat.le_of_ble_eq_true rfl) ?_
  refine J.aload_n (μ := mJ1_charAt_3b067) (pc := 6) dJ1_charAt_3b067_6 rfl ?_
  refine J.iload_n (μ := mJ1_charAt_3b067) (pc := 7) dJ1_charAt_3b067_7 rfl ?_
  refine J.tb (μ := mJ1_charAt_3b067) (pc := 8) (v := .int (nI (f i))) hf (vp_in_nI hi hN) (by rw [nI_clamp (by omega)]) dJ1_charAt_3b067_8 ?_
  refine J.sipush (μ := mJ1_charAt_3b067) (pc := 9) (v := 255) dJ1_charAt_3b067_9 (by decide) ?_
  refine J.iand (μ := mJ1_charAt_3b067) (pc := 12) dJ1_charAt_3b067_12 ?_
  rw [(by_255 _ hc).1]
  refine J.i2c (μ := mJ1_charAt_3b067) (pc := 13) dJ1_charAt_3b067_13 ?_
  rw [(by_255 _ hc).2]
  exact J.zret (μ := mJ1_charAt_3b067) (pc := 14) dJ1_charAt_3b067_14 rfl (by have : ∀ c, c < 256 → narrow .char (.int (nI c)) = .int (nI c) := by decide +kernel
                                                                              exact this _ hc) (Nat.le_of_ble_eq_true rfl) (Nat.le_of_ble_eq_true rfl) (fun H h => ⟨rfl, h⟩)
theorem s_J0_charAt {γ : Gm} {P : Heap → Prop} {i j : Nat} {bs : List Nat} (hq : SK i bs) (hj : j < bs.length) (hl : bs.length < 2 ^ 31) (hb : ∀ c ∈ bs, c < 128) : Ep γ mJ0_charAt_5068e yJ0_charAt_5068e 3 [.ref (go γ (2 * i)), .int (nI j)] P (some (.int (nI (bs.getD j 0)))) := by
  have hc : bs.getD j 0 < 256 := by
    rw [List.getD_eq_getElem?_getD, List.getElem?_eq_getElem hj]
    have := hb _ (List.getElem_mem hj)
    simp only [Option.getD_some]
    omega
  refine Ev.ofJ (by decide) rfl (fun h => by cases h) (Nat.le_of_ble_eq_true rfl) ?_
  refine J.aload_n (μ := mJ0_charAt_5068e) (pc := 0) dJ0_charAt_5068e_0 rfl ?_
  refine J.callO (μ := mJ0_charAt_5068e) (pc := 1) (s_J0_isLatin1 hq) rfl wm_J0_492 mi_J0_isLatin1_aae02 rfl dJ0_charAt_5068e_1 (fun s hK => (hq.ko hK).1) rfl rfl ⟨(Nat.le_of_ble_eq_true rfl), (Nat.le_of_ble_eq_true rfl)⟩ ⟨(Nat.le_of_ble_eq_true rfl), (Nat.le_of_ble_eq_true rfl)⟩ (Nat.le_of_ble_eq_true rfl) (fun w => J.and (fun e => ?_))
  subst e
  refine J.if_eq (μ := mJ0_charAt_5068e) (pc := 4) 16 dJ0_charAt_5068e_4 (by decide) (fun h => absurd h (by decide)) (fun _ => ?_)
  refine J.aload_n (μ := mJ0_charAt_5068e) (pc := 7) dJ0_charAt_5068e_7 rfl ?_
  refine J.getO (μ := mJ0_charAt_5068e) (pc := 8) (fun s hK => (hq.ko hK).2.2.1) rfl wf_J0_9 dJ0_charAt_5068e_8 ?_
  refine J.iload_n (μ := mJ0_charAt_5068e) (pc := 11) dJ0_charAt_5068e_11 rfl ?_
  refine J.cS (μ := mJ0_charAt_5068e) (pc := 12) (s_J1_charAt (f := fun j => bs.getD j 0) (fun s hK => (hq.ko hK).2.2.2) hj hl hc) rfl wm_J0_495 mi_J1_charAt_3b067 rfl dJ0_charAt_5068e_12 rfl rfl ⟨(Nat.le_of_ble_eq_true rfl), (Nat.le_of_ble_eq_true rfl)⟩ ⟨(Nat.le_of_ble_eq_true rfl), (Nat.le_of_ble_eq_true rfl)⟩ (Nat.le_of_ble_eq_true rfl) ?_
  exact J.zret (μ := mJ0_charAt_5068e) (pc := 15) dJ0_charAt_5068e_15 rfl (by have : ∀ c, c < 256 → narrow .char (.int (nI c)) = .int (nI c) := by decide +kernel
                                                                              exact this _ hc) (Nat.le_of_ble_eq_true rfl) (Nat.le_of_ble_eq_true rfl) (fun H h => ⟨rfl, h⟩)
