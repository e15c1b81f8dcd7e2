/-! rows for the StringBuilder: new arrays, calls of methods of the class above -/
theorem sa_ens : Cond.sameMethod "java/lang/AbstractStringBuilder" "java/lang/AbstractStringBuilder" "ensureCapacityInternal" "(I)V" ∈ WSA := wsa 1670 (by decide +kernel) rfl
theorem sa_new : Cond.sameMethod "java/lang/AbstractStringBuilder" "java/lang/AbstractStringBuilder" "newCapacity" "(I)I" ∈ WSA := wsa 1671 (by decide +kernel) rfl
theorem sa_isl : Cond.sameMethod "java/lang/AbstractStringBuilder" "java/lang/AbstractStringBuilder" "isLatin1" "()Z" ∈ WSA := wsa 1211 (by decide +kernel) rfl
theorem sa_len : Cond.sameMethod "java/lang/AbstractStringBuilder" "java/lang/AbstractStringBuilder" "length" "()I" ∈ WSA := wsa 1308 (by decide +kernel) rfl
theorem sa_set : Cond.sameMethod "java/lang/AbstractStringBuilder" "java/lang/AbstractStringBuilder" "setLength" "(I)V" ∈ WSA := wsa 1667 (by decide +kernel) rfl
theorem sa_api : Cond.sameMethod "java/lang/AbstractStringBuilder" "java/lang/AbstractStringBuilder" "append" "(I)Ljava/lang/AbstractStringBuilder;" ∈ WSA := wsa 1675 (by decide +kernel) rfl
theorem sa_apc : Cond.sameMethod "java/lang/AbstractStringBuilder" "java/lang/AbstractStringBuilder" "append" "(C)Ljava/lang/AbstractStringBuilder;" ∈ WSA := wsa 1676 (by decide +kernel) rfl
theorem sup_sb : Cond.superclass "java/lang/StringBuilder" "java/lang/AbstractStringBuilder" ∈ WSA := wsa 376 (by decide +kernel) rfl
theorem se_isl : Cond.selects "java/lang/StringBuilder" yJ5_isLatin1_aae02 yJ5_isLatin1_aae02 ∈ WSA := wsa 1212 (by decide +kernel) rfl
theorem pv_ens : Cond.privateMethod yJ5_ensureCapacityInternal_d00df ∈ WSB := wsbB 1181 (by decide +kernel) rfl
theorem pv_new : Cond.privateMethod yJ5_newCapacity_0f7a4 ∈ WSB := wsbB 1185 (by decide +kernel) rfl
/-- what a call of a method of the class above asks of the tables -/
def MU_ (y : MethodName) (μ : Mu) (n : Nat) : Prop := cwOf y μ ∈ WSA ∧ Cond.instanceMethod y ∈ WSA ∧ Cond.sameMethod y.cls y.cls y.name y.desc ∈ WSA ∧ Cond.initialized y.cls ∈ WSA ∧ okName y n
theorem mu_ens : MU_ yJ5_ensureCapacityInternal_d00df mJ5_ensureCapacityInternal_d00df 1 := ⟨wc_J5_ensureCapacityInternal_d00df, wi_J5_ensureCapacityInternal_d00df, sa_ens, wn_J5, ⟨by decide +kernel, by decide +kernel, by decide +kernel⟩⟩
theorem mu_new : MU_ yJ5_newCapacity_0f7a4 mJ5_newCapacity_0f7a4 1 := ⟨wc_J5_newCapacity_0f7a4, wi_J5_newCapacity_0f7a4, sa_new, wn_J5, ⟨by decide +kernel, by decide +kernel, by decide +kernel⟩⟩
theorem mu_isl : MU_ yJ5_isLatin1_aae02 mJ5_isLatin1_aae02 0 := ⟨wc_J5_isLatin1_aae02, wi_J5_isLatin1_aae02, sa_isl, wn_J5, ⟨by decide +kernel, by decide +kernel, by decide +kernel⟩⟩
theorem mu_len : MU_ yJ5_length_8abf5 mJ5_length_8abf5 0 := ⟨wc_J5_length_8abf5, wi_J5_length_8abf5, sa_len, wn_J5, ⟨by decide +kernel, by decide +kernel, by decide +kernel⟩⟩
theorem mu_set : MU_ yJ5_setLength_d00df mJ5_setLength_d00df 1 := ⟨wc_J5_setLength_d00df, wi_J5_setLength_d00df, sa_set, wn_J5, ⟨by decide +kernel, by decide +kernel, by decide +kernel⟩⟩
theorem mu_api : MU_ yJ5_append_c97b9 mJ5_append_c97b9 1 := ⟨wc_J5_append_c97b9, wi_J5_append_c97b9, sa_api, wn_J5, ⟨by decide +kernel, by decide +kernel, by decide +kernel⟩⟩
theorem mu_apc : MU_ yJ5_append_3fe6f mJ5_append_3fe6f 1 := ⟨wc_J5_append_3fe6f, wi_J5_append_3fe6f, sa_apc, wn_J5, ⟨by decide +kernel, by decide +kernel, by decide +kernel⟩⟩
abbrev sbC : String := "java/lang/StringBuilder"
/-- the machine picks y for an object of the class C -/
def Sel (γ : Gm) (C : String) (y : MethodName) : Prop := ∀ (args : Array Value) (s : State), (∀ w ∈ WSA, w.before args s = true) → Kn γ s → (Cond.selects C y y).before args s = true
theorem sel_w {γ : Gm} {C : String} {y : MethodName} (h : Cond.selects C y y ∈ WSA) : Sel γ C y := fun args s hts _ => hts _ h
/-- a private method of the class above is picked itself -/
theorem sel_p {γ : Gm} {y : MethodName} (hyc : y.cls = "java/lang/AbstractStringBuilder") (hy : y.cls ≠ "java/lang/invoke/MethodHandle" ∧ y.cls ≠ "java/lang/invoke/VarHandle") (hi : Cond.instanceMethod y ∈ WSA) (hp : Cond.privateMethod y ∈ WSB) : Sel γ sbC y := by
  intro args s hts hK
  obtain ⟨c, k, hc, hk, -, hniab, -, -⟩ := Cond.instantiable_spec (hts _ (show Cond.instantiable sbC 4 ∈ WSA from wj_J4))
  obtain ⟨c2, r2, m2, -, -, z3, -, k2, z5, z6⟩ := Cond.selects_spec (first := s) (o := none) (idx := []) (hts _ se_isl)
  obtain ⟨mk, methM, hnamed, hmethM, -, -⟩ := Cond.instanceMethod_spec (hts _ hi)
  have hfound : s.methodFound? y.cls y.name y.desc = some mk := State.methodFound?_of_named hnamed hy
  have hpriv : (Cond.privateMethod y).before args s = true := va_Nw.use rfl (hK.2.2.1 _ hp)
  have hsel : selectMethod {} s.vm c mk = .method mk := selectMethod_private hmethM (Cond.privateMethod_at hpriv mk methM hnamed hmethM)
  have hcl : m2.cls = mk.cls := Option.some.inj ((findClass_of_methodNamed z3).symm.trans ((show s.vm.findClass yJ5_isLatin1_aae02.cls = s.vm.findClass y.cls by rw [hyc]; rfl).trans (findClass_of_methodNamed hnamed)))
  rw [hcl] at z5
  simp only [Cond.before, Cond.holds, Cond.value, hc, hfound, hnamed, hsel, z5]
  simp; exact z6
section JUp
variable {γ : Gm} {μ : Mu} {R : Room} {Q : Fin_} {k n pc : Nat} {L : List (Option Value)} {rest : List Value} {P : Heap → Prop}
theorem J.callU {own C : String} {index d k' n' nn b : Nat} {μ' : Mu} {y : MethodName} {As st : List Value} {Po : Option Value → Heap → Prop} (hE : Ev γ μ' y d k' n' (.ref b :: As) P Po) (hown : μ.1 = own) (w : Cond.methodLink own index y ∈ WSA) (mi : MU_ y μ' nn) (hsel : Sel γ C y) (h0 : μ'.2.2.2.2.1 = []) (dd : decode μ.2.1 pc = .ok (.invokevirtual index, 3)) (hb : Isa γ C b P) (hst : st = As.reverse ++ .ref b :: rest) (hn : As.length = nn)
    (hR : d + 1 ≤ R.frames ∧ 8 + (μ'.2.2.1 + 11) + 64 * d ≤ R.locals) (hk : k + k' ≤ R.cells ∧ n + n' ≤ R.slots) (hr : (rest.map fun v => v.category).sum ≤ 8) (kk : ∀ v, J γ μ R Q (k + k') (n + n') (pc + 3) L (v.toList ++ rest) (Po v)) : J γ μ R Q k n pc L st P := by
  intro p l e s m args below meth c B H locs ls hL hP hS
  have hts := B.2.2.2.2.2.2.1
  have hK := B.2.2.2.2.2.2.2.1
  have hcode : (Cond.code y μ'.2.1 μ'.2.2.1 μ'.2.2.2.1).before args s = true := by rw [← cwOf_0 h0]; exact hts _ mi.1
  exact J_run (va_runU (cc := μ.2.1) (nL := μ.2.2.1) (Ts := WSA) (own := own) (C := C) (owner := y.cls) (x := y) (y := y) (index := index) (n := nn) (bytes := μ'.2.1) (maxL := μ'.2.2.1) (ret := μ'.2.2.2.1) ⟨B.1, B.2.1, B.2.2.1, hown ▸ B.2.2.2.2.2.1, hts⟩ (hE l B.2.2.2.2.2.2.2.2.1)
      ⟨⟨rfl, rfl, hR.1, hR.2, WSA_warm hts mi.1, by rw [← cwOf_0 h0]; exact List.mem_cons_self⟩, hcode, hts _ mi.2.2.2.1, ⟨mi.2.2.2.2.1, mi.2.2.2.2.2.1⟩, okN mi.2.2.2.2, hts _ w, hts _ mi.2.2.1, va_Decl.of (hts _ mi.2.1) hcode, hsel args s hts hK, hts _ mi.2.1⟩
      ⟨blindK, hb.cell hK hP, fun U hU hW => ⟨rfl, hK.go hS hU hW, by rw [hU]; exact hP⟩⟩ rfl hn hL.1 hst (lv_room hr) dd hk) hS
    (fun v H1 locs1 hPo hS1 => kk v p l e s m args below meth c B H1 locs1 ls hL hPo hS1)
theorem J.callSU {own C : String} {index d k' n' nn b : Nat} {μ' : Mu} {y : MethodName} {As st : List Value} {Po : Option Value → Heap → Prop} (hE : Ev γ μ' y d k' n' (.ref b :: As) P Po) (hown : μ.1 = own) (w : Cond.methodLink own index y ∈ WSA) (mi : MU_ y μ' nn) (hsup : Cond.superclass own y.cls ∈ WSA) (hno : y.name ≠ "<init>") (h0 : μ'.2.2.2.2.1 = []) (dd : decode μ.2.1 pc = .ok (.invokespecial index, 3)) (hb : ∀ H, P H → ∃ (ci : Nat) (fs : List Value) (r : vw_C), va_at γ.1 vwCl (b, .inr (ci, fs)) H ∧ vwCl[ci]? = some r ∧ r.1 = C) (hst : st = As.reverse ++ .ref b :: rest) (hn : As.length = nn)
    (hR : d + 1 ≤ R.frames ∧ 8 + (μ'.2.2.1 + 11) + 64 * d ≤ R.locals) (hk : k + k' ≤ R.cells ∧ n + n' ≤ R.slots) (hr : (rest.map fun v => v.category).sum ≤ 8) (kk : ∀ v, J γ μ R Q (k + k') (n + n') (pc + 3) L (v.toList ++ rest) (Po v)) : J γ μ R Q k n pc L st P := by
  intro p l e s m args below meth c B H locs ls hL hP hS
  have hts := B.2.2.2.2.2.2.1
  have hK := B.2.2.2.2.2.2.2.1
  have hcode : (Cond.code y μ'.2.1 μ'.2.2.1 μ'.2.2.2.1).before args s = true := by rw [← cwOf_0 h0]; exact hts _ mi.1
  obtain ⟨ci, fs, r, -, h2, h3⟩ := hb H hP
  obtain ⟨-, hfc, kC, hkC, hkind⟩ := hK.1.1 ci _ h2
  have hcell : Isa γ C b P := hb
  exact J_run (va_runSU (cc := μ.2.1) (nL := μ.2.2.1) (Ts := WSA) (own := own) (C := C) (cC := γ.1.1 ci) (y := y) (index := index) (n := nn) (bytes := μ'.2.1) (maxL := μ'.2.2.1) (ret := μ'.2.2.2.1) (by rw [← h3]; exact ⟨hfc, kC, hkC, hkind⟩) ⟨B.1, B.2.1, B.2.2.1, hown ▸ B.2.2.2.2.2.1, hts⟩ (hE l B.2.2.2.2.2.2.2.2.1)
      ⟨⟨rfl, rfl, hR.1, hR.2, WSA_warm hts mi.1, by rw [← cwOf_0 h0]; exact List.mem_cons_self⟩, hts _ w, hts _ mi.2.2.1, hts _ hsup, hts _ mi.2.1, hts _ mi.2.2.2.1, hcode, hno, okN mi.2.2.2.2⟩
      ⟨blindK, hcell.cell hK hP, fun U hU hW => ⟨rfl, hK.go hS hU hW, by rw [hU]; exact hP⟩⟩ rfl hn hL.1 hst (lv_room hr) dd hk) hS
    (fun v H1 locs1 hPo hS1 => kk v p l e s m args below meth c B H1 locs1 ls hL hPo hS1)
/-- a new array of bytes -/
theorem J.newB {len : Nat} {x : Int32} (d : decode μ.2.1 pc = .ok (.newarray .byte, 2)) (hx : x = nI len) (hl : len < 100000) (hc : k + 1 ≤ R.cells) (hs : n + len ≤ R.slots)
    (kk : ∀ q, J γ μ R Q (k + 1) (n + len) (pc + 2) L (.ref q :: rest) (fun H' => ∃ H, P H ∧ gz γ ≤ q ∧ H.size ≤ q ∧ (∀ a : Nat, a < H.size → H'[a]? = H[a]?) ∧ va_at γ.1 vwCl (q, .inl (γ.2.1.2.1, len, .inl (fun _ => 0))) H')) : J γ μ R Q k n pc L (.int x :: rest) P := by
  intro p l e s m args below meth c B H locs ls hL hP hS
  have hts := B.2.2.2.2.2.2.1
  have hK := B.2.2.2.2.2.2.2.1
  subst hx
  refine va_newaK (atype := .byte) B.1 B.2.1 (hts _ (show Cond.arrayClass (newarray.typeOf .byte) ∈ WSA from wa_byte)) rfl d rfl (nI_pos (by omega)) (nI_clamp (by omega)) (by show len * 1 ≤ _; omega) hc hs rfl fun H1 cA e1 z1 o1 hAr hNm => ?_
  have hcA : cA = γ.2.1.2.1 := Option.some.inj (hNm.symm.trans (hK.1.2 1 _ rfl).2)
  subst hcA
  refine kk H.size p l e s m args below meth c B H1 locs ls hL ⟨H, hP, Nat.le_trans hK.2.1 hS.1, Nat.le_refl _, o1, ?_⟩ ⟨by rw [z1]; exact Nat.le_succ_of_le hS.1, fun q a b => by rw [o1 q (Nat.lt_of_lt_of_le a hS.1)]; exact hS.2.1 q a b, hS.2.2⟩
  show H1[H.size]? = some (vp_cell _ _)
  rw [vp_cell_i]
  exact e1
end JUp
/-- an object's address is returned -/
theorem J.aretO {γ : Gm} {μ : Mu} {R : Room} {k n pc k0 n0 a : Nat} {L : List (Option Value)} {P : Heap → Prop} {rt : FieldType} {Po : Option Value → Heap → Prop} (d : decode μ.2.1 pc = .ok (.areturn, 1)) (hr : μ.2.2.2.1 = some rt) (hrt : (∃ n, rt = .object n) ∨ ∃ t, rt = .array t) (hk : k ≤ k0) (hn : n ≤ n0) (h : ∀ H, P H → Po (some (.ref a)) H) : J γ μ R (fEv γ k0 n0 Po) k n pc L [.ref a] P := J.aret d hr hrt (.inr ⟨a, rfl⟩) hk hn h
