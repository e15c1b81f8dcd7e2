/-! rows for constructors: new objects and arrays, calls of constructors -/
section JMk
variable {γ : Gm} {μ : Mu} {R : Room} {Q : Fin_} {k n pc : Nat} {L : List (Option Value)} {rest : List Value} {P : Heap → Prop}
/-- a constructor is called that the class may call by itself -/
theorem J.callC {own : String} {index d k' n' nn b : Nat} {μ' : Mu} {y : MethodName} {As st : List Value} {Po : Option Value → Heap → Prop} (hE : Ev γ μ' y d k' n' (.ref b :: As) P Po) (hown : μ.1 = own) (w : Cond.methodLink own index y ∈ WSA) (mi : MC y μ' nn) (h0 : μ'.2.2.2.2.1 = []) (hret : μ'.2.2.2.1 = none) (dd : decode μ.2.1 pc = .ok (.invokespecial index, 3)) (hst : st = As.reverse ++ .ref b :: rest) (hn : As.length = nn)
    (hR : d + 1 ≤ R.frames ∧ 8 + (μ'.2.2.1 + 11) + 64 * d ≤ R.locals) (hk : k + k' ≤ R.cells ∧ n + n' ≤ R.slots) (hr : (rest.map fun v => v.category).sum ≤ 8) (kk : ∀ v, J γ μ R Q (k + k') (n + n') (pc + 3) L (v.toList ++ rest) (Po v)) : J γ μ R Q k n pc L st P := by
  intro p l e s m args below meth c B H locs ls hL hP hS
  have hts := B.2.2.2.2.2.2.1
  have hK := B.2.2.2.2.2.2.2.1
  exact J_run (va_runI (cc := μ.2.1) (nL := μ.2.2.1) (Ts := WSA) (own := own) ⟨B.1, B.2.1, B.2.2.1, hown ▸ B.2.2.2.2.2.1, hts⟩ (hE l B.2.2.2.2.2.2.2.2.1) ⟨hret ▸ callB_J hts w mi.1 h0 mi.2.2.1 mi.2.2.2.2 hR, mi.2.2.2.1, hts _ mi.2.1⟩ ⟨blindK, fun U hU hW => ⟨rfl, hK.go hS hU hW, by rw [hU]; exact hP⟩⟩ rfl hn hL.1 hst (lv_room hr) dd hk) hS
    (fun v H1 locs1 hPo hS1 => kk v p l e s m args below meth c B H1 locs1 ls hL hPo hS1)
/-- .. and a private one of the same nest -/
theorem J.callN {own host : String} {index d k' n' nn b : Nat} {μ' : Mu} {y : MethodName} {As st : List Value} {Po : Option Value → Heap → Prop} (hE : Ev γ μ' y d k' n' (.ref b :: As) P Po) (hown : μ.1 = own) (w : Cond.methodLinkNest own index y host ∈ WSB) (mi : MC y μ' nn) (h0 : μ'.2.2.2.2.1 = []) (hret : μ'.2.2.2.1 = none) (dd : decode μ.2.1 pc = .ok (.invokespecial index, 3)) (hst : st = As.reverse ++ .ref b :: rest) (hn : As.length = nn)
    (hR : d + 1 ≤ R.frames ∧ 8 + (μ'.2.2.1 + 11) + 64 * d ≤ R.locals) (hk : k + k' ≤ R.cells ∧ n + n' ≤ R.slots) (hr : (rest.map fun v => v.category).sum ≤ 8) (kk : ∀ v, J γ μ R Q (k + k') (n + n') (pc + 3) L (v.toList ++ rest) (Po v)) : J γ μ R Q k n pc L st P := by
  intro p l e s m args below meth c B H locs ls hL hP hS
  have hts := B.2.2.2.2.2.2.1
  have hK := B.2.2.2.2.2.2.2.1
  have hcode : (Cond.code y μ'.2.1 μ'.2.2.1 none).before args s = true := by rw [← hret, ← cwOf_0 h0]; exact hts _ mi.1
  exact J_run (va_runIN (cc := μ.2.1) (nL := μ.2.2.1) (Ts := WSA) (own := own) (host := host) ⟨B.1, B.2.1, B.2.2.1, hown ▸ B.2.2.2.2.2.1, hts⟩ (hE l B.2.2.2.2.2.2.2.2.1)
      ⟨⟨⟨rfl, rfl, hR.1, hR.2, WSA_warm hts mi.1, by rw [← hret, ← cwOf_0 h0]; exact List.mem_cons_self⟩, hcode, hts _ mi.2.2.1, ⟨mi.2.2.2.2.1, mi.2.2.2.2.2.1⟩, okN mi.2.2.2.2, va_Nw.use rfl (hK.2.2.1 _ w)⟩, mi.2.2.2.1, hts _ mi.2.1⟩
      ⟨blindK, fun U hU hW => ⟨rfl, hK.go hS hU hW, by rw [hU]; exact hP⟩⟩ rfl hn hL.1 hst (lv_room hr) dd hk) hS
    (fun v H1 locs1 hPo hS1 => kk v p l e s m args below meth c B H1 locs1 ls hL hPo hS1)
/-- a new object -/
theorem J.nw {own C : String} {T : u_T} {N ci index : Nat} {ty0 : Nat → FieldType} {fs0 : List Value} (hown : μ.1 = own) (hc : vwCl[ci]? = some (C, T, N)) (hin : ∀ w ∈ u_ws C T N, w ∈ WSA) (hty : ∀ k, k < N → parseFieldDescriptor (T k).2.2.1 = some (ty0 k)) (hfs : ∀ j, j < N → defaultValue (ty0 j) = vp_V fs0 j) (wk : Cond.classLink own index C ∈ WSA) (wj : Cond.instantiable C N ∈ WSA) (wn : Cond.initialized C ∈ WSA) (d : decode μ.2.1 pc = .ok (.new index, 3)) (hcells : k + 1 ≤ R.cells) (hslots : n + N ≤ R.slots)
    (kk : ∀ H0, P H0 → J γ μ R Q (k + 1) (n + N) (pc + 3) L (.ref H0.size :: rest) (fun H => H.size = H0.size + 1 ∧ (∀ q : Nat, q < H0.size → H[q]? = H0[q]?) ∧ va_at γ.1 vwCl (H0.size, .inr (ci, fs0)) H)) : J γ μ R Q k n pc L rest P := by
  intro p l e s m args below meth c B H locs ls hL hP hS
  have hts := B.2.2.2.2.2.2.1
  have hK : va_K γ.1 vwCl (tysOf γ) s := B.2.2.2.2.2.2.2.1.1
  have hKn := hK.1 ci _ hc
  refine W.newcK B.1 B.2.1 (hown ▸ B.2.2.2.2.2.1) (hts _ wk) (hts _ wj) (hts _ wn) rfl d hcells hslots hKn.2.1 rfl fun H1 kC hkC e1 z1 o1 => ?_
  exact kk H hP p l e s m args below meth c B H1 locs ls hL ⟨z1, o1, ⟨_, hc, (u_born ty0 hts hin hKn hkC e1 hty).to hfs⟩⟩ ⟨Nat.le_trans hS.1 (by omega), fun x h1 h2 => (o1 x (Nat.lt_of_lt_of_le h1 hS.1)).trans (hS.2.1 x h1 h2), hS.2.2⟩
/-- a new array of ints -/
theorem J.newI {len : Nat} {x : Int32} (d : decode μ.2.1 pc = .ok (.newarray .int, 2)) (hx : x = nI len) (hl : len < 100000) (hc : k + 1 ≤ R.cells) (hs : n + len ≤ R.slots)
    (kk : ∀ H0, P H0 → J γ μ R Q (k + 1) (n + len) (pc + 2) L (.ref H0.size :: rest) (fun H => H.size = H0.size + 1 ∧ (∀ q : Nat, q < H0.size → H[q]? = H0[q]?) ∧ va_at γ.1 vwCl (H0.size, .inl (γ.2.1.1, len, .inl (fun _ => 0))) H)) : J γ μ R Q k n pc L (.int x :: rest) P := by
  intro p l e s m args below meth c B H locs ls hL hP hS
  have hts := B.2.2.2.2.2.2.1
  have hK := B.2.2.2.2.2.2.2.1
  subst hx
  refine va_newaK (atype := .int) B.1 B.2.1 (hts _ (show Cond.arrayClass (newarray.typeOf .int) ∈ WSA from wa_int)) rfl d rfl (nI_pos (by omega)) (nI_clamp (by omega)) (by show len * 4 ≤ _; omega) hc hs rfl fun H1 cA e1 z1 o1 hAr hNm => ?_
  have hcA : cA = γ.2.1.1 := Option.some.inj (hNm.symm.trans (hK.1.2 0 _ rfl).2)
  subst hcA
  refine kk H hP p l e s m args below meth c B H1 locs ls hL ⟨z1, o1, ?_⟩ ⟨by rw [z1]; exact Nat.le_succ_of_le hS.1, fun q a b => by rw [o1 q (Nat.lt_of_lt_of_le a hS.1)]; exact hS.2.1 q a b, hS.2.2⟩
  show H1[H.size]? = some (vp_cell _ _)
  rw [vp_cell_i]
  exact e1
end JMk
section JMk2
variable {γ : Gm} {μ : Mu} {R : Room} {Q : Fin_} {k n pc : Nat} {L : List (Option Value)} {rest : List Value} {P : Heap → Prop}
/-- the constructor of Object does nothing -/
theorem J.objI {own : String} {index a : Nat} (hown : μ.1 = own) (w : Cond.methodLink own index yEjava_lang_Object__init____V ∈ WSA) (d : decode μ.2.1 pc = .ok (.invokespecial index, 3)) (hR : 1 ≤ R.frames ∧ 64 ≤ R.locals) (hr : (rest.map fun v => v.category).sum ≤ 8) (kk : J γ μ R Q k n (pc + 3) L rest P) : J γ μ R Q k n pc L (.ref a :: rest) P := by
  intro p l e s m args below meth c B H locs ls hL hP hS
  have hts := B.2.2.2.2.2.2.1
  refine W.objInit B.1 B.2.1 (hown ▸ B.2.2.2.2.2.1) (hts _ w) (hts _ wi_Ejava_lang_Object__init____V) (hts _ wc_Ejava_lang_Object__init____V) rfl (hL.1.trans B.2.2.1.symm) rfl d hR.1 ?_ (kk p l e s m args below meth c B H locs ls hL hP hS)
  have h8 : 2 * (F0 m pc ls (.ref a :: rest)).monitorRoom + (rest.map fun v => v.category).sum ≤ 8 := lv_room hr
  omega
/-- a new array of stocks -/
theorem J.newQ {own : String} {index len : Nat} {x : Int32} (hown : μ.1 = own) (wk : Cond.classLink own index "PromiseDepot$Stock" ∈ WSA) (d : decode μ.2.1 pc = .ok (.anewarray index, 3)) (hx : x = nI len) (hl : len < 100000) (hc : k + 1 ≤ R.cells) (hs : n + len ≤ R.slots)
    (kk : ∀ H0, P H0 → J γ μ R Q (k + 1) (n + len) (pc + 3) L (.ref H0.size :: rest) (fun H => H.size = H0.size + 1 ∧ (∀ q : Nat, q < H0.size → H[q]? = H0[q]?) ∧ va_at γ.1 vwCl (H0.size, .inl (γ.2.1.2.2, len, .inr (.inr (.inr (.inr (fun _ => none)))))) H)) : J γ μ R Q k n pc L (.int x :: rest) P := by
  intro p l e s m args below meth c B H locs ls hL hP hS
  have hts := B.2.2.2.2.2.2.1
  have hK := B.2.2.2.2.2.2.2.1
  subst hx
  have hN : (nI len).toNatClampNeg = len := nI_clamp (by omega)
  refine W.anew B.1 B.2.1 (hown ▸ B.2.2.2.2.2.1) (hts _ wk) (va_AO.use hK.2.2.2.2.2.1) rfl d rfl (nI_pos (by omega)) (by rw [hN]; omega) hc (by rw [hN]; exact hs) fun cA kA comp f1 f2 f3 f4 => ?_
  rw [hN]
  have hcA : cA = γ.2.1.2.2 := by
    obtain ⟨-, -, -, -, -, k4⟩ := (hK.1.2 2 _ rfl).2
    exact Option.some.inj (f1.symm.trans k4)
  subst hcA
  generalize hH1 : H.push ({ cls := γ.2.1.2.2, slots := Array.replicate len .null, vm := .none } : Cell) = H1
  have z1 : H1.size = H.size + 1 := by rw [← hH1, Array.size_push]
  have e1 : H1[H.size]? = some (arrV γ.2.1.2.2 len (fun _ => .null)) := by rw [← hH1, Array.getElem?_push_size, ← arrV_new]
  have o1 : ∀ q : Nat, q < H.size → H1[q]? = H[q]? := fun q hq => by rw [← hH1, Array.getElem?_push, if_neg (Nat.ne_of_lt hq)]
  refine kk H hP p l e s m args below meth c B H1 locs ls hL ⟨z1, o1, ?_⟩ ⟨by rw [z1]; exact Nat.le_succ_of_le hS.1, fun q a b => by rw [o1 q (Nat.lt_of_lt_of_le a hS.1)]; exact hS.2.1 q a b, hS.2.2⟩
  show H1[H.size]? = some (vp_cell _ _)
  rw [vp_cell_q]
  exact e1
/-- a stock is put into an array of stocks -/
theorem J.astQ {a b n0 : Nat} {f : Nat → Option Nat} {vs : List Value} {i : Int32} {P' : Heap → Prop} (d : decode μ.2.1 pc = .ok (.aastore, 1)) (hat : ∀ H, P H → va_at γ.1 vwCl (a, .inl (γ.2.1.2.2, n0, .inr (.inr (.inr (.inr f))))) H) (hob : ∀ H, P H → va_at γ.1 vwCl (b, .inr (12, vs)) H) (hin : vp_in i n0) (ha : gz γ ≤ a)
    (hput : ∀ H H' : Heap, P H → va_at γ.1 vwCl (a, .inl (γ.2.1.2.2, n0, .inr (.inr (.inr (.inr (va_up f i.toNatClampNeg (some b))))))) H' → H'.size = H.size → (∀ q : Nat, q ≠ a → H'[q]? = H[q]?) → P' H') (kk : J γ μ R Q k n (pc + 1) L rest P') : J γ μ R Q k n pc L (.ref b :: .int i :: .ref a :: rest) P := by
  intro p l e s m args below meth c B H locs ls hL hP hS
  have hK := B.2.2.2.2.2.2.2.1
  have hlt : i.toNatClampNeg < n0 := Nat.not_le.mp fun q => hin (Or.inr q)
  have h0 : ¬ i < 0 := fun q => hin (Or.inl q)
  obtain ⟨r', hr', cellV, g1, g2, g3, -⟩ := hob H hP
  have hcls := (hK.1.1 12 (RX9, TX9, 7) rfl).2
  obtain ⟨kA, comp, k1, k2, k3, -⟩ := (hK.1.2 2 _ rfl).2
  have hcomp : comp = γ.1.1 12 := Option.some.inj (k3.symm.trans hcls.1)
  subst hcomp
  obtain ⟨kC, hkC, -⟩ := hcls.2
  refine W.aast B.1 B.2.1 (hat H hP) (fun q h => by cases h) (fun h => by cases h) k1 k2 rfl hkC ⟨h0, by show _ < (arrV _ _ _).slots.size; rw [arrV_size]; exact hlt⟩ g1 (fun q h => by rw [g3] at h; cases h) (by rw [g2]; exact hkC) (by rw [g2]; exact va_assign hcls) rfl rfl d fun H1 e1 z oq => ?_
  refine kk p l e s m args below meth c B H1 _ ls hL (hput H H1 hP ?_ z oq) (hS.put z oq ha)
  show H1[a]? = some (vp_cell _ _)
  rw [e1]
  rw [vp_cell_q, vp_cell_q, arrV_store]
  congr 2
  funext q
  by_cases hq : q = i.toNatClampNeg
  · subst hq
    simp [updV, va_up, va_rf]
  · simp [updV, va_up, hq]
end JMk2
/-! an object under construction: all before it is as in H0, what has been made behind it is finished -/
def Cn (γ : Gm) (v : Vs) (H0 : Heap) (k0 ci : Nat) (fs : List Value) (kc : Nat) (H : Heap) : Prop := H.size = gz γ + kc ∧ (∀ q : Nat, q < gz γ + k0 → H[q]? = H0[q]?) ∧ va_at γ.1 vwCl (gz γ + k0, .inr (ci, fs)) H ∧ ∀ (k : Nat) (x : Sh), k0 < k → k < kc → shape k = some x → va_at γ.1 vwCl (gz γ + k, shE γ v k x) H
section CnZ
variable {γ : Gm} {v : Vs} {H0 H H1 : Heap} {k0 ci kc kd cj : Nat} {fs fs0 : List Value}
theorem Cn.put {j : Nat} {x : Value} (h : Cn γ v H0 k0 ci fs kc H) (hat : va_at γ.1 vwCl (gz γ + k0, .inr (ci, fs.set j x)) H1) (hz : H1.size = H.size) (hq : ∀ q : Nat, q ≠ gz γ + k0 → H1[q]? = H[q]?) : Cn γ v H0 k0 ci (fs.set j x) kc H1 :=
  ⟨hz.trans h.1, fun q hlt => (hq q (by omega)).trans (h.2.1 q hlt), hat, fun k x h1 h2 h3 => (h.2.2.2 k x h1 h2 h3).kept (hq _ (by show gz γ + k ≠ _; omega))⟩
theorem Cn.new (h : Cn γ v H0 k0 ci fs kc H) (h1 : H1.size = gz γ + kc + 1) (h2 : ∀ q : Nat, q < gz γ + kc → H1[q]? = H[q]?) (h3 : va_at γ.1 vwCl (gz γ + kc, .inr (cj, fs0)) H1) : Cn γ v H kc cj fs0 (kc + 1) H1 := by
  have hs := h.1
  refine ⟨by omega, fun q hq => h2 q (by omega), h3, fun k x a b _ => by omega⟩
theorem Cn.back (h : Cn γ v H0 k0 ci fs kc H) (hk : k0 < kc) {fks : List (Option Nat)} (h1 : Cn γ v H kc cj fs0 kd H1) (hs : shape kc = some (.inl (cj, fks))) (hf : fs0 = fvs (gz γ) (v kc) 0 fks) (hd : kc < kd) : Cn γ v H0 k0 ci fs kd H1 := by
  have hz := h.1
  refine ⟨h1.1, fun q hq => (h1.2.1 q (by omega)).trans (h.2.1 q hq), h.2.2.1.kept (h1.2.1 _ (by show gz γ + k0 < _; omega)), fun k x a b c => ?_⟩
  by_cases q1 : k < kc
  · exact (h.2.2.2 k x a q1 c).kept (h1.2.1 _ (by show gz γ + k < _; omega))
  · by_cases q2 : k = kc
    · subst q2
      rw [hs] at c
      cases c
      have := h1.2.2.1
      rw [hf] at this
      exact this
    · exact h1.2.2.2 k x (by omega) b c
theorem Cn.arr {len : Nat} (h : Cn γ v H0 k0 ci fs kc H) (hk : k0 < kc) (h1 : H1.size = gz γ + kc + 1) (h2 : ∀ q : Nat, q < gz γ + kc → H1[q]? = H[q]?) (h3 : va_at γ.1 vwCl (gz γ + kc, .inl (γ.2.1.1, len, .inl (fun _ => 0))) H1) (hs : shape kc = some (.inr len)) (hv : v kc = fun _ => 0) : Cn γ v H0 k0 ci fs (kc + 1) H1 := by
  have hz := h.1
  refine ⟨by omega, fun q hq => (h2 q (by omega)).trans (h.2.1 q hq), h.2.2.1.kept (h2 _ (by show gz γ + k0 < _; omega)), fun k x a b c => ?_⟩
  by_cases q1 : k < kc
  · exact (h.2.2.2 k x a q1 c).kept (h2 _ (by show gz γ + k < _; omega))
  · have q2 : k = kc := by omega
    subst q2
    rw [hs] at c
    cases c
    show va_at γ.1 vwCl (gz γ + k, .inl (γ.2.1.1, len, .inl (v k))) H1
    rw [hv]
    exact h3
theorem Cn.skip (h : Cn γ v H0 k0 ci fs kc H) (hk : k0 < kc) (h1 : H1.size = gz γ + kc + 1) (h2 : ∀ q : Nat, q < gz γ + kc → H1[q]? = H[q]?) (hs : shape kc = none) : Cn γ v H0 k0 ci fs (kc + 1) H1 := by
  have hz := h.1
  refine ⟨by omega, fun q hq => (h2 q (by omega)).trans (h.2.1 q hq), h.2.2.1.kept (h2 _ (by show gz γ + k0 < _; omega)), fun k x a b c => ?_⟩
  by_cases q1 : k < kc
  · exact (h.2.2.2 k x a q1 c).kept (h2 _ (by show gz γ + k < _; omega))
  · have q2 : k = kc := by omega
    subst q2
    rw [hs] at c
    cases c
end CnZ
