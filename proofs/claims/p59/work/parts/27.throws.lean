/-! throws of the class PromiseDepot: refuse, keepDenial, what is required -/
abbrev iaE : String := "java/lang/IllegalArgumentException"
abbrev ioE : String := "java/lang/IndexOutOfBoundsException"
abbrev uoE : String := "java/lang/UnsupportedOperationException"
abbrev isE : String := "java/lang/IllegalStateException"
abbrev arE : String := "java/lang/ArithmeticException"
abbrev nmE : List String := ["java/lang/RuntimeException", "java/lang/Exception"]
theorem wab (ws : List Cond) (h : ws.all (fun w => decide (w ∈ lw_tbl) && (goodWord w || isB w)) = true) : ∀ w ∈ ws, w ∈ WSA ∨ w ∈ WSB := by
  intro w hw
  have h1 := List.all_eq_true.mp h w hw
  simp only [Bool.and_eq_true, decide_eq_true_eq, Bool.or_eq_true] at h1
  exact h1.2.imp (fun g => List.mem_filter.mpr ⟨h1.1, g⟩) (fun g => List.mem_filter.mpr ⟨h1.1, g⟩)
theorem J.throwW {γ : Gm} {μ : Mu} {R : Room} {k n pc : Nat} {L : List (Option Value)} {rest : List Value} {P : Heap → Prop} {own cls text : String} {names : List String} {ik is ic si k0 n0 : Nat} {bs : List Nat} {Po : Option Value → Heap → Prop} {Px : String → Heap → Prop} (hown : μ.1 = own) (hcls : Bundle.fit cls = true) (hnames : ∀ n ∈ names, Bundle.fit n = true) (hk : Cond.classLink own ik cls ∈ WSA) (hini : Cond.initialized cls ∈ WSA) (hstr : SKs[si]? = some (own, is, text, bs)) (hat : ∀ w ∈ vx_atS own ic cls names, w ∈ WSA ∨ w ∈ WSB) (hgood : ∀ w ∈ Cond.classLink own ik cls :: Cond.initialized cls :: vx_atS own ic cls names, vx_ot w = true)
    (d0 : decode μ.2.1 pc = .ok (.new ik, 3)) (d3 : decode μ.2.1 (pc + 3) = .ok (.dup, 1)) (d4 : decode μ.2.1 (pc + 4) = .ok (.ldc_w is, 3)) (d7 : decode μ.2.1 (pc + 7) = .ok (.invokespecial ic, 3)) (d10 : decode μ.2.1 (pc + 10) = .ok (.athrow, 1)) (h0 : μ.2.2.2.2.1 = [])
    (hRf : names.length + 3 < R.frames) (hRl : (rest.map fun v => v.category).sum + (13 * (names.length + 1) + 43) ≤ R.locals) (hRc : k + 1 ≤ R.cells) (hRs : n + 6 ≤ R.slots) (hc : k + 1 ≤ k0) (hs : n + 6 ≤ n0) (h : ∀ H H' : Heap, P H → H.size ≤ H'.size → (∀ q : Nat, q < H.size → H'[q]? = H[q]?) → Px cls H') :
    J γ μ R (fEx γ k0 n0 Po Px) k n pc L rest P := by
  intro p l e s m args below meth c B H locs ls hL hP hS
  have hts := B.2.2.2.2.2.2.1
  have hK := B.2.2.2.2.2.2.2.1
  refine vx_throwSW (own := own) (cls := cls) (names := names) B.1 B.2.1 B.2.2.2.2.2.2.2.2.1 (hown ▸ B.2.2.2.2.2.1) hcls hnames (hts _ hk) (hts _ hini) (hK.2.2.2.2.1 si _ hstr) (fun w hw => ?_) hgood hK.2.2.2.2.2.2.1 hK.2.2.2.2.2.2.2.1 hS (hL.1.trans B.2.2.1.symm) d0 d3 d4 d7 d10 (by rw [B.2.2.2.2.2.2.2.2.2.1, h0]; intro x hx; cases hx) hRf hRl hRc hRs B.2.2.2.2.1 (fun t hv hz hq => ⟨h H _ hP hz hq, ?_⟩) hS.2.2 hc hs
  · rcases hat w hw with h | h
    · exact hts w h
    · have hn := hK.2.2.1 w h
      have hg := (List.mem_filter.mp h).2
      cases w <;> simp only [isB, Bool.false_eq_true] at hg
      all_goals exact va_Nw.use rfl hn
  · exact ⟨Nat.le_trans hS.1 hz, fun q h1 h2 => by rw [hq q (Nat.lt_of_lt_of_le h1 hS.1)]; exact hS.2.1 q h1 h2⟩
theorem tw_ia : (∀ w ∈ vx_atS RX11 257 iaE nmE, w ∈ WSA ∨ w ∈ WSB) ∧ ∀ w ∈ Cond.classLink RX11 253 iaE :: Cond.initialized iaE :: vx_atS RX11 257 iaE nmE, vx_ot w = true := ⟨wab _ (by decide +kernel), List.all_eq_true.mp (by decide +kernel)⟩
theorem tw_io : (∀ w ∈ vx_atS RX11 307 ioE nmE, w ∈ WSA ∨ w ∈ WSB) ∧ ∀ w ∈ Cond.classLink RX11 303 ioE :: Cond.initialized ioE :: vx_atS RX11 307 ioE nmE, vx_ot w = true := ⟨wab _ (by decide +kernel), List.all_eq_true.mp (by decide +kernel)⟩
theorem tw_uo : (∀ w ∈ vx_atS RX11 265 uoE nmE, w ∈ WSA ∨ w ∈ WSB) ∧ ∀ w ∈ Cond.classLink RX11 261 uoE :: Cond.initialized uoE :: vx_atS RX11 265 uoE nmE, vx_ot w = true := ⟨wab _ (by decide +kernel), List.all_eq_true.mp (by decide +kernel)⟩
theorem tw_is : (∀ w ∈ vx_atS RX11 242 isE nmE, w ∈ WSA ∨ w ∈ WSB) ∧ ∀ w ∈ Cond.classLink RX11 238 isE :: Cond.initialized isE :: vx_atS RX11 242 isE nmE, vx_ot w = true := ⟨wab _ (by decide +kernel), List.all_eq_true.mp (by decide +kernel)⟩
theorem tw_ar : (∀ w ∈ vx_atS RX11 229 arE nmE, w ∈ WSA ∨ w ∈ WSB) ∧ ∀ w ∈ Cond.classLink RX11 225 arE :: Cond.initialized arE :: vx_atS RX11 229 arE nmE, vx_ot w = true := ⟨wab _ (by decide +kernel), List.all_eq_true.mp (by decide +kernel)⟩
theorem tw_ns : (∀ w ∈ (nsA RX11 339).filter vx_no, w ∈ WSA ∨ w ∈ WSB) ∧ ∀ w ∈ Cond.classLink RX11 335 nsC :: Cond.initialized nsC :: (nsA RX11 339).filter vx_no, vx_ot w = true := ⟨wab _ (by decide +kernel), List.all_eq_true.mp (by decide +kernel)⟩
/-- a method of the class that may throw one exception, or that hands one on -/
abbrev Xm (γ : Gm) (μ : Mu) (y : MethodName) (d : Nat) (av : List Value) (v : Vs) (Po : Option Value → Heap → Prop) (Px : String → Heap → Prop) : Prop := Ex γ μ y d 1 6 av (Rp γ v) Po Px
