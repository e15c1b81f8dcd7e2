/-- the strings that the system has as constants: whose, the place in the pool, the text, its bytes -/
def SKs : List (String × Nat × String × List Nat) := [("PromiseDepot", 337, "no such lot", [110, 111, 32, 115, 117, 99, 104, 32, 108, 111, 116]), ("PromiseDepot", 340, "no such shelf", [110, 111, 32, 115, 117, 99, 104, 32, 115, 104, 101, 108, 102]), ("PromiseDepot", 342, "a parameter is out of range", [97, 32, 112, 97, 114, 97, 109, 101, 116, 101, 114, 32, 105, 115, 32, 111, 117, 116, 32, 111, 102, 32, 114, 97, 110, 103, 101]), ("PromiseDepot", 350, "denied", [100, 101, 110, 105, 101, 100]), ("PromiseDepot$Text", 62, "shelf # *", [115, 104, 101, 108, 102, 32, 35, 32, 42]), ("PromiseDepot$Text", 64, "receive # * #+*", [114, 101, 99, 101, 105, 118, 101, 32, 35, 32, 42, 32, 35, 43, 42]), ("PromiseDepot$Text", 66, "split * *", [115, 112, 108, 105, 116, 32, 42, 32, 42]), ("PromiseDepot$Text", 68, "mix *&*", [109, 105, 120, 32, 42, 38, 42]), ("PromiseDepot$Text", 70, "move *>#", [109, 111, 118, 101, 32, 42, 62, 35]), ("PromiseDepot$Text", 72, "ship # *", [115, 104, 105, 112, 32, 35, 32, 42]), ("PromiseDepot$Text", 74, "recall *", [114, 101, 99, 97, 108, 108, 32, 42]), ("PromiseDepot$Text", 76, "compost", [99, 111, 109, 112, 111, 115, 116]), ("PromiseDepot$Text", 78, "count #", [99, 111, 117, 110, 116, 32, 35]), ("PromiseDepot$Text", 80, "wait *", [119, 97, 105, 116, 32, 42]), ("PromiseDepot", 255, "the text does not match the grammar", [116, 104, 101, 32, 116, 101, 120, 116, 32, 100, 111, 101, 115, 32, 110, 111, 116, 32, 109, 97, 116, 99, 104, 32, 116, 104, 101, 32, 103, 114, 97, 109, 109, 97, 114]), ("PromiseDepot", 263, "a command of the text failed", [97, 32, 99, 111, 109, 109, 97, 110, 100, 32, 111, 102, 32, 116, 104, 101, 32, 116, 101, 120, 116, 32, 102, 97, 105, 108, 101, 100]), ("PromiseDepot", 368, "there is none", [116, 104, 101, 114, 101, 32, 105, 115, 32, 110, 111, 110, 101]), ("PromiseDepot", 313, "no change can be undone", [110, 111, 32, 99, 104, 97, 110, 103, 101, 32, 99, 97, 110, 32, 98, 101, 32, 117, 110, 100, 111, 110, 101]), ("PromiseDepot", 318, "there is no snapshot", [116, 104, 101, 114, 101, 32, 105, 115, 32, 110, 111, 32, 115, 110, 97, 112, 115, 104, 111, 116]), ("PromiseDepot", 240, "the text buffer is full", [116, 104, 101, 32, 116, 101, 120, 116, 32, 98, 117, 102, 102, 101, 114, 32, 105, 115, 32, 102, 117, 108, 108]), ("java/lang/StringIndexOutOfBoundsException", 13, "String index out of range: ", [83, 116, 114, 105, 110, 103, 32, 105, 110, 100, 101, 120, 32, 111, 117, 116, 32, 111, 102, 32, 114, 97, 110, 103, 101, 58, 32]), ("java/util/Arrays", 337, " > ", [32, 62, 32]), ("java/util/Arrays", 48, "fromIndex(", [102, 114, 111, 109, 73, 110, 100, 101, 120, 40]), ("java/util/Arrays", 57, ") > toIndex(", [41, 32, 62, 32, 116, 111, 73, 110, 100, 101, 120, 40]), ("java/util/Arrays", 59, ")", [41]), ("java/lang/ArrayIndexOutOfBoundsException", 13, "Array index out of range: ", [65, 114, 114, 97, 121, 32, 105, 110, 100, 101, 120, 32, 111, 117, 116, 32, 111, 102, 32, 114, 97, 110, 103, 101, 58, 32]), ("PromiseDepot", 227, "no lots are on shelves", [110, 111, 32, 108, 111, 116, 115, 32, 97, 114, 101, 32, 111, 110, 32, 115, 104, 101, 108, 118, 101, 115]), ("PromiseDepotLaw", 322, "shelf 0 40", [115, 104, 101, 108, 102, 32, 48, 32, 52, 48]), ("PromiseDepotLaw", 324, "shelf 1 5;shelf 2 17", [115, 104, 101, 108, 102, 32, 49, 32, 53, 59, 115, 104, 101, 108, 102, 32, 50, 32, 49, 55]), ("PromiseDepotLaw", 326, "receive 0 5 0+9", [114, 101, 99, 101, 105, 118, 101, 32, 48, 32, 53, 32, 48, 43, 57]), ("PromiseDepotLaw", 328, "receive 1 01 1+0;receive 2 3 2+99", [114, 101, 99, 101, 105, 118, 101, 32, 49, 32, 48, 49, 32, 49, 43, 48, 59, 114, 101, 99, 101, 105, 118, 101, 32, 50, 32, 51, 32, 50, 43, 57, 57]), ("PromiseDepotLaw", 330, "split 0 1", [115, 112, 108, 105, 116, 32, 48, 32, 49]), ("PromiseDepotLaw", 332, "split 1 2;split 1 1", [115, 112, 108, 105, 116, 32, 49, 32, 50, 59, 115, 112, 108, 105, 116, 32, 49, 32, 49]), ("PromiseDepotLaw", 334, "mix 0&1", [109, 105, 120, 32, 48, 38, 49]), ("PromiseDepotLaw", 336, "mix 2&3", [109, 105, 120, 32, 50, 38, 51]), ("PromiseDepotLaw", 338, "move 0>1", [109, 111, 118, 101, 32, 48, 62, 49]), ("PromiseDepotLaw", 340, "move 1>0;move 1>0", [109, 111, 118, 101, 32, 49, 62, 48, 59, 109, 111, 118, 101, 32, 49, 62, 48]), ("PromiseDepotLaw", 342, "ship 0 1", [115, 104, 105, 112, 32, 48, 32, 49]), ("PromiseDepotLaw", 344, "ship 1 9;ship 2 1", [115, 104, 105, 112, 32, 49, 32, 57, 59, 115, 104, 105, 112, 32, 50, 32, 49]), ("PromiseDepotLaw", 346, "recall 0", [114, 101, 99, 97, 108, 108, 32, 48]), ("PromiseDepotLaw", 348, "recall 1;compost", [114, 101, 99, 97, 108, 108, 32, 49, 59, 99, 111, 109, 112, 111, 115, 116]), ("PromiseDepotLaw", 350, "compost", [99, 111, 109, 112, 111, 115, 116]), ("PromiseDepotLaw", 351, "count 0", [99, 111, 117, 110, 116, 32, 48]), ("PromiseDepotLaw", 353, "count 7;count 0", [99, 111, 117, 110, 116, 32, 55, 59, 99, 111, 117, 110, 116, 32, 48]), ("PromiseDepotLaw", 355, "wait 1", [119, 97, 105, 116, 32, 49]), ("PromiseDepotLaw", 357, "wait 99", [119, 97, 105, 116, 32, 57, 57]), ("PromiseDepotLaw", 359, "shelf 3 1", [115, 104, 101, 108, 102, 32, 51, 32, 49]), ("PromiseDepotLaw", 361, "shelf 0 41", [115, 104, 101, 108, 102, 32, 48, 32, 52, 49]), ("PromiseDepotLaw", 363, "receive 6 1 0+1", [114, 101, 99, 101, 105, 118, 101, 32, 54, 32, 49, 32, 48, 43, 49]), ("PromiseDepotLaw", 365, "receive 0 0 0+1", [114, 101, 99, 101, 105, 118, 101, 32, 48, 32, 48, 32, 48, 43, 49]), ("PromiseDepotLaw", 367, "split 0 0", [115, 112, 108, 105, 116, 32, 48, 32, 48]), ("PromiseDepotLaw", 369, "mix 0&0", [109, 105, 120, 32, 48, 38, 48]), ("PromiseDepotLaw", 371, "move 0>8", [109, 111, 118, 101, 32, 48, 62, 56]), ("PromiseDepotLaw", 373, "ship 6 1", [115, 104, 105, 112, 32, 54, 32, 49]), ("PromiseDepotLaw", 375, "ship 0 0", [115, 104, 105, 112, 32, 48, 32, 48]), ("PromiseDepotLaw", 377, "recall 20", [114, 101, 99, 97, 108, 108, 32, 50, 48]), ("PromiseDepotLaw", 379, "wait 0", [119, 97, 105, 116, 32, 48])]
/-- pairs of exceptions: an object of the first is none of the second -/
def NCl : List (String × String) := [("java/util/NoSuchElementException", "java/lang/IllegalArgumentException"), ("java/lang/IndexOutOfBoundsException", "java/lang/IllegalArgumentException"), ("java/lang/UnsupportedOperationException", "java/lang/IllegalArgumentException"), ("java/lang/ArrayIndexOutOfBoundsException", "java/lang/IllegalArgumentException"), ("java/lang/StringIndexOutOfBoundsException", "java/lang/IllegalArgumentException"), ("java/lang/IllegalStateException", "java/lang/IllegalArgumentException"), ("java/lang/ArithmeticException", "java/lang/IllegalArgumentException"), ("java/util/NoSuchElementException", "java/lang/UnsupportedOperationException"), ("java/lang/IndexOutOfBoundsException", "java/lang/UnsupportedOperationException"), ("java/lang/IllegalArgumentException", "java/lang/UnsupportedOperationException"), ("java/lang/ArrayIndexOutOfBoundsException", "java/lang/UnsupportedOperationException"), ("java/lang/StringIndexOutOfBoundsException", "java/lang/UnsupportedOperationException"), ("java/lang/IllegalStateException", "java/lang/UnsupportedOperationException"), ("java/lang/ArithmeticException", "java/lang/UnsupportedOperationException"), ("java/lang/IndexOutOfBoundsException", "java/util/NoSuchElementException"), ("java/lang/IllegalArgumentException", "java/util/NoSuchElementException"), ("java/lang/UnsupportedOperationException", "java/util/NoSuchElementException"), ("java/lang/ArrayIndexOutOfBoundsException", "java/util/NoSuchElementException"), ("java/lang/StringIndexOutOfBoundsException", "java/util/NoSuchElementException"), ("java/lang/IllegalStateException", "java/util/NoSuchElementException"), ("java/lang/ArithmeticException", "java/util/NoSuchElementException"), ("java/util/NoSuchElementException", "java/lang/IllegalStateException"), ("java/lang/IndexOutOfBoundsException", "java/lang/IllegalStateException"), ("java/lang/IllegalArgumentException", "java/lang/IllegalStateException"), ("java/lang/UnsupportedOperationException", "java/lang/IllegalStateException"), ("java/lang/ArrayIndexOutOfBoundsException", "java/lang/IllegalStateException"), ("java/lang/StringIndexOutOfBoundsException", "java/lang/IllegalStateException"), ("java/lang/ArithmeticException", "java/lang/IllegalStateException"), ("java/util/NoSuchElementException", "java/lang/IndexOutOfBoundsException"), ("java/lang/IllegalArgumentException", "java/lang/IndexOutOfBoundsException"), ("java/lang/UnsupportedOperationException", "java/lang/IndexOutOfBoundsException"), ("java/lang/IllegalStateException", "java/lang/IndexOutOfBoundsException"), ("java/lang/ArithmeticException", "java/lang/IndexOutOfBoundsException"), ("java/util/NoSuchElementException", "java/lang/ArithmeticException"), ("java/lang/IndexOutOfBoundsException", "java/lang/ArithmeticException"), ("java/lang/IllegalArgumentException", "java/lang/ArithmeticException"), ("java/lang/UnsupportedOperationException", "java/lang/ArithmeticException"), ("java/lang/ArrayIndexOutOfBoundsException", "java/lang/ArithmeticException"), ("java/lang/StringIndexOutOfBoundsException", "java/lang/ArithmeticException"), ("java/lang/IllegalStateException", "java/lang/ArithmeticException")]
/-! the judgement J: the machine's walk from a frame, said of every heap with P; its rows are the kit's, with the machine put away -/
abbrev Gm : Type := va_G × (ClassId × ClassId × ClassId) × Nat × (Nat → Nat)
abbrev gz (γ : Gm) : Nat := γ.2.2.1
abbrev gA (γ : Gm) : Nat → Prop := fun q => γ.2.2.1 ≤ q
abbrev go (γ : Gm) : Nat → Nat := γ.2.2.2
def tysOf (γ : Gm) : List (ClassId × FieldType) := [(γ.2.1.1, .int), (γ.2.1.2.1, .byte), (γ.2.1.2.2, .object "PromiseDepot$Stock")]
def isB : Cond → Bool
  | .castable _ _ => true
  | .methodLinkNest _ _ _ _ => true
  | .declares _ => true
  | .privateMethod _ => true
  | _ => false
def WSB : List Cond := lw_tbl.filter isB
theorem Nw_warmP {x : MethodName} {s U : State} (hW : s.WarmedH U.vm) (hZ : va_Nw (.privateMethod x) s) : va_Nw (.privateMethod x) U := va_tabs rfl (rfl : (s.setVm U.vm).vm = U.vm) (by rw [Cond.privateMethod_setVm hW.alike]; exact hZ)
theorem wsbB (i : Nat) {w : Cond} (h : lw_tbl[i]? = some w) (g : isB w = true) : w ∈ WSB := List.mem_filter.mpr ⟨List.mem_of_getElem? h, g⟩
/-- the old cells that the system reads: strings, their bytes, statics -/
def Ko (γ : Gm) (U : State) (H : Heap) : Prop :=
  (∀ (i : Nat) (q : String × Nat × String × List Nat), SKs[i]? = some q → va_O "java/lang/String" (go γ (2 * i)) (gA γ) U H ∧ va_OF "java/lang/String" "coder" "B" (.int 0) (go γ (2 * i)) (gA γ) U H ∧ va_OF "java/lang/String" "value" "[B" (.ref (go γ (2 * i + 1))) (go γ (2 * i)) (gA γ) U H ∧ va_T .byte (go γ (2 * i + 1)) q.2.2.2.length (fun j => .int (nI (q.2.2.2.getD j 0))) (gA γ) U H) ∧
  va_Z "java/lang/String" "COMPACT_STRINGS" "Z" (.int 1) (gA γ) U H ∧
  va_Z "PromiseDepotLaw" "TEXTS" "[Ljava/lang/String;" (.ref (go γ 1000)) (gA γ) U H ∧ va_T (.object "java/lang/String") (go γ 1000) 30 (fun j => .ref (go γ (2 * (27 + j)))) (gA γ) U H ∧
  va_Z "java/lang/Integer" "DigitTens" "[B" (.ref (go γ 1001)) (gA γ) U H ∧ va_T .byte (go γ 1001) 100 (fun j => .int (nI (48 + j / 10))) (gA γ) U H ∧
  va_Z "java/lang/Integer" "DigitOnes" "[B" (.ref (go γ 1002)) (gA γ) U H ∧ va_T .byte (go γ 1002) 100 (fun j => .int (nI (48 + j % 10))) (gA γ) U H ∧
  va_Zq "jdk/internal/util/Preconditions" "SIOOBE_FORMATTER" "Ljava/util/function/BiFunction;" (gA γ) U H ∧ va_T .int (go γ 1003) (go γ 1004) (fun j => .int (nI (go γ (2000 + j)))) (gA γ) U H
theorem Ko.moved {γ : Gm} {u U : State} {H : Heap} (hvm : u.vm.Alike U.vm) (h : Ko γ u H) : Ko γ U H := by
  obtain ⟨h1, h2, h3, h4, h5, h6, h7, h8, h9, h10⟩ := h
  exact ⟨fun i q hq => ⟨va_O.moved hvm (h1 i q hq).1, va_OF.moved hvm (h1 i q hq).2.1, va_OF.moved hvm (h1 i q hq).2.2.1, va_T.moved hvm (h1 i q hq).2.2.2⟩, va_Z.moved hvm h2, va_Z.moved hvm h3, va_T.moved hvm h4, va_Z.moved hvm h5, va_T.moved hvm h6, va_Z.moved hvm h7, va_T.moved hvm h8, va_Zq.moved hvm h9, va_T.moved hvm h10⟩
theorem Ko.kept {γ : Gm} {U : State} {H H1 : Heap} (h : Ko γ U H) (hq : ∀ a : Nat, a < H.size → ¬ gA γ a → H1[a]? = H[a]?) : Ko γ U H1 := by
  obtain ⟨h1, h2, h3, h4, h5, h6, h7, h8, h9, h10⟩ := h
  exact ⟨fun i q hi => ⟨(h1 i q hi).1.kept hq, (h1 i q hi).2.1.kept hq, (h1 i q hi).2.2.1.kept hq, (h1 i q hi).2.2.2.kept hq⟩, h2.kept hq, h3.kept hq, h4.kept hq, h5.kept hq, h6.kept hq, h7.kept hq, h8.kept hq, h9.kept hq, h10.kept hq⟩
/-- what every method takes as given of the state that it begins in, whatever lies in its own cells -/
def Kn (γ : Gm) (U : State) : Prop :=
  va_K γ.1 vwCl (tysOf γ) U ∧ gz γ ≤ U.heap.size ∧ (∀ w ∈ WSB, va_Nw w U) ∧ (∀ q ∈ NCl, va_Nc q.1 q.2 U) ∧ (∀ (i : Nat) (q : String × Nat × String × List Nat), SKs[i]? = some q → vk_R q.1 q.2.1 q.2.2.1 (go γ (2 * i)) U) ∧ va_AO "PromiseDepot$Stock" U ∧
  vx_Zq Bundle.tN "UNASSIGNED_STACK" Bundle.steD (gA γ) U U.heap ∧ vx_Zq Bundle.tN "SUPPRESSED_SENTINEL" Bundle.listD (gA γ) U U.heap ∧ Ko γ U U.heap
theorem Kn.move {γ : Gm} {u U : State} (h : Kn γ u) (hW : u.WarmedH U.vm) (hz : u.heap.size ≤ U.heap.size) (hq : ∀ a : Nat, a < u.heap.size → ¬ gA γ a → U.heap[a]? = u.heap[a]?) : Kn γ U := by
  obtain ⟨h1, h2, h3, h4, h5, h6, h7, h8, h9⟩ := h
  refine ⟨va_K.moved hW.alike h1, Nat.le_trans h2 hz, fun w hw => ?_, fun q hq => (h4 q hq).moved hW.alike, fun i q hi => vk_R.warm hW (h5 i q hi), va_AO.moved hW.alike h6, vx_Zq.moved hW.alike (h7.kept hq), vx_Zq.moved hW.alike (h8.kept hq), Ko.moved hW.alike (h9.kept hq)⟩
  have hg := (List.mem_filter.mp hw).2
  have h0 := h3 w hw
  cases w <;> simp only [isB, Bool.false_eq_true] at hg
  all_goals first | exact va_Nw.warmC hW h0 | exact va_Nw.warmM hW h0 | exact va_Nw.warmD hW h0 | exact Nw_warmP hW h0
theorem Kn.same {γ : Gm} {u U : State} (h : Kn γ u) (hv : U.vm = u.vm) (hh : U.heap = u.heap) : Kn γ U :=
  h.move (by rw [hv]; exact State.WarmedH.refl u) (by rw [hh]; exact Nat.le_refl _) (fun a _ _ => by rw [hh])
theorem Kn.go {γ : Gm} {s U : State} {H : Heap} {locs : List Loc} (h : Kn γ s) (hS : va_S (gA γ) s.heap H locs) (hU : U.heap = H) (hW : s.WarmedH U.vm) : Kn γ U :=
  h.move hW (by rw [hU]; exact hS.1) (fun a h1 h2 => by rw [hU]; exact hS.2.1 a h1 h2)
/-- a frame's locals, place by place (a long's second place, and what isn't known, is none) -/
def Lo (ls : Array Slot) (nL : Nat) (L : List (Option Value)) : Prop := ls.size = nL ∧ lv_wf ls ∧ ∀ (i : Nat) (v : Value), L[i]? = some (some v) → ls[i]? = some (.val v)
def toLv : Nat → List (Option Value) → List (Nat × Value)
  | _, [] => []
  | i, none :: t => toLv (i + 1) t
  | i, some v :: t => (i, v) :: toLv (i + 1) t
theorem toLv_in : ∀ (L : List (Option Value)) (i j : Nat) (v : Value), L[j]? = some (some v) → (i + j, v) ∈ toLv i L
  | [], i, j, v, h => by simp at h
  | none :: t, i, 0, v, h => by simp at h
  | none :: t, i, j + 1, v, h => by
    have := toLv_in t (i + 1) j v (by simpa using h)
    rw [show i + (j + 1) = i + 1 + j by omega]
    exact this
  | some w :: t, i, 0, v, h => by
    simp only [List.getElem?_cons_zero, Option.some.injEq] at h
    subst h
    exact List.mem_cons_self
  | some w :: t, i, j + 1, v, h => by
    have := toLv_in t (i + 1) j v (by simpa using h)
    rw [show i + (j + 1) = i + 1 + j by omega]
    exact List.mem_cons_of_mem _ this
theorem toLv_of : ∀ (L : List (Option Value)) (i : Nat) (q : Nat × Value), q ∈ toLv i L → ∃ j, q.1 = i + j ∧ L[j]? = some (some q.2)
  | [], i, q, h => by simp [toLv] at h
  | none :: t, i, q, h => by
    obtain ⟨j, h1, h2⟩ := toLv_of t (i + 1) q h
    exact ⟨j + 1, by omega, by simpa using h2⟩
  | some w :: t, i, q, h => by
    rcases List.mem_cons.mp h with rfl | h
    · exact ⟨0, rfl, rfl⟩
    · obtain ⟨j, h1, h2⟩ := toLv_of t (i + 1) q h
      exact ⟨j + 1, by omega, by simpa using h2⟩
theorem Lo.has {ls : Array Slot} {nL : Nat} {L : List (Option Value)} (h : Lo ls nL L) : lv_has ls nL (toLv 0 L) :=
  ⟨h.1, h.2.1, fun q hq => by obtain ⟨j, h1, h2⟩ := toLv_of L 0 q hq; rw [h1, Nat.zero_add]; exact h.2.2 j q.2 h2⟩
/-- the place ahead of i holds no long -/
def nc2 : List (Option Value) → Nat → Bool
  | _, 0 => true
  | L, i + 1 => match L[i]? with
    | some (some v) => v.category != 2
    | _ => true
theorem Lo.set1 {ls' : Array Slot} {nL i : Nat} {v : Value} {L : List (Option Value)} (h : lv_has ls' nL ((i, v) :: (toLv 0 L).filter (fun q => !(q.1 == i) && !(q.1 + 1 == i && q.2.category == 2)))) (hc : nc2 L i = true) : Lo ls' nL (L.set i (some v)) := by
  refine ⟨h.1, h.2.1, fun j w hj => ?_⟩
  by_cases hji : j = i
  · subst hji
    rw [List.getElem?_set] at hj
    simp only [if_true] at hj
    split at hj
    · cases hj
      exact h.2.2 (j, v) List.mem_cons_self
    · cases hj
  · rw [List.getElem?_set_ne (Ne.symm hji)] at hj
    refine h.2.2 (j, w) (List.mem_cons_of_mem _ (List.mem_filter.mpr ⟨by have := toLv_in L 0 j w hj; rwa [Nat.zero_add] at this, ?_⟩))
    simp only [Bool.and_eq_true, Bool.not_eq_true', beq_eq_false_iff_ne, ne_eq, hji, not_false_eq_true, true_and]
    by_cases h1 : j + 1 = i
    · subst h1
      simp only [nc2, hj] at hc
      simp only [beq_self_eq_true, Bool.true_and]
      simpa using hc
    · simp [h1]
theorem Lo.set2 {ls' : Array Slot} {nL i : Nat} {v : Value} {L : List (Option Value)} (h : lv_has ls' nL ((i, v) :: (toLv 0 L).filter (fun q => !(q.1 == i) && (!(q.1 == i + 1) && !(q.1 + 1 == i && q.2.category == 2))))) (hc : nc2 L i = true) : Lo ls' nL ((L.set i (some v)).set (i + 1) none) := by
  refine ⟨h.1, h.2.1, fun j w hj => ?_⟩
  by_cases hj2 : j = i + 1
  · subst hj2
    rw [List.getElem?_set] at hj
    simp only [if_true] at hj
    split at hj <;> cases hj
  rw [List.getElem?_set_ne (Ne.symm hj2)] at hj
  by_cases hji : j = i
  · subst hji
    rw [List.getElem?_set] at hj
    simp only [if_true] at hj
    split at hj
    · cases hj
      exact h.2.2 (j, v) List.mem_cons_self
    · cases hj
  · rw [List.getElem?_set_ne (Ne.symm hji)] at hj
    refine h.2.2 (j, w) (List.mem_cons_of_mem _ (List.mem_filter.mpr ⟨by have := toLv_in L 0 j w hj; rwa [Nat.zero_add] at this, ?_⟩))
    simp only [Bool.and_eq_true, Bool.not_eq_true', beq_eq_false_iff_ne, ne_eq, hji, hj2, not_false_eq_true, true_and]
    by_cases h1 : j + 1 = i
    · subst h1
      simp only [nc2, hj] at hc
      simp only [beq_self_eq_true, Bool.true_and]
      simpa using hc
    · simp [h1]
/-- what a body stands on -/
def Bd (γ : Gm) (μ : Mu) (p : Program) (l : Launch) (s : State) (m : MethodId) (args : Array Value) (meth : Method) (c : Code) : Prop :=
  p.tables.exec = Jvm.exec ∧ c.code = μ.2.1 ∧ c.maxLocals = μ.2.2.1 ∧ meth.sig.returnType = μ.2.2.2.1 ∧ meth.locks = false ∧ s.vm.findClass μ.1 = some m.cls ∧ (∀ w ∈ WSA, w.before args s = true) ∧ Kn γ s ∧ l.stackTraces = false ∧ c.exceptionTable.toList = tableOf μ.2.2.2.2.1 ∧ (μ.2.2.2.2.2 = true → meth.name = "<init>")
/-- what a walk comes to: the frame's own end -/
abbrev Fin_ : Type := Array Value → State → List Frame → State → Prop
def J (γ : Gm) (μ : Mu) (R : Room) (Q : Fin_) (k n pc : Nat) (L : List (Option Value)) (st : List Value) (P : Heap → Prop) : Prop :=
  ∀ (p : Program) (l : Launch) (e : Env) (s : State) (m : MethodId) (args : Array Value) (below : List Frame) (meth : Method) (c : Code), Bd γ μ p l s m args meth c →
    ∀ (H : Heap) (locs : List Loc) (ls : Array Slot), Lo ls μ.2.2.1 L → P H → va_S (gA γ) s.heap H locs → W p l e R s m args below meth c H locs k n (Q args s below) (F0 m pc ls st)
/-- .. and with an exception of the class E on its way out of the instruction at pc -/
def JX (γ : Gm) (μ : Mu) (R : Room) (Q : Fin_) (k n pc : Nat) (L : List (Option Value)) (E : String) (P : Heap → Prop) : Prop :=
  ∀ (p : Program) (l : Launch) (e : Env) (s : State) (m : MethodId) (args : Array Value) (below : List Frame) (meth : Method) (c : Code), Bd γ μ p l s m args meth c →
    ∀ (H : Heap) (locs : List Loc) (ls : Array Slot) (rest : List Value) (q : Addr) (ce : Cell), Lo ls μ.2.2.1 L → P H → va_S (gA γ) s.heap H locs → H[q]? = some ce → ce.vm = .none → s.vm.findClass E = some ce.cls → vx_W p l e R s m args below meth c H locs k n (Q args s below) (F0 m pc ls rest) q
/-- a method's end: it has returned v, Po v holds of the heap, nothing older than the system has changed -/
def Qp (γ : Gm) (Po : Option Value → Heap → Prop) : Array Value → State → Outcome → State → Prop := fun _ st oc t => ∃ v, oc = .returned v ∧ Po v t.heap ∧ va_F (gA γ) st t
def Qx (γ : Gm) (Px : String → Heap → Prop) : String → State → State → Prop := fun E st t => Px E t.heap ∧ va_F (gA γ) st t
abbrev rmD (d k n : Nat) : Room := { frames := d, cells := k, slots := n, locals := 64 * d }
/-- a method's contract: Ev returns, Ex returns or throws -/
def Ev (γ : Gm) (μ : Mu) (y : MethodName) (d k n : Nat) (av : List Value) (P : Heap → Prop) (Po : Option Value → Heap → Prop) : Prop :=
  ∀ l : Launch, l.stackTraces = false → Met l y (cwOf y μ :: WSA) (rmD d k n) (va_Pc av (fun U => Kn γ U ∧ P U.heap)) (Qp γ Po) k n (gA γ)
def Ex (γ : Gm) (μ : Mu) (y : MethodName) (d k n : Nat) (av : List Value) (P : Heap → Prop) (Po : Option Value → Heap → Prop) (Px : String → Heap → Prop) : Prop :=
  ∀ l : Launch, l.stackTraces = false → vx_Met l y (cwOf y μ :: WSA) (rmD d k n) (va_Pc av (fun U => Kn γ U ∧ P U.heap)) (Qp γ Po) (Qx γ Px) k n (gA γ)
def fEv (γ : Gm) (k n : Nat) (Po : Option Value → Heap → Prop) : Fin_ := fun args s below => MQ below (Qp γ Po) args s k n (gA γ)
def fEx (γ : Gm) (k n : Nat) (Po : Option Value → Heap → Prop) (Px : String → Heap → Prop) : Fin_ := fun args s below => vx_MQ below (Qp γ Po) (Qx γ Px) args s k n (gA γ)
def entL : List Value → List (Option Value)
  | [] => []
  | v :: t => some v :: (if v.category = 2 then none :: entL t else entL t)
theorem entL_in : ∀ (vs : List Value) (i j : Nat) (v : Value), (entL vs)[j]? = some (some v) → (i + j, v) ∈ lv_args i vs
  | [], i, j, v, h => by simp [entL] at h
  | w :: t, i, 0, v, h => by
    simp only [entL, List.getElem?_cons_zero, Option.some.injEq] at h
    subst h
    exact List.mem_cons_self
  | w :: t, i, j + 1, v, h => by
    simp only [entL, List.getElem?_cons_succ] at h
    simp only [lv_args]
    refine List.mem_cons_of_mem _ ?_
    by_cases hc : w.category = 2
    · simp only [hc, if_true] at h ⊢
      match j, h with
      | 0, h => simp at h
      | j + 1, h =>
        have := entL_in t (i + 2) j v (by simpa using h)
        rw [show i + (j + 1 + 1) = i + 2 + j by omega]
        exact this
    · simp only [hc, if_false] at h ⊢
      have := entL_in t (i + 1) j v h
      rw [show i + (j + 1) = i + 1 + j by omega]
      exact this
/-- the locals at a method's entry -/
def startL (av : List Value) (n : Nat) : List (Option Value) := entL av ++ List.replicate (n - (entL av).length) none
theorem Lo_start (av : List Value) {n : Nat} (h : (lg_sl av).length ≤ n) : Lo ((lg_sl av ++ List.replicate (n - (lg_sl av).length) Slot.unset).toArray) n (startL av n) := by
  obtain ⟨h1, h2, h3⟩ := lv_entry av h
  refine ⟨h1, h2, fun i v hi => ?_⟩
  unfold startL at hi
  rw [List.getElem?_append] at hi
  split at hi
  · have := h3 _ (entL_in av 0 i v hi)
    rwa [Nat.zero_add] at this
  · rw [List.getElem?_replicate] at hi
    split at hi <;> cases hi
theorem WSA_pay {args : Array Value} {s : State} {w0 : Cond} (h : (allAtoms (w0 :: WSA)).before args s = true) : ∀ w ∈ WSA, w.before args s = true := fun w hw => atoms_spec h w (List.mem_cons_of_mem _ hw)
theorem Bd_of {γ : Gm} {μ : Mu} {y : MethodName} {d k n : Nat} {p : Program} {l : Launch} {e : Env} {s : State} {m : MethodId} {args : Array Value} {below : List Frame} {meth : Method} {c : Code} {s₁ : State} (hl : l.stackTraces = false) (hown : μ.1 = y.cls) (hin : μ.2.2.2.2.2 = true → y.name = "<init>")
    (B : BodyLoose p l y (headSpec (cwOf y μ :: WSA) (rmD d k n)) μ.2.1 μ.2.2.1 μ.2.2.2.1 e s m args below meth c s₁) (hml : c.maxLocals = μ.2.2.1) (hK : Kn γ s) (ht : c.exceptionTable.toList = tableOf μ.2.2.2.2.1) : Bd γ μ p l s m args meth c :=
  ⟨B.exec, B.bytes, hml, B.returns, B.notSynchronized, by rw [hown]; exact findClass_of_methodNamed B.named, WSA_pay B.pre, hK, hl, ht, fun h => by rw [(name_of_methodNamed B.named B.method).1]; exact hin h⟩
theorem tab0 {μ : Mu} {y : MethodName} {S : Spec} {p : Program} {l : Launch} {e : Env} {s : State} {m : MethodId} {args : Array Value} {below : List Frame} {meth : Method} {c : Code} {s₁ : State} {cc : ByteArray} {maxL : Nat} {ret : Option FieldType}
    (B : BodyLoose p l y S cc maxL ret e s m args below meth c s₁) (h : (cwOf y μ).before args s = true) : c.exceptionTable.toList = tableOf μ.2.2.2.2.1 := by
  unfold cwOf at h
  split at h
  · rename_i h0
    obtain ⟨meth9, c9, h1, h2, -, -, -, -, h7, -⟩ := Cond.code_spec B.named h
    cases Option.some.inj (h1.symm.trans B.method)
    cases Option.some.inj (h2.symm.trans (Stand.of_body B).code)
    rw [h0, Array.isEmpty_iff.mp h7]
    rfl
  · exact vx_table (x := y) B h
theorem cwOf_0 {y : MethodName} {μ : Mu} (h : μ.2.2.2.2.1 = []) : cwOf y μ = Cond.code y μ.2.1 μ.2.2.1 μ.2.2.2.1 := by
  unfold cwOf
  rw [h]
theorem cwOf_1 {y : MethodName} {μ : Mu} (h : μ.2.2.2.2.1 ≠ []) : cwOf y μ = Cond.codeWith y μ.2.1 μ.2.2.1 μ.2.2.2.1 μ.2.2.2.2.1 := by
  unfold cwOf
  split
  · rename_i h0; exact absurd h0 h
  · rfl
theorem Ev.ofJ {γ : Gm} {μ : Mu} {y : MethodName} {d k n : Nat} {av : List Value} {P : Heap → Prop} {Po : Option Value → Heap → Prop} (hpl : plainName y.cls = true) (hown : μ.1 = y.cls) (hin : μ.2.2.2.2.2 = true → y.name = "<init>") (hlen : (lg_sl av).length ≤ μ.2.2.1)
    (hJ : J γ μ (rmD d k n) (fEv γ k n Po) 0 0 0 (startL av μ.2.2.1) [] P) : Ev γ μ y d k n av P Po := by
  intro l hl
  have body : ∀ p e s m args below meth c s₁, BodyLoose p l y (headSpec (cwOf y μ :: WSA) (rmD d k n)) μ.2.1 μ.2.2.1 μ.2.2.2.1 e s m args below meth c s₁ → c.maxLocals = μ.2.2.1 → va_Pc av (fun U => Kn γ U ∧ P U.heap) args s →
      W p l e (headSpec (cwOf y μ :: WSA) (rmD d k n)).room s m args below meth c s.heap [] 0 0 (MQ below (Qp γ Po) args s k n (gA γ)) (entryFrame m args μ.2.2.1) := by
    intro p e s m args below meth c s₁ B hml hv
    obtain ⟨rfl, hK, hP⟩ := hv
    rw [lg_entry_eq]
    exact hJ p l e s m _ below meth c (Bd_of hl hown hin B hml hK (tab0 B (atoms_spec (ws := cwOf y μ :: WSA) B.pre _ List.mem_cons_self))) s.heap [] _ (Lo_start av hlen) hP va_S.rf
  by_cases hh : μ.2.2.2.2.1 = []
  · exact Met.ofW (cc := μ.2.1) (maxL := μ.2.2.1) (ret := μ.2.2.2.1) hpl (by rw [cwOf_0 hh]) body
  · exact va_MetW (cc := μ.2.1) (maxL := μ.2.2.1) (ret := μ.2.2.2.1) hpl (by rw [cwOf_1 hh]) body
theorem Ex.ofJ {γ : Gm} {μ : Mu} {y : MethodName} {d k n : Nat} {av : List Value} {P : Heap → Prop} {Po : Option Value → Heap → Prop} {Px : String → Heap → Prop} (hpl : plainName y.cls = true) (hown : μ.1 = y.cls) (hin : μ.2.2.2.2.2 = true → y.name = "<init>") (hlen : (lg_sl av).length ≤ μ.2.2.1)
    (hJ : J γ μ (rmD d k n) (fEx γ k n Po Px) 0 0 0 (startL av μ.2.2.1) [] P) : Ex γ μ y d k n av P Po Px := by
  intro l hl
  have body : ∀ p e s m args below meth c s₁, BodyLoose p l y (headSpec (cwOf y μ :: WSA) (rmD d k n)) μ.2.1 μ.2.2.1 μ.2.2.2.1 e s m args below meth c s₁ → c.maxLocals = μ.2.2.1 → va_Pc av (fun U => Kn γ U ∧ P U.heap) args s →
      W p l e (headSpec (cwOf y μ :: WSA) (rmD d k n)).room s m args below meth c s.heap [] 0 0 (vx_MQ below (Qp γ Po) (Qx γ Px) args s k n (gA γ)) (entryFrame m args μ.2.2.1) := by
    intro p e s m args below meth c s₁ B hml hv
    obtain ⟨rfl, hK, hP⟩ := hv
    rw [lg_entry_eq]
    exact hJ p l e s m _ below meth c (Bd_of hl hown hin B hml hK (tab0 B (atoms_spec (ws := cwOf y μ :: WSA) B.pre _ List.mem_cons_self))) s.heap [] _ (Lo_start av hlen) hP va_S.rf
  by_cases hh : μ.2.2.2.2.1 = []
  · exact vx_ofW (cc := μ.2.1) (maxL := μ.2.2.1) (ret := μ.2.2.2.1) hpl (by rw [cwOf_0 hh]) (fun p e s m args below meth c s₁ B hml _ hv => body p e s m args below meth c s₁ B hml hv)
  · exact vx_ofWH (cc := μ.2.1) (maxL := μ.2.2.1) (ret := μ.2.2.2.1) hpl (by rw [cwOf_1 hh]) body
