section
-- ===== PART A: goes FIRST, ahead of the names: the tables' words, and 'selects' of the private methods out of them =====
/-- a private method of a class that the tables say can be made, by its rows of tables_1 -/
def lw_okq (q : MethodName × Nat) : Prop := (q.1.cls ≠ "java/lang/invoke/MethodHandle" ∧ q.1.cls ≠ "java/lang/invoke/VarHandle") ∧ Cond.instantiable q.1.cls q.2 ∈ tables_1 ∧ Cond.privateMethod q.1 ∈ tables_1 ∧ Cond.instanceMethod q.1 ∈ tables_1
theorem lw_p0 : lw_okq (⟨"PromiseDepot", "change", "(IIIII)I"⟩, 13) := ⟨⟨by decide +kernel, by decide +kernel⟩, List.mem_of_getElem? (i := 37) (by decide +kernel), List.mem_of_getElem? (i := 438) (by decide +kernel), List.mem_of_getElem? (i := 439) (by decide +kernel)⟩
theorem lw_p1 : lw_okq (⟨"PromiseDepot$Gate", "onAddShelf", "(LPromiseDepot$Stock;II)I"⟩, 1) := ⟨⟨by decide +kernel, by decide +kernel⟩, List.mem_of_getElem? (i := 234) (by decide +kernel), List.mem_of_getElem? (i := 446) (by decide +kernel), List.mem_of_getElem? (i := 447) (by decide +kernel)⟩
theorem lw_p2 : lw_okq (⟨"PromiseDepot$Gate", "deny", "(II)I"⟩, 1) := ⟨⟨by decide +kernel, by decide +kernel⟩, List.mem_of_getElem? (i := 234) (by decide +kernel), List.mem_of_getElem? (i := 453) (by decide +kernel), List.mem_of_getElem? (i := 454) (by decide +kernel)⟩
theorem lw_p3 : lw_okq (⟨"PromiseDepot$Gate", "onReceive", "(LPromiseDepot$Stock;IIII)I"⟩, 1) := ⟨⟨by decide +kernel, by decide +kernel⟩, List.mem_of_getElem? (i := 234) (by decide +kernel), List.mem_of_getElem? (i := 457) (by decide +kernel), List.mem_of_getElem? (i := 458) (by decide +kernel)⟩
theorem lw_p4 : lw_okq (⟨"PromiseDepot$Gate", "onBothLimits", "(LPromiseDepot$Stock;)I"⟩, 1) := ⟨⟨by decide +kernel, by decide +kernel⟩, List.mem_of_getElem? (i := 234) (by decide +kernel), List.mem_of_getElem? (i := 461) (by decide +kernel), List.mem_of_getElem? (i := 462) (by decide +kernel)⟩
theorem lw_p5 : lw_okq (⟨"PromiseDepot$Gate", "onLotLimit", "(LPromiseDepot$Stock;)I"⟩, 1) := ⟨⟨by decide +kernel, by decide +kernel⟩, List.mem_of_getElem? (i := 234) (by decide +kernel), List.mem_of_getElem? (i := 465) (by decide +kernel), List.mem_of_getElem? (i := 466) (by decide +kernel)⟩
theorem lw_p6 : lw_okq (⟨"PromiseDepot$Gate", "onSplit", "(LPromiseDepot$Stock;II)I"⟩, 1) := ⟨⟨by decide +kernel, by decide +kernel⟩, List.mem_of_getElem? (i := 234) (by decide +kernel), List.mem_of_getElem? (i := 490) (by decide +kernel), List.mem_of_getElem? (i := 491) (by decide +kernel)⟩
theorem lw_p7 : lw_okq (⟨"PromiseDepot$Gate", "onMix", "(LPromiseDepot$Stock;II)I"⟩, 1) := ⟨⟨by decide +kernel, by decide +kernel⟩, List.mem_of_getElem? (i := 234) (by decide +kernel), List.mem_of_getElem? (i := 504) (by decide +kernel), List.mem_of_getElem? (i := 505) (by decide +kernel)⟩
theorem lw_p8 : lw_okq (⟨"PromiseDepot$Gate", "onMove", "(LPromiseDepot$Stock;II)I"⟩, 1) := ⟨⟨by decide +kernel, by decide +kernel⟩, List.mem_of_getElem? (i := 234) (by decide +kernel), List.mem_of_getElem? (i := 508) (by decide +kernel), List.mem_of_getElem? (i := 509) (by decide +kernel)⟩
theorem lw_p9 : lw_okq (⟨"PromiseDepot$Gate", "onShip", "(LPromiseDepot$Stock;II)I"⟩, 1) := ⟨⟨by decide +kernel, by decide +kernel⟩, List.mem_of_getElem? (i := 234) (by decide +kernel), List.mem_of_getElem? (i := 517) (by decide +kernel), List.mem_of_getElem? (i := 518) (by decide +kernel)⟩
theorem lw_p10 : lw_okq (⟨"PromiseDepot", "refuse", "(I)V"⟩, 13) := ⟨⟨by decide +kernel, by decide +kernel⟩, List.mem_of_getElem? (i := 37) (by decide +kernel), List.mem_of_getElem? (i := 531) (by decide +kernel), List.mem_of_getElem? (i := 532) (by decide +kernel)⟩
theorem lw_p11 : lw_okq (⟨"java/lang/Throwable", "fillInStackTrace", "(I)Ljava/lang/Throwable;"⟩, 6) := ⟨⟨by decide +kernel, by decide +kernel⟩, List.mem_of_getElem? (i := 578) (by decide +kernel), List.mem_of_getElem? (i := 576) (by decide +kernel), List.mem_of_getElem? (i := 577) (by decide +kernel)⟩
theorem lw_p12 : lw_okq (⟨"PromiseDepot", "keepDenial", "(III)V"⟩, 13) := ⟨⟨by decide +kernel, by decide +kernel⟩, List.mem_of_getElem? (i := 37) (by decide +kernel), List.mem_of_getElem? (i := 639) (by decide +kernel), List.mem_of_getElem? (i := 640) (by decide +kernel)⟩
theorem lw_p13 : lw_okq (⟨"PromiseDepot$CompostHeap", "swap", "(II)V"⟩, 2) := ⟨⟨by decide +kernel, by decide +kernel⟩, List.mem_of_getElem? (i := 156) (by decide +kernel), List.mem_of_getElem? (i := 738) (by decide +kernel), List.mem_of_getElem? (i := 739) (by decide +kernel)⟩
theorem lw_p14 : lw_okq (⟨"PromiseDepot$CompostHeap", "firstOfThree", "(LPromiseDepot$Lots;I)I"⟩, 2) := ⟨⟨by decide +kernel, by decide +kernel⟩, List.mem_of_getElem? (i := 156) (by decide +kernel), List.mem_of_getElem? (i := 759) (by decide +kernel), List.mem_of_getElem? (i := 760) (by decide +kernel)⟩
theorem lw_p15 : lw_okq (⟨"PromiseDepot$Text", "fits", "(Ljava/lang/String;I)Z"⟩, 6) := ⟨⟨by decide +kernel, by decide +kernel⟩, List.mem_of_getElem? (i := 284) (by decide +kernel), List.mem_of_getElem? (i := 816) (by decide +kernel), List.mem_of_getElem? (i := 817) (by decide +kernel)⟩
def lw_privs_1 : List (MethodName × Nat) := [(⟨"PromiseDepot", "change", "(IIIII)I"⟩, 13), (⟨"PromiseDepot$Gate", "onAddShelf", "(LPromiseDepot$Stock;II)I"⟩, 1), (⟨"PromiseDepot$Gate", "deny", "(II)I"⟩, 1), (⟨"PromiseDepot$Gate", "onReceive", "(LPromiseDepot$Stock;IIII)I"⟩, 1), (⟨"PromiseDepot$Gate", "onBothLimits", "(LPromiseDepot$Stock;)I"⟩, 1), (⟨"PromiseDepot$Gate", "onLotLimit", "(LPromiseDepot$Stock;)I"⟩, 1), (⟨"PromiseDepot$Gate", "onSplit", "(LPromiseDepot$Stock;II)I"⟩, 1), (⟨"PromiseDepot$Gate", "onMix", "(LPromiseDepot$Stock;II)I"⟩, 1), (⟨"PromiseDepot$Gate", "onMove", "(LPromiseDepot$Stock;II)I"⟩, 1), (⟨"PromiseDepot$Gate", "onShip", "(LPromiseDepot$Stock;II)I"⟩, 1), (⟨"PromiseDepot", "refuse", "(I)V"⟩, 13), (⟨"java/lang/Throwable", "fillInStackTrace", "(I)Ljava/lang/Throwable;"⟩, 6), (⟨"PromiseDepot", "keepDenial", "(III)V"⟩, 13), (⟨"PromiseDepot$CompostHeap", "swap", "(II)V"⟩, 2), (⟨"PromiseDepot$CompostHeap", "firstOfThree", "(LPromiseDepot$Lots;I)I"⟩, 2), (⟨"PromiseDepot$Text", "fits", "(Ljava/lang/String;I)Z"⟩, 6)]
theorem lw_r1 : ∀ q ∈ lw_privs_1, lw_okq q := List.forall_mem_cons.mpr ⟨lw_p0, List.forall_mem_cons.mpr ⟨lw_p1, List.forall_mem_cons.mpr ⟨lw_p2, List.forall_mem_cons.mpr ⟨lw_p3, List.forall_mem_cons.mpr ⟨lw_p4, List.forall_mem_cons.mpr ⟨lw_p5, List.forall_mem_cons.mpr ⟨lw_p6, List.forall_mem_cons.mpr ⟨lw_p7, List.forall_mem_cons.mpr ⟨lw_p8, List.forall_mem_cons.mpr ⟨lw_p9, List.forall_mem_cons.mpr ⟨lw_p10, List.forall_mem_cons.mpr ⟨lw_p11, List.forall_mem_cons.mpr ⟨lw_p12, List.forall_mem_cons.mpr ⟨lw_p13, List.forall_mem_cons.mpr ⟨lw_p14, List.forall_mem_cons.mpr ⟨lw_p15, fun _ h => absurd h List.not_mem_nil⟩⟩⟩⟩⟩⟩⟩⟩⟩⟩⟩⟩⟩⟩⟩⟩
theorem lw_p16 : lw_okq (⟨"PromiseDepot$Text", "takeDigits", "(II)Z"⟩, 6) := ⟨⟨by decide +kernel, by decide +kernel⟩, List.mem_of_getElem? (i := 284) (by decide +kernel), List.mem_of_getElem? (i := 867) (by decide +kernel), List.mem_of_getElem? (i := 868) (by decide +kernel)⟩
theorem lw_p17 : lw_okq (⟨"PromiseDepot$Text", "characterAt", "(I)I"⟩, 6) := ⟨⟨by decide +kernel, by decide +kernel⟩, List.mem_of_getElem? (i := 284) (by decide +kernel), List.mem_of_getElem? (i := 871) (by decide +kernel), List.mem_of_getElem? (i := 872) (by decide +kernel)⟩
theorem lw_p18 : lw_okq (⟨"PromiseDepot", "runOnDraft", "(I)Z"⟩, 13) := ⟨⟨by decide +kernel, by decide +kernel⟩, List.mem_of_getElem? (i := 37) (by decide +kernel), List.mem_of_getElem? (i := 888) (by decide +kernel), List.mem_of_getElem? (i := 889) (by decide +kernel)⟩
theorem lw_p19 : lw_okq (⟨"PromiseDepot", "requireShelf", "(I)V"⟩, 13) := ⟨⟨by decide +kernel, by decide +kernel⟩, List.mem_of_getElem? (i := 37) (by decide +kernel), List.mem_of_getElem? (i := 1083) (by decide +kernel), List.mem_of_getElem? (i := 1084) (by decide +kernel)⟩
theorem lw_p20 : lw_okq (⟨"PromiseDepot", "requireLot", "(I)V"⟩, 13) := ⟨⟨by decide +kernel, by decide +kernel⟩, List.mem_of_getElem? (i := 37) (by decide +kernel), List.mem_of_getElem? (i := 1104) (by decide +kernel), List.mem_of_getElem? (i := 1105) (by decide +kernel)⟩
theorem lw_p21 : lw_okq (⟨"PromiseDepot", "appendPlace", "(I)V"⟩, 13) := ⟨⟨by decide +kernel, by decide +kernel⟩, List.mem_of_getElem? (i := 37) (by decide +kernel), List.mem_of_getElem? (i := 1368) (by decide +kernel), List.mem_of_getElem? (i := 1369) (by decide +kernel)⟩
theorem lw_p22 : lw_okq (⟨"PromiseDepot", "appendParent", "(I)V"⟩, 13) := ⟨⟨by decide +kernel, by decide +kernel⟩, List.mem_of_getElem? (i := 37) (by decide +kernel), List.mem_of_getElem? (i := 1372) (by decide +kernel), List.mem_of_getElem? (i := 1373) (by decide +kernel)⟩
theorem lw_p23 : lw_okq (⟨"PromiseDepot$Stock", "rankOfShelf", "(I)I"⟩, 7) := ⟨⟨by decide +kernel, by decide +kernel⟩, List.mem_of_getElem? (i := 45) (by decide +kernel), List.mem_of_getElem? (i := 1402) (by decide +kernel), List.mem_of_getElem? (i := 1403) (by decide +kernel)⟩
theorem lw_p24 : lw_okq (⟨"PromiseDepot$Stock", "isDueBefore", "(II)Z"⟩, 7) := ⟨⟨by decide +kernel, by decide +kernel⟩, List.mem_of_getElem? (i := 45) (by decide +kernel), List.mem_of_getElem? (i := 1406) (by decide +kernel), List.mem_of_getElem? (i := 1407) (by decide +kernel)⟩
theorem lw_p25 : lw_okq (⟨"PromiseDepot$Packing", "gather", "(LPromiseDepot$Stock;I)V"⟩, 6) := ⟨⟨by decide +kernel, by decide +kernel⟩, List.mem_of_getElem? (i := 257) (by decide +kernel), List.mem_of_getElem? (i := 1427) (by decide +kernel), List.mem_of_getElem? (i := 1428) (by decide +kernel)⟩
theorem lw_p26 : lw_okq (⟨"PromiseDepot$Packing", "leastFilling", "(I)I"⟩, 6) := ⟨⟨by decide +kernel, by decide +kernel⟩, List.mem_of_getElem? (i := 257) (by decide +kernel), List.mem_of_getElem? (i := 1441) (by decide +kernel), List.mem_of_getElem? (i := 1442) (by decide +kernel)⟩
theorem lw_p27 : lw_okq (⟨"PromiseDepot$Packing", "fillingWith", "(II)I"⟩, 6) := ⟨⟨by decide +kernel, by decide +kernel⟩, List.mem_of_getElem? (i := 257) (by decide +kernel), List.mem_of_getElem? (i := 1445) (by decide +kernel), List.mem_of_getElem? (i := 1446) (by decide +kernel)⟩
theorem lw_p28 : lw_okq (⟨"PromiseDepot$Descent", "enterParents", "(LPromiseDepot$Lots;)V"⟩, 1) := ⟨⟨by decide +kernel, by decide +kernel⟩, List.mem_of_getElem? (i := 245) (by decide +kernel), List.mem_of_getElem? (i := 1546) (by decide +kernel), List.mem_of_getElem? (i := 1547) (by decide +kernel)⟩
theorem lw_p29 : lw_okq (⟨"PromiseDepot$Descent", "joinThrough", "(II)V"⟩, 1) := ⟨⟨by decide +kernel, by decide +kernel⟩, List.mem_of_getElem? (i := 245) (by decide +kernel), List.mem_of_getElem? (i := 1554) (by decide +kernel), List.mem_of_getElem? (i := 1555) (by decide +kernel)⟩
theorem lw_p30 : lw_okq (⟨"PromiseDepot$Stock", "rankOfShelved", "(I)I"⟩, 7) := ⟨⟨by decide +kernel, by decide +kernel⟩, List.mem_of_getElem? (i := 45) (by decide +kernel), List.mem_of_getElem? (i := 1575) (by decide +kernel), List.mem_of_getElem? (i := 1576) (by decide +kernel)⟩
def lw_privs_2 : List (MethodName × Nat) := [(⟨"PromiseDepot$Text", "takeDigits", "(II)Z"⟩, 6), (⟨"PromiseDepot$Text", "characterAt", "(I)I"⟩, 6), (⟨"PromiseDepot", "runOnDraft", "(I)Z"⟩, 13), (⟨"PromiseDepot", "requireShelf", "(I)V"⟩, 13), (⟨"PromiseDepot", "requireLot", "(I)V"⟩, 13), (⟨"PromiseDepot", "appendPlace", "(I)V"⟩, 13), (⟨"PromiseDepot", "appendParent", "(I)V"⟩, 13), (⟨"PromiseDepot$Stock", "rankOfShelf", "(I)I"⟩, 7), (⟨"PromiseDepot$Stock", "isDueBefore", "(II)Z"⟩, 7), (⟨"PromiseDepot$Packing", "gather", "(LPromiseDepot$Stock;I)V"⟩, 6), (⟨"PromiseDepot$Packing", "leastFilling", "(I)I"⟩, 6), (⟨"PromiseDepot$Packing", "fillingWith", "(II)I"⟩, 6), (⟨"PromiseDepot$Descent", "enterParents", "(LPromiseDepot$Lots;)V"⟩, 1), (⟨"PromiseDepot$Descent", "joinThrough", "(II)V"⟩, 1), (⟨"PromiseDepot$Stock", "rankOfShelved", "(I)I"⟩, 7)]
theorem lw_r2 : ∀ q ∈ lw_privs_2, lw_okq q := List.forall_mem_cons.mpr ⟨lw_p16, List.forall_mem_cons.mpr ⟨lw_p17, List.forall_mem_cons.mpr ⟨lw_p18, List.forall_mem_cons.mpr ⟨lw_p19, List.forall_mem_cons.mpr ⟨lw_p20, List.forall_mem_cons.mpr ⟨lw_p21, List.forall_mem_cons.mpr ⟨lw_p22, List.forall_mem_cons.mpr ⟨lw_p23, List.forall_mem_cons.mpr ⟨lw_p24, List.forall_mem_cons.mpr ⟨lw_p25, List.forall_mem_cons.mpr ⟨lw_p26, List.forall_mem_cons.mpr ⟨lw_p27, List.forall_mem_cons.mpr ⟨lw_p28, List.forall_mem_cons.mpr ⟨lw_p29, List.forall_mem_cons.mpr ⟨lw_p30, fun _ h => absurd h List.not_mem_nil⟩⟩⟩⟩⟩⟩⟩⟩⟩⟩⟩⟩⟩⟩⟩
def lw_privs : List (MethodName × Nat) := lw_privs_1 ++ (lw_privs_2)
def lw_tbl : List Cond := k2_sels lw_privs ++ tables_1
theorem lw_privs_ok : ∀ q ∈ lw_privs, lw_okq q := by
  show ∀ q ∈ lw_privs_1 ++ (lw_privs_2), lw_okq q
  exact List.forall_mem_append.mpr ⟨lw_r1, lw_r2⟩
/-- the streams that the claim lets the run draw from -/
abbrev lw_cs : List Choice := [Jvm.Choice.named "NaN.bits"]
theorem lw_bits : nanBits ∈ lw_cs := by first | decide | exact List.mem_cons_self | simp [lw_cs, nanBits]
end
section
/-! ===== BEGIN words of one list among another's, by their places ===== -/
theorem goodIn_r {big : List Cond} (ws : List Cond) (ps : List Nat) (hp : ws = ps.filterMap (fun i => big[i]?)) (h : ws.all goodWord = true) : GoodIn big ws := by
  intro w hw
  have h1 := List.all_eq_true.mp h w hw
  rw [hp] at hw
  obtain ⟨i, -, hi⟩ := List.mem_filterMap.mp hw
  have hm : w ∈ big := by first | exact List.mem_of_getElem? hi | exact List.getElem?_mem hi
  exact ⟨hm, good_of_word h1⟩
theorem goodIn_app {big a b : List Cond} (ha : GoodIn big a) (hb : GoodIn big b) : GoodIn big (a ++ b) := fun w h => (List.mem_append.mp h).elim (ha w) (hb w)
theorem goodIn_ca {big a b : List Cond} {c : Cond} (ha : GoodIn big (c :: a)) (hb : GoodIn big b) : GoodIn big (c :: (a ++ b)) := fun w h => (List.mem_cons.mp h).elim (fun e => ha w (List.mem_cons.mpr (Or.inl e))) (fun h => (List.mem_append.mp h).elim (fun h => ha w (List.mem_cons.mpr (Or.inr h))) (hb w))
theorem goodIn_sub {big ws : List Cond} (hm : ∀ w ∈ ws, w ∈ big) (h : ws.all goodWord = true) : GoodIn big ws := fun w hw => ⟨hm w hw, good_of_word (List.all_eq_true.mp h w hw)⟩
/-! ===== END ===== -/

/-! ===== BEGIN exceptions that leave a method, and their catching by the caller (launches without stack traces) ===== -/
section VXA
/-! The laws vx_back, vx_callV, vx_callS, vx_callSW, vx_throw0, vx_throwS follow proofs of the library, with one case more: JvmDerived/Free/Laws.lean (Back.of_free), Shelf42/LK1.lean (callV, callS), Shelf/KitTraced.lean (throwNew0V, throwNewS). -/
/-- where a method has thrown q: the class by its name, the cell, what was written, the world -/
def vx_T (XC : String → State → State → Prop) (st : State) (q : Addr) (t : State) (mc ms : Nat) (free : Addr → Prop) : Prop :=
  ∃ (E : String) (ce : Cell) (L : List Loc), XC E st t ∧ t.heap[q]? = some ce ∧ ce.vm = .none ∧ st.vm.findClass E = some ce.cls ∧ st.WarmedH t.vm ∧ st.sameButNew ({ t with vm := st.vm } : State) L mc ms ∧ ∀ z ∈ L, free z.base
def vx_Q (Qc : Array Value → State → Outcome → State → Prop) (XC : String → State → State → Prop) (mc ms : Nat) (free : Addr → Prop) : Array Value → State → Outcome → State → Prop := fun a st o t =>
  (Qc a st o t ∧ ∃ L, FrameEnd st o t L mc ms ∧ ∀ q ∈ L, free q.base) ∨ ∃ q, o = .threw q ∧ vx_T XC st q t mc ms free
/-- a callee that returns or throws -/
def vx_Met (l : Launch) (y : MethodName) (ws : List Cond) (rm : Room) (Pc : Array Value → State → Prop) (Qc : Array Value → State → Outcome → State → Prop) (XC : String → State → State → Prop) (mc ms : Nat) (free : Addr → Prop) : Prop :=
  MetFree l y (headSpec ws rm) Pc (fun _ _ _ _ _ => True) (vx_Q Qc XC mc ms free)
def vx_Post (XC : String → State → State → Prop) (mc ms : Nat) (free : Addr → Prop) : Pt → Array Value → Addr → Pt → Prop := fun A a q B =>
  ∃ (g : JFrame) (mk : MethodId) (t : State) (L : List Loc) (E : String) (ce : Cell), B.U.heap = t.heap ∧ B.U.vm = t.vm ∧ XC E (A.U.calling g mk a) t ∧ t.heap[q]? = some ce ∧ ce.vm = .none ∧ A.U.vm.findClass E = some ce.cls ∧ B.locs = A.locs ++ L ∧ (∀ z ∈ L, free z.base) ∧ B.cells = A.cells + mc ∧ B.slots = A.slots + ms
def vx_Back (l : Launch) (R : Room) (p : Program) (e : Env) (below : List Frame) (s : State) (sargs : Array Value) (y : MethodName) (len W9 : Nat)
    (Pre : Pt → Array Value → Prop) (Post : Pt → Array Value → Option Value → Pt → Prop) (PostX : Pt → Array Value → Addr → Pt → Prop) : Prop :=
  ∀ (m : MethodId) (meth : Method) (c : Code) (A : Pt) (g : JFrame) (ig : Instr) (mk : MethodId) (a : Array Value),
    Stand p l e R s m sargs below meth c A.U A.locs A.cells A.slots → g.method = m → g.locals.size = c.maxLocals → decode c.code g.pc = .ok (ig, len) →
    2 * g.monitorRoom + (g.stack.map fun v => v.category).sum ≤ W9 → A.U.methodNamed? y = some mk → Pre A a →
    (∃ (v : Option Value) (B : Pt), Stand p l e R s m sargs below meth c B.U B.locs B.cells B.slots ∧ Post A a v B ∧
      Steps p.tables e below (doInvoke e (A.U.setTop g) [] mk a).1 (B.U.setTop { g with pc := g.pc + len, stack := v.toList ++ g.stack })) ∨
    (∃ (q : Addr) (B : Pt), Stand p l e R s m sargs below meth c B.U B.locs B.cells B.slots ∧ PostX A a q B ∧
      Steps p.tables e below (doInvoke e (A.U.setTop g) [] mk a).1 ((B.U.setTop g).pushFrame (.throwing q)))
section Payer
variable {l : Launch} {R : Room} {p : Program} {e : Env} {below : List Frame} {s : State} {sargs : Array Value} {y : MethodName} {len W9 : Nat}
theorem vx_back {ws : List Cond} {rm : Room} {Pc : Array Value → State → Prop} {Qc : Array Value → State → Outcome → State → Prop} {XC : String → State → State → Prop} {mc ms : Nat} {free : Addr → Prop} {bytes : ByteArray} {maxL : Nat} {ret : Option FieldType}
    (hM : vx_Met l y ws rm Pc Qc XC mc ms free) (hblind : FrameBlind Pc) (hrc : rm.cells = mc) (hrs : rm.slots = ms)
    (hframes : rm.frames + 1 ≤ R.frames) (hlocals : W9 + (maxL + 11) + rm.locals ≤ R.locals)
    (hws : ∀ w ∈ ws, ∀ a' U, s.WarmedH U.vm → w.before a' U = true) (hcode : Cond.code y bytes maxL ret ∈ ws) (hinit : ∀ a' U, s.WarmedH U.vm → (Cond.initialized y.cls).before a' U = true) :
    vx_Back l R p e below s sargs y len W9 (PreOf R mc ms Pc) (PostOf Qc mc ms free) (vx_Post XC mc ms free) := by
  intro m meth c A g ig mk a X hg hsize hdg hW hn hp
  have h1 : (headSpec ws rm).pre.before a A.U = true := atoms_intro fun w hw => hws w hw _ _ X.warmed
  have h2 : (Cond.code y bytes maxL ret).before a A.U = true := hws _ hcode _ _ X.warmed
  have h3 : (Cond.initialized y.cls).before a A.U = true := hinit _ _ X.warmed
  have h4 : A.cells + (headSpec ws rm).room.cells ≤ R.cells := by rw [show (headSpec ws rm).room.cells = mc from hrc]; exact hp.1
  have h5 : A.slots + (headSpec ws rm).room.slots ≤ R.slots := by rw [show (headSpec ws rm).room.slots = ms from hrs]; exact hp.2.1
  have hPc : Pc a (A.U.calling g mk a) := hblind _ _ _ _ hp.2.2
  obtain ⟨U, Ls, c0, s0⟩ := A
  dsimp only [Pt.U, Pt.locs, Pt.cells, Pt.slots] at h1 h2 h3 h4 h5 X hn hPc ⊢
  obtain ⟨methY, cY, hmY, hcY, -, hlY, -, -, -, -⟩ := Cond.code_spec hn h2
  obtain ⟨kY, hkY, -⟩ := className_of_methodNamed hn
  have hinitY : kY.init = .initialized := Cond.initialized_spec (findClass_of_methodNamed hn) hkY h3
  have h : At U g.method c below := by rw [hg]; exact X.here
  have hlocals9 : W9 + (maxL + 11) + (headSpec ws rm).room.locals ≤ R.locals := hlocals
  have happ : (headSpec ws rm).appliesLoose y e.platform (U.calling g mk a) = true :=
    Spec.appliesLoose_calling (g := g) h hdg hn hkY hinitY
      (X.room_calling (g := g) (R' := (headSpec ws rm).room) hsize hmY hcY hframes (by rw [hlY]; omega) h4 h5) h1
  obtain ⟨mid, hmid⟩ := h.above
  have hfr : (U.setTop g).frames = (.java g :: mid) ++ below := by rw [State.frames_setTop' g h.top, hmid]; rfl
  obtain ⟨o, s₂, hsteps, -, hend, hq⟩ := Steps.callFree hM p X.admits X.cas X.clock (acts := []) hfr happ hPc trivial
  have hq' : vx_Q Qc XC mc ms free a (U.calling g mk a) o s₂ := hq
  rw [State.frames_setTop' g h.top] at hend
  obtain ⟨g₀, hg0⟩ := Option.isSome_iff_exists.mp h.top
  obtain ⟨r, hr⟩ := State.topJava?_eq_some.mp hg0
  have hr' : (({ U with heap := s₂.heap, slotsUsed := s₂.slotsUsed } : State).setVm s₂.vm).frames = .java g₀ :: r := hr
  rcases hq' with ⟨hqc, L, hfe, hL⟩ | ⟨q, rfl, E, ce, L, hx, hce, hcv, hcl, hW₂, hsm, hL⟩
  · obtain ⟨⟨v, rfl⟩, hW₂, e2, q2, q3, q4, q5, q6⟩ := id hfe
    have e3 : s₂ = ({ (U.calling g mk a).setFrames s₂.frames with heap := s₂.heap, slotsUsed := s₂.slotsUsed } : State).setVm s₂.vm := by
      have : s₂ = ({ s₂ with vm := (U.calling g mk a).vm } : State).setVm s₂.vm := rfl
      rw [e2] at this
      exact this
    obtain ⟨c₂, i₂, len₂, hc₂, hd₂, hf₂⟩ := hend
    have hW' : U.WarmedH s₂.vm := hW₂
    have hcc : c₂ = c := by
      have h1 : s₂.code? g.method = U.code? g.method := by
        rw [State.code?_eq, State.code?_eq, hW'.alike.method?]
      exact Option.some.inj (hc₂.symm.trans (h1.trans h.code))
    subst hcc
    have hlen : len₂ = len := by rw [hdg] at hd₂; cases hd₂; rfl
    subst hlen
    have hs₂ : s₂ = (({ U with heap := s₂.heap, slotsUsed := s₂.slotsUsed } : State).setVm s₂.vm).setTop { g with pc := g.pc + len₂, stack := v.toList ++ g.stack } := by
      refine e3.trans ?_
      rw [hf₂, State.calling_eq h.top, State.setFrames_setFrames, State.setTop_of_frames _ hr', hr]
      rfl
    have hsame : U.sameButNew ({ U with heap := s₂.heap, slotsUsed := s₂.slotsUsed } : State) L mc ms := by
      refine ⟨?_, q2, q3, q4, q5, q6⟩
      obtain ⟨t, ht, -⟩ := State.frames_cons hr
      show ({ U with heap := s₂.heap, slotsUsed := s₂.slotsUsed } : State) = { U.setFrames U.frames with heap := s₂.heap, slotsUsed := s₂.slotsUsed }
      rw [State.setFrames_self ht]
    subst hg
    refine Or.inl ⟨v, ⟨(({ U with heap := s₂.heap, slotsUsed := s₂.slotsUsed } : State).setVm s₂.vm), Ls ++ L, c0 + mc, s0 + ms⟩,
      ⟨X.admits, X.cas, X.clock, X.frames, X.room, X.hears, X.method, X.code, (X.here.setHeapUsed s₂.heap s₂.slotsUsed).setVm hW'.alike, X.tail, State.WarmedH.trans X.warmed hW', X.limits, X.bytes, X.same.trans (hsame.setVm s.vm)⟩,
      ⟨g, mk, s₂, L, rfl, rfl, hqc, rfl, hL, rfl, rfl⟩, ?_⟩
    show Steps p.tables e below _ ((({ U with heap := s₂.heap, slotsUsed := s₂.slotsUsed } : State).setVm s₂.vm).setTop { g with pc := g.pc + len₂, stack := v.toList ++ g.stack })
    rw [← hs₂]
    exact hsteps
  · obtain ⟨e2, q2, q3, q4, q5, q6⟩ := id hsm
    have e3 : s₂ = ({ (U.calling g mk a).setFrames s₂.frames with heap := s₂.heap, slotsUsed := s₂.slotsUsed } : State).setVm s₂.vm := by
      have : s₂ = ({ s₂ with vm := (U.calling g mk a).vm } : State).setVm s₂.vm := rfl
      rw [e2] at this
      exact this
    have hf₂ : s₂.frames = .throwing q :: .java g :: U.frames.tail := hend
    have hW' : U.WarmedH s₂.vm := hW₂
    have hs₂ : s₂ = ((({ U with heap := s₂.heap, slotsUsed := s₂.slotsUsed } : State).setVm s₂.vm).setTop g).pushFrame (.throwing q) := by
      refine e3.trans ?_
      rw [hf₂, State.calling_eq h.top, State.setFrames_setFrames, State.pushFrame, State.frames_setTop _ hr', State.setTop_of_frames _ hr', State.setFrames_setFrames, hr]
      rfl
    have hsame : U.sameButNew ({ U with heap := s₂.heap, slotsUsed := s₂.slotsUsed } : State) L mc ms := by
      refine ⟨?_, q2, q3, q4, q5, q6⟩
      obtain ⟨t, ht, -⟩ := State.frames_cons hr
      show ({ U with heap := s₂.heap, slotsUsed := s₂.slotsUsed } : State) = { U.setFrames U.frames with heap := s₂.heap, slotsUsed := s₂.slotsUsed }
      rw [State.setFrames_self ht]
    subst hg
    refine Or.inr ⟨q, ⟨(({ U with heap := s₂.heap, slotsUsed := s₂.slotsUsed } : State).setVm s₂.vm), Ls ++ L, c0 + mc, s0 + ms⟩,
      ⟨X.admits, X.cas, X.clock, X.frames, X.room, X.hears, X.method, X.code, (X.here.setHeapUsed s₂.heap s₂.slotsUsed).setVm hW'.alike, X.tail, State.WarmedH.trans X.warmed hW', X.limits, X.bytes, X.same.trans (hsame.setVm s.vm)⟩,
      ⟨g, mk, s₂, L, E, ce, rfl, rfl, hx, hce, hcv, hcl, rfl, hL, rfl, rfl⟩, ?_⟩
    show Steps p.tables e below _ (((({ U with heap := s₂.heap, slotsUsed := s₂.slotsUsed } : State).setVm s₂.vm).setTop g).pushFrame (.throwing q))
    rw [← hs₂]
    exact hsteps
end Payer
section Calls
variable {p : Program} {l : Launch} {e : Env} {R : Room} {s : State} {m : MethodId} {args : Array Value} {below : List Frame} {meth : Method} {c : Code} {T : State} {locs : List Loc} {cells slots : Nat}
theorem vx_callV (X : Stand p l e R s m args below meth c T locs cells slots) (hexec : p.tables.exec = Jvm.exec) {own C : String} {index : Nat} {y : MethodName} {bytes : ByteArray} {maxL : Nat} {ret : Option FieldType}
    (hown : s.vm.findClass own = some m.cls) (hlink : (Cond.methodLink own index y).before args s = true) (hinst : (Cond.instanceMethod y).before args s = true) (hsel : (Cond.selects C y y).before args s = true)
    (hcode : (Cond.code y bytes maxL ret).before args s = true) (hy : y.cls ≠ "java/lang/invoke/MethodHandle" ∧ y.cls ≠ "java/lang/invoke/VarHandle")
    {W9 : Nat} {Pre : Pt → Array Value → Prop} {Post : Pt → Array Value → Option Value → Pt → Prop} {PostX : Pt → Array Value → Addr → Pt → Prop} (hK : vx_Back l R p e below s args y 3 W9 Pre Post PostX)
    {b : Addr} {cellB : Cell} (hcell : T.heap[b]? = some cellB) (hobj : cellB.vm.isStatics = false) (hcls : s.vm.findClass C = some cellB.cls)
    {g : JFrame} (hg : g.method = m) (hsize : g.locals.size = c.maxLocals) {argsL rest : List Value} (hlen : ∀ sig, parseMethodDescriptor y.desc = some sig → argsL.length = sig.parameters.length)
    (hstack : g.stack = argsL.reverse ++ .ref b :: rest) (hW : 2 * g.monitorRoom + (rest.map fun v => v.category).sum ≤ W9) (hdg : decode c.code g.pc = .ok (.invokevirtual index, 3))
    (hpre : ∀ vm₁, s.WarmedH vm₁ → Pre ⟨T.setVm vm₁, locs, cells, slots⟩ (Value.ref b :: argsL).toArray) :
    (∃ (v : Option Value) (vm₁ : Vm) (B : Pt), s.WarmedH vm₁ ∧ Stand p l e R s m args below meth c B.U B.locs B.cells B.slots ∧ Post ⟨T.setVm vm₁, locs, cells, slots⟩ (Value.ref b :: argsL).toArray v B ∧
      ∀ target, Steps p.tables e below (B.U.setTop { g with pc := g.pc + 3, stack := v.toList ++ rest }) target → Steps p.tables e below (T.setTop g) target) ∨
    (∃ (q : Addr) (vm₁ : Vm) (B : Pt), s.WarmedH vm₁ ∧ Stand p l e R s m args below meth c B.U B.locs B.cells B.slots ∧ PostX ⟨T.setVm vm₁, locs, cells, slots⟩ (Value.ref b :: argsL).toArray q B ∧
      Steps p.tables e below (T.setTop g) ((B.U.setTop { g with stack := rest }).pushFrame (.throwing q))) := by
  obtain ⟨mk, methM, hnamed, hmethM, hstM, habM⟩ := Cond.instanceMethod_spec hinst
  obtain ⟨methM', cM, hmethM', -, -, -, -, -, -, hsigM⟩ := Cond.code_spec hnamed hcode
  cases hmethM.symm.trans hmethM'
  obtain ⟨c2, r2, m2, q1, q2, q3, q4, kP, hkP, hkPi⟩ := Cond.selects_spec hsel
  cases hcls.symm.trans q1
  cases (State.methodFound?_of_named hnamed hy).symm.trans q2
  cases hnamed.symm.trans q3
  have hselP : selectMethod e.platform s.vm cellB.cls mk = .method mk := by rw [Launch.admits_selectMethod X.admits]; exact q4
  obtain ⟨vm₁, X₁, hstep₁⟩ := X.invokevirtual hexec hown hlink hnamed hmethM hstM hkP hkPi hy (a := b) (cell := cellB) hcell
    (fun z h => by rw [h] at hobj; cases hobj) hselP hmethM habM hkP hkPi (g := g) hg (argsL := argsL) (rest := rest) (hlen _ hsigM) hstack hdg
  rcases hK m meth c ⟨T.setVm vm₁, locs, cells, slots⟩ { g with stack := rest } (.invokevirtual index) mk (Value.ref b :: argsL).toArray X₁ hg hsize hdg hW (X₁.named hnamed) (hpre vm₁ X₁.warmed) with ⟨v, B, X', hpost, hsteps⟩ | ⟨q, B, X', hpost, hsteps⟩
  · exact Or.inl ⟨v, vm₁, B, X₁.warmed, X', hpost, fun target h => hstep₁ _ fun acts => by rw [doInvoke_state]; exact hsteps.trans h⟩
  · exact Or.inr ⟨q, vm₁, B, X₁.warmed, X', hpost, hstep₁ _ fun acts => by rw [doInvoke_state]; exact hsteps⟩
theorem vx_callS (X : Stand p l e R s m args below meth c T locs cells slots) (hexec : p.tables.exec = Jvm.exec) {own : String} {index : Nat} {y : MethodName} {bytes : ByteArray} {maxL : Nat} {ret : Option FieldType}
    (hown : s.vm.findClass own = some m.cls) (hlink : (Cond.methodLink own index y).before args s = true) (hstat : (Cond.static y).before args s = true) (hinit : (Cond.initialized y.cls).before args s = true)
    (hcode : (Cond.code y bytes maxL ret).before args s = true) (hy : y.cls ≠ "java/lang/invoke/MethodHandle" ∧ y.cls ≠ "java/lang/invoke/VarHandle")
    {W9 : Nat} {Pre : Pt → Array Value → Prop} {Post : Pt → Array Value → Option Value → Pt → Prop} {PostX : Pt → Array Value → Addr → Pt → Prop} (hK : vx_Back l R p e below s args y 3 W9 Pre Post PostX)
    {g : JFrame} (hg : g.method = m) (hsize : g.locals.size = c.maxLocals) {argsL rest : List Value} (hlen : ∀ sig, parseMethodDescriptor y.desc = some sig → argsL.length = sig.parameters.length)
    (hstack : g.stack = argsL.reverse ++ rest) (hW : 2 * g.monitorRoom + (rest.map fun v => v.category).sum ≤ W9) (hdg : decode c.code g.pc = .ok (.invokestatic index, 3))
    (hpre : ∀ vm₁, s.WarmedH vm₁ → Pre ⟨T.setVm vm₁, locs, cells, slots⟩ argsL.toArray) :
    (∃ (v : Option Value) (vm₁ : Vm) (B : Pt), s.WarmedH vm₁ ∧ Stand p l e R s m args below meth c B.U B.locs B.cells B.slots ∧ Post ⟨T.setVm vm₁, locs, cells, slots⟩ argsL.toArray v B ∧
      ∀ target, Steps p.tables e below (B.U.setTop { g with pc := g.pc + 3, stack := v.toList ++ rest }) target → Steps p.tables e below (T.setTop g) target) ∨
    (∃ (q : Addr) (vm₁ : Vm) (B : Pt), s.WarmedH vm₁ ∧ Stand p l e R s m args below meth c B.U B.locs B.cells B.slots ∧ PostX ⟨T.setVm vm₁, locs, cells, slots⟩ argsL.toArray q B ∧
      Steps p.tables e below (T.setTop g) ((B.U.setTop { g with stack := rest }).pushFrame (.throwing q))) := by
  obtain ⟨mk, hnamed⟩ := Cond.code_named hcode
  obtain ⟨methM, cM, hmethM, -, -, -, -, -, -, hsigM⟩ := Cond.code_spec hnamed hcode
  have hstatic : methM.isStatic = true := Cond.static_spec hnamed hmethM hstat
  obtain ⟨kP, hkP, -⟩ := className_of_methodNamed hnamed
  have hinitP : kP.init = .initialized := Cond.initialized_spec (findClass_of_methodNamed hnamed) hkP hinit
  obtain ⟨vm₁, X₁, hstep₁⟩ := X.invokestatic hexec hown hlink hnamed hmethM hstatic hkP hinitP hy (g := g) hg (argsL := argsL) (rest := rest) (hlen _ hsigM) hstack hdg
  rcases hK m meth c ⟨T.setVm vm₁, locs, cells, slots⟩ { g with stack := rest } (.invokestatic index) mk argsL.toArray X₁ hg hsize hdg hW (X₁.named hnamed) (hpre vm₁ X₁.warmed) with ⟨v, B, X', hpost, hsteps⟩ | ⟨q, B, X', hpost, hsteps⟩
  · exact Or.inl ⟨v, vm₁, B, X₁.warmed, X', hpost, fun target h => hstep₁ _ fun acts => by rw [doInvoke_state]; exact hsteps.trans h⟩
  · exact Or.inr ⟨q, vm₁, B, X₁.warmed, X', hpost, hstep₁ _ fun acts => by rw [doInvoke_state]; exact hsteps⟩
end Calls
theorem vx_cls {s : State} {T : State} {vm₁ : Vm} {E : String} {k : ClassId} (hW : s.WarmedH vm₁) (h : (T.setVm vm₁).vm.findClass E = some k) : s.vm.findClass E = some k := by
  have h1 : vm₁.findClass E = some k := h
  rw [hW.alike.findClass] at h1
  exact h1
/-- the method's frame g, with q thrown over it -/
def vx_W (p : Program) (l : Launch) (e : Env) (R : Room) (s : State) (m : MethodId) (args : Array Value) (below : List Frame) (meth : Method) (c : Code) (H : Heap) (locs : List Loc) (cells slots : Nat) (Q : State → Prop) (g : JFrame) (q : Addr) : Prop :=
  ∀ T : State, T.heap = H → Stand p l e R s m args below meth c T locs cells slots → ∃ t, Steps p.tables e below ((T.setTop g).pushFrame (.throwing q)) t ∧ Q t
def vx_Run (p : Program) (l : Launch) (e : Env) (R : Room) (s : State) (m : MethodId) (args : Array Value) (below : List Frame) (meth : Method) (c : Code) (H : Heap) (locs : List Loc) (cells slots mc ms : Nat) (g : JFrame) (rest : List Value) (Qa : State → Outcome → State → Prop) (XC : String → State → State → Prop) (free : Addr → Prop) : Prop :=
  ∀ T : State, T.heap = H → Stand p l e R s m args below meth c T locs cells slots →
    (∃ (v : Option Value) (st₀ t T' : State) (L : List Loc), st₀.heap = H ∧ Stand p l e R s m args below meth c T' (locs ++ L) (cells + mc) (slots + ms) ∧ (∀ q ∈ L, free q.base) ∧ T'.heap = t.heap ∧ T'.vm = t.vm ∧ Qa st₀ (.returned v) t ∧
      Goes p e below T g T' { g with pc := g.pc + 3, stack := v.toList ++ rest }) ∨
    (∃ (q : Addr) (st₀ t T' : State) (L : List Loc) (E : String) (ce : Cell), st₀.heap = H ∧ Stand p l e R s m args below meth c T' (locs ++ L) (cells + mc) (slots + ms) ∧ (∀ z ∈ L, free z.base) ∧ T'.heap = t.heap ∧ T'.vm = t.vm ∧ XC E st₀ t ∧ t.heap[q]? = some ce ∧ ce.vm = .none ∧ s.vm.findClass E = some ce.cls ∧
      Steps p.tables e below (T.setTop g) ((T'.setTop { g with stack := rest }).pushFrame (.throwing q)))
def vx_X {S : Type} (px : S → Prop) (B : String → S → State → Prop) (A : Nat → Prop) : String → State → State → Prop := fun E st t => ∃ u : S, px u ∧ B E u t ∧ va_F A st t
section Runs
variable {p : Program} {l : Launch} {e : Env} {R : Room} {s : State} {m : MethodId} {args : Array Value} {below : List Frame} {meth : Method} {c : Code} {H : Heap} {locs : List Loc} {cells slots : Nat}
variable {y : MethodName} {bytes cc : ByteArray} {maxL nL mc ms n index : Nat} {ret : Option FieldType} {ws : List Cond} {rm : Room} {Pc : Array Value → State → Prop} {Qc : Array Value → State → Outcome → State → Prop} {XC : String → State → State → Prop} {free : Addr → Prop} {Ts : List Cond} {own C : String} {b : Addr} {As rest : List Value} {g : JFrame}
theorem vx_callBack (cb : CallB R s args own index y bytes maxL ret ws rm mc ms n) (hM : vx_Met l y ws rm Pc Qc XC mc ms free) (hbl : FrameBlind Pc) : vx_Back l R p e below s args y 3 8 (PreOf R mc ms Pc) (PostOf Qc mc ms free) (vx_Post XC mc ms free) := by
  obtain ⟨hrc, hrs, hfr, hlo, hws, hcw, -, hini, -⟩ := cb
  exact vx_back (bytes := bytes) (maxL := maxL) (ret := ret) hM hbl hrc hrs hfr hlo hws hcw (fun a' U hW => word_at hW (Or.inl (by first | rfl | simp [Cond.onTables, Cond.keeps, Cond.steady])) hini)
theorem vx_runV (S : CallFix p m c cc nL s args Ts own) (hM : vx_Met l y ws rm Pc Qc XC mc ms free) (cw : CallW R s args own C index y bytes maxL ret ws rm mc ms n) (hp : PreV s H C b Pc As)
    (hg : g.method = m) (hn : As.length = n) (hsize : g.locals.size = nL) (hstack : g.stack = As.reverse ++ .ref b :: rest) (hW : 2 * g.monitorRoom + (rest.map fun v => v.category).sum ≤ 8) (hdg : decode cc g.pc = .ok (.invokevirtual index, 3)) (hf : cells + mc ≤ R.cells ∧ slots + ms ≤ R.slots) :
    vx_Run p l e R s m args below meth c H locs cells slots mc ms g rest (Qc (Value.ref b :: As).toArray) XC free := by
  have hK : vx_Back l R p e below s args y 3 8 (PreOf R mc ms Pc) (PostOf Qc mc ms free) (vx_Post XC mc ms free) := vx_callBack cw.1 hM hp.1
  obtain ⟨⟨-, -, -, -, -, -, hcode, -, hy, hlen, hl⟩, hin, hse⟩ := cw
  obtain ⟨hx, hb, hml, ho, -⟩ := S
  obtain ⟨-, ⟨cellB, hcB, hoB, hclB⟩, hPc⟩ := hp
  intro T hT X
  rcases vx_callV X hx (C := C) (bytes := bytes) (maxL := maxL) (ret := ret) ho hl hin hse hcode hy hK (by rw [hT]; exact hcB) hoB hclB hg (hsize.trans hml.symm) (argsL := As) (rest := rest) (fun sig h => hn.trans (hlen sig h)) hstack hW (by rw [hb]; exact hdg)
    (fun vm₁ hW₁ => ⟨hf.1, hf.2, hPc (T.setVm vm₁) hT hW₁⟩) with ⟨v, vm₁, ⟨U', l2, c2, s2⟩, hW₁, X', ⟨g', mk, t, L, e1, e2, hq, h1, hL, h2, h3⟩, st⟩ | ⟨q, vm₁, ⟨U', l2, c2, s2⟩, hW₁, X', ⟨g', mk, t, L, E, ce, e1, e2, hq, hce, hcv, hcl, h1, hL, h2, h3⟩, st⟩
  · dsimp only [Pt.U, Pt.locs, Pt.cells, Pt.slots] at X' e1 e2 h1 h2 h3 st
    subst h1; subst h2; subst h3
    exact Or.inl ⟨v, (T.setVm vm₁).calling g' mk (Value.ref b :: As).toArray, t, U', L, hT, X', hL, e1, e2, hq, st⟩
  · dsimp only [Pt.U, Pt.locs, Pt.cells, Pt.slots] at X' e1 e2 h1 h2 h3 st hcl
    subst h1; subst h2; subst h3
    exact Or.inr ⟨q, (T.setVm vm₁).calling g' mk (Value.ref b :: As).toArray, t, U', L, E, ce, hT, X', hL, e1, e2, hq, hce, hcv, vx_cls hW₁ hcl, st⟩
theorem vx_runS (S : CallFix p m c cc nL s args Ts own) (hM : vx_Met l y ws rm Pc Qc XC mc ms free) (cw : CallB R s args own index y bytes maxL ret ws rm mc ms n ∧ (Cond.static y).before args s = true) (hp : PreS s H Pc As)
    (hg : g.method = m) (hn : As.length = n) (hsize : g.locals.size = nL) (hstack : g.stack = As.reverse ++ rest) (hW : 2 * g.monitorRoom + (rest.map fun v => v.category).sum ≤ 8) (hdg : decode cc g.pc = .ok (.invokestatic index, 3)) (hf : cells + mc ≤ R.cells ∧ slots + ms ≤ R.slots) :
    vx_Run p l e R s m args below meth c H locs cells slots mc ms g rest (Qc As.toArray) XC free := by
  have hK : vx_Back l R p e below s args y 3 8 (PreOf R mc ms Pc) (PostOf Qc mc ms free) (vx_Post XC mc ms free) := vx_callBack cw.1 hM hp.1
  obtain ⟨⟨-, -, -, -, -, -, hcode, hini, hy, hlen, hl⟩, hstt⟩ := cw
  obtain ⟨hx, hb, hml, ho, -⟩ := S
  intro T hT X
  rcases vx_callS X hx (bytes := bytes) (maxL := maxL) (ret := ret) ho hl hstt hini hcode hy hK hg (hsize.trans hml.symm) (argsL := As) (rest := rest) (fun sig h => hn.trans (hlen sig h)) hstack hW (by rw [hb]; exact hdg)
    (fun vm₁ hW₁ => ⟨hf.1, hf.2, hp.2 (T.setVm vm₁) hT hW₁⟩) with ⟨v, vm₁, ⟨U', l2, c2, s2⟩, hW₁, X', ⟨g', mk, t, L, e1, e2, hq, h1, hL, h2, h3⟩, st⟩ | ⟨q, vm₁, ⟨U', l2, c2, s2⟩, hW₁, X', ⟨g', mk, t, L, E, ce, e1, e2, hq, hce, hcv, hcl, h1, hL, h2, h3⟩, st⟩
  · dsimp only [Pt.U, Pt.locs, Pt.cells, Pt.slots] at X' e1 e2 h1 h2 h3 st
    subst h1; subst h2; subst h3
    exact Or.inl ⟨v, (T.setVm vm₁).calling g' mk As.toArray, t, U', L, hT, X', hL, e1, e2, hq, st⟩
  · dsimp only [Pt.U, Pt.locs, Pt.cells, Pt.slots] at X' e1 e2 h1 h2 h3 st hcl
    subst h1; subst h2; subst h3
    exact Or.inr ⟨q, (T.setVm vm₁).calling g' mk As.toArray, t, U', L, E, ce, hT, X', hL, e1, e2, hq, hce, hcv, vx_cls hW₁ hcl, st⟩
end Runs
section Rows
variable {p : Program} {l : Launch} {e : Env} {R : Room} {s : State} {m : MethodId} {args : Array Value} {below : List Frame} {meth : Method} {c : Code} {H : Heap} {locs : List Loc} {cells slots : Nat} {Q : State → Prop}
variable {mc ms : Nat} {free : Addr → Prop} {A0 A1 : Nat → Prop} {H0 : Heap} {a : Array Value} {pc : Nat} {ls : Array Slot} {st0 rest : List Value}
theorem vx_keep {st₀ t T' : State} {L : List Loc} (h0 : st₀.heap = H) (e1 : T'.heap = t.heap) (hS : va_S A0 H0 H locs) (hA : ∀ q, q < H.size → A1 q → A0 q) (hf : ∀ q, free q → A0 q) (hL : ∀ q ∈ L, free q.base) (hF : va_F A1 st₀ t) :
    H.size ≤ T'.heap.size ∧ (∀ q : Nat, q < H.size → ¬ A1 q → T'.heap[q]? = H[q]?) ∧ va_S A0 H0 T'.heap (locs ++ L) := by
  obtain ⟨hz, hk⟩ := hF
  rw [h0] at hz hk
  exact ⟨by rw [e1]; exact hz, fun q h1 h2 => by rw [e1]; exact hk q h1 h2,
    ⟨Nat.le_trans hS.1 (by rw [e1]; exact hz), fun q h1 h2 => by rw [e1, hk q (Nat.lt_of_lt_of_le h1 hS.1) (fun z => h2 (hA q (Nat.lt_of_lt_of_le h1 hS.1) z))]; exact hS.2.1 q h1 h2, fun q hq => by
      rcases List.mem_append.mp hq with h | h
      · exact hS.2.2 q h
      · exact hf _ (hL q h)⟩⟩
theorem vx_calli {S SX : Type} {post : Int32 → S → Prop} {px : SX → Prop} {B : S → State → Prop} {BX : String → SX → State → Prop} {AX : Nat → Prop} (hr : vx_Run p l e R s m args below meth c H locs cells slots mc ms (F0 m pc ls st0) rest (va_Qi post B A1 a) (vx_X px BX AX) free) (hS : va_S A0 H0 H locs) (hA : ∀ q, q < H.size → A1 q → A0 q) (hf : ∀ q, free q → A0 q) (hAX : ∀ q, q < H.size → AX q → A0 q)
    (kx : ∀ (E : String) (ce : Cell) (q9 : Addr) (u : SX) (t : State) (H1 : Heap) (locs1 : List Loc), t.heap = H1 → s.vm.Alike t.vm → px u → BX E u t → H.size ≤ H1.size → (∀ q : Nat, q < H.size → ¬ AX q → H1[q]? = H[q]?) → va_S A0 H0 H1 locs1 → H1[q9]? = some ce → ce.vm = .none → s.vm.findClass E = some ce.cls → vx_W p l e R s m args below meth c H1 locs1 (cells + mc) (slots + ms) Q (F0 m pc ls rest) q9)
    (kk : ∀ (r : Int32) (u : S) (t : State) (H1 : Heap) (locs1 : List Loc), t.heap = H1 → s.vm.Alike t.vm → post r u → B u t → H.size ≤ H1.size → (∀ q : Nat, q < H.size → ¬ A1 q → H1[q]? = H[q]?) → va_S A0 H0 H1 locs1 → W p l e R s m args below meth c H1 locs1 (cells + mc) (slots + ms) Q (F0 m (pc + 3) ls (.int r :: rest))) : W p l e R s m args below meth c H locs cells slots Q (F0 m pc ls st0) := by
  intro T hT X
  rcases hr T hT X with ⟨v, st₀, t, T', L, h0, X', hL, e1, e2, ⟨⟨r, u, hv, hp, hb⟩, hF⟩, st⟩ | ⟨q, st₀, t, T', L, E, ce, h0, X', hL, e1, e2, ⟨u, hp, hb, hF⟩, hce, hcv, hcl, st⟩
  · cases hv
    obtain ⟨k1, k2, k3⟩ := vx_keep h0 e1 hS hA hf hL hF
    obtain ⟨t2, a1, b1⟩ := kk r u t T'.heap (locs ++ L) e1.symm (by rw [← e2]; exact X'.warmed.alike) hp hb k1 k2 k3 T' rfl X'
    exact ⟨t2, st t2 a1, b1⟩
  · obtain ⟨k1, k2, k3⟩ := vx_keep h0 e1 hS hAX hf hL hF
    obtain ⟨t2, a1, b1⟩ := kx E ce q u t T'.heap (locs ++ L) e1.symm (by rw [← e2]; exact X'.warmed.alike) hp hb k1 k2 k3 (by rw [e1]; exact hce) hcv hcl T' rfl X'
    exact ⟨t2, st.trans a1, b1⟩
theorem vx_calll {S SX : Type} {post : Int64 → S → Prop} {px : SX → Prop} {B : S → State → Prop} {BX : String → SX → State → Prop} {AX : Nat → Prop} (hr : vx_Run p l e R s m args below meth c H locs cells slots mc ms (F0 m pc ls st0) rest (va_Ql post B A1 a) (vx_X px BX AX) free) (hS : va_S A0 H0 H locs) (hA : ∀ q, q < H.size → A1 q → A0 q) (hf : ∀ q, free q → A0 q) (hAX : ∀ q, q < H.size → AX q → A0 q)
    (kx : ∀ (E : String) (ce : Cell) (q9 : Addr) (u : SX) (t : State) (H1 : Heap) (locs1 : List Loc), t.heap = H1 → s.vm.Alike t.vm → px u → BX E u t → H.size ≤ H1.size → (∀ q : Nat, q < H.size → ¬ AX q → H1[q]? = H[q]?) → va_S A0 H0 H1 locs1 → H1[q9]? = some ce → ce.vm = .none → s.vm.findClass E = some ce.cls → vx_W p l e R s m args below meth c H1 locs1 (cells + mc) (slots + ms) Q (F0 m pc ls rest) q9)
    (kk : ∀ (r : Int64) (u : S) (t : State) (H1 : Heap) (locs1 : List Loc), t.heap = H1 → s.vm.Alike t.vm → post r u → B u t → H.size ≤ H1.size → (∀ q : Nat, q < H.size → ¬ A1 q → H1[q]? = H[q]?) → va_S A0 H0 H1 locs1 → W p l e R s m args below meth c H1 locs1 (cells + mc) (slots + ms) Q (F0 m (pc + 3) ls (.long r :: rest))) : W p l e R s m args below meth c H locs cells slots Q (F0 m pc ls st0) := by
  intro T hT X
  rcases hr T hT X with ⟨v, st₀, t, T', L, h0, X', hL, e1, e2, ⟨⟨r, u, hv, hp, hb⟩, hF⟩, st⟩ | ⟨q, st₀, t, T', L, E, ce, h0, X', hL, e1, e2, ⟨u, hp, hb, hF⟩, hce, hcv, hcl, st⟩
  · cases hv
    obtain ⟨k1, k2, k3⟩ := vx_keep h0 e1 hS hA hf hL hF
    obtain ⟨t2, a1, b1⟩ := kk r u t T'.heap (locs ++ L) e1.symm (by rw [← e2]; exact X'.warmed.alike) hp hb k1 k2 k3 T' rfl X'
    exact ⟨t2, st t2 a1, b1⟩
  · obtain ⟨k1, k2, k3⟩ := vx_keep h0 e1 hS hAX hf hL hF
    obtain ⟨t2, a1, b1⟩ := kx E ce q u t T'.heap (locs ++ L) e1.symm (by rw [← e2]; exact X'.warmed.alike) hp hb k1 k2 k3 (by rw [e1]; exact hce) hcv hcl T' rfl X'
    exact ⟨t2, st.trans a1, b1⟩
theorem vx_callf {S SX : Type} {post : UInt32 → S → Prop} {px : SX → Prop} {B : S → State → Prop} {BX : String → SX → State → Prop} {AX : Nat → Prop} (hr : vx_Run p l e R s m args below meth c H locs cells slots mc ms (F0 m pc ls st0) rest (va_Qf post B A1 a) (vx_X px BX AX) free) (hS : va_S A0 H0 H locs) (hA : ∀ q, q < H.size → A1 q → A0 q) (hf : ∀ q, free q → A0 q) (hAX : ∀ q, q < H.size → AX q → A0 q)
    (kx : ∀ (E : String) (ce : Cell) (q9 : Addr) (u : SX) (t : State) (H1 : Heap) (locs1 : List Loc), t.heap = H1 → s.vm.Alike t.vm → px u → BX E u t → H.size ≤ H1.size → (∀ q : Nat, q < H.size → ¬ AX q → H1[q]? = H[q]?) → va_S A0 H0 H1 locs1 → H1[q9]? = some ce → ce.vm = .none → s.vm.findClass E = some ce.cls → vx_W p l e R s m args below meth c H1 locs1 (cells + mc) (slots + ms) Q (F0 m pc ls rest) q9)
    (kk : ∀ (r : UInt32) (u : S) (t : State) (H1 : Heap) (locs1 : List Loc), t.heap = H1 → s.vm.Alike t.vm → post r u → B u t → H.size ≤ H1.size → (∀ q : Nat, q < H.size → ¬ A1 q → H1[q]? = H[q]?) → va_S A0 H0 H1 locs1 → W p l e R s m args below meth c H1 locs1 (cells + mc) (slots + ms) Q (F0 m (pc + 3) ls (.float r :: rest))) : W p l e R s m args below meth c H locs cells slots Q (F0 m pc ls st0) := by
  intro T hT X
  rcases hr T hT X with ⟨v, st₀, t, T', L, h0, X', hL, e1, e2, ⟨⟨r, u, hv, hp, hb⟩, hF⟩, st⟩ | ⟨q, st₀, t, T', L, E, ce, h0, X', hL, e1, e2, ⟨u, hp, hb, hF⟩, hce, hcv, hcl, st⟩
  · cases hv
    obtain ⟨k1, k2, k3⟩ := vx_keep h0 e1 hS hA hf hL hF
    obtain ⟨t2, a1, b1⟩ := kk r u t T'.heap (locs ++ L) e1.symm (by rw [← e2]; exact X'.warmed.alike) hp hb k1 k2 k3 T' rfl X'
    exact ⟨t2, st t2 a1, b1⟩
  · obtain ⟨k1, k2, k3⟩ := vx_keep h0 e1 hS hAX hf hL hF
    obtain ⟨t2, a1, b1⟩ := kx E ce q u t T'.heap (locs ++ L) e1.symm (by rw [← e2]; exact X'.warmed.alike) hp hb k1 k2 k3 (by rw [e1]; exact hce) hcv hcl T' rfl X'
    exact ⟨t2, st.trans a1, b1⟩
theorem vx_calld {S SX : Type} {post : UInt64 → S → Prop} {px : SX → Prop} {B : S → State → Prop} {BX : String → SX → State → Prop} {AX : Nat → Prop} (hr : vx_Run p l e R s m args below meth c H locs cells slots mc ms (F0 m pc ls st0) rest (va_Qd post B A1 a) (vx_X px BX AX) free) (hS : va_S A0 H0 H locs) (hA : ∀ q, q < H.size → A1 q → A0 q) (hf : ∀ q, free q → A0 q) (hAX : ∀ q, q < H.size → AX q → A0 q)
    (kx : ∀ (E : String) (ce : Cell) (q9 : Addr) (u : SX) (t : State) (H1 : Heap) (locs1 : List Loc), t.heap = H1 → s.vm.Alike t.vm → px u → BX E u t → H.size ≤ H1.size → (∀ q : Nat, q < H.size → ¬ AX q → H1[q]? = H[q]?) → va_S A0 H0 H1 locs1 → H1[q9]? = some ce → ce.vm = .none → s.vm.findClass E = some ce.cls → vx_W p l e R s m args below meth c H1 locs1 (cells + mc) (slots + ms) Q (F0 m pc ls rest) q9)
    (kk : ∀ (r : UInt64) (u : S) (t : State) (H1 : Heap) (locs1 : List Loc), t.heap = H1 → s.vm.Alike t.vm → post r u → B u t → H.size ≤ H1.size → (∀ q : Nat, q < H.size → ¬ A1 q → H1[q]? = H[q]?) → va_S A0 H0 H1 locs1 → W p l e R s m args below meth c H1 locs1 (cells + mc) (slots + ms) Q (F0 m (pc + 3) ls (.double r :: rest))) : W p l e R s m args below meth c H locs cells slots Q (F0 m pc ls st0) := by
  intro T hT X
  rcases hr T hT X with ⟨v, st₀, t, T', L, h0, X', hL, e1, e2, ⟨⟨r, u, hv, hp, hb⟩, hF⟩, st⟩ | ⟨q, st₀, t, T', L, E, ce, h0, X', hL, e1, e2, ⟨u, hp, hb, hF⟩, hce, hcv, hcl, st⟩
  · cases hv
    obtain ⟨k1, k2, k3⟩ := vx_keep h0 e1 hS hA hf hL hF
    obtain ⟨t2, a1, b1⟩ := kk r u t T'.heap (locs ++ L) e1.symm (by rw [← e2]; exact X'.warmed.alike) hp hb k1 k2 k3 T' rfl X'
    exact ⟨t2, st t2 a1, b1⟩
  · obtain ⟨k1, k2, k3⟩ := vx_keep h0 e1 hS hAX hf hL hF
    obtain ⟨t2, a1, b1⟩ := kx E ce q u t T'.heap (locs ++ L) e1.symm (by rw [← e2]; exact X'.warmed.alike) hp hb k1 k2 k3 (by rw [e1]; exact hce) hcv hcl T' rfl X'
    exact ⟨t2, st.trans a1, b1⟩
theorem vx_callv {S SX : Type} {post : S → Prop} {px : SX → Prop} {B : S → State → Prop} {BX : String → SX → State → Prop} {AX : Nat → Prop} (hr : vx_Run p l e R s m args below meth c H locs cells slots mc ms (F0 m pc ls st0) rest (va_Qv post B A1 a) (vx_X px BX AX) free) (hS : va_S A0 H0 H locs) (hA : ∀ q, q < H.size → A1 q → A0 q) (hf : ∀ q, free q → A0 q) (hAX : ∀ q, q < H.size → AX q → A0 q)
    (kx : ∀ (E : String) (ce : Cell) (q9 : Addr) (u : SX) (t : State) (H1 : Heap) (locs1 : List Loc), t.heap = H1 → s.vm.Alike t.vm → px u → BX E u t → H.size ≤ H1.size → (∀ q : Nat, q < H.size → ¬ AX q → H1[q]? = H[q]?) → va_S A0 H0 H1 locs1 → H1[q9]? = some ce → ce.vm = .none → s.vm.findClass E = some ce.cls → vx_W p l e R s m args below meth c H1 locs1 (cells + mc) (slots + ms) Q (F0 m pc ls rest) q9)
    (kk : ∀ (u : S) (t : State) (H1 : Heap) (locs1 : List Loc), t.heap = H1 → s.vm.Alike t.vm → post u → B u t → H.size ≤ H1.size → (∀ q : Nat, q < H.size → ¬ A1 q → H1[q]? = H[q]?) → va_S A0 H0 H1 locs1 → W p l e R s m args below meth c H1 locs1 (cells + mc) (slots + ms) Q (F0 m (pc + 3) ls (rest))) : W p l e R s m args below meth c H locs cells slots Q (F0 m pc ls st0) := by
  intro T hT X
  rcases hr T hT X with ⟨v, st₀, t, T', L, h0, X', hL, e1, e2, ⟨⟨u, hv, hp, hb⟩, hF⟩, st⟩ | ⟨q, st₀, t, T', L, E, ce, h0, X', hL, e1, e2, ⟨u, hp, hb, hF⟩, hce, hcv, hcl, st⟩
  · cases hv
    obtain ⟨k1, k2, k3⟩ := vx_keep h0 e1 hS hA hf hL hF
    obtain ⟨t2, a1, b1⟩ := kk u t T'.heap (locs ++ L) e1.symm (by rw [← e2]; exact X'.warmed.alike) hp hb k1 k2 k3 T' rfl X'
    exact ⟨t2, st t2 a1, b1⟩
  · obtain ⟨k1, k2, k3⟩ := vx_keep h0 e1 hS hAX hf hL hF
    obtain ⟨t2, a1, b1⟩ := kx E ce q u t T'.heap (locs ++ L) e1.symm (by rw [← e2]; exact X'.warmed.alike) hp hb k1 k2 k3 (by rw [e1]; exact hce) hcv hcl T' rfl X'
    exact ⟨t2, st.trans a1, b1⟩
/-- caught by the row x of this method's table; the rows ahead don't take it -/
theorem vx_catch {own name : String} {E : String} {ce : Cell} {q : Addr} (hown : s.vm.findClass own = some m.cls) (pre : List ExceptionTableEntry) (x : ExceptionTableEntry) (suf : List ExceptionTableEntry) (hsplit : c.exceptionTable.toList = pre ++ x :: suf)
    (hpass : ∀ z ∈ pre, covers z pc = false ∨ (z.catchType ≠ 0 ∧ ∃ nm : String, (Cond.classLink own z.catchType nm).before args s = true ∧ va_Nc E nm s)) (hx : covers x pc = true) (h0 : x.catchType ≠ 0)
    (hlink : (Cond.classLink own x.catchType name).before args s = true) (hcast : (Cond.castable E name).before args s = true) (hcell : H[q]? = some ce) (hv : ce.vm = .none) (hcl : s.vm.findClass E = some ce.cls)
    (kk : W p l e R s m args below meth c H locs cells slots Q (F0 m x.handlerPc ls [.ref q])) : vx_W p l e R s m args below meth c H locs cells slots Q (F0 m pc ls rest) q := by
  intro T hT X
  have hpl : e.platform.magicAccessors = ({} : Platform).magicAccessors := by rw [X.admits.platform]
  obtain ⟨c3, c4, hc3, hc4, hasg⟩ := Cond.castable_spec hcast
  cases Option.some.inj (hc3.symm.trans hcl)
  obtain ⟨c5, hc5, hcl5⟩ := Cond.classLink_spec hown hlink e.platform hpl
  cases Option.some.inj (hc4.symm.trans hc5)
  obtain ⟨vm', X', st⟩ := X.thenCaughtThrough q (g := F0 m pc ls rest) rfl (Steps.refl _) (by rw [hT]; exact hcell) (by rw [hv]; rfl) (by obtain ⟨k9, h9, -⟩ := Vm.findClass_spec hcl; exact ⟨k9, h9⟩) pre x suf hsplit
    (fun z hz => by
      rcases hpass z hz with h | ⟨hz0, nm, hl1, hn1⟩
      · exact Or.inl h
      · obtain ⟨c6, hc6, hcl6⟩ := Cond.classLink_spec hown hl1 e.platform hpl
        obtain ⟨a8, b8, h1, h2, h3⟩ := hn1
        cases Option.some.inj (h1.symm.trans hcl)
        cases Option.some.inj (h2.symm.trans hc6)
        exact Or.inr ⟨hz0, _, hcl6, h3⟩) hx (Or.inr ⟨h0, c4, hcl5, hasg⟩)
  obtain ⟨t, a1, b1⟩ := kk (T.setVm vm') hT X'
  exact ⟨t, st.trans a1, b1⟩
end Rows
section Ends
variable {p : Program} {l : Launch} {e : Env} {R : Room} {s : State} {m : MethodId} {args : Array Value} {below : List Frame} {meth : Method} {c : Code} {H : Heap} {locs : List Loc} {cells slots : Nat} {Q : State → Prop}
variable {mc ms : Nat} {free : Addr → Prop} {A0 A1 : Nat → Prop} {H0 : Heap} {a : Array Value} {ls : Array Slot} {st0 rest : List Value}
variable {Qc : Array Value → State → Outcome → State → Prop} {XC : String → State → State → Prop}
/-- what a body that may throw owes at its end -/
def vx_MQ (below : List Frame) (Qc : Array Value → State → Outcome → State → Prop) (XC : String → State → State → Prop) (a : Array Value) (s : State) (mc ms : Nat) (free : Addr → Prop) : State → Prop := fun t =>
  ∃ o, t.status = .running ∧ Ended t below o ∧ vx_Q Qc XC mc ms free a s o t
theorem vx_ret {g : JFrame} {mc ms : Nat} (k : W p l e R s m args below meth c H locs cells slots (MQ below Qc args s mc ms free) g) : W p l e R s m args below meth c H locs cells slots (vx_MQ below Qc XC args s mc ms free) g := by
  intro T hT X
  obtain ⟨t, a1, o, b1, b2, b3, b4⟩ := k T hT X
  exact ⟨t, a1, o, b1, b2, Or.inl ⟨b3, b4⟩⟩
/-- not caught here: it goes on to the caller -/
theorem vx_widen {g : JFrame} {q : Addr} {k n : Nat} (h1 : cells ≤ k) (h2 : slots ≤ n) (kk : vx_W p l e R s m args below meth c H locs k n Q g q) : vx_W p l e R s m args below meth c H locs cells slots Q g q := fun T hT X => kk T hT (stand_widen X h1 h2)
theorem vx_out {pc : Nat} {E : String} {ce : Cell} {q : Addr} {mc ms : Nat} (hout : ∀ x ∈ c.exceptionTable.toList, covers x pc = false) (hlocks : meth.locks = false) (hcell : H[q]? = some ce) (hv : ce.vm = .none) (hcl : s.vm.findClass E = some ce.cls)
    (hx : ∀ t : State, t.heap = H → s.vm.Alike t.vm → XC E s t) (hf : ∀ z ∈ locs, free z.base) (hc : cells ≤ mc) (hs : slots ≤ ms) :
    vx_W p l e R s m args below meth c H locs cells slots (vx_MQ below Qc XC args s mc ms free) (F0 m pc ls rest) q := by
  intro T hT X
  obtain ⟨st1, hrun, hend, hW, hsm⟩ := X.leaveThrown q (g := F0 m pc ls rest) rfl rfl rfl hout hlocks
  have hcell9 : (T.setFrames (.throwing q :: below)).heap[q]? = some ce := by
    show T.heap[q]? = some ce
    rw [hT]; exact hcell
  exact ⟨_, st1, .threw q, hrun, hend, Or.inr ⟨q, rfl, E, ce, locs, hx _ hT hW.alike, hcell9, hv, hcl, hW, hsm.mono hc hs, hf⟩⟩
theorem vx_frame {U : State} {k n : Nat} (h : s.sameButNew ({ U with vm := s.vm } : State) locs k n) : s.heap.size ≤ U.heap.size ∧ ∀ q : Nat, q < s.heap.size → (∀ z ∈ locs, z.base ≠ q) → U.heap[q]? = s.heap[q]? := by
  obtain ⟨-, h2, -, -, -, h6⟩ := h
  refine ⟨h2, fun q hq hz => ?_⟩
  obtain ⟨c9, e1, e2, e3, e4⟩ := h6 q _ (Array.getElem?_eq_getElem hq)
  have hs : c9.slots = (s.heap[q]).slots := Array.ext_getElem? fun i => e4 i fun hm => hz _ hm rfl
  have h9 : c9 = s.heap[q] := by
    rw [hs] at e2
    exact e2
  have e5 : U.heap[q]? = some c9 := e1
  rw [e5, h9, Array.getElem?_eq_getElem hq]
/-- the words of a throw but the four that speak of the heap -/
def vx_no (w : Cond) : Bool := decide (w ≠ .isRef (.static Bundle.tN "UNASSIGNED_STACK" Bundle.steD)) && decide (w ≠ .isRef (.static Bundle.tN "SUPPRESSED_SENTINEL" Bundle.listD)) && decide (w ≠ .laysStatic Bundle.tN "UNASSIGNED_STACK" Bundle.steD) && decide (w ≠ .laysStatic Bundle.tN "SUPPRESSED_SENTINEL" Bundle.listD)
def vx_at0 (own : String) (ic : Nat) (X : String) (names : List String) : List Cond := (Bundle.ownAtoms0 own ic X names).filter vx_no
def vx_atS (own : String) (ic : Nat) (X : String) (names : List String) : List Cond := (Bundle.ownAtoms own ic X names).filter vx_no
/-- a word that the tables alone decide, or a good one -/
def vx_ot (w : Cond) : Bool := w.onTables || goodWord w
theorem vx_ot_at {args a' : Array Value} {s U : State} {w : Cond} (hW : s.WarmedH U.vm) (hvm : s.vm = U.vm) (hg : vx_ot w = true) (h : w.before args s = true) : w.before a' U = true := by
  simp only [vx_ot, Bool.or_eq_true] at hg
  rcases hg with hg | hg
  · exact va_tabs hg hvm h
  · exact word_at hW (good_of_word hg) h
/-- a list's words: the good ones out of the method's own list, the others by premises of their own -/
theorem vx_hat {args : Array Value} {s : State} {L B : List Cond} (h1 : ∀ w ∈ L.filter goodWord, w.before args s = true) (h2 : ∀ w ∈ L.filter (fun w => !goodWord w), w ∈ B) (h3 : ∀ w ∈ B, w.before args s = true) : ∀ w ∈ L, w.before args s = true := by
  intro w hw
  by_cases g : goodWord w = true
  · exact h1 w (List.mem_filter.mpr ⟨hw, g⟩)
  · refine h3 w (h2 w (List.mem_filter.mpr ⟨hw, ?_⟩))
    show (!goodWord w) = true
    cases hgw : goodWord w
    · rfl
    · exact absurd hgw g
theorem vx_c {args : Array Value} {s : State} {w : Cond} {B : List Cond} (h : w.before args s = true) (t : ∀ w ∈ B, w.before args s = true) : ∀ w' ∈ w :: B, w'.before args s = true := fun w' h' => (List.mem_cons.mp h').elim (fun e => by rw [e]; exact h) (t w')
theorem vx_n {args : Array Value} {s : State} : ∀ w ∈ ([] : List Cond), w.before args s = true := fun _ h => nomatch h
theorem vx_own {args : Array Value} {s : State} {L : List Cond} (h1 : ∀ w ∈ L.filter vx_no, w.before args s = true)
    (hU : (Cond.isRef (.static Bundle.tN "UNASSIGNED_STACK" Bundle.steD)).before args s = true) (hN : (Cond.isRef (.static Bundle.tN "SUPPRESSED_SENTINEL" Bundle.listD)).before args s = true)
    (lU : (Cond.laysStatic Bundle.tN "UNASSIGNED_STACK" Bundle.steD).before args s = true) (lN : (Cond.laysStatic Bundle.tN "SUPPRESSED_SENTINEL" Bundle.listD).before args s = true) : ∀ w ∈ L, w.before args s = true := by
  intro w hw
  by_cases e1 : w = .isRef (.static Bundle.tN "UNASSIGNED_STACK" Bundle.steD)
  · rw [e1]; exact hU
  · by_cases e2 : w = .isRef (.static Bundle.tN "SUPPRESSED_SENTINEL" Bundle.listD)
    · rw [e2]; exact hN
    · by_cases e3 : w = .laysStatic Bundle.tN "UNASSIGNED_STACK" Bundle.steD
      · rw [e3]; exact lU
      · by_cases e4 : w = .laysStatic Bundle.tN "SUPPRESSED_SENTINEL" Bundle.listD
        · rw [e4]; exact lN
        · exact h1 w (List.mem_filter.mpr ⟨hw, by unfold vx_no; rw [decide_eq_true e1, decide_eq_true e2, decide_eq_true e3, decide_eq_true e4]; rfl⟩)
/-- where a static field lies, its class's statics cell in H -/
def vx_L (C n d : String) (A : Nat → Prop) (U : State) (H : Heap) : Prop := ∃ (c : ClassId) (k : Class) (i : Nat) (f : Field) (a : Nat) (cell : Cell), U.vm.findClass C = some c ∧ U.fieldFound? C n d = some (c, k, i, f) ∧ f.isStatic = true ∧ k.statics = some a ∧ H[a]? = some cell ∧ cell.vm.isStatics = true ∧ cell.cls = c ∧ f.slot < cell.slots.size ∧ k.staticTypes[f.slot]? = some f.type ∧ ¬ A a
theorem vx_L.moved {C n d : String} {A : Nat → Prop} {u U : State} {H : Heap} (hvm : u.vm.Alike U.vm) (h : vx_L C n d A u H) : vx_L C n d A U H := by
  obtain ⟨c, k, i, f, a, cell, h1, h2, h3, h4, h5, h6, h7, h8, h9, h10⟩ := h
  obtain ⟨k', hi', he⟩ := State.fieldFound?_setVm hvm h2
  exact ⟨c, k', i, f, a, cell, by rw [hvm.findClass]; exact h1, hi', h3, by rw [he]; exact h4, h5, h6, h7, h8, by rw [he]; exact h9, h10⟩
theorem vx_L.kept {C n d : String} {A : Nat → Prop} {U : State} {H H1 : Heap} (h : vx_L C n d A U H) (hq : ∀ a : Nat, a < H.size → ¬ A a → H1[a]? = H[a]?) : vx_L C n d A U H1 := by
  obtain ⟨c, k, i, f, a, cell, h1, h2, h3, h4, h5, h6, h7, h8, h9, h10⟩ := h
  exact ⟨c, k, i, f, a, cell, h1, h2, h3, h4, by rw [hq a (Array.getElem?_eq_some_iff.mp h5).1 h10]; exact h5, h6, h7, h8, h9, h10⟩
theorem vx_L.narrow {C n d : String} {A B : Nat → Prop} {U : State} {H : Heap} (h : vx_L C n d A U H) (hAB : ∀ q, B q → A q) : vx_L C n d B U H := by
  obtain ⟨c, k, i, f, a, cell, h1, h2, h3, h4, h5, h6, h7, h8, h9, h10⟩ := h
  exact ⟨c, k, i, f, a, cell, h1, h2, h3, h4, h5, h6, h7, h8, h9, fun z => h10 (hAB _ z)⟩
theorem vx_L.word {C n d : String} {A : Nat → Prop} {s : State} {args : Array Value} (h : vx_L C n d A s s.heap) : (Cond.laysStatic C n d).before args s = true := by
  obtain ⟨c, k, i, f, a, cell, h1, h2, h3, h4, h5, h6, h7, h8, h9, -⟩ := h
  show (Cond.laysStatic C n d).holds args s none s [] = true
  exact Cond.laysStatic_of h1 h2 h3 h4 h5 h6 h7 h8 h9
/-- .. and what it holds: null or some reference -/
def vx_Zq (C n d : String) (A : Nat → Prop) (U : State) (H : Heap) : Prop := va_Zq C n d A U H ∧ vx_L C n d A U H
theorem vx_Zq.moved {C n d : String} {A : Nat → Prop} {u U : State} {H : Heap} (hvm : u.vm.Alike U.vm) (h : vx_Zq C n d A u H) : vx_Zq C n d A U H := ⟨va_Zq.moved hvm h.1, vx_L.moved hvm h.2⟩
theorem vx_Zq.kept {C n d : String} {A : Nat → Prop} {U : State} {H H1 : Heap} (h : vx_Zq C n d A U H) (hq : ∀ a : Nat, a < H.size → ¬ A a → H1[a]? = H[a]?) : vx_Zq C n d A U H1 := ⟨va_Zq.kept h.1 hq, vx_L.kept h.2 hq⟩
theorem vx_Zq.narrow {C n d : String} {A B : Nat → Prop} {U : State} {H : Heap} (h : vx_Zq C n d A U H) (hAB : ∀ q, B q → A q) : vx_Zq C n d B U H := ⟨va_Zq.narrow h.1 hAB, vx_L.narrow h.2 hAB⟩
theorem vx_Zqof {args : Array Value} {s : State} {C n d : String} {A : Nat → Prop} (hl : (Cond.laysStatic C n d).before args s = true) (hini : (Cond.initialized C).before args s = true) (h : (Cond.isRef (.static C n d)).before args s = true) (hA : ∀ a : Nat, a < s.heap.size → ¬ A a) : vx_Zq C n d A s s.heap := by
  refine ⟨va_Zqof hl hini h hA, ?_⟩
  obtain ⟨c, k, i, f, a, cell, h1, h2, h3, h4, h5, h6, h7, h8, h9⟩ := Cond.laysStatic_spec hl
  exact ⟨c, k, i, f, a, cell, h1, h2, h3, h4, h5, h6, h7, h8, h9, hA a (Array.getElem?_eq_some_iff.mp h5).1⟩
theorem vx_isRef {C n d : String} {v : Value} {A : Nat → Prop} {s : State} {args : Array Value} (h : va_Z C n d v A s s.heap) (hv : v.isRef = true) : (Cond.isRef (.static C n d)).before args s = true := by
  obtain ⟨cf, kf, fi, f, a, cell, h1, h2, h3, h4, h5, h6, h7, -⟩ := h
  have he : (Term.static C n d).eval args s none [] s = some v := by
    simp [Term.eval, State.fieldNamed?, h1, h2, h4, h5, h6, h7]
  simp only [Cond.before, Cond.holds, Cond.value, he]
  cases v <;> simp_all [Value.isRef]
theorem vx_isRefq {C n d : String} {A : Nat → Prop} {s : State} {args : Array Value} (h : va_Zq C n d A s s.heap) : (Cond.isRef (.static C n d)).before args s = true := by
  rcases h with h | ⟨t, h⟩
  · exact vx_isRef h rfl
  · exact vx_isRef h rfl
/-- the same frame, seen from here: as if the method were called anew in this heap -/
theorem vx_rebase {T : State} (X : Stand p l e R s m args below meth c T locs cells slots) {R' : Room} (hf : R'.frames ≤ R.frames) (hl : R'.locals ≤ R.locals) (hc : cells + R'.cells ≤ R.cells) (hs : slots + R'.slots ≤ R.slots) :
    Stand p l e R' ((T.setVm s.vm).setFrames (.invoking m args :: below)) m args below meth c T [] 0 0 := by
  have htop : (T.setVm s.vm).topJava?.isSome := X.here.top
  have hF : ((T.setVm s.vm).setFrames (.invoking m args :: below)).frames = .invoking m args :: below := State.frames_setFrames _ (State.cur_lt_of_top htop)
  obtain ⟨g₀, hg0⟩ := Option.isSome_iff_exists.mp htop
  obtain ⟨r, hr⟩ := State.topJava?_eq_some.mp hg0
  have hl9 : e.platform.stackLimits (T.setVm s.vm).me = e.platform.stackLimits s.me := X.limits
  have hb9 : (T.setVm s.vm).me.stackBytes = s.me.stackBytes := X.bytes
  refine ⟨X.admits, X.cas, X.clock, hF, ?_, X.hears, X.method, X.code, X.here, X.tail, X.warmed, ?_, ?_, ?_⟩
  · have h := X.room
    have hU : ((T.setVm s.vm).setFrames (.invoking m args :: below)).localsInUse = s.localsInUse := by
      rw [State.localsInUse_invoking hF (meth := meth) (c := c) X.method X.code, State.localsInUse_invoking X.frames X.method X.code]
    simp only [State.hasRoom, Bool.and_eq_true, decide_eq_true_eq] at h ⊢
    obtain ⟨⟨⟨⟨h1, h2, h3, h4, h5, h6⟩, h7⟩, h8⟩, h9⟩ := h
    rw [X.frames, List.length_cons] at h2 h3
    have q1 := X.heapSize
    have q2 := X.used
    simp only [hF, hU, List.length_cons, State.stackLimits_setFrames, State.stackBytes_setFrames, hl9, hb9]
    refine ⟨⟨⟨⟨by omega, by omega, by omega, by omega, by omega, h6⟩, ?_⟩, ?_⟩, X.book⟩
    · show T.heap.size + R'.cells ≤ e.platform.maxCells
      omega
    · show T.slotsUsed + R'.slots ≤ e.platform.maxSlots
      omega
  · rw [State.stackLimits_setFrames]; rfl
  · rw [State.stackBytes_setFrames]; rfl
  · refine ⟨?_, Nat.le_refl _, Nat.le_refl _, ?_, ?_, fun a c9 h9 => ⟨c9, h9, rfl, rfl, fun _ _ => rfl⟩⟩
    · obtain ⟨t, ht, -⟩ := State.frames_cons hr
      show T.setVm s.vm = { ((T.setVm s.vm).setFrames (.invoking m args :: below)).setFrames (T.setVm s.vm).frames with heap := T.heap, slotsUsed := T.slotsUsed }
      rw [State.setFrames_setFrames, State.setFrames_self ht]
      rfl
    · show T.slotsUsed = T.slotsUsed + ((T.heap.toList.drop T.heap.size).map (·.slots.size)).sum
      rw [List.drop_eq_nil_of_le (Nat.le_of_eq Array.length_toList)]
      rfl
    · show ((T.heap.toList.drop T.heap.size).map (·.slots.size)).sum ≤ 0
      rw [List.drop_eq_nil_of_le (Nat.le_of_eq Array.length_toList)]
      exact Nat.le_refl _
/-- 'throw new E()': new; dup; invokespecial; athrow -/
theorem vx_throw0 {cc : ByteArray} {pc : Nat} (hexec : p.tables.exec = Jvm.exec) (hb : c.code = cc) (hl : l.stackTraces = false) {own cls : String} {names : List String} {ik ic mc ms : Nat} {A : Nat → Prop}
    (hown : s.vm.findClass own = some m.cls) (hcls : Bundle.fit cls = true) (hnames : ∀ n ∈ names, Bundle.fit n = true)
    (hk : (Cond.classLink own ik cls).before args s = true) (hini : (Cond.initialized cls).before args s = true) (hat : ∀ w ∈ vx_at0 own ic cls names, w.before args s = true)
    (hgood : ∀ w ∈ Cond.classLink own ik cls :: Cond.initialized cls :: vx_at0 own ic cls names, vx_ot w = true)
    (hU : vx_Zq Bundle.tN "UNASSIGNED_STACK" Bundle.steD A s s.heap) (hN : vx_Zq Bundle.tN "SUPPRESSED_SENTINEL" Bundle.listD A s s.heap) (hS : va_S A s.heap H locs) (hsize : ls.size = c.maxLocals)
    (d0 : decode cc pc = .ok (.new ik, 3)) (d3 : decode cc (pc + 3) = .ok (.dup, 1)) (d4 : decode cc (pc + 4) = .ok (.invokespecial ic, 3)) (d7 : decode cc (pc + 7) = .ok (.athrow, 1))
    (hout : ∀ x ∈ c.exceptionTable.toList, covers x (pc + 7) = false)
    (hRframes : names.length + 3 < R.frames) (hRlocals : (rest.map fun v => v.category).sum + (13 * (names.length + 1) + 42) ≤ R.locals) (hRcells : cells + 1 ≤ R.cells) (hRslots : slots + 6 ≤ R.slots) (hlocks : meth.locks = false)
    (hx : ∀ t : State, s.vm.Alike t.vm → H.size ≤ t.heap.size → (∀ q : Nat, q < H.size → t.heap[q]? = H[q]?) → XC cls s t)
    (hf : ∀ z ∈ locs, free z.base) (hc : cells + 1 ≤ mc) (hs : slots + 6 ≤ ms) :
    W p l e R s m args below meth c H locs cells slots (vx_MQ below Qc XC args s mc ms free) (F0 m pc ls rest) := by
  intro T hT X
  have htr : e.platform.stackTraces = false := (show e.platform.stackTraces = l.stackTraces by rw [X.admits.platform]).trans hl
  have Y := vx_rebase X (R' := { frames := R.frames, locals := R.locals, cells := 1, slots := 6 }) (Nat.le_refl _) (Nat.le_refl _) hRcells hRslots
  obtain ⟨s', hA⟩ : ∃ z, z = (T.setVm s.vm).setFrames (.invoking m args :: below) := ⟨_, rfl⟩
  rw [← hA] at Y
  have hvm : s'.vm = s.vm := by rw [hA]; rfl
  have hhp : s'.heap = H := by rw [hA]; exact hT
  have hW0 : s.WarmedH s'.vm := by rw [hvm]; exact State.WarmedH.refl s
  have hat' : ∀ w ∈ vx_at0 own ic cls names, w.before args s' = true := fun w hw => vx_ot_at hW0 hvm.symm (hgood w (List.mem_cons_of_mem _ (List.mem_cons_of_mem _ hw))) (hat w hw)
  have hk' : (Cond.classLink own ik cls).before args s' = true := vx_ot_at hW0 hvm.symm (hgood _ List.mem_cons_self) hk
  have hini' : (Cond.initialized cls).before args s' = true := vx_ot_at hW0 hvm.symm (hgood _ (List.mem_cons_of_mem _ List.mem_cons_self)) hini
  have hU' : vx_Zq Bundle.tN "UNASSIGNED_STACK" Bundle.steD A s' s'.heap := by rw [hhp]; exact vx_Zq.moved hW0.alike (hU.kept hS.2.1)
  have hN' : vx_Zq Bundle.tN "SUPPRESSED_SENTINEL" Bundle.listD A s' s'.heap := by rw [hhp]; exact vx_Zq.moved hW0.alike (hN.kept hS.2.1)
  have h : ∀ w ∈ Bundle.ownAtoms0 own ic cls names, w.before args s' = true := vx_own hat' (vx_isRefq hU'.1) (vx_isRefq hN'.1) hU'.2.word hN'.2.word
  have hown' : s'.vm.findClass own = some m.cls := by rw [hvm]; exact hown
  have hins : (Cond.instantiable cls 6).before args s' = true := h _ (by simp [Bundle.ownAtoms0])
  obtain ⟨vm₁, cX, kX, hfX, hkX, -, -, X₁, st1⟩ := Y.newCold hexec (own := own) (C := cls) (index := ik) (n := 6) hown' hk' hins hini'
    (g := F0 m pc ls rest) rfl (by rw [hb]; exact d0) (Nat.le_refl _) (Nat.le_refl _)
  generalize hT1 : (T.setVm vm₁).pushCell { cls := cX, slots := kX.instanceTypes.map defaultValue, vm := .none } = T1 at X₁ st1
  have hcat : (Value.ref T.heap.size).category = 1 := rfl
  have hcellA : T1.heap[T.heap.size]? = some (freshCell cX kX) := by rw [← hT1]; exact State.heap_pushCell_size _ _
  have d3' : decode c.code (pc + 3) = .ok (.dup, 1) := by rw [hb]; exact d3
  obtain ⟨U, hsteps, hrun, hend, hW, hsame, ce, hce, hO⟩ := X₁.ctorThrow0 hexec htr (own := own) (cls := cls) (names := names) (ic := ic) hown' hcls hnames h (fun x hx => nomatch hx) hfX hkX hcellA (by rw [hhp, hT]; exact Nat.le_refl _)
    (g := { method := m, pc := pc + 4, locals := ls, stack := .ref T.heap.size :: .ref T.heap.size :: rest, locked := none }) rfl hsize rfl rfl (rest := rest) rfl
    (by rw [hb]; exact d4) (by rw [hb]; exact d7) hout hRframes (by simp only [List.map_cons, List.sum_cons, hcat]; omega) hlocks
  obtain ⟨f1, f2⟩ := vx_frame hsame
  rw [hhp] at f1 f2
  have hWs : s.WarmedH U.vm := State.WarmedH.trans hW0 hW
  have hcl : s.vm.findClass cls = some ce.cls := by
    have h9 := hO.cls
    rw [hvm] at h9
    exact h9
  have hall : s.sameButNew ({ U with vm := s.vm } : State) locs mc ms := by
    subst hA
    obtain ⟨e1, e2⟩ := hsame
    rw [State.setFrames_setFrames] at e1
    have h2 : (T.setVm s.vm).sameButNew ({ U with vm := s.vm } : State) [] (0 + 1) (0 + 6) := ⟨e1, e2⟩
    have h3 := X.same.trans h2
    rw [List.append_nil] at h3
    exact h3.mono hc hs
  refine ⟨U, ?_, .threw T.heap.size, hrun, hend, Or.inr ⟨T.heap.size, rfl, cls, ce, locs, hx U hWs.alike f1 (fun q hq => f2 q hq (fun z hz => nomatch hz)), hce, hO.vm, hcl, hWs, hall, hf⟩⟩
  refine st1 _ ?_
  show Steps p.tables e below (T1.setTop { method := m, pc := pc + 3, locals := ls, stack := .ref T.heap.size :: rest, locked := none }) _
  jvm_step X₁.here [X₁.here.top, hexec, d3', Value.category]
  exact hsteps
/-- 'throw new E("text")': new; dup; ldc; invokespecial; athrow -/
theorem vx_throwS {cc : ByteArray} {pc : Nat} (hexec : p.tables.exec = Jvm.exec) (hb : c.code = cc) (hl : l.stackTraces = false) {own cls text : String} {names : List String} {ik is ic mc ms sa : Nat} {A : Nat → Prop}
    (hown : s.vm.findClass own = some m.cls) (hcls : Bundle.fit cls = true) (hnames : ∀ n ∈ names, Bundle.fit n = true)
    (hk : (Cond.classLink own ik cls).before args s = true) (hini : (Cond.initialized cls).before args s = true) (hstr : vk_R own is text sa s) (hat : ∀ w ∈ vx_atS own ic cls names, w.before args s = true)
    (hgood : ∀ w ∈ Cond.classLink own ik cls :: Cond.initialized cls :: vx_atS own ic cls names, vx_ot w = true)
    (hU : vx_Zq Bundle.tN "UNASSIGNED_STACK" Bundle.steD A s s.heap) (hN : vx_Zq Bundle.tN "SUPPRESSED_SENTINEL" Bundle.listD A s s.heap) (hS : va_S A s.heap H locs) (hsize : ls.size = c.maxLocals)
    (d0 : decode cc pc = .ok (.new ik, 3)) (d3 : decode cc (pc + 3) = .ok (.dup, 1)) (d4 : decode cc (pc + 4) = .ok (.ldc is, 2)) (d6 : decode cc (pc + 6) = .ok (.invokespecial ic, 3)) (d9 : decode cc (pc + 9) = .ok (.athrow, 1))
    (hout : ∀ x ∈ c.exceptionTable.toList, covers x (pc + 9) = false)
    (hRframes : names.length + 3 < R.frames) (hRlocals : (rest.map fun v => v.category).sum + (13 * (names.length + 1) + 43) ≤ R.locals) (hRcells : cells + 1 ≤ R.cells) (hRslots : slots + 6 ≤ R.slots) (hlocks : meth.locks = false)
    (hx : ∀ t : State, s.vm.Alike t.vm → H.size ≤ t.heap.size → (∀ q : Nat, q < H.size → t.heap[q]? = H[q]?) → XC cls s t)
    (hf : ∀ z ∈ locs, free z.base) (hc : cells + 1 ≤ mc) (hs : slots + 6 ≤ ms) :
    W p l e R s m args below meth c H locs cells slots (vx_MQ below Qc XC args s mc ms free) (F0 m pc ls rest) := by
  intro T hT X
  have htr : e.platform.stackTraces = false := (show e.platform.stackTraces = l.stackTraces by rw [X.admits.platform]).trans hl
  have Y := vx_rebase X (R' := { frames := R.frames, locals := R.locals, cells := 1, slots := 6 }) (Nat.le_refl _) (Nat.le_refl _) hRcells hRslots
  obtain ⟨s', hA⟩ : ∃ z, z = (T.setVm s.vm).setFrames (.invoking m args :: below) := ⟨_, rfl⟩
  rw [← hA] at Y
  have hvm : s'.vm = s.vm := by rw [hA]; rfl
  have hhp : s'.heap = H := by rw [hA]; exact hT
  have hW0 : s.WarmedH s'.vm := by rw [hvm]; exact State.WarmedH.refl s
  have hat' : ∀ w ∈ vx_atS own ic cls names, w.before args s' = true := fun w hw => vx_ot_at hW0 hvm.symm (hgood w (List.mem_cons_of_mem _ (List.mem_cons_of_mem _ hw))) (hat w hw)
  have hk' : (Cond.classLink own ik cls).before args s' = true := vx_ot_at hW0 hvm.symm (hgood _ List.mem_cons_self) hk
  have hini' : (Cond.initialized cls).before args s' = true := vx_ot_at hW0 hvm.symm (hgood _ (List.mem_cons_of_mem _ List.mem_cons_self)) hini
  have hU' : vx_Zq Bundle.tN "UNASSIGNED_STACK" Bundle.steD A s' s'.heap := by rw [hhp]; exact vx_Zq.moved hW0.alike (hU.kept hS.2.1)
  have hN' : vx_Zq Bundle.tN "SUPPRESSED_SENTINEL" Bundle.listD A s' s'.heap := by rw [hhp]; exact vx_Zq.moved hW0.alike (hN.kept hS.2.1)
  have h : ∀ w ∈ Bundle.ownAtoms own ic cls names, w.before args s' = true := vx_own hat' (vx_isRefq hU'.1) (vx_isRefq hN'.1) hU'.2.word hN'.2.word
  have hown' : s'.vm.findClass own = some m.cls := by rw [hvm]; exact hown
  have hins : (Cond.instantiable cls 6).before args s' = true := h _ (by simp [Bundle.ownAtoms])
  obtain ⟨vm₁, cX, kX, hfX, hkX, -, -, X₁, st1⟩ := Y.newCold hexec (own := own) (C := cls) (index := ik) (n := 6) hown' hk' hins hini'
    (g := F0 m pc ls rest) rfl (by rw [hb]; exact d0) (Nat.le_refl _) (Nat.le_refl _)
  generalize hT1 : (T.setVm vm₁).pushCell { cls := cX, slots := kX.instanceTypes.map defaultValue, vm := .none } = T1 at X₁ st1
  have hcat : (Value.ref T.heap.size).category = 1 := rfl
  have hcellA : T1.heap[T.heap.size]? = some (freshCell cX kX) := by rw [← hT1]; exact State.heap_pushCell_size _ _
  have d3' : decode c.code (pc + 3) = .ok (.dup, 1) := by rw [hb]; exact d3
  have d4' : decode c.code (pc + 4) = .ok (.ldc is, 2) := by rw [hb]; exact d4
  have hstr' : vk_R own is text sa s' := vk_R.warm hW0 hstr
  obtain ⟨U, hsteps, hrun, hend, hW, hsame, ce, hce, hO⟩ := X₁.ctorThrowS hexec htr (own := own) (cls := cls) (names := names) (ic := ic) hown' hcls hnames h (fun x hx => nomatch hx) hfX hkX hcellA (by rw [hhp, hT]; exact Nat.le_refl _) (msg := .ref sa) rfl
    (g := { method := m, pc := pc + 6, locals := ls, stack := .ref sa :: .ref T.heap.size :: .ref T.heap.size :: rest, locked := none }) rfl hsize rfl rfl (rest := rest) rfl
    (by rw [hb]; exact d6) (by rw [hb]; exact d9) hout hRframes (by simp only [List.map_cons, List.sum_cons, hcat]; omega) hlocks
  obtain ⟨f1, f2⟩ := vx_frame hsame
  rw [hhp] at f1 f2
  have hWs : s.WarmedH U.vm := State.WarmedH.trans hW0 hW
  have hcl : s.vm.findClass cls = some ce.cls := by
    have h9 := hO.cls
    rw [hvm] at h9
    exact h9
  have hall : s.sameButNew ({ U with vm := s.vm } : State) locs mc ms := by
    subst hA
    obtain ⟨e1, e2⟩ := hsame
    rw [State.setFrames_setFrames] at e1
    have h2 : (T.setVm s.vm).sameButNew ({ U with vm := s.vm } : State) [] (0 + 1) (0 + 6) := ⟨e1, e2⟩
    have h3 := X.same.trans h2
    rw [List.append_nil] at h3
    exact h3.mono hc hs
  refine ⟨U, ?_, .threw T.heap.size, hrun, hend, Or.inr ⟨T.heap.size, rfl, cls, ce, locs, hx U hWs.alike f1 (fun q hq => f2 q hq (fun z hz => nomatch hz)), hce, hO.vm, hcl, hWs, hall, hf⟩⟩
  refine st1 _ ?_
  show Steps p.tables e below (T1.setTop { method := m, pc := pc + 3, locals := ls, stack := .ref T.heap.size :: rest, locked := none }) _
  jvm_step X₁.here [X₁.here.top, hexec, d3', Value.category]
  exact X₁.ldcString hexec (own := own) (text := text) (index := is) (a := sa) hown' hstr'.1 hstr'.2
    (g := { method := m, pc := pc + 4, locals := ls, stack := .ref T.heap.size :: .ref T.heap.size :: rest, locked := none }) rfl d4' _ hsteps
/-- 'throw new E("text")', the text by a wide index -/
theorem vx_throwSW {cc : ByteArray} {pc : Nat} (hexec : p.tables.exec = Jvm.exec) (hb : c.code = cc) (hl : l.stackTraces = false) {own cls text : String} {names : List String} {ik is ic mc ms sa : Nat} {A : Nat → Prop}
    (hown : s.vm.findClass own = some m.cls) (hcls : Bundle.fit cls = true) (hnames : ∀ n ∈ names, Bundle.fit n = true)
    (hk : (Cond.classLink own ik cls).before args s = true) (hini : (Cond.initialized cls).before args s = true) (hstr : vk_R own is text sa s) (hat : ∀ w ∈ vx_atS own ic cls names, w.before args s = true)
    (hgood : ∀ w ∈ Cond.classLink own ik cls :: Cond.initialized cls :: vx_atS own ic cls names, vx_ot w = true)
    (hU : vx_Zq Bundle.tN "UNASSIGNED_STACK" Bundle.steD A s s.heap) (hN : vx_Zq Bundle.tN "SUPPRESSED_SENTINEL" Bundle.listD A s s.heap) (hS : va_S A s.heap H locs) (hsize : ls.size = c.maxLocals)
    (d0 : decode cc pc = .ok (.new ik, 3)) (d3 : decode cc (pc + 3) = .ok (.dup, 1)) (d4 : decode cc (pc + 4) = .ok (.ldc_w is, 3)) (d7 : decode cc (pc + 7) = .ok (.invokespecial ic, 3)) (d10 : decode cc (pc + 10) = .ok (.athrow, 1))
    (hout : ∀ x ∈ c.exceptionTable.toList, covers x (pc + 10) = false)
    (hRframes : names.length + 3 < R.frames) (hRlocals : (rest.map fun v => v.category).sum + (13 * (names.length + 1) + 43) ≤ R.locals) (hRcells : cells + 1 ≤ R.cells) (hRslots : slots + 6 ≤ R.slots) (hlocks : meth.locks = false)
    (hx : ∀ t : State, s.vm.Alike t.vm → H.size ≤ t.heap.size → (∀ q : Nat, q < H.size → t.heap[q]? = H[q]?) → XC cls s t)
    (hf : ∀ z ∈ locs, free z.base) (hc : cells + 1 ≤ mc) (hs : slots + 6 ≤ ms) :
    W p l e R s m args below meth c H locs cells slots (vx_MQ below Qc XC args s mc ms free) (F0 m pc ls rest) := by
  intro T hT X
  have htr : e.platform.stackTraces = false := (show e.platform.stackTraces = l.stackTraces by rw [X.admits.platform]).trans hl
  have Y := vx_rebase X (R' := { frames := R.frames, locals := R.locals, cells := 1, slots := 6 }) (Nat.le_refl _) (Nat.le_refl _) hRcells hRslots
  obtain ⟨s', hA⟩ : ∃ z, z = (T.setVm s.vm).setFrames (.invoking m args :: below) := ⟨_, rfl⟩
  rw [← hA] at Y
  have hvm : s'.vm = s.vm := by rw [hA]; rfl
  have hhp : s'.heap = H := by rw [hA]; exact hT
  have hW0 : s.WarmedH s'.vm := by rw [hvm]; exact State.WarmedH.refl s
  have hat' : ∀ w ∈ vx_atS own ic cls names, w.before args s' = true := fun w hw => vx_ot_at hW0 hvm.symm (hgood w (List.mem_cons_of_mem _ (List.mem_cons_of_mem _ hw))) (hat w hw)
  have hk' : (Cond.classLink own ik cls).before args s' = true := vx_ot_at hW0 hvm.symm (hgood _ List.mem_cons_self) hk
  have hini' : (Cond.initialized cls).before args s' = true := vx_ot_at hW0 hvm.symm (hgood _ (List.mem_cons_of_mem _ List.mem_cons_self)) hini
  have hU' : vx_Zq Bundle.tN "UNASSIGNED_STACK" Bundle.steD A s' s'.heap := by rw [hhp]; exact vx_Zq.moved hW0.alike (hU.kept hS.2.1)
  have hN' : vx_Zq Bundle.tN "SUPPRESSED_SENTINEL" Bundle.listD A s' s'.heap := by rw [hhp]; exact vx_Zq.moved hW0.alike (hN.kept hS.2.1)
  have h : ∀ w ∈ Bundle.ownAtoms own ic cls names, w.before args s' = true := vx_own hat' (vx_isRefq hU'.1) (vx_isRefq hN'.1) hU'.2.word hN'.2.word
  have hown' : s'.vm.findClass own = some m.cls := by rw [hvm]; exact hown
  have hins : (Cond.instantiable cls 6).before args s' = true := h _ (by simp [Bundle.ownAtoms])
  obtain ⟨vm₁, cX, kX, hfX, hkX, -, -, X₁, st1⟩ := Y.newCold hexec (own := own) (C := cls) (index := ik) (n := 6) hown' hk' hins hini'
    (g := F0 m pc ls rest) rfl (by rw [hb]; exact d0) (Nat.le_refl _) (Nat.le_refl _)
  generalize hT1 : (T.setVm vm₁).pushCell { cls := cX, slots := kX.instanceTypes.map defaultValue, vm := .none } = T1 at X₁ st1
  have hcat : (Value.ref T.heap.size).category = 1 := rfl
  have hcellA : T1.heap[T.heap.size]? = some (freshCell cX kX) := by rw [← hT1]; exact State.heap_pushCell_size _ _
  have d3' : decode c.code (pc + 3) = .ok (.dup, 1) := by rw [hb]; exact d3
  have d4' : decode c.code (pc + 4) = .ok (.ldc_w is, 3) := by rw [hb]; exact d4
  have hstr' : vk_R own is text sa s' := vk_R.warm hW0 hstr
  obtain ⟨U, hsteps, hrun, hend, hW, hsame, ce, hce, hO⟩ := X₁.ctorThrowS hexec htr (own := own) (cls := cls) (names := names) (ic := ic) hown' hcls hnames h (fun x hx => nomatch hx) hfX hkX hcellA (by rw [hhp, hT]; exact Nat.le_refl _) (msg := .ref sa) rfl
    (g := { method := m, pc := pc + 7, locals := ls, stack := .ref sa :: .ref T.heap.size :: .ref T.heap.size :: rest, locked := none }) rfl hsize rfl rfl (rest := rest) rfl
    (by rw [hb]; exact d7) (by rw [hb]; exact d10) hout hRframes (by simp only [List.map_cons, List.sum_cons, hcat]; omega) hlocks
  obtain ⟨f1, f2⟩ := vx_frame hsame
  rw [hhp] at f1 f2
  have hWs : s.WarmedH U.vm := State.WarmedH.trans hW0 hW
  have hcl : s.vm.findClass cls = some ce.cls := by
    have h9 := hO.cls
    rw [hvm] at h9
    exact h9
  have hall : s.sameButNew ({ U with vm := s.vm } : State) locs mc ms := by
    subst hA
    obtain ⟨e1, e2⟩ := hsame
    rw [State.setFrames_setFrames] at e1
    have h2 : (T.setVm s.vm).sameButNew ({ U with vm := s.vm } : State) [] (0 + 1) (0 + 6) := ⟨e1, e2⟩
    have h3 := X.same.trans h2
    rw [List.append_nil] at h3
    exact h3.mono hc hs
  refine ⟨U, ?_, .threw T.heap.size, hrun, hend, Or.inr ⟨T.heap.size, rfl, cls, ce, locs, hx U hWs.alike f1 (fun q hq => f2 q hq (fun z hz => nomatch hz)), hce, hO.vm, hcl, hWs, hall, hf⟩⟩
  refine st1 _ ?_
  show Steps p.tables e below (T1.setTop { method := m, pc := pc + 3, locals := ls, stack := .ref T.heap.size :: rest, locked := none }) _
  jvm_step X₁.here [X₁.here.top, hexec, d3', Value.category]
  exact X₁.ldcStringW hexec (own := own) (text := text) (index := is) (a := sa) hown' hstr'.1 hstr'.2
    (g := { method := m, pc := pc + 4, locals := ls, stack := .ref T.heap.size :: .ref T.heap.size :: rest, locked := none }) rfl d4' _ hsteps
end Ends
section Bodies
variable {l : Launch}
theorem vx_ofW {y : MethodName} {ws ws' : List Cond} {rm : Room} {Pc : Array Value → State → Prop} {Qc : Array Value → State → Outcome → State → Prop} {XC : String → State → State → Prop} {mc ms : Nat} {free : Addr → Prop} {cc : ByteArray} {maxL : Nat} {ret : Option FieldType}
    (hy : plainName y.cls = true) (hw : ws = Cond.code y cc maxL ret :: ws')
    (body : ∀ p e s m args below meth c s₁, BodyLoose p l y (headSpec ws rm) cc maxL ret e s m args below meth c s₁ → c.maxLocals = maxL → (∀ x ∈ c.exceptionTable.toList, False) → Pc args s →
      W p l e (headSpec ws rm).room s m args below meth c s.heap [] 0 0 (vx_MQ below Qc XC args s mc ms free) (entryFrame m args maxL)) : vx_Met l y ws rm Pc Qc XC mc ms free := by
  refine MetFree.of_bodyS (code := cc) (maxLocals := maxL) (ret := ret) hy ?_ ?_
  · intro args s m h hn
    obtain ⟨meth, c, h1, h2, h3, h4, h5, h6, -, -⟩ := Cond.code_spec hn (atoms_spec (ws := ws) h _ (by rw [hw]; exact List.mem_cons_self))
    exact ⟨meth, c, h1, h2, h3, h4, h5, h6⟩
  · intro p e s m args below meth c s₁ B hml hP _
    have hh0 : s₁.heap = s.heap := by rw [B.state]; rfl
    have ht : ∀ x ∈ c.exceptionTable.toList, False := by
      obtain ⟨meth9, c9, h1, h2, -, -, -, -, h7, -⟩ := Cond.code_spec B.named (atoms_spec (ws := ws) B.pre _ (by rw [hw]; exact List.mem_cons_self))
      cases Option.some.inj (h1.symm.trans B.method)
      cases Option.some.inj (h2.symm.trans (Stand.of_body B).code)
      intro x hx
      rw [Array.isEmpty_iff.mp h7] at hx
      cases hx
    obtain ⟨t, a1, o, b1, b2, b3⟩ := body p e s m args below meth c s₁ B hml ht hP s₁ hh0 (Stand.of_body B)
    exact ⟨t, o, a1, b1, b2, b3⟩
/-- the table of a body with handlers -/
theorem vx_table {p : Program} {x y : MethodName} {S : Spec} {cc bytes : ByteArray} {maxL maxL' : Nat} {ret ret' : Option FieldType} {e : Env} {s s₁ : State} {m : MethodId} {args : Array Value} {below : List Frame} {meth : Method} {c : Code} {hh : List (Nat × Nat × Nat × Nat)}
    (B : BodyLoose p l y S cc maxL ret e s m args below meth c s₁) (h : (Cond.codeWith y bytes maxL' ret' hh).before args s = true) : c.exceptionTable.toList = tableOf hh := by
  obtain ⟨m9, meth9, c9, hn9, h1, h2, -, -, h6, -⟩ := Cond.codeWith_spec h
  cases Option.some.inj (hn9.symm.trans B.named)
  cases Option.some.inj (h1.symm.trans B.method)
  cases Option.some.inj (h2.symm.trans (Stand.of_body B).code)
  rw [← h6, table_eq]
end Bodies
end VXA
/-! ===== END ===== -/
/-! ===== BEGIN a static call of a method with an exception table ===== -/
section VXS
variable {p : Program} {l : Launch} {e : Env} {R : Room} {s : State} {m : MethodId} {args : Array Value} {below : List Frame} {meth : Method} {c : Code} {T : State} {H : Heap} {locs : List Loc} {cells slots : Nat}
abbrev vx_CSW (R : Room) (s : State) (args : Array Value) (own : String) (index : Nat) (y : MethodName) (bytes : ByteArray) (maxL : Nat) (ret : Option FieldType) (hh : List (Nat × Nat × Nat × Nat)) (ws : List Cond) (rm : Room) (mc ms n : Nat) : Prop :=
  (rm.cells = mc ∧ rm.slots = ms ∧ rm.frames + 1 ≤ R.frames ∧ 8 + (maxL + 11) + rm.locals ≤ R.locals ∧ (∀ w ∈ ws, ∀ (a' : Array Value) (U : State), s.WarmedH U.vm → w.before a' U = true) ∧ Cond.codeWith y bytes maxL ret hh ∈ ws) ∧
  (Cond.codeWith y bytes maxL ret hh).before args s = true ∧ (Cond.initialized y.cls).before args s = true ∧ (y.cls ≠ "java/lang/invoke/MethodHandle" ∧ y.cls ≠ "java/lang/invoke/VarHandle") ∧
  (∀ sig, parseMethodDescriptor y.desc = some sig → n = sig.parameters.length) ∧ (Cond.methodLink own index y).before args s = true ∧ (Cond.static y).before args s = true
theorem vx_cwSW {own : String} {index maxL mc ms : Nat} {y : MethodName} {bytes : ByteArray} {ret : Option FieldType} {hh : List (Nat × Nat × Nat × Nat)} {Ts ws ws' : List Cond} {rm : Room} (n : Nat) (ht : ∀ w ∈ Ts, w.before args s = true) (hT : GoodIn Ts (va_wsS own index y ws)) (hw : ws = Cond.codeWith y bytes maxL ret hh :: ws') (hrc : rm.cells = mc) (hrs : rm.slots = ms)
    (hd : y.cls ≠ "java/lang/invoke/MethodHandle" ∧ y.cls ≠ "java/lang/invoke/VarHandle" ∧ (parseMethodDescriptor y.desc).map (fun d => d.parameters.length) = some n) (hR : rm.frames + 1 ≤ R.frames ∧ 8 + (maxL + 11) + rm.locals ≤ R.locals) :
    vx_CSW R s args own index y bytes maxL ret hh ws rm mc ms n := by
  have ok : ∀ w ∈ va_wsS own index y ws, w.before args s = true := fun w h => ht w (hT w h).1
  have hG : GoodIn Ts ws := fun w h => hT w (by unfold va_wsS; exact List.mem_append_right _ h)
  have hc : Cond.codeWith y bytes maxL ret hh ∈ ws := by rw [hw]; exact List.mem_cons_self
  refine ⟨⟨hrc, hrs, hR.1, hR.2, pay_in ht hG, hc⟩, ht _ (hG _ hc).1, ok _ (by simp [va_wsS]), ⟨hd.1, hd.2.1⟩, fun sig h => ?_, ok _ (by simp [va_wsS]), ok _ (by simp [va_wsS])⟩
  have h2 := hd.2.2
  rw [h] at h2
  exact (Option.some.inj h2).symm
theorem vx_callSW (X : Stand p l e R s m args below meth c T locs cells slots) (hexec : p.tables.exec = Jvm.exec) {own : String} {index : Nat} {y : MethodName} {bytes : ByteArray} {maxL : Nat} {ret : Option FieldType} {hh : List (Nat × Nat × Nat × Nat)}
    (hown : s.vm.findClass own = some m.cls) (hlink : (Cond.methodLink own index y).before args s = true) (hstat : (Cond.static y).before args s = true) (hinit : (Cond.initialized y.cls).before args s = true)
    (hcode : (Cond.codeWith y bytes maxL ret hh).before args s = true) (hy : y.cls ≠ "java/lang/invoke/MethodHandle" ∧ y.cls ≠ "java/lang/invoke/VarHandle")
    {W9 : Nat} {Pre : Pt → Array Value → Prop} {Post : Pt → Array Value → Option Value → Pt → Prop} (hK : Back l R p e below s args y 3 W9 Pre Post)
    {g : JFrame} (hg : g.method = m) (hsize : g.locals.size = c.maxLocals) {argsL rest : List Value} (hlen : ∀ sig, parseMethodDescriptor y.desc = some sig → argsL.length = sig.parameters.length)
    (hstack : g.stack = argsL.reverse ++ rest) (hW : 2 * g.monitorRoom + (rest.map fun v => v.category).sum ≤ W9) (hdg : decode c.code g.pc = .ok (.invokestatic index, 3))
    (hpre : ∀ vm₁, s.WarmedH vm₁ → Pre ⟨T.setVm vm₁, locs, cells, slots⟩ argsL.toArray) :
    ∃ (v : Option Value) (vm₁ : Vm) (B : Pt), s.WarmedH vm₁ ∧ Stand p l e R s m args below meth c B.U B.locs B.cells B.slots ∧ Post ⟨T.setVm vm₁, locs, cells, slots⟩ argsL.toArray v B ∧
      ∀ target, Steps p.tables e below (B.U.setTop { g with pc := g.pc + 3, stack := v.toList ++ rest }) target → Steps p.tables e below (T.setTop g) target := by
  obtain ⟨mk, methM, cM, hnamed, hmethM, -, -, -, -, -, -, hsigM⟩ := Cond.codeWith_spec hcode
  have hstatic : methM.isStatic = true := Cond.static_spec hnamed hmethM hstat
  obtain ⟨kP, hkP, -⟩ := className_of_methodNamed hnamed
  have hinitP : kP.init = .initialized := Cond.initialized_spec (findClass_of_methodNamed hnamed) hkP hinit
  obtain ⟨vm₁, X₁, hstep₁⟩ := X.invokestatic hexec hown hlink hnamed hmethM hstatic hkP hinitP hy (g := g) hg (argsL := argsL) (rest := rest) (hlen _ hsigM) hstack hdg
  obtain ⟨v, B, X', hpost, hsteps⟩ := hK m meth c ⟨T.setVm vm₁, locs, cells, slots⟩ { g with stack := rest } (.invokestatic index) mk argsL.toArray X₁ hg hsize hdg hW (X₁.named hnamed) (hpre vm₁ X₁.warmed)
  exact ⟨v, vm₁, B, X₁.warmed, X', hpost, fun target h => hstep₁ _ fun acts => by rw [doInvoke_state]; exact hsteps.trans h⟩
theorem vx_runSW {y : MethodName} {bytes cc : ByteArray} {maxL nL mc ms n index : Nat} {ret : Option FieldType} {hh : List (Nat × Nat × Nat × Nat)} {ws : List Cond} {rm : Room} {Pc : Array Value → State → Prop} {Qc : Array Value → State → Outcome → State → Prop} {free : Addr → Prop} {Ts : List Cond} {own : String} {As rest : List Value} {g : JFrame}
    (S : CallFix p m c cc nL s args Ts own) (hM : Met l y ws rm Pc Qc mc ms free) (cw : vx_CSW R s args own index y bytes maxL ret hh ws rm mc ms n) (hp : PreS s H Pc As)
    (hg : g.method = m) (hn : As.length = n) (hsize : g.locals.size = nL) (hstack : g.stack = As.reverse ++ rest) (hW : 2 * g.monitorRoom + (rest.map fun v => v.category).sum ≤ 8) (hdg : decode cc g.pc = .ok (.invokestatic index, 3)) (hf : cells + mc ≤ R.cells ∧ slots + ms ≤ R.slots) :
    va_Run p l e R s m args below meth c H locs cells slots mc ms g rest (Qc As.toArray) (free) := by
  obtain ⟨⟨hrc, hrs, hfr, hlo, hws, hcw⟩, hcode, hini, hy, hlen, hl, hstt⟩ := cw
  have hK : Back l R p e below s args y 3 8 (PreOf R mc ms Pc) (PostOf Qc mc ms free) := va_backW (hh := hh) (bytes := bytes) (maxL := maxL) (ret := ret) hM hp.1 hrc hrs hfr hlo hws hcw (fun a' U hW => word_at hW (Or.inl (by first | rfl | simp [Cond.onTables, Cond.keeps, Cond.steady])) hini)
  obtain ⟨hx, hb, hml, ho, -⟩ := S
  intro T hT X
  obtain ⟨v, vm₁, ⟨U', l2, c2, s2⟩, hW₁, X', ⟨g', mk, t, L, e1, e2, hq, h1, hL, h2, h3⟩, st⟩ := vx_callSW X hx (hh := hh) (bytes := bytes) (maxL := maxL) (ret := ret) ho hl hstt hini hcode hy hK hg (hsize.trans hml.symm) (argsL := As) (rest := rest) (fun sig h => hn.trans (hlen sig h)) hstack hW (by rw [hb]; exact hdg)
    (fun vm₁ hW₁ => ⟨hf.1, hf.2, hp.2 (T.setVm vm₁) hT hW₁⟩)
  dsimp only [Pt.U, Pt.locs, Pt.cells, Pt.slots] at X' e1 e2 h1 h2 h3 st
  subst h1; subst h2; subst h3
  exact ⟨v, (T.setVm vm₁).calling g' mk As.toArray, t, U', L, hT, X', hL, e1, e2, hq, st⟩
/-- not caught here, past rows that name other classes: it goes on to the caller -/
theorem vx_outP {p : Program} {l : Launch} {e : Env} {R : Room} {s : State} {m : MethodId} {args : Array Value} {below : List Frame} {meth : Method} {c : Code} {H : Heap} {locs : List Loc} {cells slots : Nat} {free : Addr → Prop} {ls : Array Slot} {rest : List Value} {Qc : Array Value → State → Outcome → State → Prop} {XC : String → State → State → Prop}
    {pc : Nat} {own E : String} {ce : Cell} {q : Addr} {mc ms : Nat} (hown : s.vm.findClass own = some m.cls) (hlocks : meth.locks = false)
    (hpass : ∀ z ∈ c.exceptionTable.toList, covers z pc = false ∨ (z.catchType ≠ 0 ∧ ∃ nm : String, (Cond.classLink own z.catchType nm).before args s = true ∧ va_Nc E nm s)) (hcell : H[q]? = some ce) (hv : ce.vm = .none) (hcl : s.vm.findClass E = some ce.cls)
    (hx : ∀ t : State, t.heap = H → s.vm.Alike t.vm → XC E s t) (hf : ∀ z ∈ locs, free z.base) (hc : cells ≤ mc) (hs : slots ≤ ms) :
    vx_W p l e R s m args below meth c H locs cells slots (vx_MQ below Qc XC args s mc ms free) (F0 m pc ls rest) q := by
  intro T hT X
  have hpl : e.platform.magicAccessors = ({} : Platform).magicAccessors := by rw [X.admits.platform]
  obtain ⟨vm', hW', X', st⟩ := X.outThrough hlocks q (g := F0 m pc ls rest) rfl rfl rfl (cell := ce) (by rw [hT]; exact hcell) (by rw [hv]; rfl)
    (by obtain ⟨k9, h9, -⟩ := Vm.findClass_spec hcl; exact ⟨k9, h9⟩) (fun z hz => by
      rcases hpass z hz with h | ⟨hz0, nm, hl1, hn1⟩
      · exact Or.inl h
      · obtain ⟨c6, hc6, hcl6⟩ := Cond.classLink_spec hown hl1 e.platform hpl
        obtain ⟨a8, b8, h1, h2, h3⟩ := hn1
        cases Option.some.inj (h1.symm.trans hcl)
        cases Option.some.inj (h2.symm.trans hc6)
        exact Or.inr ⟨hz0, _, hcl6, h3⟩)
  obtain ⟨g₀, hfr⟩ := X'.frames_eq
  have hcell9 : ((T.setVm vm').setFrames (.throwing q :: below)).heap[q]? = some ce := by
    show T.heap[q]? = some ce
    rw [hT]; exact hcell
  have hend : Ended ((T.setVm vm').setFrames (.throwing q :: below)) below (.threw q) := State.frames_setFrames _ (State.cur_lt_of_frames hfr)
  refine ⟨(T.setVm vm').setFrames (.throwing q :: below), ?_, .threw q, X'.here.running, hend, Or.inr ⟨q, rfl, E, ce, locs, hx _ hT (X'.ends _).1.alike, hcell9, hv, hcl, (X'.ends _).1, (X'.ends _).2.mono hc hs, hf⟩⟩
  rw [X.pushThrowing_eq]
  exact st
/-- a thing of a world lies in the heap -/
theorem vx_lt {D : va_G} {cl : List vw_C} {ws : va_W} {H1 : Heap} (h : va_P D cl ws H1) {k : Nat} {q : Nat × va_E} (hk : ws[k]? = some q) : q.1 < H1.size := (h k q hk).lt
end VXS
/-! ===== END ===== -/
/-! ===== BEGIN methods with a table of their own: called by a name, returning or throwing ===== -/
section VXH
/-! vx_backW, vx_callVX, vx_callSX, vx_callVW, vx_runVW, vx_runVX, vx_runSX, vx_ofWH follow the same proofs as their sisters above (Free/Laws.lean, Shelf42/LK1.lean); vx_outP calls Shelf42/NT130.lean (outThrough). -/
section
variable {l : Launch} {R : Room} {p : Program} {e : Env} {below : List Frame} {s : State} {sargs : Array Value} {y : MethodName} {len W9 : Nat}
theorem vx_backW {ws : List Cond} {rm : Room} {Pc : Array Value → State → Prop} {Qc : Array Value → State → Outcome → State → Prop} {XC : String → State → State → Prop} {mc ms : Nat} {free : Addr → Prop} {bytes : ByteArray} {maxL : Nat} {ret : Option FieldType} {hh : List (Nat × Nat × Nat × Nat)}
    (hM : vx_Met l y ws rm Pc Qc XC mc ms free) (hblind : FrameBlind Pc) (hrc : rm.cells = mc) (hrs : rm.slots = ms)
    (hframes : rm.frames + 1 ≤ R.frames) (hlocals : W9 + (maxL + 11) + rm.locals ≤ R.locals)
    (hws : ∀ w ∈ ws, ∀ a' U, s.WarmedH U.vm → w.before a' U = true) (hcode : Cond.codeWith y bytes maxL ret hh ∈ ws) (hinit : ∀ a' U, s.WarmedH U.vm → (Cond.initialized y.cls).before a' U = true) :
    vx_Back l R p e below s sargs y len W9 (PreOf R mc ms Pc) (PostOf Qc mc ms free) (vx_Post XC mc ms free) := by
  intro m meth c A g ig mk a X hg hsize hdg hW hn hp
  have h1 : (headSpec ws rm).pre.before a A.U = true := atoms_intro fun w hw => hws w hw _ _ X.warmed
  have h2 : (Cond.codeWith y bytes maxL ret hh).before a A.U = true := hws _ hcode _ _ X.warmed
  have h3 : (Cond.initialized y.cls).before a A.U = true := hinit _ _ X.warmed
  have h4 : A.cells + (headSpec ws rm).room.cells ≤ R.cells := by rw [show (headSpec ws rm).room.cells = mc from hrc]; exact hp.1
  have h5 : A.slots + (headSpec ws rm).room.slots ≤ R.slots := by rw [show (headSpec ws rm).room.slots = ms from hrs]; exact hp.2.1
  have hPc : Pc a (A.U.calling g mk a) := hblind _ _ _ _ hp.2.2
  obtain ⟨U, Ls, c0, s0⟩ := A
  dsimp only [Pt.U, Pt.locs, Pt.cells, Pt.slots] at h1 h2 h3 h4 h5 X hn hPc ⊢
  obtain ⟨m9, methY, cY, hn9, hmY, hcY, -, hlY, -⟩ := Cond.codeWith_spec h2
  cases Option.some.inj (hn9.symm.trans hn)
  obtain ⟨kY, hkY, -⟩ := className_of_methodNamed hn
  have hinitY : kY.init = .initialized := Cond.initialized_spec (findClass_of_methodNamed hn) hkY h3
  have h : At U g.method c below := by rw [hg]; exact X.here
  have hlocals9 : W9 + (maxL + 11) + (headSpec ws rm).room.locals ≤ R.locals := hlocals
  have happ : (headSpec ws rm).appliesLoose y e.platform (U.calling g mk a) = true :=
    Spec.appliesLoose_calling (g := g) h hdg hn hkY hinitY
      (X.room_calling (g := g) (R' := (headSpec ws rm).room) hsize hmY hcY hframes (by rw [hlY]; omega) h4 h5) h1
  obtain ⟨mid, hmid⟩ := h.above
  have hfr : (U.setTop g).frames = (.java g :: mid) ++ below := by rw [State.frames_setTop' g h.top, hmid]; rfl
  obtain ⟨o, s₂, hsteps, -, hend, hq⟩ := Steps.callFree hM p X.admits X.cas X.clock (acts := []) hfr happ hPc trivial
  have hq' : vx_Q Qc XC mc ms free a (U.calling g mk a) o s₂ := hq
  rw [State.frames_setTop' g h.top] at hend
  obtain ⟨g₀, hg0⟩ := Option.isSome_iff_exists.mp h.top
  obtain ⟨r, hr⟩ := State.topJava?_eq_some.mp hg0
  have hr' : (({ U with heap := s₂.heap, slotsUsed := s₂.slotsUsed } : State).setVm s₂.vm).frames = .java g₀ :: r := hr
  rcases hq' with ⟨hqc, L, hfe, hL⟩ | ⟨q, rfl, E, ce, L, hx, hce, hcv, hcl, hW₂, hsm, hL⟩
  · obtain ⟨⟨v, rfl⟩, hW₂, e2, q2, q3, q4, q5, q6⟩ := id hfe
    have e3 : s₂ = ({ (U.calling g mk a).setFrames s₂.frames with heap := s₂.heap, slotsUsed := s₂.slotsUsed } : State).setVm s₂.vm := by
      have : s₂ = ({ s₂ with vm := (U.calling g mk a).vm } : State).setVm s₂.vm := rfl
      rw [e2] at this
      exact this
    obtain ⟨c₂, i₂, len₂, hc₂, hd₂, hf₂⟩ := hend
    have hW' : U.WarmedH s₂.vm := hW₂
    have hcc : c₂ = c := by
      have h1 : s₂.code? g.method = U.code? g.method := by
        rw [State.code?_eq, State.code?_eq, hW'.alike.method?]
      exact Option.some.inj (hc₂.symm.trans (h1.trans h.code))
    subst hcc
    have hlen : len₂ = len := by rw [hdg] at hd₂; cases hd₂; rfl
    subst hlen
    have hs₂ : s₂ = (({ U with heap := s₂.heap, slotsUsed := s₂.slotsUsed } : State).setVm s₂.vm).setTop { g with pc := g.pc + len₂, stack := v.toList ++ g.stack } := by
      refine e3.trans ?_
      rw [hf₂, State.calling_eq h.top, State.setFrames_setFrames, State.setTop_of_frames _ hr', hr]
      rfl
    have hsame : U.sameButNew ({ U with heap := s₂.heap, slotsUsed := s₂.slotsUsed } : State) L mc ms := by
      refine ⟨?_, q2, q3, q4, q5, q6⟩
      obtain ⟨t, ht, -⟩ := State.frames_cons hr
      show ({ U with heap := s₂.heap, slotsUsed := s₂.slotsUsed } : State) = { U.setFrames U.frames with heap := s₂.heap, slotsUsed := s₂.slotsUsed }
      rw [State.setFrames_self ht]
    subst hg
    refine Or.inl ⟨v, ⟨(({ U with heap := s₂.heap, slotsUsed := s₂.slotsUsed } : State).setVm s₂.vm), Ls ++ L, c0 + mc, s0 + ms⟩,
      ⟨X.admits, X.cas, X.clock, X.frames, X.room, X.hears, X.method, X.code, (X.here.setHeapUsed s₂.heap s₂.slotsUsed).setVm hW'.alike, X.tail, State.WarmedH.trans X.warmed hW', X.limits, X.bytes, X.same.trans (hsame.setVm s.vm)⟩,
      ⟨g, mk, s₂, L, rfl, rfl, hqc, rfl, hL, rfl, rfl⟩, ?_⟩
    show Steps p.tables e below _ ((({ U with heap := s₂.heap, slotsUsed := s₂.slotsUsed } : State).setVm s₂.vm).setTop { g with pc := g.pc + len₂, stack := v.toList ++ g.stack })
    rw [← hs₂]
    exact hsteps
  · obtain ⟨e2, q2, q3, q4, q5, q6⟩ := id hsm
    have e3 : s₂ = ({ (U.calling g mk a).setFrames s₂.frames with heap := s₂.heap, slotsUsed := s₂.slotsUsed } : State).setVm s₂.vm := by
      have : s₂ = ({ s₂ with vm := (U.calling g mk a).vm } : State).setVm s₂.vm := rfl
      rw [e2] at this
      exact this
    have hf₂ : s₂.frames = .throwing q :: .java g :: U.frames.tail := hend
    have hW' : U.WarmedH s₂.vm := hW₂
    have hs₂ : s₂ = ((({ U with heap := s₂.heap, slotsUsed := s₂.slotsUsed } : State).setVm s₂.vm).setTop g).pushFrame (.throwing q) := by
      refine e3.trans ?_
      rw [hf₂, State.calling_eq h.top, State.setFrames_setFrames, State.pushFrame, State.frames_setTop _ hr', State.setTop_of_frames _ hr', State.setFrames_setFrames, hr]
      rfl
    have hsame : U.sameButNew ({ U with heap := s₂.heap, slotsUsed := s₂.slotsUsed } : State) L mc ms := by
      refine ⟨?_, q2, q3, q4, q5, q6⟩
      obtain ⟨t, ht, -⟩ := State.frames_cons hr
      show ({ U with heap := s₂.heap, slotsUsed := s₂.slotsUsed } : State) = { U.setFrames U.frames with heap := s₂.heap, slotsUsed := s₂.slotsUsed }
      rw [State.setFrames_self ht]
    subst hg
    refine Or.inr ⟨q, ⟨(({ U with heap := s₂.heap, slotsUsed := s₂.slotsUsed } : State).setVm s₂.vm), Ls ++ L, c0 + mc, s0 + ms⟩,
      ⟨X.admits, X.cas, X.clock, X.frames, X.room, X.hears, X.method, X.code, (X.here.setHeapUsed s₂.heap s₂.slotsUsed).setVm hW'.alike, X.tail, State.WarmedH.trans X.warmed hW', X.limits, X.bytes, X.same.trans (hsame.setVm s.vm)⟩,
      ⟨g, mk, s₂, L, E, ce, rfl, rfl, hx, hce, hcv, hcl, rfl, hL, rfl, rfl⟩, ?_⟩
    show Steps p.tables e below _ (((({ U with heap := s₂.heap, slotsUsed := s₂.slotsUsed } : State).setVm s₂.vm).setTop g).pushFrame (.throwing q))
    rw [← hs₂]
    exact hsteps
end
variable {p : Program} {l : Launch} {e : Env} {R : Room} {s : State} {m : MethodId} {args : Array Value} {below : List Frame} {meth : Method} {c : Code} {T : State} {H : Heap} {locs : List Loc} {cells slots : Nat}
theorem vx_callVX (X : Stand p l e R s m args below meth c T locs cells slots) (hexec : p.tables.exec = Jvm.exec) {own C : String} {index : Nat} {y : MethodName} {bytes : ByteArray} {maxL : Nat} {ret : Option FieldType} {hh : List (Nat × Nat × Nat × Nat)}
    (hown : s.vm.findClass own = some m.cls) (hlink : (Cond.methodLink own index y).before args s = true) (hinst : (Cond.instanceMethod y).before args s = true) (hsel : (Cond.selects C y y).before args s = true)
    (hcode : (Cond.codeWith y bytes maxL ret hh).before args s = true) (hy : y.cls ≠ "java/lang/invoke/MethodHandle" ∧ y.cls ≠ "java/lang/invoke/VarHandle")
    {W9 : Nat} {Pre : Pt → Array Value → Prop} {Post : Pt → Array Value → Option Value → Pt → Prop} {PostX : Pt → Array Value → Addr → Pt → Prop} (hK : vx_Back l R p e below s args y 3 W9 Pre Post PostX)
    {b : Addr} {cellB : Cell} (hcell : T.heap[b]? = some cellB) (hobj : cellB.vm.isStatics = false) (hcls : s.vm.findClass C = some cellB.cls)
    {g : JFrame} (hg : g.method = m) (hsize : g.locals.size = c.maxLocals) {argsL rest : List Value} (hlen : ∀ sig, parseMethodDescriptor y.desc = some sig → argsL.length = sig.parameters.length)
    (hstack : g.stack = argsL.reverse ++ .ref b :: rest) (hW : 2 * g.monitorRoom + (rest.map fun v => v.category).sum ≤ W9) (hdg : decode c.code g.pc = .ok (.invokevirtual index, 3))
    (hpre : ∀ vm₁, s.WarmedH vm₁ → Pre ⟨T.setVm vm₁, locs, cells, slots⟩ (Value.ref b :: argsL).toArray) :
    (∃ (v : Option Value) (vm₁ : Vm) (B : Pt), s.WarmedH vm₁ ∧ Stand p l e R s m args below meth c B.U B.locs B.cells B.slots ∧ Post ⟨T.setVm vm₁, locs, cells, slots⟩ (Value.ref b :: argsL).toArray v B ∧
      ∀ target, Steps p.tables e below (B.U.setTop { g with pc := g.pc + 3, stack := v.toList ++ rest }) target → Steps p.tables e below (T.setTop g) target) ∨
    (∃ (q : Addr) (vm₁ : Vm) (B : Pt), s.WarmedH vm₁ ∧ Stand p l e R s m args below meth c B.U B.locs B.cells B.slots ∧ PostX ⟨T.setVm vm₁, locs, cells, slots⟩ (Value.ref b :: argsL).toArray q B ∧
      Steps p.tables e below (T.setTop g) ((B.U.setTop { g with stack := rest }).pushFrame (.throwing q))) := by
  obtain ⟨mk, methM, hnamed, hmethM, hstM, habM⟩ := Cond.instanceMethod_spec hinst
  obtain ⟨m8, methM', cM, hn8, hmethM', -, -, -, -, -, -, hsigM⟩ := Cond.codeWith_spec hcode
  cases Option.some.inj (hn8.symm.trans hnamed)
  cases hmethM.symm.trans hmethM'
  obtain ⟨c2, r2, m2, q1, q2, q3, q4, kP, hkP, hkPi⟩ := Cond.selects_spec hsel
  cases hcls.symm.trans q1
  cases (State.methodFound?_of_named hnamed hy).symm.trans q2
  cases hnamed.symm.trans q3
  have hselP : selectMethod e.platform s.vm cellB.cls mk = .method mk := by rw [Launch.admits_selectMethod X.admits]; exact q4
  obtain ⟨vm₁, X₁, hstep₁⟩ := X.invokevirtual hexec hown hlink hnamed hmethM hstM hkP hkPi hy (a := b) (cell := cellB) hcell
    (fun z h => by rw [h] at hobj; cases hobj) hselP hmethM habM hkP hkPi (g := g) hg (argsL := argsL) (rest := rest) (hlen _ hsigM) hstack hdg
  rcases hK m meth c ⟨T.setVm vm₁, locs, cells, slots⟩ { g with stack := rest } (.invokevirtual index) mk (Value.ref b :: argsL).toArray X₁ hg hsize hdg hW (X₁.named hnamed) (hpre vm₁ X₁.warmed) with ⟨v, B, X', hpost, hsteps⟩ | ⟨q, B, X', hpost, hsteps⟩
  · exact Or.inl ⟨v, vm₁, B, X₁.warmed, X', hpost, fun target h => hstep₁ _ fun acts => by rw [doInvoke_state]; exact hsteps.trans h⟩
  · exact Or.inr ⟨q, vm₁, B, X₁.warmed, X', hpost, hstep₁ _ fun acts => by rw [doInvoke_state]; exact hsteps⟩
theorem vx_callSX (X : Stand p l e R s m args below meth c T locs cells slots) (hexec : p.tables.exec = Jvm.exec) {own : String} {index : Nat} {y : MethodName} {bytes : ByteArray} {maxL : Nat} {ret : Option FieldType} {hh : List (Nat × Nat × Nat × Nat)}
    (hown : s.vm.findClass own = some m.cls) (hlink : (Cond.methodLink own index y).before args s = true) (hstat : (Cond.static y).before args s = true) (hinit : (Cond.initialized y.cls).before args s = true)
    (hcode : (Cond.codeWith y bytes maxL ret hh).before args s = true) (hy : y.cls ≠ "java/lang/invoke/MethodHandle" ∧ y.cls ≠ "java/lang/invoke/VarHandle")
    {W9 : Nat} {Pre : Pt → Array Value → Prop} {Post : Pt → Array Value → Option Value → Pt → Prop} {PostX : Pt → Array Value → Addr → Pt → Prop} (hK : vx_Back l R p e below s args y 3 W9 Pre Post PostX)
    {g : JFrame} (hg : g.method = m) (hsize : g.locals.size = c.maxLocals) {argsL rest : List Value} (hlen : ∀ sig, parseMethodDescriptor y.desc = some sig → argsL.length = sig.parameters.length)
    (hstack : g.stack = argsL.reverse ++ rest) (hW : 2 * g.monitorRoom + (rest.map fun v => v.category).sum ≤ W9) (hdg : decode c.code g.pc = .ok (.invokestatic index, 3))
    (hpre : ∀ vm₁, s.WarmedH vm₁ → Pre ⟨T.setVm vm₁, locs, cells, slots⟩ argsL.toArray) :
    (∃ (v : Option Value) (vm₁ : Vm) (B : Pt), s.WarmedH vm₁ ∧ Stand p l e R s m args below meth c B.U B.locs B.cells B.slots ∧ Post ⟨T.setVm vm₁, locs, cells, slots⟩ argsL.toArray v B ∧
      ∀ target, Steps p.tables e below (B.U.setTop { g with pc := g.pc + 3, stack := v.toList ++ rest }) target → Steps p.tables e below (T.setTop g) target) ∨
    (∃ (q : Addr) (vm₁ : Vm) (B : Pt), s.WarmedH vm₁ ∧ Stand p l e R s m args below meth c B.U B.locs B.cells B.slots ∧ PostX ⟨T.setVm vm₁, locs, cells, slots⟩ argsL.toArray q B ∧
      Steps p.tables e below (T.setTop g) ((B.U.setTop { g with stack := rest }).pushFrame (.throwing q))) := by
  obtain ⟨mk, methM, cM, hnamed, hmethM, -, -, -, -, -, -, hsigM⟩ := Cond.codeWith_spec hcode
  have hstatic : methM.isStatic = true := Cond.static_spec hnamed hmethM hstat
  obtain ⟨kP, hkP, -⟩ := className_of_methodNamed hnamed
  have hinitP : kP.init = .initialized := Cond.initialized_spec (findClass_of_methodNamed hnamed) hkP hinit
  obtain ⟨vm₁, X₁, hstep₁⟩ := X.invokestatic hexec hown hlink hnamed hmethM hstatic hkP hinitP hy (g := g) hg (argsL := argsL) (rest := rest) (hlen _ hsigM) hstack hdg
  rcases hK m meth c ⟨T.setVm vm₁, locs, cells, slots⟩ { g with stack := rest } (.invokestatic index) mk argsL.toArray X₁ hg hsize hdg hW (X₁.named hnamed) (hpre vm₁ X₁.warmed) with ⟨v, B, X', hpost, hsteps⟩ | ⟨q, B, X', hpost, hsteps⟩
  · exact Or.inl ⟨v, vm₁, B, X₁.warmed, X', hpost, fun target h => hstep₁ _ fun acts => by rw [doInvoke_state]; exact hsteps.trans h⟩
  · exact Or.inr ⟨q, vm₁, B, X₁.warmed, X', hpost, hstep₁ _ fun acts => by rw [doInvoke_state]; exact hsteps⟩
theorem vx_callVW (X : Stand p l e R s m args below meth c T locs cells slots) (hexec : p.tables.exec = Jvm.exec) {own C : String} {index : Nat} {y : MethodName} {bytes : ByteArray} {maxL : Nat} {ret : Option FieldType} {hh : List (Nat × Nat × Nat × Nat)}
    (hown : s.vm.findClass own = some m.cls) (hlink : (Cond.methodLink own index y).before args s = true) (hinst : (Cond.instanceMethod y).before args s = true) (hsel : (Cond.selects C y y).before args s = true)
    (hcode : (Cond.codeWith y bytes maxL ret hh).before args s = true) (hy : y.cls ≠ "java/lang/invoke/MethodHandle" ∧ y.cls ≠ "java/lang/invoke/VarHandle")
    {W9 : Nat} {Pre : Pt → Array Value → Prop} {Post : Pt → Array Value → Option Value → Pt → Prop} (hK : Back l R p e below s args y 3 W9 Pre Post)
    {b : Addr} {cellB : Cell} (hcell : T.heap[b]? = some cellB) (hobj : cellB.vm.isStatics = false) (hcls : s.vm.findClass C = some cellB.cls)
    {g : JFrame} (hg : g.method = m) (hsize : g.locals.size = c.maxLocals) {argsL rest : List Value} (hlen : ∀ sig, parseMethodDescriptor y.desc = some sig → argsL.length = sig.parameters.length)
    (hstack : g.stack = argsL.reverse ++ .ref b :: rest) (hW : 2 * g.monitorRoom + (rest.map fun v => v.category).sum ≤ W9) (hdg : decode c.code g.pc = .ok (.invokevirtual index, 3))
    (hpre : ∀ vm₁, s.WarmedH vm₁ → Pre ⟨T.setVm vm₁, locs, cells, slots⟩ (Value.ref b :: argsL).toArray) :
    ∃ (v : Option Value) (vm₁ : Vm) (B : Pt), s.WarmedH vm₁ ∧ Stand p l e R s m args below meth c B.U B.locs B.cells B.slots ∧ Post ⟨T.setVm vm₁, locs, cells, slots⟩ (Value.ref b :: argsL).toArray v B ∧
      ∀ target, Steps p.tables e below (B.U.setTop { g with pc := g.pc + 3, stack := v.toList ++ rest }) target → Steps p.tables e below (T.setTop g) target := by
  obtain ⟨mk, methM, hnamed, hmethM, hstM, habM⟩ := Cond.instanceMethod_spec hinst
  obtain ⟨m8, methM', cM, hn8, hmethM', -, -, -, -, -, -, hsigM⟩ := Cond.codeWith_spec hcode
  cases Option.some.inj (hn8.symm.trans hnamed)
  cases hmethM.symm.trans hmethM'
  obtain ⟨c2, r2, m2, q1, q2, q3, q4, kP, hkP, hkPi⟩ := Cond.selects_spec hsel
  cases hcls.symm.trans q1
  cases (State.methodFound?_of_named hnamed hy).symm.trans q2
  cases hnamed.symm.trans q3
  have hselP : selectMethod e.platform s.vm cellB.cls mk = .method mk := by rw [Launch.admits_selectMethod X.admits]; exact q4
  obtain ⟨vm₁, X₁, hstep₁⟩ := X.invokevirtual hexec hown hlink hnamed hmethM hstM hkP hkPi hy (a := b) (cell := cellB) hcell
    (fun z h => by rw [h] at hobj; cases hobj) hselP hmethM habM hkP hkPi (g := g) hg (argsL := argsL) (rest := rest) (hlen _ hsigM) hstack hdg
  obtain ⟨v, B, X', hpost, hsteps⟩ := hK m meth c ⟨T.setVm vm₁, locs, cells, slots⟩ { g with stack := rest } (.invokevirtual index) mk (Value.ref b :: argsL).toArray X₁ hg hsize hdg hW (X₁.named hnamed) (hpre vm₁ X₁.warmed)
  exact ⟨v, vm₁, B, X₁.warmed, X', hpost, fun target h => hstep₁ _ fun acts => by rw [doInvoke_state]; exact hsteps.trans h⟩
abbrev vx_CVW (R : Room) (s : State) (args : Array Value) (own C : String) (index : Nat) (y : MethodName) (bytes : ByteArray) (maxL : Nat) (ret : Option FieldType) (hh : List (Nat × Nat × Nat × Nat)) (ws : List Cond) (rm : Room) (mc ms n : Nat) : Prop :=
  (rm.cells = mc ∧ rm.slots = ms ∧ rm.frames + 1 ≤ R.frames ∧ 8 + (maxL + 11) + rm.locals ≤ R.locals ∧ (∀ w ∈ ws, ∀ (a' : Array Value) (U : State), s.WarmedH U.vm → w.before a' U = true) ∧ Cond.codeWith y bytes maxL ret hh ∈ ws) ∧
  (Cond.codeWith y bytes maxL ret hh).before args s = true ∧ (Cond.initialized y.cls).before args s = true ∧ (y.cls ≠ "java/lang/invoke/MethodHandle" ∧ y.cls ≠ "java/lang/invoke/VarHandle") ∧
  (∀ sig, parseMethodDescriptor y.desc = some sig → n = sig.parameters.length) ∧ (Cond.methodLink own index y).before args s = true ∧ (Cond.instanceMethod y).before args s = true ∧ (Cond.selects C y y).before args s = true
theorem vx_cwVW {own C : String} {index maxL mc ms : Nat} {y : MethodName} {bytes : ByteArray} {ret : Option FieldType} {hh : List (Nat × Nat × Nat × Nat)} {Ts ws ws' : List Cond} {rm : Room} (n : Nat) (ht : ∀ w ∈ Ts, w.before args s = true) (hT : GoodIn Ts (wsV own index C y ws)) (hw : ws = Cond.codeWith y bytes maxL ret hh :: ws') (hrc : rm.cells = mc) (hrs : rm.slots = ms)
    (hd : y.cls = C ∧ y.cls ≠ "java/lang/invoke/MethodHandle" ∧ y.cls ≠ "java/lang/invoke/VarHandle" ∧ (parseMethodDescriptor y.desc).map (fun d => d.parameters.length) = some n) (hR : rm.frames + 1 ≤ R.frames ∧ 8 + (maxL + 11) + rm.locals ≤ R.locals) :
    vx_CVW R s args own C index y bytes maxL ret hh ws rm mc ms n := by
  obtain ⟨hC, hd⟩ := hd
  subst hC
  have ok : ∀ w ∈ wsV own index y.cls y ws, w.before args s = true := fun w h => ht w (hT w h).1
  have hG : GoodIn Ts ws := fun w h => hT w (by unfold wsV; exact List.mem_append_right _ h)
  have hc : Cond.codeWith y bytes maxL ret hh ∈ ws := by rw [hw]; exact List.mem_cons_self
  refine ⟨⟨hrc, hrs, hR.1, hR.2, pay_in ht hG, hc⟩, ht _ (hG _ hc).1, ok _ (by simp [wsV]), ⟨hd.1, hd.2.1⟩, fun sig h => ?_, ok _ (by simp [wsV]), ok _ (by simp [wsV]), ok _ (by simp [wsV])⟩
  have h2 := hd.2.2
  rw [h] at h2
  exact (Option.some.inj h2).symm
theorem vx_runVW {y : MethodName} {bytes cc : ByteArray} {maxL nL mc ms n index : Nat} {ret : Option FieldType} {hh : List (Nat × Nat × Nat × Nat)} {ws : List Cond} {rm : Room} {Pc : Array Value → State → Prop} {Qc : Array Value → State → Outcome → State → Prop} {free : Addr → Prop} {Ts : List Cond} {own C : String} {b : Addr} {As rest : List Value} {g : JFrame}
    (S : CallFix p m c cc nL s args Ts own) (hM : Met l y ws rm Pc Qc mc ms free) (cw : vx_CVW R s args own C index y bytes maxL ret hh ws rm mc ms n) (hp : PreV s H C b Pc As)
    (hg : g.method = m) (hn : As.length = n) (hsize : g.locals.size = nL) (hstack : g.stack = As.reverse ++ .ref b :: rest) (hW : 2 * g.monitorRoom + (rest.map fun v => v.category).sum ≤ 8) (hdg : decode cc g.pc = .ok (.invokevirtual index, 3)) (hf : cells + mc ≤ R.cells ∧ slots + ms ≤ R.slots) :
    va_Run p l e R s m args below meth c H locs cells slots mc ms g rest (Qc (Value.ref b :: As).toArray) free := by
  obtain ⟨⟨hrc, hrs, hfr, hlo, hws, hcw⟩, hcode, hini, hy, hlen, hl, hin, hse⟩ := cw
  have hK : Back l R p e below s args y 3 8 (PreOf R mc ms Pc) (PostOf Qc mc ms free) := va_backW (hh := hh) (bytes := bytes) (maxL := maxL) (ret := ret) hM hp.1 hrc hrs hfr hlo hws hcw (fun a' U hW => word_at hW (Or.inl (by first | rfl | simp [Cond.onTables, Cond.keeps, Cond.steady])) hini)
  obtain ⟨hx, hb, hml, ho, -⟩ := S
  obtain ⟨-, ⟨cellB, hcB, hoB, hclB⟩, hPc⟩ := hp
  intro T hT X
  obtain ⟨v, vm₁, ⟨U', l2, c2, s2⟩, hW₁, X', ⟨g', mk, t, L, e1, e2, hq, h1, hL, h2, h3⟩, st⟩ := vx_callVW X hx (C := C) (hh := hh) (bytes := bytes) (maxL := maxL) (ret := ret) ho hl hin hse hcode hy hK (by rw [hT]; exact hcB) hoB hclB hg (hsize.trans hml.symm) (argsL := As) (rest := rest) (fun sig h => hn.trans (hlen sig h)) hstack hW (by rw [hb]; exact hdg)
    (fun vm₁ hW₁ => ⟨hf.1, hf.2, hPc (T.setVm vm₁) hT hW₁⟩)
  dsimp only [Pt.U, Pt.locs, Pt.cells, Pt.slots] at X' e1 e2 h1 h2 h3 st
  subst h1; subst h2; subst h3
  exact ⟨v, (T.setVm vm₁).calling g' mk (Value.ref b :: As).toArray, t, U', L, hT, X', hL, e1, e2, hq, st⟩
section
variable {y : MethodName} {bytes cc : ByteArray} {maxL nL mc ms n index : Nat} {ret : Option FieldType} {ws : List Cond} {rm : Room} {Pc : Array Value → State → Prop} {Qc : Array Value → State → Outcome → State → Prop} {XC : String → State → State → Prop} {free : Addr → Prop} {Ts : List Cond} {own C : String} {b : Addr} {As rest : List Value} {g : JFrame}
theorem vx_runVX {hh : List (Nat × Nat × Nat × Nat)} (S : CallFix p m c cc nL s args Ts own) (hM : vx_Met l y ws rm Pc Qc XC mc ms free) (cw : vx_CVW R s args own C index y bytes maxL ret hh ws rm mc ms n) (hp : PreV s H C b Pc As)
    (hg : g.method = m) (hn : As.length = n) (hsize : g.locals.size = nL) (hstack : g.stack = As.reverse ++ .ref b :: rest) (hW : 2 * g.monitorRoom + (rest.map fun v => v.category).sum ≤ 8) (hdg : decode cc g.pc = .ok (.invokevirtual index, 3)) (hf : cells + mc ≤ R.cells ∧ slots + ms ≤ R.slots) :
    vx_Run p l e R s m args below meth c H locs cells slots mc ms g rest (Qc (Value.ref b :: As).toArray) XC free := by
  obtain ⟨⟨hrc, hrs, hfr, hlo, hws, hcw⟩, hcode, hini, hy, hlen, hl, hin, hse⟩ := cw
  have hK : vx_Back l R p e below s args y 3 8 (PreOf R mc ms Pc) (PostOf Qc mc ms free) (vx_Post XC mc ms free) := vx_backW (hh := hh) (bytes := bytes) (maxL := maxL) (ret := ret) hM hp.1 hrc hrs hfr hlo hws hcw (fun a' U hW => word_at hW (Or.inl (by first | rfl | simp [Cond.onTables, Cond.keeps, Cond.steady])) hini)
  obtain ⟨hx, hb, hml, ho, -⟩ := S
  obtain ⟨-, ⟨cellB, hcB, hoB, hclB⟩, hPc⟩ := hp
  intro T hT X
  rcases vx_callVX X hx (C := C) (hh := hh) (bytes := bytes) (maxL := maxL) (ret := ret) ho hl hin hse hcode hy hK (by rw [hT]; exact hcB) hoB hclB hg (hsize.trans hml.symm) (argsL := As) (rest := rest) (fun sig h => hn.trans (hlen sig h)) hstack hW (by rw [hb]; exact hdg)
    (fun vm₁ hW₁ => ⟨hf.1, hf.2, hPc (T.setVm vm₁) hT hW₁⟩) with ⟨v, vm₁, ⟨U', l2, c2, s2⟩, hW₁, X', ⟨g', mk, t, L, e1, e2, hq, h1, hL, h2, h3⟩, st⟩ | ⟨q, vm₁, ⟨U', l2, c2, s2⟩, hW₁, X', ⟨g', mk, t, L, E, ce, e1, e2, hq, hce, hcv, hcl, h1, hL, h2, h3⟩, st⟩
  · dsimp only [Pt.U, Pt.locs, Pt.cells, Pt.slots] at X' e1 e2 h1 h2 h3 st
    subst h1; subst h2; subst h3
    exact Or.inl ⟨v, (T.setVm vm₁).calling g' mk (Value.ref b :: As).toArray, t, U', L, hT, X', hL, e1, e2, hq, st⟩
  · dsimp only [Pt.U, Pt.locs, Pt.cells, Pt.slots] at X' e1 e2 h1 h2 h3 st hcl
    subst h1; subst h2; subst h3
    exact Or.inr ⟨q, (T.setVm vm₁).calling g' mk (Value.ref b :: As).toArray, t, U', L, E, ce, hT, X', hL, e1, e2, hq, hce, hcv, vx_cls hW₁ hcl, st⟩
theorem vx_runSX {hh : List (Nat × Nat × Nat × Nat)} (S : CallFix p m c cc nL s args Ts own) (hM : vx_Met l y ws rm Pc Qc XC mc ms free) (cw : vx_CSW R s args own index y bytes maxL ret hh ws rm mc ms n) (hp : PreS s H Pc As)
    (hg : g.method = m) (hn : As.length = n) (hsize : g.locals.size = nL) (hstack : g.stack = As.reverse ++ rest) (hW : 2 * g.monitorRoom + (rest.map fun v => v.category).sum ≤ 8) (hdg : decode cc g.pc = .ok (.invokestatic index, 3)) (hf : cells + mc ≤ R.cells ∧ slots + ms ≤ R.slots) :
    vx_Run p l e R s m args below meth c H locs cells slots mc ms g rest (Qc As.toArray) XC free := by
  obtain ⟨⟨hrc, hrs, hfr, hlo, hws, hcw⟩, hcode, hini, hy, hlen, hl, hstt⟩ := cw
  have hK : vx_Back l R p e below s args y 3 8 (PreOf R mc ms Pc) (PostOf Qc mc ms free) (vx_Post XC mc ms free) := vx_backW (hh := hh) (bytes := bytes) (maxL := maxL) (ret := ret) hM hp.1 hrc hrs hfr hlo hws hcw (fun a' U hW => word_at hW (Or.inl (by first | rfl | simp [Cond.onTables, Cond.keeps, Cond.steady])) hini)
  obtain ⟨hx, hb, hml, ho, -⟩ := S
  intro T hT X
  rcases vx_callSX X hx (hh := hh) (bytes := bytes) (maxL := maxL) (ret := ret) ho hl hstt hini hcode hy hK hg (hsize.trans hml.symm) (argsL := As) (rest := rest) (fun sig h => hn.trans (hlen sig h)) hstack hW (by rw [hb]; exact hdg)
    (fun vm₁ hW₁ => ⟨hf.1, hf.2, hp.2 (T.setVm vm₁) hT hW₁⟩) with ⟨v, vm₁, ⟨U', l2, c2, s2⟩, hW₁, X', ⟨g', mk, t, L, e1, e2, hq, h1, hL, h2, h3⟩, st⟩ | ⟨q, vm₁, ⟨U', l2, c2, s2⟩, hW₁, X', ⟨g', mk, t, L, E, ce, e1, e2, hq, hce, hcv, hcl, h1, hL, h2, h3⟩, st⟩
  · dsimp only [Pt.U, Pt.locs, Pt.cells, Pt.slots] at X' e1 e2 h1 h2 h3 st
    subst h1; subst h2; subst h3
    exact Or.inl ⟨v, (T.setVm vm₁).calling g' mk As.toArray, t, U', L, hT, X', hL, e1, e2, hq, st⟩
  · dsimp only [Pt.U, Pt.locs, Pt.cells, Pt.slots] at X' e1 e2 h1 h2 h3 st hcl
    subst h1; subst h2; subst h3
    exact Or.inr ⟨q, (T.setVm vm₁).calling g' mk As.toArray, t, U', L, E, ce, hT, X', hL, e1, e2, hq, hce, hcv, vx_cls hW₁ hcl, st⟩
end
end VXH
theorem vx_ofWH {l : Launch} {y : MethodName} {ws ws' : List Cond} {rm : Room} {Pc : Array Value → State → Prop} {Qc : Array Value → State → Outcome → State → Prop} {XC : String → State → State → Prop} {mc ms : Nat} {free : Addr → Prop} {cc : ByteArray} {maxL : Nat} {ret : Option FieldType} {hh : List (Nat × Nat × Nat × Nat)}
    (hy : plainName y.cls = true) (hw : ws = Cond.codeWith y cc maxL ret hh :: ws')
    (body : ∀ p e s m args below meth c s₁, BodyLoose p l y (headSpec ws rm) cc maxL ret e s m args below meth c s₁ → c.maxLocals = maxL → Pc args s →
      W p l e (headSpec ws rm).room s m args below meth c s.heap [] 0 0 (vx_MQ below Qc XC args s mc ms free) (entryFrame m args maxL)) : vx_Met l y ws rm Pc Qc XC mc ms free := by
  refine MetFree.of_bodyS (code := cc) (maxLocals := maxL) (ret := ret) hy ?_ ?_
  · intro args s m h hn
    obtain ⟨m9, meth, c, hn9, h1, h2, h3, h4, -, h5, h6, -⟩ := Cond.codeWith_spec (atoms_spec (ws := ws) h _ (by rw [hw]; exact List.mem_cons_self))
    cases hn.symm.trans hn9
    exact ⟨meth, c, h1, h2, h3, h4, h5, h6⟩
  · intro p e s m args below meth c s₁ B hml hP _
    have hh0 : s₁.heap = s.heap := by rw [B.state]; rfl
    obtain ⟨t, a1, o, b1, b2, b3⟩ := body p e s m args below meth c s₁ B hml hP s₁ hh0 (Stand.of_body B)
    exact ⟨t, o, a1, b1, b2, b3⟩
/-! ===== END ===== -/

/-! ===== BEGIN what the machine throws by itself, no traces kept ===== -/
section VXM
set_option maxHeartbeats 1000000 in
/-- the machine throws cls with the message text, no traces kept: from its note over the frame g to 'throwing' over the same frame (follows the proofs of Stand.vmThrowsMessage, Shelf/KitTracedVmS.lean, and Stand.throwsMessageColdBareV, StandMessageColdV.lean, without the step out of the frame) -/
theorem vx_vmAt {p : Program} {l : Launch} {e : Env} {R : Room} {s : State} {m₀ : MethodId} {args : Array Value} {below : List Frame} {meth : Method} {c : Code} {W : State} {locs : List Loc} {cells slots : Nat}
    (X : Stand p l e R s m₀ args below meth c W locs cells slots) (hexec : p.tables.exec = Jvm.exec) (htr : e.platform.stackTraces = false) {cls : String} {names : List String} {text : String}
    (hcls : Bundle.fit cls = true) (hnames : ∀ n ∈ names, Bundle.fit n = true) (hsoe : (cls == "java/lang/StackOverflowError") = false) (hoom : (cls == "java/lang/OutOfMemoryError") = false)
    (h : ∀ a ∈ Bundle.messageArmAtoms cls names, a.before args s = true)
    (hlocs : ∀ x ∈ locs, ∀ cell, s.heap[x.base]? = some cell → cell.vm.isStatics = false)
    (htext : (text == notModelled) = false) (hlimit : ¬ (stringBytes (stringToUtf16 text)).size > e.platform.arrayLengthLimit) (hheap : ¬ (stringBytes (stringToUtf16 text)).size * componentBytes .byte > e.platform.maxHeapBytes)
    {g : JFrame} (hg : g.method = m₀) (hsize : g.locals.size = c.maxLocals)
    (hRframes : names.length + 4 < R.frames) (hRlocals : 2 * g.monitorRoom + (g.stack.map fun v => v.category).sum + 10240 ≤ R.locals) (hshort : 13 * names.length + 55 ≤ 10240)
    (hRcells : cells + 3 ≤ R.cells) (hRslots : slots + ((stringBytes (stringToUtf16 text)).size + 4 + 6) ≤ R.slots) (hlocks : meth.locks = false) :
    ∃ (S : State) (q : Addr) (ce : Cell), (∀ target, Steps p.tables e below ((S.setTop g).pushFrame (.throwing q)) target → Steps p.tables e below ((W.setTop g).pushFrame (.throwNew cls (some text) none)) target) ∧
      Stand p l e R s m₀ args below meth c S locs (cells + 3) (slots + ((stringBytes (stringToUtf16 text)).size + 4 + 6)) ∧ S.heap[q]? = some ce ∧ s.vm.findClass cls = some ce.cls ∧ ce.vm = .none := by
  have howns : e.platform.frameOwnsMonitors = true := by rw [X.admits.platform]
  have hfin : e.platform.finalization = false := by rw [X.admits.platform]
  have hpl : e.platform.magicAccessors = ({} : Platform).magicAccessors := by rw [X.admits.platform]
  have a : ∀ x, x ∈ Bundle.messageArmAtoms cls names → x.holds args s none s [] = true := fun x hx => h x hx
  obtain ⟨T, Z0, L, -, Y⟩ := ThrowableC.of_atoms (args := args) howns hfin hpl (fun x hx => h x (by simp [Bundle.messageArmAtoms, hx]))
  obtain ⟨Z, M, LZ, LM, hnZ⟩ := Init0T.ofS_atoms (args := args) hpl L Y (fun x hx => h x (by simp [Bundle.messageArmAtoms, hx]))
  obtain ⟨P1, Ps, hlen, L1, hL, hP1m, hlink1, hlink⟩ := Bundle.chainS (args := args) hpl hnZ names cls hcls hnames (fun x hx => h x (by simp [Bundle.messageArmAtoms, hx]))
  obtain ⟨Zs, LZs, hn4, hfitv, hfitc⟩ := StringT.of_atoms (args := args) (fun x hx => h x (by simp [Bundle.messageArmAtoms, hx]))
  have hfound : s.vm.findClass cls = some P1.m.cls := findClass_of_methodNamed hP1m
  obtain ⟨c1, kX, hc1, hk, hord, -, -, hn6⟩ := Cond.instantiable_spec (a (.instantiable cls 6) (by simp [Bundle.messageArmAtoms]))
  cases Option.some.inj (hc1.symm.trans hfound)
  have hinit := Cond.initialized_spec hfound hk (a (.initialized cls) (by simp [Bundle.messageArmAtoms]))
  have hctor : kX.findMethod "<init>" "(Ljava/lang/String;)V" = some P1.m.idx := findMethod_of_methodNamed hP1m hk
  have hsel0 : selectMethod e.platform s.vm P1.m.cls T.fill0 = .method T.fill0 := by
    obtain ⟨c2, r2, m2, q1, q2, q3, q4, -⟩ := Cond.selects_spec (a (.selects cls Bundle.tFill0 Bundle.tFill0) (by simp [Bundle.messageArmAtoms]))
    cases Option.some.inj (q1.symm.trans hfound)
    cases Option.some.inj (q2.symm.trans (State.methodFound?_of_named Y.fill0 (by decide)))
    cases Option.some.inj (q3.symm.trans Y.fill0)
    rw [Launch.admits_selectMethod X.admits]; exact q4
  have hselF : selectMethod e.platform s.vm P1.m.cls T.fill = .method T.fill := by
    obtain ⟨c2, r2, m2, q1, q2, q3, q4, -⟩ := Cond.selects_spec (a (.selects cls Bundle.tFill Bundle.tFill) (by simp [Bundle.messageArmAtoms]))
    cases Option.some.inj (q1.symm.trans hfound)
    cases Option.some.inj (q2.symm.trans (State.methodFound?_of_named Y.fill (by decide)))
    cases Option.some.inj (q3.symm.trans Y.fill)
    rw [Launch.admits_selectMethod X.admits]; exact q4
  obtain ⟨cellS0, hcS0, hiss⟩ := Y.statics
  obtain ⟨u0, hu0⟩ := Cond.staticRefV Y.unassigned L.unassignedStatic L.statics hcS0 hiss (a (.isRef (.static Bundle.tN "UNASSIGNED_STACK" Bundle.steD)) (by simp [Bundle.messageArmAtoms]))
  obtain ⟨sen, hsen⟩ := Cond.staticRefV Y.sentinel L.sentinelStatic L.statics hcS0 hiss (a (.isRef (.static Bundle.tN "SUPPRESSED_SENTINEL" Bundle.listD)) (by simp [Bundle.messageArmAtoms]))
  obtain ⟨ci198, i198, fB, hk198, hg198, ha198, hsB, -, hnB, htB, hffB⟩ := Cond.ownField (t := .object "java/lang/Object") Y.found L.cls (by decide +kernel) (a (.fieldLink Bundle.tN 198 Bundle.tN "backtrace" "Ljava/lang/Object;") (by simp [Bundle.messageArmAtoms])) (a (.lays Bundle.tN Bundle.tN "backtrace" "Ljava/lang/Object;") (by simp [Bundle.messageArmAtoms])) e.platform hpl
  obtain ⟨cellS, hcS', heS, -, hkeep⟩ := X.same.2.2.2.2.2 T.aS cellS0 hcS0
  have hcellS : W.heap[T.aS]? = some cellS := hcS'
  have hout' : ∀ i, (⟨T.aS, i⟩ : Loc) ∉ locs := fun i hmem => by
    have := hlocs _ hmem cellS0 hcS0
    rw [hiss] at this; cases this
  have hknownS : cellS.vm ≠ .unknown := by
    rw [heS]; intro hu
    rw [show cellS0.vm = .unknown from hu] at hiss
    cases hiss
  have hvU : cellS.slots[T.fUnassigned.slot]? = some u0.v := by rw [hkeep _ (hout' _)]; exact hu0
  have hvSen : cellS.slots[T.fSentinel.slot]? = some sen.v := by rw [hkeep _ (hout' _)]; exact hsen
  obtain ⟨iM, hffM⟩ := Y.msg
  obtain ⟨tyC, dC, hdC, hdnC⟩ := Cond.laysAt hfound hk Y.cause (a (.lays cls Bundle.tN "cause" "Ljava/lang/Throwable;") (by simp [Bundle.messageArmAtoms]))
  obtain ⟨tyS, dS, hdS, hdnS⟩ := Cond.laysAt hfound hk Y.stack (a (.lays cls Bundle.tN "stackTrace" Bundle.steD) (by simp [Bundle.messageArmAtoms]))
  obtain ⟨tyP, dP, hdP, hdnP⟩ := Cond.laysAt hfound hk Y.supp (a (.lays cls Bundle.tN "suppressedExceptions" Bundle.listD) (by simp [Bundle.messageArmAtoms]))
  obtain ⟨tyM, dM, hdM, hdnM⟩ := Cond.laysAt hfound hk hffM (a (.lays cls Bundle.tN "detailMessage" "Ljava/lang/String;") (by simp [Bundle.messageArmAtoms]))
  obtain ⟨tyB, dB, hdB, hdnB⟩ := Cond.laysAt hfound hk hffB (a (.lays cls Bundle.tN "backtrace" "Ljava/lang/Object;") (by simp [Bundle.messageArmAtoms]))
  have bC := Cond.laysApart hdB hdC hdnB hdnC (by rw [hnB, Y.causeName]; decide)
  have bS := Cond.laysApart hdB hdS hdnB hdnS (by rw [hnB, Y.stackName]; decide)
  have bP := Cond.laysApart hdB hdP hdnB hdnP (by rw [hnB, Y.suppName]; decide)
  have hbk : ((preparedCellV T.toThrowableT (freshCell P1.m.cls kX) (W.heap.size + 2) u0 sen).withEntry W.cur).slots[fB.slot]? = some .null := by
    have := fresh_default (c := P1.m.cls) tyB
    rw [htB] at this
    simpa [preparedCellV, Cell.setSlot, Cell.withEntry, Array.getElem?_setIfInBounds, bC, bS, bP, bC.symm, bS.symm, bP.symm, defaultValue] using this
  have tkC := Takes.of_laid (v := .ref (W.heap.size + 2)) hk hord tyC (by rw [Y.causeType]; rfl)
  have tkS := Takes.of_laid (v := u0.v) hk hord tyS (by rw [Y.stackType]; exact fits_refV_array _ u0)
  have tkP := Takes.of_laid (v := sen.v) hk hord tyP (by rw [Y.suppType]; exact fits_refV_object _ sen)
  have tkM := Takes.of_laid (v := .ref (W.heap.size + 1)) hk hord tyM (by rw [Y.msgType]; rfl)
  have hskip : SkipFacts T e.platform s (fun u => u) u0 ((preparedCellV T.toThrowableT (freshCell P1.m.cls kX) (W.heap.size + 2) u0 sen).withEntry W.cur) := ⟨{ ci198 := ci198, i198 := i198, fBack := fB }, ⟨hk198, hg198, ha198, hsB⟩, hbk, fun _ _ => rfl⟩
  have h0 : At W g.method c below := by rw [hg]; exact X.here
  obtain ⟨hbeyond, hfreeW⟩ := X.vmMayThrow hsize (.throwNew cls (some text) none) (fun f hf => by cases hf) rfl hRlocals
  have hfr' : W.frames.length + Ps.length + 4 < (e.platform.stackLimits W.me).1 := by have := X.framesAbove hRframes; omega
  have hwd' : (stackUse (.java g :: W.frames.tail)).2 + 13 * Ps.length + 55 ≤ (e.platform.stackLimits W.me).2 := by have := X.stackAbove hsize (K := 13 * Ps.length + 55) (by omega); omega
  have hslots : W.slotsUsed + (stringBytes (stringToUtf16 text)).size + Zs.kS.instanceTypes.size + kX.instanceTypes.size ≤ e.platform.maxSlots := by
    have := X.slotsAbove hRslots
    rw [hn4, hn6]
    omega
  obtain ⟨vm', hW', st⟩ := Steps.vmThrowsMessageColdByV p (s₀ := s) (S := W) (g := g) h0 hexec T L Z LZ M LM X.warmed (t := W.cur) rfl Zs LZs P1 L1 Ps hL hlink1 hlink hsoe hoom hfound hk hinit hord hctor
    (Launch.admits_hotImplicitExceptions X.admits) hbeyond hfreeW htext hlimit hheap (X.cellsAbove hRcells) hslots (hfitv _) (hfitc _)
    (Nn := fun u => u) heapOnly_id (fun _ _ => rfl) (fun _ => rfl) (fun u x y => setCell_twice _ _ _ _) (fun _ => Nat.le_refl _) (cN := ((preparedCellV T.toThrowableT (freshCell P1.m.cls kX) (W.heap.size + 2) u0 sen).withEntry W.cur))
    hsel0 hcellS hknownS hvU tkS (fun _ hu => hu) (fun _ hu => hu) rfl rfl rfl (by simp [preparedCellV, Cell.setSlot, Cell.withEntry]) hskip (fun _ _ hA hW _ hroom _ hrest => L.nativeOff p htr hA hW hroom hrest) hselF hvSen tkC tkP tkM Y.objLocals rfl hfr' hwd'
  rw [plainBareV_eq T.toThrowableT (W.heap.size + 2) u0 sen (.ref (W.heap.size + 1)) W.cur rfl rfl] at st
  obtain ⟨-, -, w3, w4, -, -, -⟩ := withThrown_facts e.platform W Zs text P1.m.cls kX
  have X3 := ((X.pushed (bytesOf Zs.cB (stringToUtf16 text))).pushed (stringAt Zs.cS Zs.kS Zs.fv Zs.fc (stringToUtf16 text) W.heap.size)).pushed (freshCell P1.m.cls kX)
  rw [← withString_eq] at X3
  have X4 := X3.noted hW'
  have ha : (W.heap.size + 2) < ((withThrown W Zs text P1.m.cls kX).setVm vm').heap.size := by show _ < (withThrown W Zs text P1.m.cls kX).heap.size; rw [w3]; omega
  have hcell : ((withThrown W Zs text P1.m.cls kX).setVm vm').heap[(W.heap.size + 2)]? = some (freshCell P1.m.cls kX) := w4
  have X5 := ((((X4.stored hcell T.fCause.slot (.ref (W.heap.size + 2))).storedAgain ha T.fStack.slot u0.v).storedAgain ha T.fSupp.slot sen.v).storedAgain ha T.fStack.slot u0.v).storedAgain ha T.fMsg.slot (.ref (W.heap.size + 1))
  obtain ⟨g₁, hfrM⟩ := X5.frames_eq
  have hU : ((((withThrown W Zs text P1.m.cls kX).setVm vm').setCell (W.heap.size + 2) (plainBareV T.toThrowableT (freshCell P1.m.cls kX) (W.heap.size + 2) u0 sen (.ref (W.heap.size + 1)))).setTop g).pushFrame (.throwing (W.heap.size + 2)) = (((withThrown W Zs text P1.m.cls kX).setVm vm').setCell (W.heap.size + 2) (plainBareV T.toThrowableT (freshCell P1.m.cls kX) (W.heap.size + 2) u0 sen (.ref (W.heap.size + 1)))).setFrames (.throwing (W.heap.size + 2) :: .java g :: below) := by
    rw [State.pushFrame, State.frames_setTop _ hfrM, State.setTop_of_frames _ hfrM, State.setFrames_setFrames]
  have b1 : (bytesOf Zs.cB (stringToUtf16 text)).slots.size = (stringBytes (stringToUtf16 text)).size := by
    rw [(Cell.writeAll_facts _ _).2.2]; simp [bytes0]
  have b2 : (stringAt Zs.cS Zs.kS Zs.fv Zs.fc (stringToUtf16 text) W.heap.size).slots.size = 4 := by simp [string0, Cell.setSlot, hn4]
  have b3 : (freshCell P1.m.cls kX).slots.size = 6 := by simp [hn6]
  rw [b1, b2, b3] at X5
  have e9 : slots + (stringBytes (stringToUtf16 text)).size + 4 + 6 = slots + ((stringBytes (stringToUtf16 text)).size + 4 + 6) := by omega
  rw [e9] at X5
  simp only [List.append_assoc, List.cons_append, List.nil_append] at X5
  refine ⟨((withThrown W Zs text P1.m.cls kX).setVm vm').setCell (W.heap.size + 2) (plainBareV T.toThrowableT (freshCell P1.m.cls kX) (W.heap.size + 2) u0 sen (.ref (W.heap.size + 1))), W.heap.size + 2, _, fun target ht => st _ (by rw [X.tail, ← hU]; exact ht),
    X5.forget (fun y hy => ?_), heapAt_setCell_self _ ha, hfound, rfl⟩
  simp only [List.mem_cons, List.not_mem_nil, or_false] at hy
  have hge : s.heap.size ≤ W.heap.size := X.same.2.1
  rcases hy with rfl | rfl | rfl | rfl | rfl <;> exact Nat.le_trans hge (Nat.le_add_right _ 2)
set_option maxHeartbeats 1000000 in
/-- the machine throws NullPointerException, no traces kept: from its note over the frame g to 'throwing' over the same frame (follows the proof of Stand.vmThrowsNpe, Shelf42/KT2.lean; throwsNpeColdBareVAt, Shelf42/NT91.lean, called) -/
theorem vx_npeAt {p : Program} {l : Launch} {e : Env} {R : Room} {s : State} {m₀ : MethodId} {args : Array Value} {below : List Frame} {meth : Method} {c : Code} {W : State} {locs : List Loc} {cells slots : Nat}
    (X : Stand p l e R s m₀ args below meth c W locs cells slots) (hexec : p.tables.exec = Jvm.exec) (htr : e.platform.stackTraces = false) {n : Nat}
    (h : ∀ a ∈ Bundle.npeArmAtoms n, a.before args s = true)
    (hlocs : ∀ x ∈ locs, ∀ cell, s.heap[x.base]? = some cell → cell.vm.isStatics = false)
    {g : JFrame} (hg : g.method = m₀) (hsize : g.locals.size = c.maxLocals)
    (hRframes : 7 < R.frames) (hRlocals : 2 * g.monitorRoom + (g.stack.map fun v => v.category).sum + 10240 ≤ R.locals)
    (hRcells : cells + 1 ≤ R.cells) (hRslots : slots + n ≤ R.slots) (hlocks : meth.locks = false) :
    ∃ (S : State) (q : Addr) (ce : Cell), (∀ target, Steps p.tables e below ((S.setTop g).pushFrame (.throwing q)) target → Steps p.tables e below ((W.setTop g).pushFrame (.throwNew "java/lang/NullPointerException" none none)) target) ∧
      Stand p l e R s m₀ args below meth c S locs (cells + 1) (slots + n) ∧ S.heap[q]? = some ce ∧ s.vm.findClass "java/lang/NullPointerException" = some ce.cls ∧ ce.vm = .none := by
  have howns : e.platform.frameOwnsMonitors = true := by rw [X.admits.platform]
  have hfin : e.platform.finalization = false := by rw [X.admits.platform]
  have hpl : e.platform.magicAccessors = ({} : Platform).magicAccessors := by rw [X.admits.platform]
  have hpl2 : e.platform.arrayCloneIsPublic = true := by rw [X.admits.platform]
  have a' : ∀ x, x ∈ Bundle.npeArmAtoms n → x.holds args s none s [] = true := fun x hx => h x hx
  obtain ⟨T, Z, L, LZ, Y⟩ := ThrowableC.of_atoms (args := args) howns hfin hpl (fun x hx => h x (by simp [Bundle.npeArmAtoms, hx]))
  obtain ⟨N, LN, hcN, hnNF, hordN, hffS⟩ := NpeC.of_atoms (args := args) hpl hpl2 L Y (fun x hx => h x (by simp [Bundle.npeArmAtoms, hx]))
  obtain ⟨P1, L1, hP1m, hP1s⟩ := PassC.of_atoms (args := args) (s := s) hpl (X := Bundle.nN) (Y := Bundle.rN) (by decide) (by decide) LibCode.NullPointerException.Init0.at_0 LibCode.NullPointerException.Init0.at_1 LibCode.NullPointerException.Init0.at_4 (fun x hx => h x (by simp [Bundle.npeArmAtoms, hx]))
  obtain ⟨PR, LR, hPRm, hPRs⟩ := PassC.of_atoms (args := args) (s := s) hpl (X := Bundle.rN) (Y := Bundle.eN) (by decide) (by decide) LibCode.RuntimeException.Init0.at_0 LibCode.RuntimeException.Init0.at_1 LibCode.RuntimeException.Init0.at_4 (fun x hx => h x (by simp [Bundle.npeArmAtoms, hx]))
  obtain ⟨PE, LEx, hPEm, hPEs⟩ := PassC.of_atoms (args := args) (s := s) hpl (X := Bundle.eN) (Y := Bundle.tN) (by decide) (by decide) LibCode.Exception.Init0.at_0 LibCode.Exception.Init0.at_1 LibCode.Exception.Init0.at_4 (fun x hx => h x (by simp [Bundle.npeArmAtoms, hx]))
  have hfound : s.vm.findClass Bundle.nN = some P1.m.cls := findClass_of_methodNamed hP1m
  have ecls : N.cN = P1.m.cls := Option.some.inj (hcN.symm.trans hfound)
  have hk : s.vm.classes[P1.m.cls]? = some N.kN := by rw [← ecls]; exact LN.cls
  have hinit := Cond.initialized_spec hfound hk (a' (.initialized Bundle.nN) (by simp [Bundle.npeArmAtoms]))
  have hctor : N.kN.findMethod "<init>" "()V" = some P1.m.idx := findMethod_of_methodNamed hP1m hk
  obtain ⟨c1, k1, hc1, hk1, -, -, -, hn⟩ := Cond.instantiable_spec (a' (.instantiable Bundle.nN n) (by simp [Bundle.npeArmAtoms]))
  cases Option.some.inj (hc1.symm.trans hfound)
  cases Option.some.inj (hk1.symm.trans hk)
  have hfsz : (freshCell P1.m.cls N.kN).slots.size = n := by simp [hn]
  have hlink1 : P1.sup = PR.m := Option.some.inj (hP1s.symm.trans hPRm)
  have hlinkR : PR.sup = PE.m := Option.some.inj (hPRs.symm.trans hPEm)
  have hlinkE : PE.sup = Z.m T.toThrowableT := Option.some.inj (hPEs.symm.trans Y.init0)
  have hLs : ∀ P, P ∈ [PR, PE] → P.Links0 e.platform s := fun P hP => by
    simp only [List.mem_cons, List.not_mem_nil, or_false] at hP
    rcases hP with rfl | rfl
    · exact LR
    · exact LEx
  have hsel0 : selectMethod e.platform s.vm P1.m.cls T.fill0 = .method T.fill0 := by
    obtain ⟨c2, r2, m2, q1, q2, q3, q4, -⟩ := Cond.selects_spec (a' (.selects Bundle.nN Bundle.tFill0 Bundle.tFill0) (by simp [Bundle.npeArmAtoms]))
    cases Option.some.inj (q1.symm.trans hfound)
    cases Option.some.inj (q2.symm.trans (State.methodFound?_of_named Y.fill0 (by decide)))
    cases Option.some.inj (q3.symm.trans Y.fill0)
    rw [Launch.admits_selectMethod X.admits]; exact q4
  have hselF : selectMethod e.platform s.vm P1.m.cls T.fill = .method N.fill := by
    obtain ⟨c2, r2, m2, q1, q2, q3, q4, -⟩ := Cond.selects_spec (a' (.selects Bundle.nN Bundle.tFill Bundle.nFill) (by simp [Bundle.npeArmAtoms]))
    cases Option.some.inj (q1.symm.trans hfound)
    cases Option.some.inj (q2.symm.trans (State.methodFound?_of_named Y.fill (by decide)))
    cases Option.some.inj (q3.symm.trans hnNF)
    rw [Launch.admits_selectMethod X.admits]; exact q4
  obtain ⟨cellS0, hcS0, hiss⟩ := Y.statics
  obtain ⟨u0, hu0⟩ := Cond.staticRefV Y.unassigned L.unassignedStatic L.statics hcS0 hiss (a' (.isRef (.static Bundle.tN "UNASSIGNED_STACK" Bundle.steD)) (by simp [Bundle.npeArmAtoms]))
  obtain ⟨sen, hsen⟩ := Cond.staticRefV Y.sentinel L.sentinelStatic L.statics hcS0 hiss (a' (.isRef (.static Bundle.tN "SUPPRESSED_SENTINEL" Bundle.listD)) (by simp [Bundle.npeArmAtoms]))
  obtain ⟨ci198, i198, fB, hk198, hg198, ha198, hsB, -, hnB, htB, hffB⟩ := Cond.ownField (t := .object "java/lang/Object") Y.found L.cls (by decide +kernel) (a' (.fieldLink Bundle.tN 198 Bundle.tN "backtrace" Bundle.objD) (by simp [Bundle.npeArmAtoms])) (a' (.lays Bundle.tN Bundle.tN "backtrace" Bundle.objD) (by simp [Bundle.npeArmAtoms])) e.platform hpl
  obtain ⟨cellS, hcS', heS, -, hkeep⟩ := X.same.2.2.2.2.2 T.aS cellS0 hcS0
  have hcellS : W.heap[T.aS]? = some cellS := hcS'
  have hout' : ∀ i, (⟨T.aS, i⟩ : Loc) ∉ locs := fun i hmem => by
    have := hlocs _ hmem cellS0 hcS0
    rw [hiss] at this; cases this
  have hknownS : cellS.vm ≠ .unknown := by
    rw [heS]; intro hu
    rw [show cellS0.vm = .unknown from hu] at hiss
    cases hiss
  have hvU : cellS.slots[T.fUnassigned.slot]? = some u0.v := by rw [hkeep _ (hout' _)]; exact hu0
  have hvSen : cellS.slots[T.fSentinel.slot]? = some sen.v := by rw [hkeep _ (hout' _)]; exact hsen
  obtain ⟨tyC, dC, hdC, hdnC⟩ := Cond.laysAt hfound hk Y.cause (a' (.lays Bundle.nN Bundle.tN "cause" "Ljava/lang/Throwable;") (by simp [Bundle.npeArmAtoms]))
  obtain ⟨tyS, dS, hdS, hdnS⟩ := Cond.laysAt hfound hk Y.stack (a' (.lays Bundle.nN Bundle.tN "stackTrace" Bundle.steD) (by simp [Bundle.npeArmAtoms]))
  obtain ⟨tyP, dP, hdP, hdnP⟩ := Cond.laysAt hfound hk Y.supp (a' (.lays Bundle.nN Bundle.tN "suppressedExceptions" Bundle.listD) (by simp [Bundle.npeArmAtoms]))
  obtain ⟨tyX, dX, hdX, hdnX⟩ := Cond.laysAt hfound hk hffS (a' (.lays Bundle.nN Bundle.nN "extendedMessageState" "I") (by simp [Bundle.npeArmAtoms, Bundle.npeAtoms]))
  obtain ⟨hnX, htX⟩ := State.fieldFound?_type hffS (t := .int) (by decide +kernel)
  have xC := Cond.laysApart hdC hdX hdnC hdnX (by rw [hnX, Y.causeName]; decide)
  have xS := Cond.laysApart hdS hdX hdnS hdnX (by rw [hnX, Y.stackName]; decide)
  have xP := Cond.laysApart hdP hdX hdnP hdnX (by rw [hnX, Y.suppName]; decide)
  have hv0 : (freshCell P1.m.cls N.kN).slots[N.fState.slot]? = some (.int 0) := by
    have := fresh_default (c := P1.m.cls) tyX
    rw [htX] at this; exact this
  obtain ⟨tyB, dB, hdB, hdnB⟩ := Cond.laysAt hfound hk hffB (a' (.lays Bundle.nN Bundle.tN "backtrace" Bundle.objD) (by simp [Bundle.npeArmAtoms]))
  have bC := Cond.laysApart hdB hdC hdnB hdnC (by rw [hnB, Y.causeName]; decide)
  have bS := Cond.laysApart hdB hdS hdnB hdnS (by rw [hnB, Y.stackName]; decide)
  have bP := Cond.laysApart hdB hdP hdnB hdnP (by rw [hnB, Y.suppName]; decide)
  have bX := Cond.laysApart hdB hdX hdnB hdnX (by rw [hnB, hnX]; decide)
  have hbk : ((npeCell N.toNpeT (preparedCellV T.toThrowableT (freshCell P1.m.cls N.kN) W.heap.size u0 sen) W.cur).withEntry W.cur).slots[fB.slot]? = some .null := by
    have := fresh_default (c := P1.m.cls) tyB
    rw [htB] at this
    simpa [npeCell, preparedCellV, Cell.setSlot, Cell.withEntry, Array.getElem?_setIfInBounds, bC, bS, bP, bX, bC.symm, bS.symm, bP.symm, bX.symm, defaultValue] using this
  have tkC := Takes.of_laid (v := .ref W.heap.size) hk hordN tyC (by rw [Y.causeType]; rfl)
  have tkS := Takes.of_laid (v := u0.v) hk hordN tyS (by rw [Y.stackType]; exact fits_refV_array _ u0)
  have tkP := Takes.of_laid (v := sen.v) hk hordN tyP (by rw [Y.suppType]; exact fits_refV_object _ sen)
  have tkX := Takes.of_laid (v := .int 1) hk hordN tyX (by rw [htX]; rfl)
  have hskip : SkipFacts T e.platform s (fun u => u) u0 ((npeCell N.toNpeT (preparedCellV T.toThrowableT (freshCell P1.m.cls N.kN) W.heap.size u0 sen) W.cur).withEntry W.cur) := ⟨{ ci198 := ci198, i198 := i198, fBack := fB }, ⟨hk198, hg198, ha198, hsB⟩, hbk, fun _ _ => rfl⟩
  obtain ⟨vm', X3, st, -⟩ := X.throwsNpeColdBareVAt hexec hg hsize T L Z LZ N LN P1 L1 [PR, PE] hLs hlink1 ⟨hlinkR, hlinkE, trivial⟩ hfound hk hinit hordN hctor hsel0 hselF hcellS hknownS hvU hvSen
    hv0 xC xS xP tkC tkS tkP tkX Y.objLocals hskip (fun _ _ hA hW _ hroom _ hrest => L.nativeOff p htr hA hW hroom hrest) (by simpa using hRframes) hRlocals (by simp) hRcells (by rw [hn]; exact hRslots)
  have hlt : W.heap.size < ((W.pushCell (freshCell P1.m.cls N.kN)).setVm vm').heap.size := by
    show W.heap.size < (W.pushCell (freshCell P1.m.cls N.kN)).heap.size
    rw [State.heap_size_pushCell]; omega
  rw [hfsz] at X3
  obtain ⟨g₁, hfrM⟩ := X3.frames_eq
  have hU : ((((W.pushCell (freshCell P1.m.cls N.kN)).setVm vm').setCell W.heap.size (npeBareV T.toThrowableT N.toNpeT (freshCell P1.m.cls N.kN) W.heap.size u0 sen)).setTop g).pushFrame (.throwing W.heap.size) = (((W.pushCell (freshCell P1.m.cls N.kN)).setVm vm').setCell W.heap.size (npeBareV T.toThrowableT N.toNpeT (freshCell P1.m.cls N.kN) W.heap.size u0 sen)).setFrames (.throwing W.heap.size :: .java g :: below) := by
    rw [State.pushFrame, State.frames_setTop _ hfrM, State.setTop_of_frames _ hfrM, State.setFrames_setFrames]
  refine ⟨_, W.heap.size, _, fun target ht => st.trans (by rw [← hU]; exact ht), X3.forget (fun y hy => ?_), heapAt_setCell_self _ hlt, hfound, rfl⟩
  simp only [List.mem_cons, List.not_mem_nil, or_false] at hy
  have hge : s.heap.size ≤ W.heap.size := X.same.2.1
  rcases hy with rfl | rfl | rfl | rfl | rfl <;> exact hge
/-- the words of a machine's NullPointerException, but the four that speak of the heap -/
def vx_atN (n : Nat) : List Cond := (Bundle.npeArmAtoms n).filter vx_no
/-- the words of a machine's throw with a message, but the four that speak of the heap -/
def vx_atM (X : String) (names : List String) : List Cond := (Bundle.messageArmAtoms X names).filter vx_no
section
variable {p : Program} {l : Launch} {e : Env} {R : Room} {s : State} {m : MethodId} {args : Array Value} {below : List Frame} {meth : Method} {c : Code} {H : Heap} {locs : List Loc} {cells slots : Nat}
/-- a frame seen from a rebased start, seen from the first start again -/
theorem vx_back9 {T S : State} {R' : Room} {k n : Nat} (X : Stand p l e R s m args below meth c T locs cells slots) (Y : Stand p l e R' ((T.setVm s.vm).setFrames (.invoking m args :: below)) m args below meth c T [] 0 0) (Z : Stand p l e R' ((T.setVm s.vm).setFrames (.invoking m args :: below)) m args below meth c S [] k n) :
    Stand p l e R s m args below meth c S locs (cells + k) (slots + n) := by
  have hW0 : s.WarmedH ((T.setVm s.vm).setFrames (.invoking m args :: below)).vm := State.WarmedH.refl s
  refine { admits := X.admits, cas := X.cas, clock := X.clock, frames := X.frames, room := X.room, hears := X.hears, method := X.method, code := X.code, here := Z.here, tail := Z.tail, warmed := State.WarmedH.trans hW0 Z.warmed, limits := Z.limits.trans (Y.limits.symm.trans X.limits), bytes := Z.bytes.trans (Y.bytes.symm.trans X.bytes), same := ?_ }
  obtain ⟨e1, e2⟩ := Z.same
  rw [State.setFrames_setFrames] at e1
  have h2 : (T.setVm s.vm).sameButNew (S.setVm s.vm) [] k n := ⟨e1, e2⟩
  have h3 := X.same.trans h2
  rw [List.append_nil] at h3
  exact h3
/-- from the machine's note that E is thrown here with this text -/
def vx_Note (p : Program) (l : Launch) (e : Env) (R : Room) (s : State) (m : MethodId) (args : Array Value) (below : List Frame) (meth : Method) (c : Code) (H : Heap) (locs : List Loc) (cells slots : Nat) (Q : State → Prop) (g : JFrame) (E text : String) : Prop :=
  ∀ T : State, T.heap = H → Stand p l e R s m args below meth c T locs cells slots → ∃ t, Steps p.tables e below ((T.setTop g).pushFrame (.throwNew E (some text) none)) t ∧ Q t
theorem vx_vm {pc : Nat} {ls : Array Slot} {rest : List Value} {Q : State → Prop} (hexec : p.tables.exec = Jvm.exec) (hl : l.stackTraces = false) {cls text : String} {names : List String} {nb : Nat} {A : Nat → Prop}
    (hcls : Bundle.fit cls = true) (hnames : ∀ n ∈ names, Bundle.fit n = true) (hsoe : (cls == "java/lang/StackOverflowError") = false) (hoom : (cls == "java/lang/OutOfMemoryError") = false)
    (hat : ∀ w ∈ vx_atM cls names, w.before args s = true) (hgood : ∀ w ∈ vx_atM cls names, vx_ot w = true)
    (hU : vx_Zq Bundle.tN "UNASSIGNED_STACK" Bundle.steD A s s.heap) (hN : vx_Zq Bundle.tN "SUPPRESSED_SENTINEL" Bundle.listD A s s.heap) (hS : va_S A s.heap H locs) (hsize : ls.size = c.maxLocals)
    (htext : (text == notModelled) = false) (hnb : (stringBytes (stringToUtf16 text)).size ≤ nb) (hnb1 : nb ≤ 1000)
    (hRframes : names.length + 4 < R.frames) (hRlocals : (rest.map fun v => v.category).sum + 10240 ≤ R.locals) (hshort : 13 * names.length + 55 ≤ 10240) (hRcells : cells + 3 ≤ R.cells) (hRslots : slots + (nb + 10) ≤ R.slots) (hlocks : meth.locks = false)
    (k : ∀ (H1 : Heap) (q9 : Addr) (ce : Cell), H.size ≤ H1.size → (∀ q : Nat, q < H.size → H1[q]? = H[q]?) → va_S A s.heap H1 locs → H1[q9]? = some ce → ce.vm = .none → s.vm.findClass cls = some ce.cls → vx_W p l e R s m args below meth c H1 locs (cells + 3) (slots + (nb + 10)) Q (F0 m pc ls rest) q9) :
    vx_Note p l e R s m args below meth c H locs cells slots Q (F0 m pc ls rest) cls text := by
  intro T hT X
  have htr : e.platform.stackTraces = false := (show e.platform.stackTraces = l.stackTraces by rw [X.admits.platform]).trans hl
  have Y := vx_rebase X (R' := { frames := R.frames, locals := R.locals, cells := 3, slots := nb + 10 }) (Nat.le_refl _) (Nat.le_refl _) hRcells hRslots
  have hhp : ((T.setVm s.vm).setFrames (.invoking m args :: below)).heap = H := hT
  have hW0 : s.WarmedH ((T.setVm s.vm).setFrames (.invoking m args :: below)).vm := State.WarmedH.refl s
  have hat' : ∀ w ∈ vx_atM cls names, w.before args ((T.setVm s.vm).setFrames (.invoking m args :: below)) = true := fun w hw => vx_ot_at hW0 rfl (hgood w hw) (hat w hw)
  have hU' : vx_Zq Bundle.tN "UNASSIGNED_STACK" Bundle.steD A ((T.setVm s.vm).setFrames (.invoking m args :: below)) ((T.setVm s.vm).setFrames (.invoking m args :: below)).heap := by rw [hhp]; exact vx_Zq.moved hW0.alike (hU.kept hS.2.1)
  have hN' : vx_Zq Bundle.tN "SUPPRESSED_SENTINEL" Bundle.listD A ((T.setVm s.vm).setFrames (.invoking m args :: below)) ((T.setVm s.vm).setFrames (.invoking m args :: below)).heap := by rw [hhp]; exact vx_Zq.moved hW0.alike (hN.kept hS.2.1)
  obtain ⟨S, q, ce, st, Z, hce, hcl', hv⟩ := vx_vmAt Y hexec htr (cls := cls) (names := names) (text := text) hcls hnames hsoe hoom (vx_own hat' (vx_isRefq hU'.1) (vx_isRefq hN'.1) hU'.2.word hN'.2.word) (fun x hx => nomatch hx) htext
    (by rw [Launch.admits_arrayLengthLimit X.admits]; omega) (by rw [Launch.admits_maxHeapBytes X.admits]; simp only [componentBytes]; omega)
    (g := F0 m pc ls rest) rfl hsize hRframes (by show 2 * 0 + (rest.map fun v => v.category).sum + 10240 ≤ R.locals; omega) hshort (by show 0 + 3 ≤ 3; omega) (by show 0 + (_ + 4 + 6) ≤ nb + 10; omega) hlocks
  obtain ⟨f1, f2⟩ := vx_frame Z.same
  have f1' : H.size ≤ S.heap.size := by rw [← hT]; exact f1
  have f2' : ∀ q : Nat, q < H.size → S.heap[q]? = H[q]? := fun q hq => by
    rw [← hT]
    exact f2 q (by rw [← hT] at hq; exact hq) (fun z hz => nomatch hz)
  have X5 := vx_back9 X Y Z
  have X6 : Stand p l e R s m args below meth c S locs (cells + 3) (slots + (nb + 10)) := { X5 with same := X5.same.mono (by omega) (by omega) }
  obtain ⟨t, a1, b1⟩ := k S.heap q ce f1' f2' ⟨Nat.le_trans hS.1 f1', fun q h1 h2 => (f2' q (Nat.lt_of_lt_of_le h1 hS.1)).trans (hS.2.1 q h1 h2), hS.2.2⟩ hce hv hcl' S rfl X6
  exact ⟨t, st t a1, b1⟩
/-- from the machine's note that NullPointerException is thrown here -/
def vx_NoteN (p : Program) (l : Launch) (e : Env) (R : Room) (s : State) (m : MethodId) (args : Array Value) (below : List Frame) (meth : Method) (c : Code) (H : Heap) (locs : List Loc) (cells slots : Nat) (Q : State → Prop) (g : JFrame) : Prop :=
  ∀ T : State, T.heap = H → Stand p l e R s m args below meth c T locs cells slots → ∃ t, Steps p.tables e below ((T.setTop g).pushFrame (.throwNew "java/lang/NullPointerException" none none)) t ∧ Q t
theorem vx_npe {pc : Nat} {ls : Array Slot} {rest : List Value} {Q : State → Prop} (hexec : p.tables.exec = Jvm.exec) (hl : l.stackTraces = false) {nb : Nat} {A : Nat → Prop}
    (hat : ∀ w ∈ vx_atN nb, w.before args s = true) (hgood : ∀ w ∈ vx_atN nb, vx_ot w = true)
    (hU : vx_Zq Bundle.tN "UNASSIGNED_STACK" Bundle.steD A s s.heap) (hN : vx_Zq Bundle.tN "SUPPRESSED_SENTINEL" Bundle.listD A s s.heap) (hS : va_S A s.heap H locs) (hsize : ls.size = c.maxLocals)
    (hRframes : 7 < R.frames) (hRlocals : (rest.map fun v => v.category).sum + 10240 ≤ R.locals) (hRcells : cells + 1 ≤ R.cells) (hRslots : slots + nb ≤ R.slots) (hlocks : meth.locks = false)
    (k : ∀ (H1 : Heap) (q9 : Addr) (ce : Cell), H.size ≤ H1.size → (∀ q : Nat, q < H.size → H1[q]? = H[q]?) → va_S A s.heap H1 locs → H1[q9]? = some ce → ce.vm = .none → s.vm.findClass "java/lang/NullPointerException" = some ce.cls → vx_W p l e R s m args below meth c H1 locs (cells + 1) (slots + nb) Q (F0 m pc ls rest) q9) :
    vx_NoteN p l e R s m args below meth c H locs cells slots Q (F0 m pc ls rest) := by
  intro T hT X
  have htr : e.platform.stackTraces = false := (show e.platform.stackTraces = l.stackTraces by rw [X.admits.platform]).trans hl
  have Y := vx_rebase X (R' := { frames := R.frames, locals := R.locals, cells := 1, slots := nb }) (Nat.le_refl _) (Nat.le_refl _) hRcells hRslots
  have hhp : ((T.setVm s.vm).setFrames (.invoking m args :: below)).heap = H := hT
  have hW0 : s.WarmedH ((T.setVm s.vm).setFrames (.invoking m args :: below)).vm := State.WarmedH.refl s
  have hat' : ∀ w ∈ vx_atN nb, w.before args ((T.setVm s.vm).setFrames (.invoking m args :: below)) = true := fun w hw => vx_ot_at hW0 rfl (hgood w hw) (hat w hw)
  have hU' : vx_Zq Bundle.tN "UNASSIGNED_STACK" Bundle.steD A ((T.setVm s.vm).setFrames (.invoking m args :: below)) ((T.setVm s.vm).setFrames (.invoking m args :: below)).heap := by rw [hhp]; exact vx_Zq.moved hW0.alike (hU.kept hS.2.1)
  have hN' : vx_Zq Bundle.tN "SUPPRESSED_SENTINEL" Bundle.listD A ((T.setVm s.vm).setFrames (.invoking m args :: below)) ((T.setVm s.vm).setFrames (.invoking m args :: below)).heap := by rw [hhp]; exact vx_Zq.moved hW0.alike (hN.kept hS.2.1)
  obtain ⟨S, q, ce, st, Z, hce, hcl', hv⟩ := vx_npeAt Y hexec htr (n := nb) (vx_own hat' (vx_isRefq hU'.1) (vx_isRefq hN'.1) hU'.2.word hN'.2.word) (fun x hx => nomatch hx)
    (g := F0 m pc ls rest) rfl hsize hRframes (by show 2 * 0 + (rest.map fun v => v.category).sum + 10240 ≤ R.locals; omega) (by show 0 + 1 ≤ 1; omega) (by show 0 + nb ≤ nb; omega) hlocks
  obtain ⟨f1, f2⟩ := vx_frame Z.same
  have f1' : H.size ≤ S.heap.size := by rw [← hT]; exact f1
  have f2' : ∀ q : Nat, q < H.size → S.heap[q]? = H[q]? := fun q hq => by
    rw [← hT]
    exact f2 q (by rw [← hT] at hq; exact hq) (fun z hz => nomatch hz)
  have X5 := vx_back9 X Y Z
  have X6 : Stand p l e R s m args below meth c S locs (cells + 1) (slots + nb) := { X5 with same := X5.same.mono (by omega) (by omega) }
  obtain ⟨t, a1, b1⟩ := k S.heap q ce f1' f2' ⟨Nat.le_trans hS.1 f1', fun q h1 h2 => (f2' q (Nat.lt_of_lt_of_le h1 hS.1)).trans (hS.2.1 q h1 h2), hS.2.2⟩ hce hv hcl' S rfl X6
  exact ⟨t, st t a1, b1⟩
variable {Q : State → Prop} {cc : ByteArray} {pc : Nat} {ls : Array Slot} {rest : List Value}
theorem vx_idivZ (hexec : p.tables.exec = Jvm.exec) (hb : c.code = cc) {a b : Int32} (h0 : b = 0) (d : decode cc pc = .ok (.idiv, 1)) (k : vx_Note p l e R s m args below meth c H locs cells slots Q (F0 m pc ls rest) "java/lang/ArithmeticException" "/ by zero") :
    W p l e R s m args below meth c H locs cells slots Q (F0 m pc ls (.int b :: .int a :: rest)) := by
  intro T hT X
  obtain ⟨t, st, q⟩ := k T hT X
  exact ⟨t, X.idivZero hexec (g := F0 m pc ls (.int b :: .int a :: rest)) rfl (a := a) (rest := rest) (by rw [h0]) (by rw [hb]; exact d) t st, q⟩
theorem vx_iremZ (hexec : p.tables.exec = Jvm.exec) (hb : c.code = cc) {a b : Int32} (h0 : b = 0) (d : decode cc pc = .ok (.irem, 1)) (k : vx_Note p l e R s m args below meth c H locs cells slots Q (F0 m pc ls rest) "java/lang/ArithmeticException" "/ by zero") :
    W p l e R s m args below meth c H locs cells slots Q (F0 m pc ls (.int b :: .int a :: rest)) := by
  intro T hT X
  obtain ⟨t, st, q⟩ := k T hT X
  exact ⟨t, X.iremZero hexec (g := F0 m pc ls (.int b :: .int a :: rest)) rfl (a := a) (rest := rest) (by rw [h0]) (by rw [hb]; exact d) t st, q⟩
theorem vx_ldivZ (hexec : p.tables.exec = Jvm.exec) (hb : c.code = cc) {a b : Int64} (h0 : b = 0) (d : decode cc pc = .ok (.ldiv, 1)) (k : vx_Note p l e R s m args below meth c H locs cells slots Q (F0 m pc ls rest) "java/lang/ArithmeticException" "/ by zero") :
    W p l e R s m args below meth c H locs cells slots Q (F0 m pc ls (.long b :: .long a :: rest)) := by
  intro T hT X
  obtain ⟨t, st, q⟩ := k T hT X
  exact ⟨t, X.ldivZero hexec (g := F0 m pc ls (.long b :: .long a :: rest)) rfl (a := a) (rest := rest) (by rw [h0]) (by rw [hb]; exact d) t st, q⟩
theorem vx_lremZ (hexec : p.tables.exec = Jvm.exec) (hb : c.code = cc) {a b : Int64} (h0 : b = 0) (d : decode cc pc = .ok (.lrem, 1)) (k : vx_Note p l e R s m args below meth c H locs cells slots Q (F0 m pc ls rest) "java/lang/ArithmeticException" "/ by zero") :
    W p l e R s m args below meth c H locs cells slots Q (F0 m pc ls (.long b :: .long a :: rest)) := by
  intro T hT X
  obtain ⟨t, st, q⟩ := k T hT X
  exact ⟨t, X.lremZero hexec (g := F0 m pc ls (.long b :: .long a :: rest)) rfl (a := a) (rest := rest) (by rw [h0]) (by rw [hb]; exact d) t st, q⟩
theorem vx_ialdZ {D : va_G} {cl : List vw_C} {ws : va_W} {tys : List (ClassId × FieldType)} {a : Nat} (hexec : p.tables.exec = Jvm.exec) (hb : c.code = cc) (hK : va_K D cl tys s) (hP : va_P D cl ws H) (q0 t0 : Nat) {cA : ClassId} {n : Nat} {f : Nat → Int32} (ha : ws[q0]? = some (a, .inl (cA, n, .inl f))) (ht : tys[t0]? = some (cA, .int)) {i : Int32} (hout : ¬ vp_in i n) (hdg : decode cc pc = .ok (.iaload, 1))
    (k : ∀ tx : String, tx = (toString "Index " ++ toString i ++ toString " out of bounds for length " ++ toString n : String) → vx_Note p l e R s m args below meth c H locs cells slots Q (F0 m pc ls rest) "java/lang/ArrayIndexOutOfBoundsException" tx) : W p l e R s m args below meth c H locs cells slots Q (F0 m pc ls (.int i :: .ref a :: rest)) := by
  intro T hT X
  obtain ⟨t, st, q⟩ := k _ rfl T hT X
  refine ⟨t, ?_, q⟩
  have h1 := X.ialoadOut hexec (by rw [hT]; exact hP q0 _ ha) ((hK.2 t0 _ ht).1 n (fun j => .int (f j))) (j := i) (by show (i < 0 ∨ (arrV _ _ _).slots.size ≤ _); rw [arrV_size]; exact Classical.byContradiction hout) (g := F0 m pc ls (.int i :: .ref a :: rest)) rfl (rest := rest) rfl (by rw [hb]; exact hdg) t
  simp only [arrV_size] at h1
  exact h1 st
theorem vx_iastZ {D : va_G} {cl : List vw_C} {ws : va_W} {tys : List (ClassId × FieldType)} {a : Nat} (hexec : p.tables.exec = Jvm.exec) (hb : c.code = cc) (hK : va_K D cl tys s) (hP : va_P D cl ws H) (q0 t0 : Nat) {cA : ClassId} {n : Nat} {f : Nat → Int32} (ha : ws[q0]? = some (a, .inl (cA, n, .inl f))) (ht : tys[t0]? = some (cA, .int)) {i : Int32} {x : Int32} (hout : ¬ vp_in i n) (hdg : decode cc pc = .ok (.iastore, 1))
    (k : ∀ tx : String, tx = (toString "Index " ++ toString i ++ toString " out of bounds for length " ++ toString n : String) → vx_Note p l e R s m args below meth c H locs cells slots Q (F0 m pc ls rest) "java/lang/ArrayIndexOutOfBoundsException" tx) : W p l e R s m args below meth c H locs cells slots Q (F0 m pc ls (.int x :: .int i :: .ref a :: rest)) := by
  intro T hT X
  obtain ⟨t, st, q⟩ := k _ rfl T hT X
  refine ⟨t, ?_, q⟩
  have h1 := X.iastoreOut hexec (by rw [hT]; exact hP q0 _ ha) ((hK.2 t0 _ ht).1 n (fun j => .int (f j))) (j := i) (by show (i < 0 ∨ (arrV _ _ _).slots.size ≤ _); rw [arrV_size]; exact Classical.byContradiction hout) (g := F0 m pc ls (.int x :: .int i :: .ref a :: rest)) rfl (rest := rest) rfl (by rw [hb]; exact hdg) t
  simp only [arrV_size] at h1
  exact h1 st
theorem vx_baldZ {D : va_G} {cl : List vw_C} {ws : va_W} {tys : List (ClassId × FieldType)} {a : Nat} (hexec : p.tables.exec = Jvm.exec) (hb : c.code = cc) (hK : va_K D cl tys s) (hP : va_P D cl ws H) (q0 t0 : Nat) {cA : ClassId} {n : Nat} {f : Nat → Int32} (ha : ws[q0]? = some (a, .inl (cA, n, .inl f))) (ht : tys[t0]? = some (cA, .byte)) {i : Int32} (hout : ¬ vp_in i n) (hdg : decode cc pc = .ok (.baload, 1))
    (k : ∀ tx : String, tx = (toString "Index " ++ toString i ++ toString " out of bounds for length " ++ toString n : String) → vx_Note p l e R s m args below meth c H locs cells slots Q (F0 m pc ls rest) "java/lang/ArrayIndexOutOfBoundsException" tx) : W p l e R s m args below meth c H locs cells slots Q (F0 m pc ls (.int i :: .ref a :: rest)) := by
  intro T hT X
  obtain ⟨t, st, q⟩ := k _ rfl T hT X
  refine ⟨t, ?_, q⟩
  have h1 := X.baloadOut hexec (by rw [hT]; exact hP q0 _ ha) ((hK.2 t0 _ ht).1 n (fun j => .int (f j))) (j := i) (by show (i < 0 ∨ (arrV _ _ _).slots.size ≤ _); rw [arrV_size]; exact Classical.byContradiction hout) (g := F0 m pc ls (.int i :: .ref a :: rest)) rfl (rest := rest) rfl (by rw [hb]; exact hdg) t
  simp only [arrV_size] at h1
  exact h1 st
theorem vx_bastZ {D : va_G} {cl : List vw_C} {ws : va_W} {tys : List (ClassId × FieldType)} {a : Nat} (hexec : p.tables.exec = Jvm.exec) (hb : c.code = cc) (hK : va_K D cl tys s) (hP : va_P D cl ws H) (q0 t0 : Nat) {cA : ClassId} {n : Nat} {f : Nat → Int32} (ha : ws[q0]? = some (a, .inl (cA, n, .inl f))) (ht : tys[t0]? = some (cA, .byte)) {i : Int32} {x : Int32} (hout : ¬ vp_in i n) (hdg : decode cc pc = .ok (.bastore, 1))
    (k : ∀ tx : String, tx = (toString "Index " ++ toString i ++ toString " out of bounds for length " ++ toString n : String) → vx_Note p l e R s m args below meth c H locs cells slots Q (F0 m pc ls rest) "java/lang/ArrayIndexOutOfBoundsException" tx) : W p l e R s m args below meth c H locs cells slots Q (F0 m pc ls (.int x :: .int i :: .ref a :: rest)) := by
  intro T hT X
  obtain ⟨t, st, q⟩ := k _ rfl T hT X
  refine ⟨t, ?_, q⟩
  have h1 := X.bastoreOut hexec (by rw [hT]; exact hP q0 _ ha) ((hK.2 t0 _ ht).1 n (fun j => .int (f j))) (j := i) (by show (i < 0 ∨ (arrV _ _ _).slots.size ≤ _); rw [arrV_size]; exact Classical.byContradiction hout) (g := F0 m pc ls (.int x :: .int i :: .ref a :: rest)) rfl (rest := rest) rfl (by rw [hb]; exact hdg) t
  simp only [arrV_size] at h1
  exact h1 st
theorem vx_zaldZ {D : va_G} {cl : List vw_C} {ws : va_W} {tys : List (ClassId × FieldType)} {a : Nat} (hexec : p.tables.exec = Jvm.exec) (hb : c.code = cc) (hK : va_K D cl tys s) (hP : va_P D cl ws H) (q0 t0 : Nat) {cA : ClassId} {n : Nat} {f : Nat → Int32} (ha : ws[q0]? = some (a, .inl (cA, n, .inl f))) (ht : tys[t0]? = some (cA, .boolean)) {i : Int32} (hout : ¬ vp_in i n) (hdg : decode cc pc = .ok (.baload, 1))
    (k : ∀ tx : String, tx = (toString "Index " ++ toString i ++ toString " out of bounds for length " ++ toString n : String) → vx_Note p l e R s m args below meth c H locs cells slots Q (F0 m pc ls rest) "java/lang/ArrayIndexOutOfBoundsException" tx) : W p l e R s m args below meth c H locs cells slots Q (F0 m pc ls (.int i :: .ref a :: rest)) := by
  intro T hT X
  obtain ⟨t, st, q⟩ := k _ rfl T hT X
  refine ⟨t, ?_, q⟩
  have h1 := X.baloadOut hexec (by rw [hT]; exact hP q0 _ ha) ((hK.2 t0 _ ht).1 n (fun j => .int (f j))) (j := i) (by show (i < 0 ∨ (arrV _ _ _).slots.size ≤ _); rw [arrV_size]; exact Classical.byContradiction hout) (g := F0 m pc ls (.int i :: .ref a :: rest)) rfl (rest := rest) rfl (by rw [hb]; exact hdg) t
  simp only [arrV_size] at h1
  exact h1 st
theorem vx_zastZ {D : va_G} {cl : List vw_C} {ws : va_W} {tys : List (ClassId × FieldType)} {a : Nat} (hexec : p.tables.exec = Jvm.exec) (hb : c.code = cc) (hK : va_K D cl tys s) (hP : va_P D cl ws H) (q0 t0 : Nat) {cA : ClassId} {n : Nat} {f : Nat → Int32} (ha : ws[q0]? = some (a, .inl (cA, n, .inl f))) (ht : tys[t0]? = some (cA, .boolean)) {i : Int32} {x : Int32} (hout : ¬ vp_in i n) (hdg : decode cc pc = .ok (.bastore, 1))
    (k : ∀ tx : String, tx = (toString "Index " ++ toString i ++ toString " out of bounds for length " ++ toString n : String) → vx_Note p l e R s m args below meth c H locs cells slots Q (F0 m pc ls rest) "java/lang/ArrayIndexOutOfBoundsException" tx) : W p l e R s m args below meth c H locs cells slots Q (F0 m pc ls (.int x :: .int i :: .ref a :: rest)) := by
  intro T hT X
  obtain ⟨t, st, q⟩ := k _ rfl T hT X
  refine ⟨t, ?_, q⟩
  have h1 := X.bastoreOut hexec (by rw [hT]; exact hP q0 _ ha) ((hK.2 t0 _ ht).1 n (fun j => .int (f j))) (j := i) (by show (i < 0 ∨ (arrV _ _ _).slots.size ≤ _); rw [arrV_size]; exact Classical.byContradiction hout) (g := F0 m pc ls (.int x :: .int i :: .ref a :: rest)) rfl (rest := rest) rfl (by rw [hb]; exact hdg) t
  simp only [arrV_size] at h1
  exact h1 st
theorem vx_caldZ {D : va_G} {cl : List vw_C} {ws : va_W} {tys : List (ClassId × FieldType)} {a : Nat} (hexec : p.tables.exec = Jvm.exec) (hb : c.code = cc) (hK : va_K D cl tys s) (hP : va_P D cl ws H) (q0 t0 : Nat) {cA : ClassId} {n : Nat} {f : Nat → Int32} (ha : ws[q0]? = some (a, .inl (cA, n, .inl f))) (ht : tys[t0]? = some (cA, .char)) {i : Int32} (hout : ¬ vp_in i n) (hdg : decode cc pc = .ok (.caload, 1))
    (k : ∀ tx : String, tx = (toString "Index " ++ toString i ++ toString " out of bounds for length " ++ toString n : String) → vx_Note p l e R s m args below meth c H locs cells slots Q (F0 m pc ls rest) "java/lang/ArrayIndexOutOfBoundsException" tx) : W p l e R s m args below meth c H locs cells slots Q (F0 m pc ls (.int i :: .ref a :: rest)) := by
  intro T hT X
  obtain ⟨t, st, q⟩ := k _ rfl T hT X
  refine ⟨t, ?_, q⟩
  have h1 := X.caloadOut hexec (by rw [hT]; exact hP q0 _ ha) ((hK.2 t0 _ ht).1 n (fun j => .int (f j))) (j := i) (by show (i < 0 ∨ (arrV _ _ _).slots.size ≤ _); rw [arrV_size]; exact Classical.byContradiction hout) (g := F0 m pc ls (.int i :: .ref a :: rest)) rfl (rest := rest) rfl (by rw [hb]; exact hdg) t
  simp only [arrV_size] at h1
  exact h1 st
theorem vx_castZ {D : va_G} {cl : List vw_C} {ws : va_W} {tys : List (ClassId × FieldType)} {a : Nat} (hexec : p.tables.exec = Jvm.exec) (hb : c.code = cc) (hK : va_K D cl tys s) (hP : va_P D cl ws H) (q0 t0 : Nat) {cA : ClassId} {n : Nat} {f : Nat → Int32} (ha : ws[q0]? = some (a, .inl (cA, n, .inl f))) (ht : tys[t0]? = some (cA, .char)) {i : Int32} {x : Int32} (hout : ¬ vp_in i n) (hdg : decode cc pc = .ok (.castore, 1))
    (k : ∀ tx : String, tx = (toString "Index " ++ toString i ++ toString " out of bounds for length " ++ toString n : String) → vx_Note p l e R s m args below meth c H locs cells slots Q (F0 m pc ls rest) "java/lang/ArrayIndexOutOfBoundsException" tx) : W p l e R s m args below meth c H locs cells slots Q (F0 m pc ls (.int x :: .int i :: .ref a :: rest)) := by
  intro T hT X
  obtain ⟨t, st, q⟩ := k _ rfl T hT X
  refine ⟨t, ?_, q⟩
  have h1 := X.castoreOut hexec (by rw [hT]; exact hP q0 _ ha) ((hK.2 t0 _ ht).1 n (fun j => .int (f j))) (j := i) (by show (i < 0 ∨ (arrV _ _ _).slots.size ≤ _); rw [arrV_size]; exact Classical.byContradiction hout) (g := F0 m pc ls (.int x :: .int i :: .ref a :: rest)) rfl (rest := rest) rfl (by rw [hb]; exact hdg) t
  simp only [arrV_size] at h1
  exact h1 st
theorem vx_saldZ {D : va_G} {cl : List vw_C} {ws : va_W} {tys : List (ClassId × FieldType)} {a : Nat} (hexec : p.tables.exec = Jvm.exec) (hb : c.code = cc) (hK : va_K D cl tys s) (hP : va_P D cl ws H) (q0 t0 : Nat) {cA : ClassId} {n : Nat} {f : Nat → Int32} (ha : ws[q0]? = some (a, .inl (cA, n, .inl f))) (ht : tys[t0]? = some (cA, .short)) {i : Int32} (hout : ¬ vp_in i n) (hdg : decode cc pc = .ok (.saload, 1))
    (k : ∀ tx : String, tx = (toString "Index " ++ toString i ++ toString " out of bounds for length " ++ toString n : String) → vx_Note p l e R s m args below meth c H locs cells slots Q (F0 m pc ls rest) "java/lang/ArrayIndexOutOfBoundsException" tx) : W p l e R s m args below meth c H locs cells slots Q (F0 m pc ls (.int i :: .ref a :: rest)) := by
  intro T hT X
  obtain ⟨t, st, q⟩ := k _ rfl T hT X
  refine ⟨t, ?_, q⟩
  have h1 := X.saloadOut hexec (by rw [hT]; exact hP q0 _ ha) ((hK.2 t0 _ ht).1 n (fun j => .int (f j))) (j := i) (by show (i < 0 ∨ (arrV _ _ _).slots.size ≤ _); rw [arrV_size]; exact Classical.byContradiction hout) (g := F0 m pc ls (.int i :: .ref a :: rest)) rfl (rest := rest) rfl (by rw [hb]; exact hdg) t
  simp only [arrV_size] at h1
  exact h1 st
theorem vx_sastZ {D : va_G} {cl : List vw_C} {ws : va_W} {tys : List (ClassId × FieldType)} {a : Nat} (hexec : p.tables.exec = Jvm.exec) (hb : c.code = cc) (hK : va_K D cl tys s) (hP : va_P D cl ws H) (q0 t0 : Nat) {cA : ClassId} {n : Nat} {f : Nat → Int32} (ha : ws[q0]? = some (a, .inl (cA, n, .inl f))) (ht : tys[t0]? = some (cA, .short)) {i : Int32} {x : Int32} (hout : ¬ vp_in i n) (hdg : decode cc pc = .ok (.sastore, 1))
    (k : ∀ tx : String, tx = (toString "Index " ++ toString i ++ toString " out of bounds for length " ++ toString n : String) → vx_Note p l e R s m args below meth c H locs cells slots Q (F0 m pc ls rest) "java/lang/ArrayIndexOutOfBoundsException" tx) : W p l e R s m args below meth c H locs cells slots Q (F0 m pc ls (.int x :: .int i :: .ref a :: rest)) := by
  intro T hT X
  obtain ⟨t, st, q⟩ := k _ rfl T hT X
  refine ⟨t, ?_, q⟩
  have h1 := X.sastoreOut hexec (by rw [hT]; exact hP q0 _ ha) ((hK.2 t0 _ ht).1 n (fun j => .int (f j))) (j := i) (by show (i < 0 ∨ (arrV _ _ _).slots.size ≤ _); rw [arrV_size]; exact Classical.byContradiction hout) (g := F0 m pc ls (.int x :: .int i :: .ref a :: rest)) rfl (rest := rest) rfl (by rw [hb]; exact hdg) t
  simp only [arrV_size] at h1
  exact h1 st
theorem vx_laldZ {D : va_G} {cl : List vw_C} {ws : va_W} {tys : List (ClassId × FieldType)} {a : Nat} (hexec : p.tables.exec = Jvm.exec) (hb : c.code = cc) (hK : va_K D cl tys s) (hP : va_P D cl ws H) (q0 t0 : Nat) {cA : ClassId} {n : Nat} {f : Nat → Int64} (ha : ws[q0]? = some (a, .inl (cA, n, .inr (.inl f)))) (ht : tys[t0]? = some (cA, .long)) {i : Int32} (hout : ¬ vp_in i n) (hdg : decode cc pc = .ok (.laload, 1))
    (k : ∀ tx : String, tx = (toString "Index " ++ toString i ++ toString " out of bounds for length " ++ toString n : String) → vx_Note p l e R s m args below meth c H locs cells slots Q (F0 m pc ls rest) "java/lang/ArrayIndexOutOfBoundsException" tx) : W p l e R s m args below meth c H locs cells slots Q (F0 m pc ls (.int i :: .ref a :: rest)) := by
  intro T hT X
  obtain ⟨t, st, q⟩ := k _ rfl T hT X
  refine ⟨t, ?_, q⟩
  have h1 := X.laloadOut hexec (by rw [hT]; exact hP q0 _ ha) ((hK.2 t0 _ ht).1 n (fun j => .long (f j))) (j := i) (by show (i < 0 ∨ (arrV _ _ _).slots.size ≤ _); rw [arrV_size]; exact Classical.byContradiction hout) (g := F0 m pc ls (.int i :: .ref a :: rest)) rfl (rest := rest) rfl (by rw [hb]; exact hdg) t
  simp only [arrV_size] at h1
  exact h1 st
theorem vx_lastZ {D : va_G} {cl : List vw_C} {ws : va_W} {tys : List (ClassId × FieldType)} {a : Nat} (hexec : p.tables.exec = Jvm.exec) (hb : c.code = cc) (hK : va_K D cl tys s) (hP : va_P D cl ws H) (q0 t0 : Nat) {cA : ClassId} {n : Nat} {f : Nat → Int64} (ha : ws[q0]? = some (a, .inl (cA, n, .inr (.inl f)))) (ht : tys[t0]? = some (cA, .long)) {i : Int32} {x : Int64} (hout : ¬ vp_in i n) (hdg : decode cc pc = .ok (.lastore, 1))
    (k : ∀ tx : String, tx = (toString "Index " ++ toString i ++ toString " out of bounds for length " ++ toString n : String) → vx_Note p l e R s m args below meth c H locs cells slots Q (F0 m pc ls rest) "java/lang/ArrayIndexOutOfBoundsException" tx) : W p l e R s m args below meth c H locs cells slots Q (F0 m pc ls (.long x :: .int i :: .ref a :: rest)) := by
  intro T hT X
  obtain ⟨t, st, q⟩ := k _ rfl T hT X
  refine ⟨t, ?_, q⟩
  have h1 := X.lastoreOut hexec (by rw [hT]; exact hP q0 _ ha) ((hK.2 t0 _ ht).1 n (fun j => .long (f j))) (j := i) (by show (i < 0 ∨ (arrV _ _ _).slots.size ≤ _); rw [arrV_size]; exact Classical.byContradiction hout) (g := F0 m pc ls (.long x :: .int i :: .ref a :: rest)) rfl (rest := rest) rfl (by rw [hb]; exact hdg) t
  simp only [arrV_size] at h1
  exact h1 st
theorem vx_faldZ {D : va_G} {cl : List vw_C} {ws : va_W} {tys : List (ClassId × FieldType)} {a : Nat} (hexec : p.tables.exec = Jvm.exec) (hb : c.code = cc) (hK : va_K D cl tys s) (hP : va_P D cl ws H) (q0 t0 : Nat) {cA : ClassId} {n : Nat} {f : Nat → UInt32} (ha : ws[q0]? = some (a, .inl (cA, n, .inr (.inr (.inl f))))) (ht : tys[t0]? = some (cA, .float)) {i : Int32} (hout : ¬ vp_in i n) (hdg : decode cc pc = .ok (.faload, 1))
    (k : ∀ tx : String, tx = (toString "Index " ++ toString i ++ toString " out of bounds for length " ++ toString n : String) → vx_Note p l e R s m args below meth c H locs cells slots Q (F0 m pc ls rest) "java/lang/ArrayIndexOutOfBoundsException" tx) : W p l e R s m args below meth c H locs cells slots Q (F0 m pc ls (.int i :: .ref a :: rest)) := by
  intro T hT X
  obtain ⟨t, st, q⟩ := k _ rfl T hT X
  refine ⟨t, ?_, q⟩
  have h1 := X.faloadOut hexec (by rw [hT]; exact hP q0 _ ha) ((hK.2 t0 _ ht).1 n (fun j => .float (f j))) (j := i) (by show (i < 0 ∨ (arrV _ _ _).slots.size ≤ _); rw [arrV_size]; exact Classical.byContradiction hout) (g := F0 m pc ls (.int i :: .ref a :: rest)) rfl (rest := rest) rfl (by rw [hb]; exact hdg) t
  simp only [arrV_size] at h1
  exact h1 st
theorem vx_fastZ {D : va_G} {cl : List vw_C} {ws : va_W} {tys : List (ClassId × FieldType)} {a : Nat} (hexec : p.tables.exec = Jvm.exec) (hb : c.code = cc) (hK : va_K D cl tys s) (hP : va_P D cl ws H) (q0 t0 : Nat) {cA : ClassId} {n : Nat} {f : Nat → UInt32} (ha : ws[q0]? = some (a, .inl (cA, n, .inr (.inr (.inl f))))) (ht : tys[t0]? = some (cA, .float)) {i : Int32} {x : UInt32} (hout : ¬ vp_in i n) (hdg : decode cc pc = .ok (.fastore, 1))
    (k : ∀ tx : String, tx = (toString "Index " ++ toString i ++ toString " out of bounds for length " ++ toString n : String) → vx_Note p l e R s m args below meth c H locs cells slots Q (F0 m pc ls rest) "java/lang/ArrayIndexOutOfBoundsException" tx) : W p l e R s m args below meth c H locs cells slots Q (F0 m pc ls (.float x :: .int i :: .ref a :: rest)) := by
  intro T hT X
  obtain ⟨t, st, q⟩ := k _ rfl T hT X
  refine ⟨t, ?_, q⟩
  have h1 := X.fastoreOut hexec (by rw [hT]; exact hP q0 _ ha) ((hK.2 t0 _ ht).1 n (fun j => .float (f j))) (j := i) (by show (i < 0 ∨ (arrV _ _ _).slots.size ≤ _); rw [arrV_size]; exact Classical.byContradiction hout) (g := F0 m pc ls (.float x :: .int i :: .ref a :: rest)) rfl (rest := rest) rfl (by rw [hb]; exact hdg) t
  simp only [arrV_size] at h1
  exact h1 st
theorem vx_daldZ {D : va_G} {cl : List vw_C} {ws : va_W} {tys : List (ClassId × FieldType)} {a : Nat} (hexec : p.tables.exec = Jvm.exec) (hb : c.code = cc) (hK : va_K D cl tys s) (hP : va_P D cl ws H) (q0 t0 : Nat) {cA : ClassId} {n : Nat} {f : Nat → UInt64} (ha : ws[q0]? = some (a, .inl (cA, n, .inr (.inr (.inr (.inl f)))))) (ht : tys[t0]? = some (cA, .double)) {i : Int32} (hout : ¬ vp_in i n) (hdg : decode cc pc = .ok (.daload, 1))
    (k : ∀ tx : String, tx = (toString "Index " ++ toString i ++ toString " out of bounds for length " ++ toString n : String) → vx_Note p l e R s m args below meth c H locs cells slots Q (F0 m pc ls rest) "java/lang/ArrayIndexOutOfBoundsException" tx) : W p l e R s m args below meth c H locs cells slots Q (F0 m pc ls (.int i :: .ref a :: rest)) := by
  intro T hT X
  obtain ⟨t, st, q⟩ := k _ rfl T hT X
  refine ⟨t, ?_, q⟩
  have h1 := X.daloadOut hexec (by rw [hT]; exact hP q0 _ ha) ((hK.2 t0 _ ht).1 n (fun j => .double (f j))) (j := i) (by show (i < 0 ∨ (arrV _ _ _).slots.size ≤ _); rw [arrV_size]; exact Classical.byContradiction hout) (g := F0 m pc ls (.int i :: .ref a :: rest)) rfl (rest := rest) rfl (by rw [hb]; exact hdg) t
  simp only [arrV_size] at h1
  exact h1 st
theorem vx_dastZ {D : va_G} {cl : List vw_C} {ws : va_W} {tys : List (ClassId × FieldType)} {a : Nat} (hexec : p.tables.exec = Jvm.exec) (hb : c.code = cc) (hK : va_K D cl tys s) (hP : va_P D cl ws H) (q0 t0 : Nat) {cA : ClassId} {n : Nat} {f : Nat → UInt64} (ha : ws[q0]? = some (a, .inl (cA, n, .inr (.inr (.inr (.inl f)))))) (ht : tys[t0]? = some (cA, .double)) {i : Int32} {x : UInt64} (hout : ¬ vp_in i n) (hdg : decode cc pc = .ok (.dastore, 1))
    (k : ∀ tx : String, tx = (toString "Index " ++ toString i ++ toString " out of bounds for length " ++ toString n : String) → vx_Note p l e R s m args below meth c H locs cells slots Q (F0 m pc ls rest) "java/lang/ArrayIndexOutOfBoundsException" tx) : W p l e R s m args below meth c H locs cells slots Q (F0 m pc ls (.double x :: .int i :: .ref a :: rest)) := by
  intro T hT X
  obtain ⟨t, st, q⟩ := k _ rfl T hT X
  refine ⟨t, ?_, q⟩
  have h1 := X.dastoreOut hexec (by rw [hT]; exact hP q0 _ ha) ((hK.2 t0 _ ht).1 n (fun j => .double (f j))) (j := i) (by show (i < 0 ∨ (arrV _ _ _).slots.size ≤ _); rw [arrV_size]; exact Classical.byContradiction hout) (g := F0 m pc ls (.double x :: .int i :: .ref a :: rest)) rfl (rest := rest) rfl (by rw [hb]; exact hdg) t
  simp only [arrV_size] at h1
  exact h1 st
theorem vx_arraylengthN (hexec : p.tables.exec = Jvm.exec) (hb : c.code = cc) (hdg : decode cc pc = .ok (.arraylength, 1)) (k : vx_NoteN p l e R s m args below meth c H locs cells slots Q (F0 m pc ls rest)) : W p l e R s m args below meth c H locs cells slots Q (F0 m pc ls (.null :: rest)) := by
  intro T hT X
  obtain ⟨t, st, q⟩ := k T hT X
  exact ⟨t, X.arraylengthNull hexec (g := F0 m pc ls (.null :: rest)) rfl (rest := rest) rfl (by rw [hb]; exact hdg) t st, q⟩
theorem vx_ialoadN (hexec : p.tables.exec = Jvm.exec) (hb : c.code = cc) {i : Int32} (hdg : decode cc pc = .ok (.iaload, 1)) (k : vx_NoteN p l e R s m args below meth c H locs cells slots Q (F0 m pc ls rest)) : W p l e R s m args below meth c H locs cells slots Q (F0 m pc ls (.int i :: .null :: rest)) := by
  intro T hT X
  obtain ⟨t, st, q⟩ := k T hT X
  exact ⟨t, X.ialoadNull hexec (g := F0 m pc ls (.int i :: .null :: rest)) rfl (rest := rest) rfl (by rw [hb]; exact hdg) t st, q⟩
theorem vx_laloadN (hexec : p.tables.exec = Jvm.exec) (hb : c.code = cc) {i : Int32} (hdg : decode cc pc = .ok (.laload, 1)) (k : vx_NoteN p l e R s m args below meth c H locs cells slots Q (F0 m pc ls rest)) : W p l e R s m args below meth c H locs cells slots Q (F0 m pc ls (.int i :: .null :: rest)) := by
  intro T hT X
  obtain ⟨t, st, q⟩ := k T hT X
  exact ⟨t, X.laloadNull hexec (g := F0 m pc ls (.int i :: .null :: rest)) rfl (rest := rest) rfl (by rw [hb]; exact hdg) t st, q⟩
theorem vx_faloadN (hexec : p.tables.exec = Jvm.exec) (hb : c.code = cc) {i : Int32} (hdg : decode cc pc = .ok (.faload, 1)) (k : vx_NoteN p l e R s m args below meth c H locs cells slots Q (F0 m pc ls rest)) : W p l e R s m args below meth c H locs cells slots Q (F0 m pc ls (.int i :: .null :: rest)) := by
  intro T hT X
  obtain ⟨t, st, q⟩ := k T hT X
  exact ⟨t, X.faloadNull hexec (g := F0 m pc ls (.int i :: .null :: rest)) rfl (rest := rest) rfl (by rw [hb]; exact hdg) t st, q⟩
theorem vx_daloadN (hexec : p.tables.exec = Jvm.exec) (hb : c.code = cc) {i : Int32} (hdg : decode cc pc = .ok (.daload, 1)) (k : vx_NoteN p l e R s m args below meth c H locs cells slots Q (F0 m pc ls rest)) : W p l e R s m args below meth c H locs cells slots Q (F0 m pc ls (.int i :: .null :: rest)) := by
  intro T hT X
  obtain ⟨t, st, q⟩ := k T hT X
  exact ⟨t, X.daloadNull hexec (g := F0 m pc ls (.int i :: .null :: rest)) rfl (rest := rest) rfl (by rw [hb]; exact hdg) t st, q⟩
theorem vx_aaloadN (hexec : p.tables.exec = Jvm.exec) (hb : c.code = cc) {i : Int32} (hdg : decode cc pc = .ok (.aaload, 1)) (k : vx_NoteN p l e R s m args below meth c H locs cells slots Q (F0 m pc ls rest)) : W p l e R s m args below meth c H locs cells slots Q (F0 m pc ls (.int i :: .null :: rest)) := by
  intro T hT X
  obtain ⟨t, st, q⟩ := k T hT X
  exact ⟨t, X.aaloadNull hexec (g := F0 m pc ls (.int i :: .null :: rest)) rfl (rest := rest) rfl (by rw [hb]; exact hdg) t st, q⟩
theorem vx_baloadN (hexec : p.tables.exec = Jvm.exec) (hb : c.code = cc) {i : Int32} (hdg : decode cc pc = .ok (.baload, 1)) (k : vx_NoteN p l e R s m args below meth c H locs cells slots Q (F0 m pc ls rest)) : W p l e R s m args below meth c H locs cells slots Q (F0 m pc ls (.int i :: .null :: rest)) := by
  intro T hT X
  obtain ⟨t, st, q⟩ := k T hT X
  exact ⟨t, X.baloadNull hexec (g := F0 m pc ls (.int i :: .null :: rest)) rfl (rest := rest) rfl (by rw [hb]; exact hdg) t st, q⟩
theorem vx_caloadN (hexec : p.tables.exec = Jvm.exec) (hb : c.code = cc) {i : Int32} (hdg : decode cc pc = .ok (.caload, 1)) (k : vx_NoteN p l e R s m args below meth c H locs cells slots Q (F0 m pc ls rest)) : W p l e R s m args below meth c H locs cells slots Q (F0 m pc ls (.int i :: .null :: rest)) := by
  intro T hT X
  obtain ⟨t, st, q⟩ := k T hT X
  exact ⟨t, X.caloadNull hexec (g := F0 m pc ls (.int i :: .null :: rest)) rfl (rest := rest) rfl (by rw [hb]; exact hdg) t st, q⟩
theorem vx_saloadN (hexec : p.tables.exec = Jvm.exec) (hb : c.code = cc) {i : Int32} (hdg : decode cc pc = .ok (.saload, 1)) (k : vx_NoteN p l e R s m args below meth c H locs cells slots Q (F0 m pc ls rest)) : W p l e R s m args below meth c H locs cells slots Q (F0 m pc ls (.int i :: .null :: rest)) := by
  intro T hT X
  obtain ⟨t, st, q⟩ := k T hT X
  exact ⟨t, X.saloadNull hexec (g := F0 m pc ls (.int i :: .null :: rest)) rfl (rest := rest) rfl (by rw [hb]; exact hdg) t st, q⟩
theorem vx_iastoreN (hexec : p.tables.exec = Jvm.exec) (hb : c.code = cc) {x : Int32} {i : Int32} (hdg : decode cc pc = .ok (.iastore, 1)) (k : vx_NoteN p l e R s m args below meth c H locs cells slots Q (F0 m pc ls rest)) : W p l e R s m args below meth c H locs cells slots Q (F0 m pc ls (.int x :: .int i :: .null :: rest)) := by
  intro T hT X
  obtain ⟨t, st, q⟩ := k T hT X
  exact ⟨t, X.iastoreNull hexec (g := F0 m pc ls (.int x :: .int i :: .null :: rest)) rfl (rest := rest) rfl (by rw [hb]; exact hdg) t st, q⟩
theorem vx_lastoreN (hexec : p.tables.exec = Jvm.exec) (hb : c.code = cc) {x : Int64} {i : Int32} (hdg : decode cc pc = .ok (.lastore, 1)) (k : vx_NoteN p l e R s m args below meth c H locs cells slots Q (F0 m pc ls rest)) : W p l e R s m args below meth c H locs cells slots Q (F0 m pc ls (.long x :: .int i :: .null :: rest)) := by
  intro T hT X
  obtain ⟨t, st, q⟩ := k T hT X
  exact ⟨t, X.lastoreNull hexec (g := F0 m pc ls (.long x :: .int i :: .null :: rest)) rfl (rest := rest) rfl (by rw [hb]; exact hdg) t st, q⟩
theorem vx_fastoreN (hexec : p.tables.exec = Jvm.exec) (hb : c.code = cc) {x : UInt32} {i : Int32} (hdg : decode cc pc = .ok (.fastore, 1)) (k : vx_NoteN p l e R s m args below meth c H locs cells slots Q (F0 m pc ls rest)) : W p l e R s m args below meth c H locs cells slots Q (F0 m pc ls (.float x :: .int i :: .null :: rest)) := by
  intro T hT X
  obtain ⟨t, st, q⟩ := k T hT X
  exact ⟨t, X.fastoreNull hexec (g := F0 m pc ls (.float x :: .int i :: .null :: rest)) rfl (rest := rest) rfl (by rw [hb]; exact hdg) t st, q⟩
theorem vx_dastoreN (hexec : p.tables.exec = Jvm.exec) (hb : c.code = cc) {x : UInt64} {i : Int32} (hdg : decode cc pc = .ok (.dastore, 1)) (k : vx_NoteN p l e R s m args below meth c H locs cells slots Q (F0 m pc ls rest)) : W p l e R s m args below meth c H locs cells slots Q (F0 m pc ls (.double x :: .int i :: .null :: rest)) := by
  intro T hT X
  obtain ⟨t, st, q⟩ := k T hT X
  exact ⟨t, X.dastoreNull hexec (g := F0 m pc ls (.double x :: .int i :: .null :: rest)) rfl (rest := rest) rfl (by rw [hb]; exact hdg) t st, q⟩
theorem vx_bastoreN (hexec : p.tables.exec = Jvm.exec) (hb : c.code = cc) {x : Int32} {i : Int32} (hdg : decode cc pc = .ok (.bastore, 1)) (k : vx_NoteN p l e R s m args below meth c H locs cells slots Q (F0 m pc ls rest)) : W p l e R s m args below meth c H locs cells slots Q (F0 m pc ls (.int x :: .int i :: .null :: rest)) := by
  intro T hT X
  obtain ⟨t, st, q⟩ := k T hT X
  exact ⟨t, X.bastoreNull hexec (g := F0 m pc ls (.int x :: .int i :: .null :: rest)) rfl (rest := rest) rfl (by rw [hb]; exact hdg) t st, q⟩
theorem vx_castoreN (hexec : p.tables.exec = Jvm.exec) (hb : c.code = cc) {x : Int32} {i : Int32} (hdg : decode cc pc = .ok (.castore, 1)) (k : vx_NoteN p l e R s m args below meth c H locs cells slots Q (F0 m pc ls rest)) : W p l e R s m args below meth c H locs cells slots Q (F0 m pc ls (.int x :: .int i :: .null :: rest)) := by
  intro T hT X
  obtain ⟨t, st, q⟩ := k T hT X
  exact ⟨t, X.castoreNull hexec (g := F0 m pc ls (.int x :: .int i :: .null :: rest)) rfl (rest := rest) rfl (by rw [hb]; exact hdg) t st, q⟩
theorem vx_sastoreN (hexec : p.tables.exec = Jvm.exec) (hb : c.code = cc) {x : Int32} {i : Int32} (hdg : decode cc pc = .ok (.sastore, 1)) (k : vx_NoteN p l e R s m args below meth c H locs cells slots Q (F0 m pc ls rest)) : W p l e R s m args below meth c H locs cells slots Q (F0 m pc ls (.int x :: .int i :: .null :: rest)) := by
  intro T hT X
  obtain ⟨t, st, q⟩ := k T hT X
  exact ⟨t, X.sastoreNull hexec (g := F0 m pc ls (.int x :: .int i :: .null :: rest)) rfl (rest := rest) rfl (by rw [hb]; exact hdg) t st, q⟩
theorem vx_invokeN {own C : String} {index maxL : Nat} {y : MethodName} {bytes : ByteArray} {ret : Option FieldType} (hexec : p.tables.exec = Jvm.exec) (hb : c.code = cc) (hown : s.vm.findClass own = some m.cls) (hlink : (Cond.methodLink own index y).before args s = true) (hinst : (Cond.instanceMethod y).before args s = true) (hcode : (Cond.code y bytes maxL ret).before args s = true) (hsel : (Cond.selects C y y).before args s = true)
    (hx : y.cls ≠ "java/lang/invoke/MethodHandle" ∧ y.cls ≠ "java/lang/invoke/VarHandle") {As : List Value} (hlen : (parseMethodDescriptor y.desc).map (fun d => d.parameters.length) = some As.length) (hdg : decode cc pc = .ok (.invokevirtual index, 3))
    (k : vx_NoteN p l e R s m args below meth c H locs cells slots Q (F0 m pc ls rest)) {st0 : List Value} (hst : st0 = As.reverse ++ .null :: rest) : W p l e R s m args below meth c H locs cells slots Q (F0 m pc ls st0) := by
  intro T hT X
  obtain ⟨r0, r, hn, hrm, hstR, hsigR⟩ := va_Decl.of hinst hcode
  obtain ⟨c2, r2, m2, q1, q2, q3, q4, kP, hkP, hkPi⟩ := Cond.selects_spec hsel
  cases hn.symm.trans q3
  have hl9 : As.length = r.sig.parameters.length := by
    rw [hsigR] at hlen
    exact (Option.some.inj hlen).symm
  obtain ⟨vm', X1, st1⟩ := X.invokevirtualNull hexec hown hlink hn hrm hstR hkP hkPi hx (g := F0 m pc ls st0) rfl (argsL := As) (rest := rest) hl9 hst (by rw [hb]; exact hdg)
  obtain ⟨t, st, q⟩ := k (T.setVm vm') hT X1
  exact ⟨t, st1 t st, q⟩
theorem vx_newarrayZ {atype : ArrayType} (hexec : p.tables.exec = Jvm.exec) (hb : c.code = cc) {n : Int32} (h0 : n < 0) (hdg : decode cc pc = .ok (.newarray atype, 2)) (k : ∀ tx : String, tx = toString n → vx_Note p l e R s m args below meth c H locs cells slots Q (F0 m pc ls rest) "java/lang/NegativeArraySizeException" tx) : W p l e R s m args below meth c H locs cells slots Q (F0 m pc ls (.int n :: rest)) := by
  intro T hT X
  obtain ⟨t, st, q⟩ := k _ rfl T hT X
  exact ⟨t, X.newarrayNegative hexec (g := F0 m pc ls (.int n :: rest)) rfl h0 (rest := rest) rfl (by rw [hb]; exact hdg) t st, q⟩
end
end VXM
/-! ===== END ===== -/
end
section
def RX0 : String := "PromiseDepot$Clerk"
def TX0 : u_T := fun k => match k with
  | _ => ("", "", "", false)
def tyX0 : Nat → FieldType := fun k => match k with
  | _ => .int
abbrev wsX00 : List Cond := u_ws RX0 TX0 0
theorem nmX0 : ∀ a, a < 0 → ∀ b, b < 0 → a ≠ b → (TX0 a).2.1 ≠ (TX0 b).2.1 := by decide +kernel
theorem tyX0_ok : ∀ k, k < 0 → parseFieldDescriptor (TX0 k).2.2.1 = some (tyX0 k) := by decide +kernel
abbrev cX0_perform : ByteArray := prog_2_method_2_code
def yX0_perform : MethodName := ⟨RX0, "perform", "(LPromiseDepot$Stock;IIIII)I"⟩
abbrev cX0_takeIn : ByteArray := prog_2_method_3_code
def yX0_takeIn : MethodName := ⟨RX0, "takeIn", "(LPromiseDepot$Stock;IIII)I"⟩
abbrev cX0_divide : ByteArray := prog_2_method_4_code
def yX0_divide : MethodName := ⟨RX0, "divide", "(LPromiseDepot$Stock;II)I"⟩
abbrev cX0_unite : ByteArray := prog_2_method_5_code
def yX0_unite : MethodName := ⟨RX0, "unite", "(LPromiseDepot$Stock;II)I"⟩
abbrev cX0_sendOut : ByteArray := prog_2_method_6_code
def yX0_sendOut : MethodName := ⟨RX0, "sendOut", "(LPromiseDepot$Stock;II)I"⟩
abbrev cX0_callBack : ByteArray := prog_2_method_7_code
def yX0_callBack : MethodName := ⟨RX0, "callBack", "(LPromiseDepot$Stock;I)I"⟩
abbrev cX0_takeFromHeap : ByteArray := prog_2_method_8_code
def yX0_takeFromHeap : MethodName := ⟨RX0, "takeFromHeap", "(LPromiseDepot$Stock;)I"⟩
abbrev cX0_letPass : ByteArray := prog_2_method_9_code
def yX0_letPass : MethodName := ⟨RX0, "letPass", "(LPromiseDepot$Stock;I)I"⟩
def RX1 : String := "PromiseDepot$CompostHeap"
def TX1 : u_T := fun k => match k with
  | 0 => ("PromiseDepot$CompostHeap", "cells", "LPromiseDepot$Row;", true)
  | _ => ("PromiseDepot$CompostHeap", "size", "I", false)
def tyX1 : Nat → FieldType := fun k => match k with
  | 0 => .object "PromiseDepot$Row"
  | _ => .int
abbrev wsX10 : List Cond := u_ws RX1 TX1 2
theorem nmX1 : ∀ a, a < 2 → ∀ b, b < 2 → a ≠ b → (TX1 a).2.1 ≠ (TX1 b).2.1 := by decide +kernel
theorem tyX1_ok : ∀ k, k < 2 → parseFieldDescriptor (TX1 k).2.2.1 = some (tyX1 k) := by decide +kernel
abbrev cX1_init : ByteArray := prog_3_method_1_code
def yX1_init : MethodName := ⟨RX1, "<init>", "()V"⟩
abbrev cX1_copyFrom : ByteArray := prog_3_method_2_code
def yX1_copyFrom : MethodName := ⟨RX1, "copyFrom", "(LPromiseDepot$CompostHeap;)V"⟩
abbrev cX1_top : ByteArray := prog_3_method_3_code
def yX1_top : MethodName := ⟨RX1, "top", "()I"⟩
abbrev cX1_push : ByteArray := prog_3_method_4_code
def yX1_push : MethodName := ⟨RX1, "push", "(LPromiseDepot$Lots;I)V"⟩
abbrev cX1_removeTop : ByteArray := prog_3_method_5_code
def yX1_removeTop : MethodName := ⟨RX1, "removeTop", "(LPromiseDepot$Lots;)V"⟩
abbrev cX1_firstOfThree : ByteArray := prog_3_method_6_code
def yX1_firstOfThree : MethodName := ⟨RX1, "firstOfThree", "(LPromiseDepot$Lots;I)I"⟩
abbrev cX1_swap : ByteArray := prog_3_method_7_code
def yX1_swap : MethodName := ⟨RX1, "swap", "(II)V"⟩
abbrev cX1_firstByScan : ByteArray := prog_3_method_8_code
def yX1_firstByScan : MethodName := ⟨RX1, "firstByScan", "(LPromiseDepot$Lots;)I"⟩
def RX2 : String := "PromiseDepot$Descent"
def TX2 : u_T := fun k => match k with
  | _ => ("PromiseDepot$Descent", "table", "LPromiseDepot$Row;", true)
def tyX2 : Nat → FieldType := fun k => match k with
  | _ => .object "PromiseDepot$Row"
abbrev wsX20 : List Cond := u_ws RX2 TX2 1
theorem nmX2 : ∀ a, a < 1 → ∀ b, b < 1 → a ≠ b → (TX2 a).2.1 ≠ (TX2 b).2.1 := by decide +kernel
theorem tyX2_ok : ∀ k, k < 1 → parseFieldDescriptor (TX2 k).2.2.1 = some (tyX2 k) := by decide +kernel
abbrev cX2_init : ByteArray := prog_4_method_1_code
def yX2_init : MethodName := ⟨RX2, "<init>", "()V"⟩
abbrev cX2_setInDepth : ByteArray := prog_4_method_2_code
def yX2_setInDepth : MethodName := ⟨RX2, "setInDepth", "(LPromiseDepot$Lots;I)I"⟩
abbrev cX2_follow : ByteArray := prog_4_method_3_code
def yX2_follow : MethodName := ⟨RX2, "follow", "(LPromiseDepot$Lots;III)I"⟩
abbrev cX2_shelvedFamily : ByteArray := prog_4_method_4_code
def yX2_shelvedFamily : MethodName := ⟨RX2, "shelvedFamily", "(LPromiseDepot$Lots;I)I"⟩
abbrev cX2_countByTable : ByteArray := prog_4_method_5_code
def yX2_countByTable : MethodName := ⟨RX2, "countByTable", "(LPromiseDepot$Lots;I)I"⟩
abbrev cX2_enterParents : ByteArray := prog_4_method_6_code
def yX2_enterParents : MethodName := ⟨RX2, "enterParents", "(LPromiseDepot$Lots;)V"⟩
abbrev cX2_joinThrough : ByteArray := prog_4_method_7_code
def yX2_joinThrough : MethodName := ⟨RX2, "joinThrough", "(II)V"⟩
abbrev cX2_cell : ByteArray := prog_4_method_8_code
def yX2_cell : MethodName := ⟨RX2, "cell", "(II)I"⟩
def RX3 : String := "PromiseDepot$Gate"
def TX3 : u_T := fun k => match k with
  | _ => ("PromiseDepot$Gate", "detail", "I", false)
def tyX3 : Nat → FieldType := fun k => match k with
  | _ => .int
abbrev wsX30 : List Cond := u_ws RX3 TX3 1
theorem nmX3 : ∀ a, a < 1 → ∀ b, b < 1 → a ≠ b → (TX3 a).2.1 ≠ (TX3 b).2.1 := by decide +kernel
theorem tyX3_ok : ∀ k, k < 1 → parseFieldDescriptor (TX3 k).2.2.1 = some (tyX3 k) := by decide +kernel
abbrev cX3_init : ByteArray := prog_5_method_1_code
def yX3_init : MethodName := ⟨RX3, "<init>", "()V"⟩
abbrev cX3_verdict : ByteArray := prog_5_method_2_code
def yX3_verdict : MethodName := ⟨RX3, "verdict", "(LPromiseDepot$Stock;IIIII)I"⟩
abbrev cX3_deny : ByteArray := prog_5_method_3_code
def yX3_deny : MethodName := ⟨RX3, "deny", "(II)I"⟩
abbrev cX3_isWithin : ByteArray := prog_5_method_4_code
def yX3_isWithin : MethodName := ⟨RX3, "isWithin", "(III)Z"⟩
abbrev cX3_onAddShelf : ByteArray := prog_5_method_5_code
def yX3_onAddShelf : MethodName := ⟨RX3, "onAddShelf", "(LPromiseDepot$Stock;II)I"⟩
abbrev cX3_onReceive : ByteArray := prog_5_method_6_code
def yX3_onReceive : MethodName := ⟨RX3, "onReceive", "(LPromiseDepot$Stock;IIII)I"⟩
abbrev cX3_onLotLimit : ByteArray := prog_5_method_7_code
def yX3_onLotLimit : MethodName := ⟨RX3, "onLotLimit", "(LPromiseDepot$Stock;)I"⟩
abbrev cX3_onBothLimits : ByteArray := prog_5_method_8_code
def yX3_onBothLimits : MethodName := ⟨RX3, "onBothLimits", "(LPromiseDepot$Stock;)I"⟩
abbrev cX3_onSplit : ByteArray := prog_5_method_9_code
def yX3_onSplit : MethodName := ⟨RX3, "onSplit", "(LPromiseDepot$Stock;II)I"⟩
abbrev cX3_onMix : ByteArray := prog_5_method_10_code
def yX3_onMix : MethodName := ⟨RX3, "onMix", "(LPromiseDepot$Stock;II)I"⟩
abbrev cX3_onMove : ByteArray := prog_5_method_11_code
def yX3_onMove : MethodName := ⟨RX3, "onMove", "(LPromiseDepot$Stock;II)I"⟩
abbrev cX3_onShip : ByteArray := prog_5_method_12_code
def yX3_onShip : MethodName := ⟨RX3, "onShip", "(LPromiseDepot$Stock;II)I"⟩
def RX4 : String := "PromiseDepot$History"
def TX4 : u_T := fun k => match k with
  | 0 => ("PromiseDepot$History", "ring", "[LPromiseDepot$Stock;", true)
  | 1 => ("PromiseDepot$History", "next", "I", false)
  | _ => ("PromiseDepot$History", "size", "I", false)
def tyX4 : Nat → FieldType := fun k => match k with
  | 0 => .array (.object "PromiseDepot$Stock")
  | 1 => .int
  | _ => .int
abbrev wsX40 : List Cond := u_ws RX4 TX4 3
theorem nmX4 : ∀ a, a < 3 → ∀ b, b < 3 → a ≠ b → (TX4 a).2.1 ≠ (TX4 b).2.1 := by decide +kernel
theorem tyX4_ok : ∀ k, k < 3 → parseFieldDescriptor (TX4 k).2.2.1 = some (tyX4 k) := by decide +kernel
abbrev cX4_init : ByteArray := prog_6_method_1_code
def yX4_init : MethodName := ⟨RX4, "<init>", "()V"⟩
abbrev cX4_keep : ByteArray := prog_6_method_2_code
def yX4_keep : MethodName := ⟨RX4, "keep", "(LPromiseDepot$Stock;)V"⟩
abbrev cX4_giveBack : ByteArray := prog_6_method_3_code
def yX4_giveBack : MethodName := ⟨RX4, "giveBack", "(LPromiseDepot$Stock;)V"⟩
abbrev cX4_forget : ByteArray := prog_6_method_4_code
def yX4_forget : MethodName := ⟨RX4, "forget", "()V"⟩
def RX5 : String := "PromiseDepot$Lots"
def TX5 : u_T := fun k => match k with
  | 0 => ("PromiseDepot$Lots", "kinds", "LPromiseDepot$Row;", true)
  | 1 => ("PromiseDepot$Lots", "zones", "LPromiseDepot$Row;", true)
  | 2 => ("PromiseDepot$Lots", "volumes", "LPromiseDepot$Row;", true)
  | 3 => ("PromiseDepot$Lots", "expiries", "LPromiseDepot$Row;", true)
  | 4 => ("PromiseDepot$Lots", "places", "LPromiseDepot$Row;", true)
  | 5 => ("PromiseDepot$Lots", "firstParents", "LPromiseDepot$Row;", true)
  | 6 => ("PromiseDepot$Lots", "secondParents", "LPromiseDepot$Row;", true)
  | _ => ("PromiseDepot$Lots", "size", "I", false)
def tyX5 : Nat → FieldType := fun k => match k with
  | 0 => .object "PromiseDepot$Row"
  | 1 => .object "PromiseDepot$Row"
  | 2 => .object "PromiseDepot$Row"
  | 3 => .object "PromiseDepot$Row"
  | 4 => .object "PromiseDepot$Row"
  | 5 => .object "PromiseDepot$Row"
  | 6 => .object "PromiseDepot$Row"
  | _ => .int
abbrev wsX50 : List Cond := u_ws RX5 TX5 8
theorem nmX5 : ∀ a, a < 8 → ∀ b, b < 8 → a ≠ b → (TX5 a).2.1 ≠ (TX5 b).2.1 := by decide +kernel
theorem tyX5_ok : ∀ k, k < 8 → parseFieldDescriptor (TX5 k).2.2.1 = some (tyX5 k) := by decide +kernel
abbrev cX5_init : ByteArray := prog_7_method_1_code
def yX5_init : MethodName := ⟨RX5, "<init>", "()V"⟩
abbrev cX5_copyFrom : ByteArray := prog_7_method_2_code
def yX5_copyFrom : MethodName := ⟨RX5, "copyFrom", "(LPromiseDepot$Lots;)V"⟩
abbrev cX5_has : ByteArray := prog_7_method_3_code
def yX5_has : MethodName := ⟨RX5, "has", "(I)Z"⟩
abbrev cX5_add : ByteArray := prog_7_method_4_code
def yX5_add : MethodName := ⟨RX5, "add", "(IIIII)I"⟩
abbrev cX5_setParents : ByteArray := prog_7_method_5_code
def yX5_setParents : MethodName := ⟨RX5, "setParents", "(III)V"⟩
abbrev cX5_remove : ByteArray := prog_7_method_6_code
def yX5_remove : MethodName := ⟨RX5, "remove", "(I)V"⟩
abbrev cX5_isShelved : ByteArray := prog_7_method_7_code
def yX5_isShelved : MethodName := ⟨RX5, "isShelved", "(I)Z"⟩
abbrev cX5_parentsOf : ByteArray := prog_7_method_8_code
def yX5_parentsOf : MethodName := ⟨RX5, "parentsOf", "(I)I"⟩
abbrev cX5_isParent : ByteArray := prog_7_method_9_code
def yX5_isParent : MethodName := ⟨RX5, "isParent", "(II)Z"⟩
abbrev cX5_countAt : ByteArray := prog_7_method_10_code
def yX5_countAt : MethodName := ⟨RX5, "countAt", "(I)I"⟩
abbrev cX5_volumeAt : ByteArray := prog_7_method_11_code
def yX5_volumeAt : MethodName := ⟨RX5, "volumeAt", "(I)I"⟩
abbrev cX5_shelvedCount : ByteArray := prog_7_method_12_code
def yX5_shelvedCount : MethodName := ⟨RX5, "shelvedCount", "()I"⟩
abbrev cX5_shelvedVolume : ByteArray := prog_7_method_13_code
def yX5_shelvedVolume : MethodName := ⟨RX5, "shelvedVolume", "()I"⟩
abbrev cX5_expiresBefore : ByteArray := prog_7_method_14_code
def yX5_expiresBefore : MethodName := ⟨RX5, "expiresBefore", "(II)Z"⟩
abbrev cX5_compostsBefore : ByteArray := prog_7_method_15_code
def yX5_compostsBefore : MethodName := ⟨RX5, "compostsBefore", "(II)Z"⟩
def RX6 : String := "PromiseDepot$Packing"
def TX6 : u_T := fun k => match k with
  | 0 => ("PromiseDepot$Packing", "capacities", "LPromiseDepot$Row;", true)
  | 1 => ("PromiseDepot$Packing", "volumes", "LPromiseDepot$Row;", true)
  | 2 => ("PromiseDepot$Packing", "rooms", "LPromiseDepot$Row;", true)
  | 3 => ("PromiseDepot$Packing", "fillings", "LPromiseDepot$Row;", true)
  | 4 => ("PromiseDepot$Packing", "shelfTotal", "I", false)
  | _ => ("PromiseDepot$Packing", "lotTotal", "I", false)
def tyX6 : Nat → FieldType := fun k => match k with
  | 0 => .object "PromiseDepot$Row"
  | 1 => .object "PromiseDepot$Row"
  | 2 => .object "PromiseDepot$Row"
  | 3 => .object "PromiseDepot$Row"
  | 4 => .int
  | _ => .int
abbrev wsX60 : List Cond := u_ws RX6 TX6 6
theorem nmX6 : ∀ a, a < 6 → ∀ b, b < 6 → a ≠ b → (TX6 a).2.1 ≠ (TX6 b).2.1 := by decide +kernel
theorem tyX6_ok : ∀ k, k < 6 → parseFieldDescriptor (TX6 k).2.2.1 = some (tyX6 k) := by decide +kernel
abbrev cX6_init : ByteArray := prog_8_method_1_code
def yX6_init : MethodName := ⟨RX6, "<init>", "()V"⟩
abbrev cX6_fewestBySets : ByteArray := prog_8_method_2_code
def yX6_fewestBySets : MethodName := ⟨RX6, "fewestBySets", "(LPromiseDepot$Stock;I)I"⟩
abbrev cX6_leastFilling : ByteArray := prog_8_method_3_code
def yX6_leastFilling : MethodName := ⟨RX6, "leastFilling", "(I)I"⟩
abbrev cX6_fillingWith : ByteArray := prog_8_method_4_code
def yX6_fillingWith : MethodName := ⟨RX6, "fillingWith", "(II)I"⟩
abbrev cX6_fewestBySearch : ByteArray := prog_8_method_5_code
def yX6_fewestBySearch : MethodName := ⟨RX6, "fewestBySearch", "(LPromiseDepot$Stock;I)I"⟩
abbrev cX6_lay : ByteArray := prog_8_method_6_code
def yX6_lay : MethodName := ⟨RX6, "lay", "(LPromiseDepot$Row;ILPromiseDepot$Row;II)Z"⟩
abbrev cX6_hasRoomBefore : ByteArray := prog_8_method_7_code
def yX6_hasRoomBefore : MethodName := ⟨RX6, "hasRoomBefore", "(LPromiseDepot$Row;I)Z"⟩
abbrev cX6_gather : ByteArray := prog_8_method_8_code
def yX6_gather : MethodName := ⟨RX6, "gather", "(LPromiseDepot$Stock;I)V"⟩
abbrev cX6_insert : ByteArray := prog_8_method_9_code
def yX6_insert : MethodName := ⟨RX6, "insert", "(LPromiseDepot$Row;II)V"⟩
def RX7 : String := "PromiseDepot$Row"
def TX7 : u_T := fun k => match k with
  | _ => ("PromiseDepot$Row", "cells", "[I", true)
def tyX7 : Nat → FieldType := fun k => match k with
  | _ => .array .int
abbrev wsX70 : List Cond := u_ws RX7 TX7 1
theorem nmX7 : ∀ a, a < 1 → ∀ b, b < 1 → a ≠ b → (TX7 a).2.1 ≠ (TX7 b).2.1 := by decide +kernel
theorem tyX7_ok : ∀ k, k < 1 → parseFieldDescriptor (TX7 k).2.2.1 = some (tyX7 k) := by decide +kernel
abbrev cX7_init : ByteArray := prog_9_method_1_code
def yX7_init : MethodName := ⟨RX7, "<init>", "(I)V"⟩
abbrev cX7_get : ByteArray := prog_9_method_2_code
def yX7_get : MethodName := ⟨RX7, "get", "(I)I"⟩
abbrev cX7_set : ByteArray := prog_9_method_3_code
def yX7_set : MethodName := ⟨RX7, "set", "(II)V"⟩
abbrev cX7_fill : ByteArray := prog_9_method_4_code
def yX7_fill : MethodName := ⟨RX7, "fill", "(I)V"⟩
abbrev cX7_copyFrom : ByteArray := prog_9_method_5_code
def yX7_copyFrom : MethodName := ⟨RX7, "copyFrom", "(LPromiseDepot$Row;)V"⟩
def RX8 : String := "PromiseDepot$Shelves"
def TX8 : u_T := fun k => match k with
  | 0 => ("PromiseDepot$Shelves", "zones", "LPromiseDepot$Row;", true)
  | 1 => ("PromiseDepot$Shelves", "capacities", "LPromiseDepot$Row;", true)
  | 2 => ("PromiseDepot$Shelves", "countedDays", "LPromiseDepot$Row;", true)
  | _ => ("PromiseDepot$Shelves", "size", "I", false)
def tyX8 : Nat → FieldType := fun k => match k with
  | 0 => .object "PromiseDepot$Row"
  | 1 => .object "PromiseDepot$Row"
  | 2 => .object "PromiseDepot$Row"
  | _ => .int
abbrev wsX80 : List Cond := u_ws RX8 TX8 4
theorem nmX8 : ∀ a, a < 4 → ∀ b, b < 4 → a ≠ b → (TX8 a).2.1 ≠ (TX8 b).2.1 := by decide +kernel
theorem tyX8_ok : ∀ k, k < 4 → parseFieldDescriptor (TX8 k).2.2.1 = some (tyX8 k) := by decide +kernel
abbrev cX8_init : ByteArray := prog_10_method_1_code
def yX8_init : MethodName := ⟨RX8, "<init>", "()V"⟩
abbrev cX8_copyFrom : ByteArray := prog_10_method_2_code
def yX8_copyFrom : MethodName := ⟨RX8, "copyFrom", "(LPromiseDepot$Shelves;)V"⟩
abbrev cX8_has : ByteArray := prog_10_method_3_code
def yX8_has : MethodName := ⟨RX8, "has", "(I)Z"⟩
abbrev cX8_add : ByteArray := prog_10_method_4_code
def yX8_add : MethodName := ⟨RX8, "add", "(II)I"⟩
def RX9 : String := "PromiseDepot$Stock"
def TX9 : u_T := fun k => match k with
  | 0 => ("PromiseDepot$Stock", "shelves", "LPromiseDepot$Shelves;", true)
  | 1 => ("PromiseDepot$Stock", "lots", "LPromiseDepot$Lots;", true)
  | 2 => ("PromiseDepot$Stock", "heap", "LPromiseDepot$CompostHeap;", true)
  | 3 => ("PromiseDepot$Stock", "today", "I", false)
  | 4 => ("PromiseDepot$Stock", "receivedVolume", "I", false)
  | 5 => ("PromiseDepot$Stock", "shippedVolume", "I", false)
  | _ => ("PromiseDepot$Stock", "compostedVolume", "I", false)
def tyX9 : Nat → FieldType := fun k => match k with
  | 0 => .object "PromiseDepot$Shelves"
  | 1 => .object "PromiseDepot$Lots"
  | 2 => .object "PromiseDepot$CompostHeap"
  | 3 => .int
  | 4 => .int
  | 5 => .int
  | _ => .int
abbrev wsX90 : List Cond := u_ws RX9 TX9 7
theorem nmX9 : ∀ a, a < 7 → ∀ b, b < 7 → a ≠ b → (TX9 a).2.1 ≠ (TX9 b).2.1 := by decide +kernel
theorem tyX9_ok : ∀ k, k < 7 → parseFieldDescriptor (TX9 k).2.2.1 = some (tyX9 k) := by decide +kernel
abbrev cX9_init : ByteArray := prog_11_method_1_code
def yX9_init : MethodName := ⟨RX9, "<init>", "()V"⟩
abbrev cX9_copyFrom : ByteArray := prog_11_method_2_code
def yX9_copyFrom : MethodName := ⟨RX9, "copyFrom", "(LPromiseDepot$Stock;)V"⟩
abbrev cX9_hasExpired : ByteArray := prog_11_method_3_code
def yX9_hasExpired : MethodName := ⟨RX9, "hasExpired", "(I)Z"⟩
abbrev cX9_expiredCount : ByteArray := prog_11_method_4_code
def yX9_expiredCount : MethodName := ⟨RX9, "expiredCount", "()I"⟩
abbrev cX9_roomWithout : ByteArray := prog_11_method_5_code
def yX9_roomWithout : MethodName := ⟨RX9, "roomWithout", "(III)I"⟩
abbrev cX9_placeFor : ByteArray := prog_11_method_6_code
def yX9_placeFor : MethodName := ⟨RX9, "placeFor", "(IIII)I"⟩
abbrev cX9_isShippable : ByteArray := prog_11_method_7_code
def yX9_isShippable : MethodName := ⟨RX9, "isShippable", "(II)Z"⟩
abbrev cX9_shippableVolume : ByteArray := prog_11_method_8_code
def yX9_shippableVolume : MethodName := ⟨RX9, "shippableVolume", "(I)I"⟩
abbrev cX9_earliestShippable : ByteArray := prog_11_method_9_code
def yX9_earliestShippable : MethodName := ⟨RX9, "earliestShippable", "(I)I"⟩
abbrev cX9_shelvedAtRank : ByteArray := prog_11_method_10_code
def yX9_shelvedAtRank : MethodName := ⟨RX9, "shelvedAtRank", "(I)I"⟩
abbrev cX9_rankOfShelved : ByteArray := prog_11_method_11_code
def yX9_rankOfShelved : MethodName := ⟨RX9, "rankOfShelved", "(I)I"⟩
abbrev cX9_shelfAtRank : ByteArray := prog_11_method_12_code
def yX9_shelfAtRank : MethodName := ⟨RX9, "shelfAtRank", "(I)I"⟩
abbrev cX9_rankOfShelf : ByteArray := prog_11_method_13_code
def yX9_rankOfShelf : MethodName := ⟨RX9, "rankOfShelf", "(I)I"⟩
abbrev cX9_isDueBefore : ByteArray := prog_11_method_14_code
def yX9_isDueBefore : MethodName := ⟨RX9, "isDueBefore", "(II)Z"⟩
def RX10 : String := "PromiseDepot$Text"
def TX10 : u_T := fun k => match k with
  | 0 => ("PromiseDepot$Text", "characters", "LPromiseDepot$Row;", true)
  | 1 => ("PromiseDepot$Text", "parameters", "LPromiseDepot$Row;", true)
  | 2 => ("PromiseDepot$Text", "length", "I", false)
  | 3 => ("PromiseDepot$Text", "fault", "I", false)
  | 4 => ("PromiseDepot$Text", "command", "I", false)
  | _ => ("PromiseDepot$Text", "position", "I", false)
def tyX10 : Nat → FieldType := fun k => match k with
  | 0 => .object "PromiseDepot$Row"
  | 1 => .object "PromiseDepot$Row"
  | 2 => .int
  | 3 => .int
  | 4 => .int
  | _ => .int
abbrev wsX100 : List Cond := u_ws RX10 TX10 6
theorem nmX10 : ∀ a, a < 6 → ∀ b, b < 6 → a ≠ b → (TX10 a).2.1 ≠ (TX10 b).2.1 := by decide +kernel
theorem tyX10_ok : ∀ k, k < 6 → parseFieldDescriptor (TX10 k).2.2.1 = some (tyX10 k) := by decide +kernel
abbrev cX10_init : ByteArray := prog_12_method_1_code
def yX10_init : MethodName := ⟨RX10, "<init>", "()V"⟩
abbrev cX10_append : ByteArray := prog_12_method_2_code
def yX10_append : MethodName := ⟨RX10, "append", "(C)V"⟩
abbrev cX10_clear : ByteArray := prog_12_method_3_code
def yX10_clear : MethodName := ⟨RX10, "clear", "()V"⟩
abbrev cX10_commandsOrFault : ByteArray := prog_12_method_4_code
def yX10_commandsOrFault : MethodName := ⟨RX10, "commandsOrFault", "()I"⟩
abbrev cX10_read : ByteArray := prog_12_method_5_code
def yX10_read : MethodName := ⟨RX10, "read", "(I)Z"⟩
abbrev cX10_pattern : ByteArray := prog_12_method_6_code
def yX10_pattern : MethodName := ⟨RX10, "pattern", "(I)Ljava/lang/String;"⟩
abbrev cX10_fits : ByteArray := prog_12_method_7_code
def yX10_fits : MethodName := ⟨RX10, "fits", "(Ljava/lang/String;I)Z"⟩
abbrev cX10_takeDigits : ByteArray := prog_12_method_8_code
def yX10_takeDigits : MethodName := ⟨RX10, "takeDigits", "(II)Z"⟩
abbrev cX10_characterAt : ByteArray := prog_12_method_9_code
def yX10_characterAt : MethodName := ⟨RX10, "characterAt", "(I)I"⟩
abbrev cX10_isDigit : ByteArray := prog_12_method_10_code
def yX10_isDigit : MethodName := ⟨RX10, "isDigit", "(I)Z"⟩
def RX11 : String := "PromiseDepot"
def TX11 : u_T := fun k => match k with
  | 0 => ("PromiseDepot", "stock", "LPromiseDepot$Stock;", true)
  | 1 => ("PromiseDepot", "draft", "LPromiseDepot$Stock;", true)
  | 2 => ("PromiseDepot", "snapshot", "LPromiseDepot$Stock;", true)
  | 3 => ("PromiseDepot", "history", "LPromiseDepot$History;", true)
  | 4 => ("PromiseDepot", "gate", "LPromiseDepot$Gate;", true)
  | 5 => ("PromiseDepot", "descent", "LPromiseDepot$Descent;", true)
  | 6 => ("PromiseDepot", "packing", "LPromiseDepot$Packing;", true)
  | 7 => ("PromiseDepot", "text", "LPromiseDepot$Text;", true)
  | 8 => ("PromiseDepot", "line", "Ljava/lang/StringBuilder;", true)
  | 9 => ("PromiseDepot", "hasSnapshot", "Z", false)
  | 10 => ("PromiseDepot", "latestDenial", "I", false)
  | 11 => ("PromiseDepot", "latestDetail", "I", false)
  | _ => ("PromiseDepot", "latestCause", "I", false)
def tyX11 : Nat → FieldType := fun k => match k with
  | 0 => .object "PromiseDepot$Stock"
  | 1 => .object "PromiseDepot$Stock"
  | 2 => .object "PromiseDepot$Stock"
  | 3 => .object "PromiseDepot$History"
  | 4 => .object "PromiseDepot$Gate"
  | 5 => .object "PromiseDepot$Descent"
  | 6 => .object "PromiseDepot$Packing"
  | 7 => .object "PromiseDepot$Text"
  | 8 => .object "java/lang/StringBuilder"
  | 9 => .boolean
  | 10 => .int
  | 11 => .int
  | _ => .int
abbrev wsX110 : List Cond := u_ws RX11 TX11 13
theorem nmX11 : ∀ a, a < 13 → ∀ b, b < 13 → a ≠ b → (TX11 a).2.1 ≠ (TX11 b).2.1 := by decide +kernel
theorem tyX11_ok : ∀ k, k < 13 → parseFieldDescriptor (TX11 k).2.2.1 = some (tyX11 k) := by decide +kernel
abbrev cX11_init : ByteArray := prog_1_method_1_code
def yX11_init : MethodName := ⟨RX11, "<init>", "()V"⟩
abbrev cX11_addShelf : ByteArray := prog_1_method_2_code
def yX11_addShelf : MethodName := ⟨RX11, "addShelf", "(II)I"⟩
abbrev cX11_count : ByteArray := prog_1_method_3_code
def yX11_count : MethodName := ⟨RX11, "count", "(I)I"⟩
abbrev cX11_shelfCount : ByteArray := prog_1_method_4_code
def yX11_shelfCount : MethodName := ⟨RX11, "shelfCount", "()I"⟩
abbrev cX11_zoneOf : ByteArray := prog_1_method_5_code
def yX11_zoneOf : MethodName := ⟨RX11, "zoneOf", "(I)I"⟩
abbrev cX11_roomOf : ByteArray := prog_1_method_6_code
def yX11_roomOf : MethodName := ⟨RX11, "roomOf", "(I)I"⟩
abbrev cX11_lotsOn : ByteArray := prog_1_method_7_code
def yX11_lotsOn : MethodName := ⟨RX11, "lotsOn", "(I)I"⟩
abbrev cX11_shelfFor : ByteArray := prog_1_method_8_code
def yX11_shelfFor : MethodName := ⟨RX11, "shelfFor", "(II)I"⟩
abbrev cX11_countedDay : ByteArray := prog_1_method_9_code
def yX11_countedDay : MethodName := ⟨RX11, "countedDay", "(I)I"⟩
abbrev cX11_shelfToCount : ByteArray := prog_1_method_10_code
def yX11_shelfToCount : MethodName := ⟨RX11, "shelfToCount", "(I)I"⟩
abbrev cX11_fewestShelves : ByteArray := prog_1_method_11_code
def yX11_fewestShelves : MethodName := ⟨RX11, "fewestShelves", "(I)I"⟩
abbrev cX11_fewestShelvesBySearch : ByteArray := prog_1_method_12_code
def yX11_fewestShelvesBySearch : MethodName := ⟨RX11, "fewestShelvesBySearch", "(I)I"⟩
abbrev cX11_receive : ByteArray := prog_1_method_13_code
def yX11_receive : MethodName := ⟨RX11, "receive", "(IIII)I"⟩
abbrev cX11_split : ByteArray := prog_1_method_14_code
def yX11_split : MethodName := ⟨RX11, "split", "(II)I"⟩
abbrev cX11_mix : ByteArray := prog_1_method_15_code
def yX11_mix : MethodName := ⟨RX11, "mix", "(II)I"⟩
abbrev cX11_move : ByteArray := prog_1_method_16_code
def yX11_move : MethodName := ⟨RX11, "move", "(II)I"⟩
abbrev cX11_ship : ByteArray := prog_1_method_17_code
def yX11_ship : MethodName := ⟨RX11, "ship", "(II)I"⟩
abbrev cX11_recall : ByteArray := prog_1_method_18_code
def yX11_recall : MethodName := ⟨RX11, "recall", "(I)I"⟩
abbrev cX11_lotCount : ByteArray := prog_1_method_19_code
def yX11_lotCount : MethodName := ⟨RX11, "lotCount", "()I"⟩
abbrev cX11_isOnShelf : ByteArray := prog_1_method_20_code
def yX11_isOnShelf : MethodName := ⟨RX11, "isOnShelf", "(I)Z"⟩
abbrev cX11_shelfOf : ByteArray := prog_1_method_21_code
def yX11_shelfOf : MethodName := ⟨RX11, "shelfOf", "(I)I"⟩
abbrev cX11_volumeOf : ByteArray := prog_1_method_22_code
def yX11_volumeOf : MethodName := ⟨RX11, "volumeOf", "(I)I"⟩
abbrev cX11_expiryOf : ByteArray := prog_1_method_23_code
def yX11_expiryOf : MethodName := ⟨RX11, "expiryOf", "(I)I"⟩
abbrev cX11_isExpired : ByteArray := prog_1_method_24_code
def yX11_isExpired : MethodName := ⟨RX11, "isExpired", "(I)Z"⟩
abbrev cX11_parentCount : ByteArray := prog_1_method_25_code
def yX11_parentCount : MethodName := ⟨RX11, "parentCount", "(I)I"⟩
abbrev cX11_descendants : ByteArray := prog_1_method_26_code
def yX11_descendants : MethodName := ⟨RX11, "descendants", "(I)I"⟩
abbrev cX11_descendantsByTable : ByteArray := prog_1_method_27_code
def yX11_descendantsByTable : MethodName := ⟨RX11, "descendantsByTable", "(I)I"⟩
abbrev cX11_descendsFrom : ByteArray := prog_1_method_28_code
def yX11_descendsFrom : MethodName := ⟨RX11, "descendsFrom", "(II)Z"⟩
abbrev cX11_recallSize : ByteArray := prog_1_method_29_code
def yX11_recallSize : MethodName := ⟨RX11, "recallSize", "(I)I"⟩
abbrev cX11_available : ByteArray := prog_1_method_30_code
def yX11_available : MethodName := ⟨RX11, "available", "(I)I"⟩
abbrev cX11_firstToShip : ByteArray := prog_1_method_31_code
def yX11_firstToShip : MethodName := ⟨RX11, "firstToShip", "(I)I"⟩
abbrev cX11_lotByExpiry : ByteArray := prog_1_method_32_code
def yX11_lotByExpiry : MethodName := ⟨RX11, "lotByExpiry", "(I)I"⟩
abbrev cX11_compost : ByteArray := prog_1_method_33_code
def yX11_compost : MethodName := ⟨RX11, "compost", "()I"⟩
abbrev cX11_heapSize : ByteArray := prog_1_method_34_code
def yX11_heapSize : MethodName := ⟨RX11, "heapSize", "()I"⟩
abbrev cX11_nextCompost : ByteArray := prog_1_method_35_code
def yX11_nextCompost : MethodName := ⟨RX11, "nextCompost", "()I"⟩
abbrev cX11_nextCompostByScan : ByteArray := prog_1_method_36_code
def yX11_nextCompostByScan : MethodName := ⟨RX11, "nextCompostByScan", "()I"⟩
abbrev cX11_pass : ByteArray := prog_1_method_37_code
def yX11_pass : MethodName := ⟨RX11, "pass", "(I)I"⟩
abbrev cX11_day : ByteArray := prog_1_method_38_code
def yX11_day : MethodName := ⟨RX11, "day", "()I"⟩
abbrev cX11_received : ByteArray := prog_1_method_39_code
def yX11_received : MethodName := ⟨RX11, "received", "()I"⟩
abbrev cX11_stored : ByteArray := prog_1_method_40_code
def yX11_stored : MethodName := ⟨RX11, "stored", "()I"⟩
abbrev cX11_heaped : ByteArray := prog_1_method_41_code
def yX11_heaped : MethodName := ⟨RX11, "heaped", "()I"⟩
abbrev cX11_shipped : ByteArray := prog_1_method_42_code
def yX11_shipped : MethodName := ⟨RX11, "shipped", "()I"⟩
abbrev cX11_composted : ByteArray := prog_1_method_43_code
def yX11_composted : MethodName := ⟨RX11, "composted", "()I"⟩
abbrev cX11_meanVolume : ByteArray := prog_1_method_44_code
def yX11_meanVolume : MethodName := ⟨RX11, "meanVolume", "()D"⟩
abbrev cX11_expiredShare : ByteArray := prog_1_method_45_code
def yX11_expiredShare : MethodName := ⟨RX11, "expiredShare", "()F"⟩
abbrev cX11_feed : ByteArray := prog_1_method_46_code
def yX11_feed : MethodName := ⟨RX11, "feed", "(C)I"⟩
abbrev cX11_execute : ByteArray := prog_1_method_47_code
def yX11_execute : MethodName := ⟨RX11, "execute", "()I"⟩
abbrev cX11_writeLot : ByteArray := prog_1_method_49_code
def yX11_writeLot : MethodName := ⟨RX11, "writeLot", "(I)I"⟩
abbrev cX11_denial : ByteArray := prog_1_method_51_code
def yX11_denial : MethodName := ⟨RX11, "denial", "()I"⟩
abbrev cX11_denialCause : ByteArray := prog_1_method_53_code
def yX11_denialCause : MethodName := ⟨RX11, "denialCause", "()I"⟩
abbrev cX11_undo : ByteArray := prog_1_method_54_code
def yX11_undo : MethodName := ⟨RX11, "undo", "()I"⟩
abbrev cX11_undoCount : ByteArray := prog_1_method_55_code
def yX11_undoCount : MethodName := ⟨RX11, "undoCount", "()I"⟩
abbrev cX11_saveSnapshot : ByteArray := prog_1_method_56_code
def yX11_saveSnapshot : MethodName := ⟨RX11, "saveSnapshot", "()I"⟩
abbrev cX11_restoreSnapshot : ByteArray := prog_1_method_57_code
def yX11_restoreSnapshot : MethodName := ⟨RX11, "restoreSnapshot", "()I"⟩
abbrev cX11_change : ByteArray := prog_1_method_58_code
def yX11_change : MethodName := ⟨RX11, "change", "(IIIII)I"⟩
abbrev cX11_refuse : ByteArray := prog_1_method_59_code
def yX11_refuse : MethodName := ⟨RX11, "refuse", "(I)V"⟩
abbrev cX11_keepDenial : ByteArray := prog_1_method_60_code
def yX11_keepDenial : MethodName := ⟨RX11, "keepDenial", "(III)V"⟩
abbrev cX11_runOnDraft : ByteArray := prog_1_method_61_code
def yX11_runOnDraft : MethodName := ⟨RX11, "runOnDraft", "(I)Z"⟩
abbrev cX11_appendPlace : ByteArray := prog_1_method_62_code
def yX11_appendPlace : MethodName := ⟨RX11, "appendPlace", "(I)V"⟩
abbrev cX11_appendParent : ByteArray := prog_1_method_63_code
def yX11_appendParent : MethodName := ⟨RX11, "appendParent", "(I)V"⟩
abbrev cX11_requireShelf : ByteArray := prog_1_method_64_code
def yX11_requireShelf : MethodName := ⟨RX11, "requireShelf", "(I)V"⟩
abbrev cX11_requireLot : ByteArray := prog_1_method_65_code
def yX11_requireLot : MethodName := ⟨RX11, "requireLot", "(I)V"⟩
abbrev cX11_requireRange : ByteArray := prog_1_method_66_code
def yX11_requireRange : MethodName := ⟨RX11, "requireRange", "(III)V"⟩
abbrev cX11_requireFound : ByteArray := prog_1_method_67_code
def yX11_requireFound : MethodName := ⟨RX11, "requireFound", "(I)I"⟩
def RX12 : String := "PromiseDepotModel"
def TX12 : u_T := fun k => match k with
  | _ => ("", "", "", false)
def tyX12 : Nat → FieldType := fun k => match k with
  | _ => .int
abbrev wsX120 : List Cond := u_ws RX12 TX12 0
theorem nmX12 : ∀ a, a < 0 → ∀ b, b < 0 → a ≠ b → (TX12 a).2.1 ≠ (TX12 b).2.1 := by decide +kernel
theorem tyX12_ok : ∀ k, k < 0 → parseFieldDescriptor (TX12 k).2.2.1 = some (tyX12 k) := by decide +kernel
def RJx145de : String := "java/io/Serializable"
def TJx145de : u_T := fun k => match k with
  | _ => ("", "", "", false)
def tyJx145de : Nat → FieldType := fun k => match k with
  | _ => .int
abbrev wsJx145de0 : List Cond := u_ws RJx145de TJx145de 0
theorem nmJx145de : ∀ a, a < 0 → ∀ b, b < 0 → a ≠ b → (TJx145de a).2.1 ≠ (TJx145de b).2.1 := by decide +kernel
theorem tyJx145de_ok : ∀ k, k < 0 → parseFieldDescriptor (TJx145de k).2.2.1 = some (tyJx145de k) := by decide +kernel
def RJ5 : String := "java/lang/AbstractStringBuilder"
def TJ5 : u_T := fun k => match k with
  | _ => ("", "", "", false)
def tyJ5 : Nat → FieldType := fun k => match k with
  | _ => .int
abbrev wsJ50 : List Cond := u_ws RJ5 TJ5 0
theorem nmJ5 : ∀ a, a < 0 → ∀ b, b < 0 → a ≠ b → (TJ5 a).2.1 ≠ (TJ5 b).2.1 := by decide +kernel
theorem tyJ5_ok : ∀ k, k < 0 → parseFieldDescriptor (TJ5 k).2.2.1 = some (tyJ5 k) := by decide +kernel
abbrev cJ5_init_d00df : ByteArray := prog_16_method_2_code
def yJ5_init_d00df : MethodName := ⟨RJ5, "<init>", "(I)V"⟩
abbrev cJ5_length_8abf5 : ByteArray := prog_16_method_6_code
def yJ5_length_8abf5 : MethodName := ⟨RJ5, "length", "()I"⟩
abbrev cJ5_ensureCapacityInternal_d00df : ByteArray := prog_16_method_9_code
def yJ5_ensureCapacityInternal_d00df : MethodName := ⟨RJ5, "ensureCapacityInternal", "(I)V"⟩
abbrev cJ5_newCapacity_0f7a4 : ByteArray := prog_16_method_10_code
def yJ5_newCapacity_0f7a4 : MethodName := ⟨RJ5, "newCapacity", "(I)I"⟩
abbrev cJ5_inflate_da8c8 : ByteArray := prog_16_method_11_code
def yJ5_inflate_da8c8 : MethodName := ⟨RJ5, "inflate", "()V"⟩
abbrev cJ5_setLength_d00df : ByteArray := prog_16_method_13_code
def yJ5_setLength_d00df : MethodName := ⟨RJ5, "setLength", "(I)V"⟩
abbrev cJ5_append_cf1ce : ByteArray := prog_16_method_22_code
def yJ5_append_cf1ce : MethodName := ⟨RJ5, "append", "(Ljava/lang/String;)Ljava/lang/AbstractStringBuilder;"⟩
abbrev cJ5_appendNull_278bc : ByteArray := prog_16_method_26_code
def yJ5_appendNull_278bc : MethodName := ⟨RJ5, "appendNull", "()Ljava/lang/AbstractStringBuilder;"⟩
abbrev cJ5_append_3fe6f : ByteArray := prog_16_method_31_code
def yJ5_append_3fe6f : MethodName := ⟨RJ5, "append", "(C)Ljava/lang/AbstractStringBuilder;"⟩
abbrev cJ5_append_c97b9 : ByteArray := prog_16_method_32_code
def yJ5_append_c97b9 : MethodName := ⟨RJ5, "append", "(I)Ljava/lang/AbstractStringBuilder;"⟩
abbrev cJ5_getValue_6d5f1 : ByteArray := prog_16_method_64_code
def yJ5_getValue_6d5f1 : MethodName := ⟨RJ5, "getValue", "()[B"⟩
abbrev cJ5_isLatin1_aae02 : ByteArray := prog_16_method_68_code
def yJ5_isLatin1_aae02 : MethodName := ⟨RJ5, "isLatin1", "()Z"⟩
abbrev cJ5_inflateIfNeededFor_a7421 : ByteArray := prog_16_method_71_code
def yJ5_inflateIfNeededFor_a7421 : MethodName := ⟨RJ5, "inflateIfNeededFor", "(Ljava/lang/String;)V"⟩
abbrev cJ5_putStringAt_47b60 : ByteArray := prog_16_method_73_code
def yJ5_putStringAt_47b60 : MethodName := ⟨RJ5, "putStringAt", "(ILjava/lang/String;)V"⟩
def RJx2cfe8 : String := "java/lang/Appendable"
def TJx2cfe8 : u_T := fun k => match k with
  | _ => ("", "", "", false)
def tyJx2cfe8 : Nat → FieldType := fun k => match k with
  | _ => .int
abbrev wsJx2cfe80 : List Cond := u_ws RJx2cfe8 TJx2cfe8 0
theorem nmJx2cfe8 : ∀ a, a < 0 → ∀ b, b < 0 → a ≠ b → (TJx2cfe8 a).2.1 ≠ (TJx2cfe8 b).2.1 := by decide +kernel
theorem tyJx2cfe8_ok : ∀ k, k < 0 → parseFieldDescriptor (TJx2cfe8 k).2.2.1 = some (tyJx2cfe8 k) := by decide +kernel
def RJx00060 : String := "java/lang/ArrayIndexOutOfBoundsException"
def TJx00060 : u_T := fun k => match k with
  | 0 => ("java/lang/Throwable", "backtrace", "Ljava/lang/Object;", false)
  | 1 => ("java/lang/Throwable", "detailMessage", "Ljava/lang/String;", false)
  | 2 => ("java/lang/Throwable", "cause", "Ljava/lang/Throwable;", false)
  | 3 => ("java/lang/Throwable", "stackTrace", "[Ljava/lang/StackTraceElement;", false)
  | 4 => ("java/lang/Throwable", "depth", "I", false)
  | _ => ("java/lang/Throwable", "suppressedExceptions", "Ljava/util/List;", false)
def tyJx00060 : Nat → FieldType := fun k => match k with
  | 0 => .object "java/lang/Object"
  | 1 => .object "java/lang/String"
  | 2 => .object "java/lang/Throwable"
  | 3 => .array (.object "java/lang/StackTraceElement")
  | 4 => .int
  | _ => .object "java/util/List"
abbrev wsJx000600 : List Cond := u_ws RJx00060 TJx00060 6
theorem nmJx00060 : ∀ a, a < 6 → ∀ b, b < 6 → a ≠ b → (TJx00060 a).2.1 ≠ (TJx00060 b).2.1 := by decide +kernel
theorem tyJx00060_ok : ∀ k, k < 6 → parseFieldDescriptor (TJx00060 k).2.2.1 = some (tyJx00060 k) := by decide +kernel
abbrev cJx00060_init_a7421 : ByteArray := prog_19_method_2_code
def yJx00060_init_a7421 : MethodName := ⟨RJx00060, "<init>", "(Ljava/lang/String;)V"⟩
abbrev cJx00060_init_d00df : ByteArray := prog_19_method_3_code
def yJx00060_init_d00df : MethodName := ⟨RJx00060, "<init>", "(I)V"⟩
def RJx9f9b0 : String := "java/lang/CharSequence"
def TJx9f9b0 : u_T := fun k => match k with
  | _ => ("", "", "", false)
def tyJx9f9b0 : Nat → FieldType := fun k => match k with
  | _ => .int
abbrev wsJx9f9b00 : List Cond := u_ws RJx9f9b0 TJx9f9b0 0
theorem nmJx9f9b0 : ∀ a, a < 0 → ∀ b, b < 0 → a ≠ b → (TJx9f9b0 a).2.1 ≠ (TJx9f9b0 b).2.1 := by decide +kernel
theorem tyJx9f9b0_ok : ∀ k, k < 0 → parseFieldDescriptor (TJx9f9b0 k).2.2.1 = some (tyJx9f9b0 k) := by decide +kernel
def RJx8e188 : String := "java/lang/Cloneable"
def TJx8e188 : u_T := fun k => match k with
  | _ => ("", "", "", false)
def tyJx8e188 : Nat → FieldType := fun k => match k with
  | _ => .int
abbrev wsJx8e1880 : List Cond := u_ws RJx8e188 TJx8e188 0
theorem nmJx8e188 : ∀ a, a < 0 → ∀ b, b < 0 → a ≠ b → (TJx8e188 a).2.1 ≠ (TJx8e188 b).2.1 := by decide +kernel
theorem tyJx8e188_ok : ∀ k, k < 0 → parseFieldDescriptor (TJx8e188 k).2.2.1 = some (tyJx8e188 k) := by decide +kernel
def RJxb160c : String := "java/lang/Comparable"
def TJxb160c : u_T := fun k => match k with
  | _ => ("", "", "", false)
def tyJxb160c : Nat → FieldType := fun k => match k with
  | _ => .int
abbrev wsJxb160c0 : List Cond := u_ws RJxb160c TJxb160c 0
theorem nmJxb160c : ∀ a, a < 0 → ∀ b, b < 0 → a ≠ b → (TJxb160c a).2.1 ≠ (TJxb160c b).2.1 := by decide +kernel
theorem tyJxb160c_ok : ∀ k, k < 0 → parseFieldDescriptor (TJxb160c k).2.2.1 = some (tyJxb160c k) := by decide +kernel
def RJ6 : String := "java/lang/Integer"
def TJ6 : u_T := fun k => match k with
  | _ => ("", "", "", false)
def tyJ6 : Nat → FieldType := fun k => match k with
  | _ => .int
abbrev wsJ60 : List Cond := u_ws RJ6 TJ6 0
theorem nmJ6 : ∀ a, a < 0 → ∀ b, b < 0 → a ≠ b → (TJ6 a).2.1 ≠ (TJ6 b).2.1 := by decide +kernel
theorem tyJ6_ok : ∀ k, k < 0 → parseFieldDescriptor (TJ6 k).2.2.1 = some (tyJ6 k) := by decide +kernel
abbrev cJ6_getChars_ba4f3 : ByteArray := prog_27_method_12_code
def yJ6_getChars_ba4f3 : MethodName := ⟨RJ6, "getChars", "(II[B)I"⟩
abbrev cJ6_stringSize_0f7a4 : ByteArray := prog_27_method_13_code
def yJ6_stringSize_0f7a4 : MethodName := ⟨RJ6, "stringSize", "(I)I"⟩
abbrev cJ6_bitCount_0f7a4 : ByteArray := prog_27_method_49_code
def yJ6_bitCount_0f7a4 : MethodName := ⟨RJ6, "bitCount", "(I)I"⟩
def RJ9 : String := "java/lang/Math"
def TJ9 : u_T := fun k => match k with
  | _ => ("", "", "", false)
def tyJ9 : Nat → FieldType := fun k => match k with
  | _ => .int
abbrev wsJ90 : List Cond := u_ws RJ9 TJ9 0
theorem nmJ9 : ∀ a, a < 0 → ∀ b, b < 0 → a ≠ b → (TJ9 a).2.1 ≠ (TJ9 b).2.1 := by decide +kernel
theorem tyJ9_ok : ∀ k, k < 0 → parseFieldDescriptor (TJ9 k).2.2.1 = some (tyJ9 k) := by decide +kernel
abbrev cJ9_max_7cf53 : ByteArray := prog_28_method_65_code
def yJ9_max_7cf53 : MethodName := ⟨RJ9, "max", "(II)I"⟩
abbrev cJ9_min_7cf53 : ByteArray := prog_28_method_69_code
def yJ9_min_7cf53 : MethodName := ⟨RJ9, "min", "(II)I"⟩
def RJxd2413 : String := "java/lang/Number"
def TJxd2413 : u_T := fun k => match k with
  | _ => ("", "", "", false)
def tyJxd2413 : Nat → FieldType := fun k => match k with
  | _ => .int
abbrev wsJxd24130 : List Cond := u_ws RJxd2413 TJxd2413 0
theorem nmJxd2413 : ∀ a, a < 0 → ∀ b, b < 0 → a ≠ b → (TJxd2413 a).2.1 ≠ (TJxd2413 b).2.1 := by decide +kernel
theorem tyJxd2413_ok : ∀ k, k < 0 → parseFieldDescriptor (TJxd2413 k).2.2.1 = some (tyJxd2413 k) := by decide +kernel
def RJ0 : String := "java/lang/String"
def TJ0 : u_T := fun k => match k with
  | 0 => ("java/lang/String", "value", "[B", true)
  | 1 => ("java/lang/String", "coder", "B", true)
  | 2 => ("java/lang/String", "hash", "I", false)
  | _ => ("java/lang/String", "hashIsZero", "Z", false)
def tyJ0 : Nat → FieldType := fun k => match k with
  | 0 => .array .byte
  | 1 => .byte
  | 2 => .int
  | _ => .boolean
abbrev wsJ00 : List Cond := u_ws RJ0 TJ0 4
theorem nmJ0 : ∀ a, a < 4 → ∀ b, b < 4 → a ≠ b → (TJ0 a).2.1 ≠ (TJ0 b).2.1 := by decide +kernel
theorem tyJ0_ok : ∀ k, k < 4 → parseFieldDescriptor (TJ0 k).2.2.1 = some (tyJ0 k) := by decide +kernel
abbrev cJ0_init_81219 : ByteArray := prog_31_method_53_code
def yJ0_init_81219 : MethodName := ⟨RJ0, "<init>", "(Ljava/lang/StringBuilder;)V"⟩
abbrev cJ0_length_8abf5 : ByteArray := prog_31_method_54_code
def yJ0_length_8abf5 : MethodName := ⟨RJ0, "length", "()I"⟩
abbrev cJ0_charAt_5068e : ByteArray := prog_31_method_56_code
def yJ0_charAt_5068e : MethodName := ⟨RJ0, "charAt", "(I)C"⟩
abbrev cJ0_getBytes_840e7 : ByteArray := prog_31_method_147_code
def yJ0_getBytes_840e7 : MethodName := ⟨RJ0, "getBytes", "([BIB)V"⟩
abbrev cJ0_init_db425 : ByteArray := prog_31_method_150_code
def yJ0_init_db425 : MethodName := ⟨RJ0, "<init>", "(Ljava/lang/AbstractStringBuilder;Ljava/lang/Void;)V"⟩
abbrev cJ0_coder_7d493 : ByteArray := prog_31_method_152_code
def yJ0_coder_7d493 : MethodName := ⟨RJ0, "coder", "()B"⟩
abbrev cJ0_isLatin1_aae02 : ByteArray := prog_31_method_154_code
def yJ0_isLatin1_aae02 : MethodName := ⟨RJ0, "isLatin1", "()Z"⟩
abbrev cJ0_checkIndex_df160 : ByteArray := prog_31_method_155_code
def yJ0_checkIndex_df160 : MethodName := ⟨RJ0, "checkIndex", "(II)V"⟩
abbrev cJ0_checkBoundsOffCount_cabcc : ByteArray := prog_31_method_157_code
def yJ0_checkBoundsOffCount_cabcc : MethodName := ⟨RJ0, "checkBoundsOffCount", "(III)I"⟩
abbrev cJ0_checkBoundsBeginEnd_23922 : ByteArray := prog_31_method_158_code
def yJ0_checkBoundsBeginEnd_23922 : MethodName := ⟨RJ0, "checkBoundsBeginEnd", "(III)V"⟩
def RJ4 : String := "java/lang/StringBuilder"
def TJ4 : u_T := fun k => match k with
  | 0 => ("java/lang/AbstractStringBuilder", "value", "[B", false)
  | 1 => ("java/lang/AbstractStringBuilder", "coder", "B", false)
  | 2 => ("java/lang/AbstractStringBuilder", "maybeLatin1", "Z", false)
  | _ => ("java/lang/AbstractStringBuilder", "count", "I", false)
def tyJ4 : Nat → FieldType := fun k => match k with
  | 0 => .array .byte
  | 1 => .byte
  | 2 => .boolean
  | _ => .int
abbrev wsJ40 : List Cond := u_ws RJ4 TJ4 4
theorem nmJ4 : ∀ a, a < 4 → ∀ b, b < 4 → a ≠ b → (TJ4 a).2.1 ≠ (TJ4 b).2.1 := by decide +kernel
theorem tyJ4_ok : ∀ k, k < 4 → parseFieldDescriptor (TJ4 k).2.2.1 = some (tyJ4 k) := by decide +kernel
abbrev cJ4_init_da8c8 : ByteArray := prog_32_method_1_code
def yJ4_init_da8c8 : MethodName := ⟨RJ4, "<init>", "()V"⟩
abbrev cJ4_append_15ec4 : ByteArray := prog_32_method_7_code
def yJ4_append_15ec4 : MethodName := ⟨RJ4, "append", "(Ljava/lang/String;)Ljava/lang/StringBuilder;"⟩
abbrev cJ4_append_cf468 : ByteArray := prog_32_method_14_code
def yJ4_append_cf468 : MethodName := ⟨RJ4, "append", "(C)Ljava/lang/StringBuilder;"⟩
abbrev cJ4_append_bf812 : ByteArray := prog_32_method_15_code
def yJ4_append_bf812 : MethodName := ⟨RJ4, "append", "(I)Ljava/lang/StringBuilder;"⟩
abbrev cJ4_toString_0e30d : ByteArray := prog_32_method_42_code
def yJ4_toString_0e30d : MethodName := ⟨RJ4, "toString", "()Ljava/lang/String;"⟩
abbrev cJ4_setLength_d00df : ByteArray := prog_32_method_89_code
def yJ4_setLength_d00df : MethodName := ⟨RJ4, "setLength", "(I)V"⟩
abbrev cJ4_length_8abf5 : ByteArray := prog_32_method_93_code
def yJ4_length_8abf5 : MethodName := ⟨RJ4, "length", "()I"⟩
def RJx7c733 : String := "java/lang/StringIndexOutOfBoundsException"
def TJx7c733 : u_T := fun k => match k with
  | 0 => ("java/lang/Throwable", "backtrace", "Ljava/lang/Object;", false)
  | 1 => ("java/lang/Throwable", "detailMessage", "Ljava/lang/String;", false)
  | 2 => ("java/lang/Throwable", "cause", "Ljava/lang/Throwable;", false)
  | 3 => ("java/lang/Throwable", "stackTrace", "[Ljava/lang/StackTraceElement;", false)
  | 4 => ("java/lang/Throwable", "depth", "I", false)
  | _ => ("java/lang/Throwable", "suppressedExceptions", "Ljava/util/List;", false)
def tyJx7c733 : Nat → FieldType := fun k => match k with
  | 0 => .object "java/lang/Object"
  | 1 => .object "java/lang/String"
  | 2 => .object "java/lang/Throwable"
  | 3 => .array (.object "java/lang/StackTraceElement")
  | 4 => .int
  | _ => .object "java/util/List"
abbrev wsJx7c7330 : List Cond := u_ws RJx7c733 TJx7c733 6
theorem nmJx7c733 : ∀ a, a < 6 → ∀ b, b < 6 → a ≠ b → (TJx7c733 a).2.1 ≠ (TJx7c733 b).2.1 := by decide +kernel
theorem tyJx7c733_ok : ∀ k, k < 6 → parseFieldDescriptor (TJx7c733 k).2.2.1 = some (tyJx7c733 k) := by decide +kernel
abbrev cJx7c733_init_d00df : ByteArray := prog_33_method_3_code
def yJx7c733_init_d00df : MethodName := ⟨RJx7c733, "<init>", "(I)V"⟩
def RJ1 : String := "java/lang/StringLatin1"
def TJ1 : u_T := fun k => match k with
  | _ => ("", "", "", false)
def tyJ1 : Nat → FieldType := fun k => match k with
  | _ => .int
abbrev wsJ10 : List Cond := u_ws RJ1 TJ1 0
theorem nmJ1 : ∀ a, a < 0 → ∀ b, b < 0 → a ≠ b → (TJ1 a).2.1 ≠ (TJ1 b).2.1 := by decide +kernel
theorem tyJ1_ok : ∀ k, k < 0 → parseFieldDescriptor (TJ1 k).2.2.1 = some (tyJ1 k) := by decide +kernel
abbrev cJ1_charAt_3b067 : ByteArray := prog_34_method_2_code
def yJ1_charAt_3b067 : MethodName := ⟨RJ1, "charAt", "([BI)C"⟩
abbrev cJ1_canEncode_fc78d : ByteArray := prog_34_method_3_code
def yJ1_canEncode_fc78d : MethodName := ⟨RJ1, "canEncode", "(C)Z"⟩
abbrev cJ1_fillNull_b72d1 : ByteArray := prog_34_method_48_code
def yJ1_fillNull_b72d1 : MethodName := ⟨RJ1, "fillNull", "([BII)V"⟩
abbrev cJ1_inflate_0e8fd : ByteArray := prog_34_method_50_code
def yJ1_inflate_0e8fd : MethodName := ⟨RJ1, "inflate", "([BI[BII)V"⟩
def RJ2 : String := "java/lang/StringUTF16"
def TJ2 : u_T := fun k => match k with
  | _ => ("", "", "", false)
def tyJ2 : Nat → FieldType := fun k => match k with
  | _ => .int
abbrev wsJ20 : List Cond := u_ws RJ2 TJ2 0
theorem nmJ2 : ∀ a, a < 0 → ∀ b, b < 0 → a ≠ b → (TJ2 a).2.1 ≠ (TJ2 b).2.1 := by decide +kernel
theorem tyJ2_ok : ∀ k, k < 0 → parseFieldDescriptor (TJ2 k).2.2.1 = some (tyJ2 k) := by decide +kernel
abbrev cJ2_newBytesFor_77867 : ByteArray := prog_35_method_2_code
def yJ2_newBytesFor_77867 : MethodName := ⟨RJ2, "newBytesFor", "(I)[B"⟩
abbrev cJ2_newBytesLength_0f7a4 : ByteArray := prog_35_method_3_code
def yJ2_newBytesLength_0f7a4 : MethodName := ⟨RJ2, "newBytesLength", "(I)I"⟩
abbrev cJ2_putChar_b72d1 : ByteArray := prog_35_method_4_code
def yJ2_putChar_b72d1 : MethodName := ⟨RJ2, "putChar", "([BII)V"⟩
abbrev cJ2_getChar_3b067 : ByteArray := prog_35_method_5_code
def yJ2_getChar_3b067 : MethodName := ⟨RJ2, "getChar", "([BI)C"⟩
abbrev cJ2_length_9d52b : ByteArray := prog_35_method_6_code
def yJ2_length_9d52b : MethodName := ⟨RJ2, "length", "([B)I"⟩
abbrev cJ2_coderFromArrayLen_85cad : ByteArray := prog_35_method_15_code
def yJ2_coderFromArrayLen_85cad : MethodName := ⟨RJ2, "coderFromArrayLen", "([BI)B"⟩
abbrev cJ2_compress_39247 : ByteArray := prog_35_method_17_code
def yJ2_compress_39247 : MethodName := ⟨RJ2, "compress", "([BII)[B"⟩
abbrev cJ2_compress_5af95 : ByteArray := prog_35_method_22_code
def yJ2_compress_5af95 : MethodName := ⟨RJ2, "compress", "([BI[BII)I"⟩
abbrev cJ2_fillNull_b72d1 : ByteArray := prog_35_method_70_code
def yJ2_fillNull_b72d1 : MethodName := ⟨RJ2, "fillNull", "([BII)V"⟩
abbrev cJ2_putCharSB_b72d1 : ByteArray := prog_35_method_71_code
def yJ2_putCharSB_b72d1 : MethodName := ⟨RJ2, "putCharSB", "([BII)V"⟩
abbrev cJ2_getChars_46870 : ByteArray := prog_35_method_77_code
def yJ2_getChars_46870 : MethodName := ⟨RJ2, "getChars", "(III[B)I"⟩
abbrev cJ2_putCharsAt_cd4e5 : ByteArray := prog_35_method_81_code
def yJ2_putCharsAt_cd4e5 : MethodName := ⟨RJ2, "putCharsAt", "([BICCCC)I"⟩
abbrev cJ2_charAt_3b067 : ByteArray := prog_35_method_83_code
def yJ2_charAt_3b067 : MethodName := ⟨RJ2, "charAt", "([BI)C"⟩
abbrev cJ2_inflate_0e8fd : ByteArray := prog_35_method_86_code
def yJ2_inflate_0e8fd : MethodName := ⟨RJ2, "inflate", "([BI[BII)V"⟩
abbrev cJ2_getChars_ba4f3 : ByteArray := prog_35_method_89_code
def yJ2_getChars_ba4f3 : MethodName := ⟨RJ2, "getChars", "(II[B)I"⟩
abbrev cJ2_checkIndex_2214a : ByteArray := prog_35_method_91_code
def yJ2_checkIndex_2214a : MethodName := ⟨RJ2, "checkIndex", "(I[B)V"⟩
abbrev cJ2_checkBoundsBeginEnd_d044e : ByteArray := prog_35_method_93_code
def yJ2_checkBoundsBeginEnd_d044e : MethodName := ⟨RJ2, "checkBoundsBeginEnd", "(II[B)V"⟩
abbrev cJ2_checkBoundsOffCount_d044e : ByteArray := prog_35_method_94_code
def yJ2_checkBoundsOffCount_d044e : MethodName := ⟨RJ2, "checkBoundsOffCount", "(II[B)V"⟩
def RJ10 : String := "java/lang/System"
def TJ10 : u_T := fun k => match k with
  | _ => ("", "", "", false)
def tyJ10 : Nat → FieldType := fun k => match k with
  | _ => .int
abbrev wsJ100 : List Cond := u_ws RJ10 TJ10 0
theorem nmJ10 : ∀ a, a < 0 → ∀ b, b < 0 → a ≠ b → (TJ10 a).2.1 ≠ (TJ10 b).2.1 := by decide +kernel
theorem tyJ10_ok : ∀ k, k < 0 → parseFieldDescriptor (TJ10 k).2.2.1 = some (tyJ10 k) := by decide +kernel
def RJxfd54e : String := "java/lang/constant/Constable"
def TJxfd54e : u_T := fun k => match k with
  | _ => ("", "", "", false)
def tyJxfd54e : Nat → FieldType := fun k => match k with
  | _ => .int
abbrev wsJxfd54e0 : List Cond := u_ws RJxfd54e TJxfd54e 0
theorem nmJxfd54e : ∀ a, a < 0 → ∀ b, b < 0 → a ≠ b → (TJxfd54e a).2.1 ≠ (TJxfd54e b).2.1 := by decide +kernel
theorem tyJxfd54e_ok : ∀ k, k < 0 → parseFieldDescriptor (TJxfd54e k).2.2.1 = some (tyJxfd54e k) := by decide +kernel
def RJx3cf43 : String := "java/lang/constant/ConstantDesc"
def TJx3cf43 : u_T := fun k => match k with
  | _ => ("", "", "", false)
def tyJx3cf43 : Nat → FieldType := fun k => match k with
  | _ => .int
abbrev wsJx3cf430 : List Cond := u_ws RJx3cf43 TJx3cf43 0
theorem nmJx3cf43 : ∀ a, a < 0 → ∀ b, b < 0 → a ≠ b → (TJx3cf43 a).2.1 ≠ (TJx3cf43 b).2.1 := by decide +kernel
theorem tyJx3cf43_ok : ∀ k, k < 0 → parseFieldDescriptor (TJx3cf43 k).2.2.1 = some (tyJx3cf43 k) := by decide +kernel
def RJ7 : String := "java/util/Arrays"
def TJ7 : u_T := fun k => match k with
  | _ => ("", "", "", false)
def tyJ7 : Nat → FieldType := fun k => match k with
  | _ => .int
abbrev wsJ70 : List Cond := u_ws RJ7 TJ7 0
theorem nmJ7 : ∀ a, a < 0 → ∀ b, b < 0 → a ≠ b → (TJ7 a).2.1 ≠ (TJ7 b).2.1 := by decide +kernel
theorem tyJ7_ok : ∀ k, k < 0 → parseFieldDescriptor (TJ7 k).2.2.1 = some (tyJ7 k) := by decide +kernel
abbrev cJ7_rangeCheck_23922 : ByteArray := prog_41_method_30_code
def yJ7_rangeCheck_23922 : MethodName := ⟨RJ7, "rangeCheck", "(III)V"⟩
abbrev cJ7_fill_eb02e : ByteArray := prog_41_method_110_code
def yJ7_fill_eb02e : MethodName := ⟨RJ7, "fill", "([BIIB)V"⟩
abbrev cJ7_copyOf_9075b : ByteArray := prog_41_method_121_code
def yJ7_copyOf_9075b : MethodName := ⟨RJ7, "copyOf", "([BI)[B"⟩
abbrev cJ7_checkLength_df160 : ByteArray := prog_41_method_131_code
def yJ7_checkLength_df160 : MethodName := ⟨RJ7, "checkLength", "(II)V"⟩
abbrev cJ7_copyOfRange_39247 : ByteArray := prog_41_method_132_code
def yJ7_copyOfRange_39247 : MethodName := ⟨RJ7, "copyOfRange", "([BII)[B"⟩
abbrev cJ7_copyOfRangeByte_39247 : ByteArray := prog_41_method_133_code
def yJ7_copyOfRangeByte_39247 : MethodName := ⟨RJ7, "copyOfRangeByte", "([BII)[B"⟩
def RJ8 : String := "jdk/internal/util/ArraysSupport"
def TJ8 : u_T := fun k => match k with
  | _ => ("", "", "", false)
def tyJ8 : Nat → FieldType := fun k => match k with
  | _ => .int
abbrev wsJ80 : List Cond := u_ws RJ8 TJ8 0
theorem nmJ8 : ∀ a, a < 0 → ∀ b, b < 0 → a ≠ b → (TJ8 a).2.1 ≠ (TJ8 b).2.1 := by decide +kernel
theorem tyJ8_ok : ∀ k, k < 0 → parseFieldDescriptor (TJ8 k).2.2.1 = some (tyJ8 k) := by decide +kernel
abbrev cJ8_newLength_cabcc : ByteArray := prog_43_method_27_code
def yJ8_newLength_cabcc : MethodName := ⟨RJ8, "newLength", "(III)I"⟩
abbrev cJ8_hugeLength_7cf53 : ByteArray := prog_43_method_28_code
def yJ8_hugeLength_7cf53 : MethodName := ⟨RJ8, "hugeLength", "(II)I"⟩
def RJ3 : String := "jdk/internal/util/Preconditions"
def TJ3 : u_T := fun k => match k with
  | _ => ("", "", "", false)
def tyJ3 : Nat → FieldType := fun k => match k with
  | _ => .int
abbrev wsJ30 : List Cond := u_ws RJ3 TJ3 0
theorem nmJ3 : ∀ a, a < 0 → ∀ b, b < 0 → a ≠ b → (TJ3 a).2.1 ≠ (TJ3 b).2.1 := by decide +kernel
theorem tyJ3_ok : ∀ k, k < 0 → parseFieldDescriptor (TJ3 k).2.2.1 = some (tyJ3 k) := by decide +kernel
abbrev cJ3_checkIndex_8e157 : ByteArray := prog_44_method_11_code
def yJ3_checkIndex_8e157 : MethodName := ⟨RJ3, "checkIndex", "(IILjava/util/function/BiFunction;)I"⟩
abbrev cJ3_checkFromToIndex_8c36e : ByteArray := prog_44_method_12_code
def yJ3_checkFromToIndex_8c36e : MethodName := ⟨RJ3, "checkFromToIndex", "(IIILjava/util/function/BiFunction;)I"⟩
abbrev cJ3_checkFromIndexSize_8c36e : ByteArray := prog_44_method_13_code
def yJ3_checkFromIndexSize_8c36e : MethodName := ⟨RJ3, "checkFromIndexSize", "(IIILjava/util/function/BiFunction;)I"⟩
def RL : String := "PromiseDepotLaw"
abbrev cL_cell : ByteArray := method_2_code
def yL_cell : MethodName := ⟨RL, "cell", "([II)I"⟩
abbrev cL_addShelf : ByteArray := method_3_code
def yL_addShelf : MethodName := ⟨RL, "addShelf", "(LPromiseDepot;II)I"⟩
abbrev cL_count : ByteArray := method_4_code
def yL_count : MethodName := ⟨RL, "count", "(LPromiseDepot;I)I"⟩
abbrev cL_shelfFor : ByteArray := method_5_code
def yL_shelfFor : MethodName := ⟨RL, "shelfFor", "(LPromiseDepot;II)I"⟩
abbrev cL_countedDay : ByteArray := method_6_code
def yL_countedDay : MethodName := ⟨RL, "countedDay", "(LPromiseDepot;I)I"⟩
abbrev cL_shelfToCount : ByteArray := method_7_code
def yL_shelfToCount : MethodName := ⟨RL, "shelfToCount", "(LPromiseDepot;I)I"⟩
abbrev cL_receive : ByteArray := method_8_code
def yL_receive : MethodName := ⟨RL, "receive", "(LPromiseDepot;IIII)I"⟩
abbrev cL_split : ByteArray := method_9_code
def yL_split : MethodName := ⟨RL, "split", "(LPromiseDepot;II)I"⟩
abbrev cL_mix : ByteArray := method_10_code
def yL_mix : MethodName := ⟨RL, "mix", "(LPromiseDepot;II)I"⟩
abbrev cL_move : ByteArray := method_11_code
def yL_move : MethodName := ⟨RL, "move", "(LPromiseDepot;II)I"⟩
abbrev cL_ship : ByteArray := method_12_code
def yL_ship : MethodName := ⟨RL, "ship", "(LPromiseDepot;II)I"⟩
abbrev cL_recall : ByteArray := method_13_code
def yL_recall : MethodName := ⟨RL, "recall", "(LPromiseDepot;I)I"⟩
abbrev cL_shelfOf : ByteArray := method_14_code
def yL_shelfOf : MethodName := ⟨RL, "shelfOf", "(LPromiseDepot;I)I"⟩
abbrev cL_firstToShip : ByteArray := method_15_code
def yL_firstToShip : MethodName := ⟨RL, "firstToShip", "(LPromiseDepot;I)I"⟩
abbrev cL_lotByExpiry : ByteArray := method_16_code
def yL_lotByExpiry : MethodName := ⟨RL, "lotByExpiry", "(LPromiseDepot;I)I"⟩
abbrev cL_compost : ByteArray := method_17_code
def yL_compost : MethodName := ⟨RL, "compost", "(LPromiseDepot;)I"⟩
abbrev cL_nextCompost : ByteArray := method_18_code
def yL_nextCompost : MethodName := ⟨RL, "nextCompost", "(LPromiseDepot;)I"⟩
abbrev cL_nextCompostByScan : ByteArray := method_19_code
def yL_nextCompostByScan : MethodName := ⟨RL, "nextCompostByScan", "(LPromiseDepot;)I"⟩
abbrev cL_pass : ByteArray := method_20_code
def yL_pass : MethodName := ⟨RL, "pass", "(LPromiseDepot;I)I"⟩
abbrev cL_meanVolume : ByteArray := method_21_code
def yL_meanVolume : MethodName := ⟨RL, "meanVolume", "(LPromiseDepot;)D"⟩
abbrev cL_expiredShare : ByteArray := method_22_code
def yL_expiredShare : MethodName := ⟨RL, "expiredShare", "(LPromiseDepot;)F"⟩
abbrev cL_execute : ByteArray := method_23_code
def yL_execute : MethodName := ⟨RL, "execute", "(LPromiseDepot;)I"⟩
abbrev cL_denial : ByteArray := method_24_code
def yL_denial : MethodName := ⟨RL, "denial", "(LPromiseDepot;)I"⟩
abbrev cL_denialCause : ByteArray := method_25_code
def yL_denialCause : MethodName := ⟨RL, "denialCause", "(LPromiseDepot;)I"⟩
abbrev cL_undo : ByteArray := method_26_code
def yL_undo : MethodName := ⟨RL, "undo", "(LPromiseDepot;)I"⟩
abbrev cL_restore : ByteArray := method_27_code
def yL_restore : MethodName := ⟨RL, "restore", "(LPromiseDepot;)I"⟩
abbrev cL_put : ByteArray := method_28_code
def yL_put : MethodName := ⟨RL, "put", "(LPromiseDepot;C)Z"⟩
abbrev cL_typed : ByteArray := method_29_code
def yL_typed : MethodName := ⟨RL, "typed", "(LPromiseDepot;Ljava/lang/String;)LPromiseDepot;"⟩
abbrev cL_act : ByteArray := method_30_code
def yL_act : MethodName := ⟨RL, "act", "(LPromiseDepot;I)I"⟩
abbrev cL_digest : ByteArray := method_31_code
def yL_digest : MethodName := ⟨RL, "digest", "(LPromiseDepot;)J"⟩
abbrev cL_areShelves : ByteArray := method_32_code
def yL_areShelves : MethodName := ⟨RL, "areShelves", "(LPromiseDepot;)Z"⟩
abbrev cL_isPlace : ByteArray := method_33_code
def yL_isPlace : MethodName := ⟨RL, "isPlace", "(LPromiseDepot;II)Z"⟩
abbrev cL_areLots : ByteArray := method_34_code
def yL_areLots : MethodName := ⟨RL, "areLots", "(LPromiseDepot;)Z"⟩
abbrev cL_isRecalled : ByteArray := method_35_code
def yL_isRecalled : MethodName := ⟨RL, "isRecalled", "(LPromiseDepot;I)Z"⟩
abbrev cL_isShipped : ByteArray := method_36_code
def yL_isShipped : MethodName := ⟨RL, "isShipped", "(LPromiseDepot;I)Z"⟩
abbrev cL_isSplit : ByteArray := method_37_code
def yL_isSplit : MethodName := ⟨RL, "isSplit", "(LPromiseDepot;I)Z"⟩
abbrev cL_isFit : ByteArray := method_38_code
def yL_isFit : MethodName := ⟨RL, "isFit", "(LPromiseDepot;)Z"⟩
abbrev cL_law : ByteArray := code
def yL_law : MethodName := ⟨RL, "law", "([I)Z"⟩
abbrev vwCl : List vw_C := [(RJ0, TJ0, 4), (RJ4, TJ4, 4), (RJx00060, TJx00060, 6), (RJx7c733, TJx7c733, 6), (RX1, TX1, 2), (RX2, TX2, 1), (RX3, TX3, 1), (RX4, TX4, 3), (RX5, TX5, 8), (RX6, TX6, 6), (RX7, TX7, 1), (RX8, TX8, 4), (RX9, TX9, 7), (RX10, TX10, 6), (RX11, TX11, 13)]
end
section
theorem dX0_perform_0 : decode cX0_perform 0 = .ok (.iload_n 1, 1) := by decide +kernel
theorem dX0_perform_1 : decode cX0_perform 1 = .ok (.tableswitch 148 0 8 #[51, 61, 72, 79, 86, 106, 113, 119, 124], 51) := by decide +kernel
theorem dX0_perform_52 : decode cX0_perform 52 = .ok (.aload_n 0, 1) := by decide +kernel
theorem dX0_perform_53 : decode cX0_perform 53 = .ok (.getfield 9, 3) := by decide +kernel
theorem dX0_perform_56 : decode cX0_perform 56 = .ok (.iload_n 2, 1) := by decide +kernel
theorem dX0_perform_57 : decode cX0_perform 57 = .ok (.iload_n 3, 1) := by decide +kernel
theorem dX0_perform_58 : decode cX0_perform 58 = .ok (.invokevirtual 15, 3) := by decide +kernel
theorem dX0_perform_61 : decode cX0_perform 61 = .ok (.ireturn, 1) := by decide +kernel
theorem dX0_perform_62 : decode cX0_perform 62 = .ok (.aload_n 0, 1) := by decide +kernel
theorem dX0_perform_63 : decode cX0_perform 63 = .ok (.iload_n 2, 1) := by decide +kernel
theorem dX0_perform_64 : decode cX0_perform 64 = .ok (.iload_n 3, 1) := by decide +kernel
theorem dX0_perform_65 : decode cX0_perform 65 = .ok (.iload 4, 2) := by decide +kernel
theorem dX0_perform_67 : decode cX0_perform 67 = .ok (.iload 5, 2) := by decide +kernel
theorem dX0_perform_69 : decode cX0_perform 69 = .ok (.invokestatic 21, 3) := by decide +kernel
theorem dX0_perform_72 : decode cX0_perform 72 = .ok (.ireturn, 1) := by decide +kernel
theorem dX0_perform_73 : decode cX0_perform 73 = .ok (.aload_n 0, 1) := by decide +kernel
theorem dX0_perform_74 : decode cX0_perform 74 = .ok (.iload_n 2, 1) := by decide +kernel
theorem dX0_perform_75 : decode cX0_perform 75 = .ok (.iload_n 3, 1) := by decide +kernel
theorem dX0_perform_76 : decode cX0_perform 76 = .ok (.invokestatic 27, 3) := by decide +kernel
theorem dX0_perform_79 : decode cX0_perform 79 = .ok (.ireturn, 1) := by decide +kernel
theorem dX0_perform_80 : decode cX0_perform 80 = .ok (.aload_n 0, 1) := by decide +kernel
theorem dX0_perform_81 : decode cX0_perform 81 = .ok (.iload_n 2, 1) := by decide +kernel
theorem dX0_perform_82 : decode cX0_perform 82 = .ok (.iload_n 3, 1) := by decide +kernel
theorem dX0_perform_83 : decode cX0_perform 83 = .ok (.invokestatic 31, 3) := by decide +kernel
theorem dX0_perform_86 : decode cX0_perform 86 = .ok (.ireturn, 1) := by decide +kernel
theorem dX0_perform_87 : decode cX0_perform 87 = .ok (.aload_n 0, 1) := by decide +kernel
theorem dX0_perform_88 : decode cX0_perform 88 = .ok (.getfield 34, 3) := by decide +kernel
theorem dX0_perform_91 : decode cX0_perform 91 = .ok (.getfield 38, 3) := by decide +kernel
theorem dX0_perform_94 : decode cX0_perform 94 = .ok (.iload_n 2, 1) := by decide +kernel
theorem dX0_perform_95 : decode cX0_perform 95 = .ok (.iload_n 3, 1) := by decide +kernel
theorem dX0_perform_96 : decode cX0_perform 96 = .ok (.invokevirtual 44, 3) := by decide +kernel
theorem dX0_perform_99 : decode cX0_perform 99 = .ok (.aload_n 0, 1) := by decide +kernel
theorem dX0_perform_100 : decode cX0_perform 100 = .ok (.iload_n 3, 1) := by decide +kernel
theorem dX0_perform_101 : decode cX0_perform 101 = .ok (.iconst (-1), 1) := by decide +kernel
theorem dX0_perform_102 : decode cX0_perform 102 = .ok (.iconst (-1), 1) := by decide +kernel
theorem dX0_perform_103 : decode cX0_perform 103 = .ok (.invokevirtual 50, 3) := by decide +kernel
theorem dX0_perform_106 : decode cX0_perform 106 = .ok (.ireturn, 1) := by decide +kernel
theorem dX0_perform_107 : decode cX0_perform 107 = .ok (.aload_n 0, 1) := by decide +kernel
theorem dX0_perform_108 : decode cX0_perform 108 = .ok (.iload_n 2, 1) := by decide +kernel
theorem dX0_perform_109 : decode cX0_perform 109 = .ok (.iload_n 3, 1) := by decide +kernel
theorem dX0_perform_110 : decode cX0_perform 110 = .ok (.invokestatic 54, 3) := by decide +kernel
theorem dX0_perform_113 : decode cX0_perform 113 = .ok (.ireturn, 1) := by decide +kernel
theorem dX0_perform_114 : decode cX0_perform 114 = .ok (.aload_n 0, 1) := by decide +kernel
theorem dX0_perform_115 : decode cX0_perform 115 = .ok (.iload_n 2, 1) := by decide +kernel
theorem dX0_perform_116 : decode cX0_perform 116 = .ok (.invokestatic 57, 3) := by decide +kernel
theorem dX0_perform_119 : decode cX0_perform 119 = .ok (.ireturn, 1) := by decide +kernel
theorem dX0_perform_120 : decode cX0_perform 120 = .ok (.aload_n 0, 1) := by decide +kernel
theorem dX0_perform_121 : decode cX0_perform 121 = .ok (.invokestatic 61, 3) := by decide +kernel
theorem dX0_perform_124 : decode cX0_perform 124 = .ok (.ireturn, 1) := by decide +kernel
theorem dX0_perform_125 : decode cX0_perform 125 = .ok (.aload_n 0, 1) := by decide +kernel
theorem dX0_perform_126 : decode cX0_perform 126 = .ok (.getfield 9, 3) := by decide +kernel
theorem dX0_perform_129 : decode cX0_perform 129 = .ok (.getfield 65, 3) := by decide +kernel
theorem dX0_perform_132 : decode cX0_perform 132 = .ok (.iload_n 2, 1) := by decide +kernel
theorem dX0_perform_133 : decode cX0_perform 133 = .ok (.aload_n 0, 1) := by decide +kernel
theorem dX0_perform_134 : decode cX0_perform 134 = .ok (.getfield 68, 3) := by decide +kernel
theorem dX0_perform_137 : decode cX0_perform 137 = .ok (.invokevirtual 44, 3) := by decide +kernel
theorem dX0_perform_140 : decode cX0_perform 140 = .ok (.aload_n 0, 1) := by decide +kernel
theorem dX0_perform_141 : decode cX0_perform 141 = .ok (.getfield 34, 3) := by decide +kernel
theorem dX0_perform_144 : decode cX0_perform 144 = .ok (.iload_n 2, 1) := by decide +kernel
theorem dX0_perform_145 : decode cX0_perform 145 = .ok (.invokevirtual 72, 3) := by decide +kernel
theorem dX0_perform_148 : decode cX0_perform 148 = .ok (.ireturn, 1) := by decide +kernel
theorem dX0_perform_149 : decode cX0_perform 149 = .ok (.aload_n 0, 1) := by decide +kernel
theorem dX0_perform_150 : decode cX0_perform 150 = .ok (.iload_n 2, 1) := by decide +kernel
theorem dX0_perform_151 : decode cX0_perform 151 = .ok (.invokestatic 76, 3) := by decide +kernel
theorem dX0_perform_154 : decode cX0_perform 154 = .ok (.ireturn, 1) := by decide +kernel
theorem dX0_takeIn_0 : decode cX0_takeIn 0 = .ok (.aload_n 0, 1) := by decide +kernel
theorem dX0_takeIn_1 : decode cX0_takeIn 1 = .ok (.iload_n 3, 1) := by decide +kernel
theorem dX0_takeIn_2 : decode cX0_takeIn 2 = .ok (.iload_n 2, 1) := by decide +kernel
theorem dX0_takeIn_3 : decode cX0_takeIn 3 = .ok (.iconst (-1), 1) := by decide +kernel
theorem dX0_takeIn_4 : decode cX0_takeIn 4 = .ok (.iconst (-1), 1) := by decide +kernel
theorem dX0_takeIn_5 : decode cX0_takeIn 5 = .ok (.invokevirtual 79, 3) := by decide +kernel
theorem dX0_takeIn_8 : decode cX0_takeIn 8 = .ok (.istore 5, 2) := by decide +kernel
theorem dX0_takeIn_10 : decode cX0_takeIn 10 = .ok (.aload_n 0, 1) := by decide +kernel
theorem dX0_takeIn_11 : decode cX0_takeIn 11 = .ok (.dup, 1) := by decide +kernel
theorem dX0_takeIn_12 : decode cX0_takeIn 12 = .ok (.getfield 83, 3) := by decide +kernel
theorem dX0_takeIn_15 : decode cX0_takeIn 15 = .ok (.iload_n 2, 1) := by decide +kernel
theorem dX0_takeIn_16 : decode cX0_takeIn 16 = .ok (.iadd, 1) := by decide +kernel
theorem dX0_takeIn_17 : decode cX0_takeIn 17 = .ok (.putfield 83, 3) := by decide +kernel
theorem dX0_takeIn_20 : decode cX0_takeIn 20 = .ok (.aload_n 0, 1) := by decide +kernel
theorem dX0_takeIn_21 : decode cX0_takeIn 21 = .ok (.getfield 34, 3) := by decide +kernel
theorem dX0_takeIn_24 : decode cX0_takeIn 24 = .ok (.iload_n 1, 1) := by decide +kernel
theorem dX0_takeIn_25 : decode cX0_takeIn 25 = .ok (.iload_n 3, 1) := by decide +kernel
theorem dX0_takeIn_26 : decode cX0_takeIn 26 = .ok (.iload_n 2, 1) := by decide +kernel
theorem dX0_takeIn_27 : decode cX0_takeIn 27 = .ok (.aload_n 0, 1) := by decide +kernel
theorem dX0_takeIn_28 : decode cX0_takeIn 28 = .ok (.getfield 68, 3) := by decide +kernel
theorem dX0_takeIn_31 : decode cX0_takeIn 31 = .ok (.iload 4, 2) := by decide +kernel
theorem dX0_takeIn_33 : decode cX0_takeIn 33 = .ok (.iadd, 1) := by decide +kernel
theorem dX0_takeIn_34 : decode cX0_takeIn 34 = .ok (.iload 5, 2) := by decide +kernel
theorem dX0_takeIn_36 : decode cX0_takeIn 36 = .ok (.invokevirtual 86, 3) := by decide +kernel
theorem dX0_takeIn_39 : decode cX0_takeIn 39 = .ok (.ireturn, 1) := by decide +kernel
theorem dX0_divide_0 : decode cX0_divide 0 = .ok (.aload_n 0, 1) := by decide +kernel
theorem dX0_divide_1 : decode cX0_divide 1 = .ok (.getfield 34, 3) := by decide +kernel
theorem dX0_divide_4 : decode cX0_divide 4 = .ok (.astore_n 3, 1) := by decide +kernel
theorem dX0_divide_5 : decode cX0_divide 5 = .ok (.aload_n 3, 1) := by decide +kernel
theorem dX0_divide_6 : decode cX0_divide 6 = .ok (.getfield 89, 3) := by decide +kernel
theorem dX0_divide_9 : decode cX0_divide 9 = .ok (.iload_n 1, 1) := by decide +kernel
theorem dX0_divide_10 : decode cX0_divide 10 = .ok (.aload_n 3, 1) := by decide +kernel
theorem dX0_divide_11 : decode cX0_divide 11 = .ok (.getfield 89, 3) := by decide +kernel
theorem dX0_divide_14 : decode cX0_divide 14 = .ok (.iload_n 1, 1) := by decide +kernel
theorem dX0_divide_15 : decode cX0_divide 15 = .ok (.invokevirtual 92, 3) := by decide +kernel
theorem dX0_divide_18 : decode cX0_divide 18 = .ok (.iload_n 2, 1) := by decide +kernel
theorem dX0_divide_19 : decode cX0_divide 19 = .ok (.isub, 1) := by decide +kernel
theorem dX0_divide_20 : decode cX0_divide 20 = .ok (.invokevirtual 44, 3) := by decide +kernel
theorem dX0_divide_23 : decode cX0_divide 23 = .ok (.aload_n 3, 1) := by decide +kernel
theorem dX0_divide_24 : decode cX0_divide 24 = .ok (.aload_n 3, 1) := by decide +kernel
theorem dX0_divide_25 : decode cX0_divide 25 = .ok (.getfield 95, 3) := by decide +kernel
theorem dX0_divide_28 : decode cX0_divide 28 = .ok (.iload_n 1, 1) := by decide +kernel
theorem dX0_divide_29 : decode cX0_divide 29 = .ok (.invokevirtual 92, 3) := by decide +kernel
theorem dX0_divide_32 : decode cX0_divide 32 = .ok (.aload_n 3, 1) := by decide +kernel
theorem dX0_divide_33 : decode cX0_divide 33 = .ok (.getfield 98, 3) := by decide +kernel
theorem dX0_divide_36 : decode cX0_divide 36 = .ok (.iload_n 1, 1) := by decide +kernel
theorem dX0_divide_37 : decode cX0_divide 37 = .ok (.invokevirtual 92, 3) := by decide +kernel
theorem dX0_divide_40 : decode cX0_divide 40 = .ok (.iload_n 2, 1) := by decide +kernel
theorem dX0_divide_41 : decode cX0_divide 41 = .ok (.aload_n 3, 1) := by decide +kernel
theorem dX0_divide_42 : decode cX0_divide 42 = .ok (.getfield 101, 3) := by decide +kernel
theorem dX0_divide_45 : decode cX0_divide 45 = .ok (.iload_n 1, 1) := by decide +kernel
theorem dX0_divide_46 : decode cX0_divide 46 = .ok (.invokevirtual 92, 3) := by decide +kernel
theorem dX0_divide_49 : decode cX0_divide 49 = .ok (.aload_n 3, 1) := by decide +kernel
theorem dX0_divide_50 : decode cX0_divide 50 = .ok (.getfield 38, 3) := by decide +kernel
theorem dX0_divide_53 : decode cX0_divide 53 = .ok (.iload_n 1, 1) := by decide +kernel
theorem dX0_divide_54 : decode cX0_divide 54 = .ok (.invokevirtual 92, 3) := by decide +kernel
theorem dX0_divide_57 : decode cX0_divide 57 = .ok (.invokevirtual 86, 3) := by decide +kernel
theorem dX0_divide_60 : decode cX0_divide 60 = .ok (.istore 4, 2) := by decide +kernel
theorem dX0_divide_62 : decode cX0_divide 62 = .ok (.aload_n 3, 1) := by decide +kernel
theorem dX0_divide_63 : decode cX0_divide 63 = .ok (.iload 4, 2) := by decide +kernel
theorem dX0_divide_65 : decode cX0_divide 65 = .ok (.iload_n 1, 1) := by decide +kernel
theorem dX0_divide_66 : decode cX0_divide 66 = .ok (.iconst (-1), 1) := by decide +kernel
theorem dX0_divide_67 : decode cX0_divide 67 = .ok (.invokevirtual 104, 3) := by decide +kernel
theorem dX0_divide_70 : decode cX0_divide 70 = .ok (.iload 4, 2) := by decide +kernel
theorem dX0_divide_72 : decode cX0_divide 72 = .ok (.ireturn, 1) := by decide +kernel
theorem dX0_unite_0 : decode cX0_unite 0 = .ok (.aload_n 0, 1) := by decide +kernel
theorem dX0_unite_1 : decode cX0_unite 1 = .ok (.getfield 34, 3) := by decide +kernel
theorem dX0_unite_4 : decode cX0_unite 4 = .ok (.astore_n 3, 1) := by decide +kernel
theorem dX0_unite_5 : decode cX0_unite 5 = .ok (.aload_n 3, 1) := by decide +kernel
theorem dX0_unite_6 : decode cX0_unite 6 = .ok (.getfield 98, 3) := by decide +kernel
theorem dX0_unite_9 : decode cX0_unite 9 = .ok (.iload_n 1, 1) := by decide +kernel
theorem dX0_unite_10 : decode cX0_unite 10 = .ok (.invokevirtual 92, 3) := by decide +kernel
theorem dX0_unite_13 : decode cX0_unite 13 = .ok (.istore 4, 2) := by decide +kernel
theorem dX0_unite_15 : decode cX0_unite 15 = .ok (.aload_n 3, 1) := by decide +kernel
theorem dX0_unite_16 : decode cX0_unite 16 = .ok (.getfield 89, 3) := by decide +kernel
theorem dX0_unite_19 : decode cX0_unite 19 = .ok (.iload_n 1, 1) := by decide +kernel
theorem dX0_unite_20 : decode cX0_unite 20 = .ok (.invokevirtual 92, 3) := by decide +kernel
theorem dX0_unite_23 : decode cX0_unite 23 = .ok (.aload_n 3, 1) := by decide +kernel
theorem dX0_unite_24 : decode cX0_unite 24 = .ok (.getfield 89, 3) := by decide +kernel
theorem dX0_unite_27 : decode cX0_unite 27 = .ok (.iload_n 2, 1) := by decide +kernel
theorem dX0_unite_28 : decode cX0_unite 28 = .ok (.invokevirtual 92, 3) := by decide +kernel
theorem dX0_unite_31 : decode cX0_unite 31 = .ok (.iadd, 1) := by decide +kernel
theorem dX0_unite_32 : decode cX0_unite 32 = .ok (.istore 5, 2) := by decide +kernel
theorem dX0_unite_34 : decode cX0_unite 34 = .ok (.aload_n 3, 1) := by decide +kernel
theorem dX0_unite_35 : decode cX0_unite 35 = .ok (.getfield 101, 3) := by decide +kernel
theorem dX0_unite_38 : decode cX0_unite 38 = .ok (.iload_n 1, 1) := by decide +kernel
theorem dX0_unite_39 : decode cX0_unite 39 = .ok (.invokevirtual 92, 3) := by decide +kernel
theorem dX0_unite_42 : decode cX0_unite 42 = .ok (.aload_n 3, 1) := by decide +kernel
theorem dX0_unite_43 : decode cX0_unite 43 = .ok (.getfield 101, 3) := by decide +kernel
theorem dX0_unite_46 : decode cX0_unite 46 = .ok (.iload_n 2, 1) := by decide +kernel
theorem dX0_unite_47 : decode cX0_unite 47 = .ok (.invokevirtual 92, 3) := by decide +kernel
theorem dX0_unite_50 : decode cX0_unite 50 = .ok (.invokestatic 108, 3) := by decide +kernel
theorem dX0_unite_53 : decode cX0_unite 53 = .ok (.istore 6, 2) := by decide +kernel
theorem dX0_unite_55 : decode cX0_unite 55 = .ok (.aload_n 3, 1) := by decide +kernel
theorem dX0_unite_56 : decode cX0_unite 56 = .ok (.iload_n 1, 1) := by decide +kernel
theorem dX0_unite_57 : decode cX0_unite 57 = .ok (.invokevirtual 113, 3) := by decide +kernel
theorem dX0_unite_60 : decode cX0_unite 60 = .ok (.aload_n 3, 1) := by decide +kernel
theorem dX0_unite_61 : decode cX0_unite 61 = .ok (.iload_n 2, 1) := by decide +kernel
theorem dX0_unite_62 : decode cX0_unite 62 = .ok (.invokevirtual 113, 3) := by decide +kernel
theorem dX0_unite_65 : decode cX0_unite 65 = .ok (.aload_n 0, 1) := by decide +kernel
theorem dX0_unite_66 : decode cX0_unite 66 = .ok (.iload 4, 2) := by decide +kernel
theorem dX0_unite_68 : decode cX0_unite 68 = .ok (.iload 5, 2) := by decide +kernel
theorem dX0_unite_70 : decode cX0_unite 70 = .ok (.iconst (-1), 1) := by decide +kernel
theorem dX0_unite_71 : decode cX0_unite 71 = .ok (.iconst (-1), 1) := by decide +kernel
theorem dX0_unite_72 : decode cX0_unite 72 = .ok (.invokevirtual 79, 3) := by decide +kernel
theorem dX0_unite_75 : decode cX0_unite 75 = .ok (.istore 7, 2) := by decide +kernel
theorem dX0_unite_77 : decode cX0_unite 77 = .ok (.aload_n 3, 1) := by decide +kernel
theorem dX0_unite_78 : decode cX0_unite 78 = .ok (.aload_n 3, 1) := by decide +kernel
theorem dX0_unite_79 : decode cX0_unite 79 = .ok (.getfield 95, 3) := by decide +kernel
theorem dX0_unite_82 : decode cX0_unite 82 = .ok (.iload_n 1, 1) := by decide +kernel
theorem dX0_unite_83 : decode cX0_unite 83 = .ok (.invokevirtual 92, 3) := by decide +kernel
theorem dX0_unite_86 : decode cX0_unite 86 = .ok (.iload 4, 2) := by decide +kernel
theorem dX0_unite_88 : decode cX0_unite 88 = .ok (.iload 5, 2) := by decide +kernel
theorem dX0_unite_90 : decode cX0_unite 90 = .ok (.iload 6, 2) := by decide +kernel
theorem dX0_unite_92 : decode cX0_unite 92 = .ok (.iload 7, 2) := by decide +kernel
theorem dX0_unite_94 : decode cX0_unite 94 = .ok (.invokevirtual 86, 3) := by decide +kernel
theorem dX0_unite_97 : decode cX0_unite 97 = .ok (.istore 8, 2) := by decide +kernel
theorem dX0_unite_99 : decode cX0_unite 99 = .ok (.aload_n 3, 1) := by decide +kernel
theorem dX0_unite_100 : decode cX0_unite 100 = .ok (.iload 8, 2) := by decide +kernel
theorem dX0_unite_102 : decode cX0_unite 102 = .ok (.iload_n 1, 1) := by decide +kernel
theorem dX0_unite_103 : decode cX0_unite 103 = .ok (.iload_n 2, 1) := by decide +kernel
theorem dX0_unite_104 : decode cX0_unite 104 = .ok (.invokevirtual 104, 3) := by decide +kernel
theorem dX0_unite_107 : decode cX0_unite 107 = .ok (.iload 8, 2) := by decide +kernel
theorem dX0_unite_109 : decode cX0_unite 109 = .ok (.ireturn, 1) := by decide +kernel
theorem dX0_sendOut_0 : decode cX0_sendOut 0 = .ok (.aload_n 0, 1) := by decide +kernel
theorem dX0_sendOut_1 : decode cX0_sendOut 1 = .ok (.getfield 34, 3) := by decide +kernel
theorem dX0_sendOut_4 : decode cX0_sendOut 4 = .ok (.astore_n 3, 1) := by decide +kernel
theorem dX0_sendOut_5 : decode cX0_sendOut 5 = .ok (.iload_n 2, 1) := by decide +kernel
theorem dX0_sendOut_6 : decode cX0_sendOut 6 = .ok (.istore 4, 2) := by decide +kernel
theorem dX0_sendOut_8 : decode cX0_sendOut 8 = .ok (.iconst 0, 1) := by decide +kernel
theorem dX0_sendOut_9 : decode cX0_sendOut 9 = .ok (.istore 5, 2) := by decide +kernel
theorem dX0_sendOut_11 : decode cX0_sendOut 11 = .ok (.iload 4, 2) := by decide +kernel
theorem dX0_sendOut_13 : decode cX0_sendOut 13 = .ok (.ifCond .le 76, 3) := by decide +kernel
theorem dX0_sendOut_16 : decode cX0_sendOut 16 = .ok (.iload 5, 2) := by decide +kernel
theorem dX0_sendOut_18 : decode cX0_sendOut 18 = .ok (.bipush 8, 2) := by decide +kernel
theorem dX0_sendOut_20 : decode cX0_sendOut 20 = .ok (.if_icmp .ge 69, 3) := by decide +kernel
theorem dX0_sendOut_23 : decode cX0_sendOut 23 = .ok (.aload_n 0, 1) := by decide +kernel
theorem dX0_sendOut_24 : decode cX0_sendOut 24 = .ok (.iload_n 1, 1) := by decide +kernel
theorem dX0_sendOut_25 : decode cX0_sendOut 25 = .ok (.invokevirtual 117, 3) := by decide +kernel
theorem dX0_sendOut_28 : decode cX0_sendOut 28 = .ok (.istore 6, 2) := by decide +kernel
theorem dX0_sendOut_30 : decode cX0_sendOut 30 = .ok (.aload_n 3, 1) := by decide +kernel
theorem dX0_sendOut_31 : decode cX0_sendOut 31 = .ok (.getfield 89, 3) := by decide +kernel
theorem dX0_sendOut_34 : decode cX0_sendOut 34 = .ok (.iload 6, 2) := by decide +kernel
theorem dX0_sendOut_36 : decode cX0_sendOut 36 = .ok (.invokevirtual 92, 3) := by decide +kernel
theorem dX0_sendOut_39 : decode cX0_sendOut 39 = .ok (.istore 7, 2) := by decide +kernel
theorem dX0_sendOut_41 : decode cX0_sendOut 41 = .ok (.iload 7, 2) := by decide +kernel
theorem dX0_sendOut_43 : decode cX0_sendOut 43 = .ok (.iload 4, 2) := by decide +kernel
theorem dX0_sendOut_45 : decode cX0_sendOut 45 = .ok (.if_icmp .le 20, 3) := by decide +kernel
theorem dX0_sendOut_48 : decode cX0_sendOut 48 = .ok (.aload_n 3, 1) := by decide +kernel
theorem dX0_sendOut_49 : decode cX0_sendOut 49 = .ok (.getfield 89, 3) := by decide +kernel
theorem dX0_sendOut_52 : decode cX0_sendOut 52 = .ok (.iload 6, 2) := by decide +kernel
theorem dX0_sendOut_54 : decode cX0_sendOut 54 = .ok (.iload 7, 2) := by decide +kernel
theorem dX0_sendOut_56 : decode cX0_sendOut 56 = .ok (.iload 4, 2) := by decide +kernel
theorem dX0_sendOut_58 : decode cX0_sendOut 58 = .ok (.isub, 1) := by decide +kernel
theorem dX0_sendOut_59 : decode cX0_sendOut 59 = .ok (.invokevirtual 44, 3) := by decide +kernel
theorem dX0_sendOut_62 : decode cX0_sendOut 62 = .ok (.goto 9, 3) := by decide +kernel
theorem dX0_sendOut_65 : decode cX0_sendOut 65 = .ok (.aload_n 3, 1) := by decide +kernel
theorem dX0_sendOut_66 : decode cX0_sendOut 66 = .ok (.iload 6, 2) := by decide +kernel
theorem dX0_sendOut_68 : decode cX0_sendOut 68 = .ok (.invokevirtual 113, 3) := by decide +kernel
theorem dX0_sendOut_71 : decode cX0_sendOut 71 = .ok (.iload 4, 2) := by decide +kernel
theorem dX0_sendOut_73 : decode cX0_sendOut 73 = .ok (.iload 7, 2) := by decide +kernel
theorem dX0_sendOut_75 : decode cX0_sendOut 75 = .ok (.iload 4, 2) := by decide +kernel
theorem dX0_sendOut_77 : decode cX0_sendOut 77 = .ok (.invokestatic 108, 3) := by decide +kernel
theorem dX0_sendOut_80 : decode cX0_sendOut 80 = .ok (.isub, 1) := by decide +kernel
theorem dX0_sendOut_81 : decode cX0_sendOut 81 = .ok (.istore 4, 2) := by decide +kernel
theorem dX0_sendOut_83 : decode cX0_sendOut 83 = .ok (.iinc 5 1, 3) := by decide +kernel
theorem dX0_sendOut_86 : decode cX0_sendOut 86 = .ok (.goto (-75), 3) := by decide +kernel
theorem dX0_sendOut_89 : decode cX0_sendOut 89 = .ok (.aload_n 0, 1) := by decide +kernel
theorem dX0_sendOut_90 : decode cX0_sendOut 90 = .ok (.dup, 1) := by decide +kernel
theorem dX0_sendOut_91 : decode cX0_sendOut 91 = .ok (.getfield 120, 3) := by decide +kernel
theorem dX0_sendOut_94 : decode cX0_sendOut 94 = .ok (.iload_n 2, 1) := by decide +kernel
theorem dX0_sendOut_95 : decode cX0_sendOut 95 = .ok (.iadd, 1) := by decide +kernel
theorem dX0_sendOut_96 : decode cX0_sendOut 96 = .ok (.putfield 120, 3) := by decide +kernel
theorem dX0_sendOut_99 : decode cX0_sendOut 99 = .ok (.iload 5, 2) := by decide +kernel
theorem dX0_sendOut_101 : decode cX0_sendOut 101 = .ok (.ireturn, 1) := by decide +kernel
theorem dX0_callBack_0 : decode cX0_callBack 0 = .ok (.aload_n 0, 1) := by decide +kernel
theorem dX0_callBack_1 : decode cX0_callBack 1 = .ok (.getfield 34, 3) := by decide +kernel
theorem dX0_callBack_4 : decode cX0_callBack 4 = .ok (.iload_n 1, 1) := by decide +kernel
theorem dX0_callBack_5 : decode cX0_callBack 5 = .ok (.invokestatic 123, 3) := by decide +kernel
theorem dX0_callBack_8 : decode cX0_callBack 8 = .ok (.istore_n 2, 1) := by decide +kernel
theorem dX0_callBack_9 : decode cX0_callBack 9 = .ok (.iconst 0, 1) := by decide +kernel
theorem dX0_callBack_10 : decode cX0_callBack 10 = .ok (.istore_n 3, 1) := by decide +kernel
theorem dX0_callBack_11 : decode cX0_callBack 11 = .ok (.iload_n 3, 1) := by decide +kernel
theorem dX0_callBack_12 : decode cX0_callBack 12 = .ok (.aload_n 0, 1) := by decide +kernel
theorem dX0_callBack_13 : decode cX0_callBack 13 = .ok (.getfield 34, 3) := by decide +kernel
theorem dX0_callBack_16 : decode cX0_callBack 16 = .ok (.getfield 129, 3) := by decide +kernel
theorem dX0_callBack_19 : decode cX0_callBack 19 = .ok (.if_icmp .ge 42, 3) := by decide +kernel
theorem dX0_callBack_22 : decode cX0_callBack 22 = .ok (.iload_n 2, 1) := by decide +kernel
theorem dX0_callBack_23 : decode cX0_callBack 23 = .ok (.iload_n 3, 1) := by decide +kernel
theorem dX0_callBack_24 : decode cX0_callBack 24 = .ok (.ishr, 1) := by decide +kernel
theorem dX0_callBack_25 : decode cX0_callBack 25 = .ok (.iconst 1, 1) := by decide +kernel
theorem dX0_callBack_26 : decode cX0_callBack 26 = .ok (.iand, 1) := by decide +kernel
theorem dX0_callBack_27 : decode cX0_callBack 27 = .ok (.iconst 1, 1) := by decide +kernel
theorem dX0_callBack_28 : decode cX0_callBack 28 = .ok (.if_icmp .ne 27, 3) := by decide +kernel
theorem dX0_callBack_31 : decode cX0_callBack 31 = .ok (.aload_n 0, 1) := by decide +kernel
theorem dX0_callBack_32 : decode cX0_callBack 32 = .ok (.getfield 34, 3) := by decide +kernel
theorem dX0_callBack_35 : decode cX0_callBack 35 = .ok (.getfield 38, 3) := by decide +kernel
theorem dX0_callBack_38 : decode cX0_callBack 38 = .ok (.iload_n 3, 1) := by decide +kernel
theorem dX0_callBack_39 : decode cX0_callBack 39 = .ok (.iconst (-1), 1) := by decide +kernel
theorem dX0_callBack_40 : decode cX0_callBack 40 = .ok (.invokevirtual 44, 3) := by decide +kernel
theorem dX0_callBack_43 : decode cX0_callBack 43 = .ok (.aload_n 0, 1) := by decide +kernel
theorem dX0_callBack_44 : decode cX0_callBack 44 = .ok (.getfield 132, 3) := by decide +kernel
theorem dX0_callBack_47 : decode cX0_callBack 47 = .ok (.aload_n 0, 1) := by decide +kernel
theorem dX0_callBack_48 : decode cX0_callBack 48 = .ok (.getfield 34, 3) := by decide +kernel
theorem dX0_callBack_51 : decode cX0_callBack 51 = .ok (.iload_n 3, 1) := by decide +kernel
theorem dX0_callBack_52 : decode cX0_callBack 52 = .ok (.invokevirtual 136, 3) := by decide +kernel
theorem dX0_callBack_55 : decode cX0_callBack 55 = .ok (.iinc 3 1, 3) := by decide +kernel
theorem dX0_callBack_58 : decode cX0_callBack 58 = .ok (.goto (-47), 3) := by decide +kernel
theorem dX0_callBack_61 : decode cX0_callBack 61 = .ok (.iload_n 2, 1) := by decide +kernel
theorem dX0_callBack_62 : decode cX0_callBack 62 = .ok (.invokestatic 142, 3) := by decide +kernel
theorem dX0_callBack_65 : decode cX0_callBack 65 = .ok (.ireturn, 1) := by decide +kernel
theorem dX0_takeFromHeap_0 : decode cX0_takeFromHeap 0 = .ok (.aload_n 0, 1) := by decide +kernel
theorem dX0_takeFromHeap_1 : decode cX0_takeFromHeap 1 = .ok (.getfield 132, 3) := by decide +kernel
theorem dX0_takeFromHeap_4 : decode cX0_takeFromHeap 4 = .ok (.invokevirtual 147, 3) := by decide +kernel
theorem dX0_takeFromHeap_7 : decode cX0_takeFromHeap 7 = .ok (.istore_n 1, 1) := by decide +kernel
theorem dX0_takeFromHeap_8 : decode cX0_takeFromHeap 8 = .ok (.aload_n 0, 1) := by decide +kernel
theorem dX0_takeFromHeap_9 : decode cX0_takeFromHeap 9 = .ok (.getfield 34, 3) := by decide +kernel
theorem dX0_takeFromHeap_12 : decode cX0_takeFromHeap 12 = .ok (.getfield 89, 3) := by decide +kernel
theorem dX0_takeFromHeap_15 : decode cX0_takeFromHeap 15 = .ok (.iload_n 1, 1) := by decide +kernel
theorem dX0_takeFromHeap_16 : decode cX0_takeFromHeap 16 = .ok (.invokevirtual 92, 3) := by decide +kernel
theorem dX0_takeFromHeap_19 : decode cX0_takeFromHeap 19 = .ok (.istore_n 2, 1) := by decide +kernel
theorem dX0_takeFromHeap_20 : decode cX0_takeFromHeap 20 = .ok (.aload_n 0, 1) := by decide +kernel
theorem dX0_takeFromHeap_21 : decode cX0_takeFromHeap 21 = .ok (.getfield 132, 3) := by decide +kernel
theorem dX0_takeFromHeap_24 : decode cX0_takeFromHeap 24 = .ok (.aload_n 0, 1) := by decide +kernel
theorem dX0_takeFromHeap_25 : decode cX0_takeFromHeap 25 = .ok (.getfield 34, 3) := by decide +kernel
theorem dX0_takeFromHeap_28 : decode cX0_takeFromHeap 28 = .ok (.invokevirtual 151, 3) := by decide +kernel
theorem dX0_takeFromHeap_31 : decode cX0_takeFromHeap 31 = .ok (.aload_n 0, 1) := by decide +kernel
theorem dX0_takeFromHeap_32 : decode cX0_takeFromHeap 32 = .ok (.getfield 34, 3) := by decide +kernel
theorem dX0_takeFromHeap_35 : decode cX0_takeFromHeap 35 = .ok (.iload_n 1, 1) := by decide +kernel
theorem dX0_takeFromHeap_36 : decode cX0_takeFromHeap 36 = .ok (.invokevirtual 113, 3) := by decide +kernel
theorem dX0_takeFromHeap_39 : decode cX0_takeFromHeap 39 = .ok (.aload_n 0, 1) := by decide +kernel
theorem dX0_takeFromHeap_40 : decode cX0_takeFromHeap 40 = .ok (.dup, 1) := by decide +kernel
theorem dX0_takeFromHeap_41 : decode cX0_takeFromHeap 41 = .ok (.getfield 155, 3) := by decide +kernel
theorem dX0_takeFromHeap_44 : decode cX0_takeFromHeap 44 = .ok (.iload_n 2, 1) := by decide +kernel
theorem dX0_takeFromHeap_45 : decode cX0_takeFromHeap 45 = .ok (.iadd, 1) := by decide +kernel
theorem dX0_takeFromHeap_46 : decode cX0_takeFromHeap 46 = .ok (.putfield 155, 3) := by decide +kernel
theorem dX0_takeFromHeap_49 : decode cX0_takeFromHeap 49 = .ok (.iload_n 2, 1) := by decide +kernel
theorem dX0_takeFromHeap_50 : decode cX0_takeFromHeap 50 = .ok (.ireturn, 1) := by decide +kernel
theorem dX0_letPass_0 : decode cX0_letPass 0 = .ok (.aload_n 0, 1) := by decide +kernel
theorem dX0_letPass_1 : decode cX0_letPass 1 = .ok (.invokevirtual 158, 3) := by decide +kernel
theorem dX0_letPass_4 : decode cX0_letPass 4 = .ok (.istore_n 2, 1) := by decide +kernel
theorem dX0_letPass_5 : decode cX0_letPass 5 = .ok (.aload_n 0, 1) := by decide +kernel
theorem dX0_letPass_6 : decode cX0_letPass 6 = .ok (.dup, 1) := by decide +kernel
theorem dX0_letPass_7 : decode cX0_letPass 7 = .ok (.getfield 68, 3) := by decide +kernel
theorem dX0_letPass_10 : decode cX0_letPass 10 = .ok (.iload_n 1, 1) := by decide +kernel
theorem dX0_letPass_11 : decode cX0_letPass 11 = .ok (.iadd, 1) := by decide +kernel
theorem dX0_letPass_12 : decode cX0_letPass 12 = .ok (.putfield 68, 3) := by decide +kernel
theorem dX0_letPass_15 : decode cX0_letPass 15 = .ok (.aload_n 0, 1) := by decide +kernel
theorem dX0_letPass_16 : decode cX0_letPass 16 = .ok (.invokevirtual 158, 3) := by decide +kernel
theorem dX0_letPass_19 : decode cX0_letPass 19 = .ok (.iload_n 2, 1) := by decide +kernel
theorem dX0_letPass_20 : decode cX0_letPass 20 = .ok (.isub, 1) := by decide +kernel
theorem dX0_letPass_21 : decode cX0_letPass 21 = .ok (.ireturn, 1) := by decide +kernel
theorem dX1_init_0 : decode cX1_init 0 = .ok (.aload_n 0, 1) := by decide +kernel
theorem dX1_init_1 : decode cX1_init 1 = .ok (.invokespecial 3, 3) := by decide +kernel
theorem dX1_init_4 : decode cX1_init 4 = .ok (.aload_n 0, 1) := by decide +kernel
theorem dX1_init_5 : decode cX1_init 5 = .ok (.new 9, 3) := by decide +kernel
theorem dX1_init_8 : decode cX1_init 8 = .ok (.dup, 1) := by decide +kernel
theorem dX1_init_9 : decode cX1_init 9 = .ok (.bipush 20, 2) := by decide +kernel
theorem dX1_init_11 : decode cX1_init 11 = .ok (.invokespecial 11, 3) := by decide +kernel
theorem dX1_init_14 : decode cX1_init 14 = .ok (.putfield 14, 3) := by decide +kernel
theorem dX1_init_17 : decode cX1_init 17 = .ok (.aload_n 0, 1) := by decide +kernel
theorem dX1_init_18 : decode cX1_init 18 = .ok (.iconst 0, 1) := by decide +kernel
theorem dX1_init_19 : decode cX1_init 19 = .ok (.putfield 20, 3) := by decide +kernel
theorem dX1_init_22 : decode cX1_init 22 = .ok (.return_, 1) := by decide +kernel
theorem dX1_copyFrom_0 : decode cX1_copyFrom 0 = .ok (.aload_n 0, 1) := by decide +kernel
theorem dX1_copyFrom_1 : decode cX1_copyFrom 1 = .ok (.getfield 14, 3) := by decide +kernel
theorem dX1_copyFrom_4 : decode cX1_copyFrom 4 = .ok (.aload_n 1, 1) := by decide +kernel
theorem dX1_copyFrom_5 : decode cX1_copyFrom 5 = .ok (.getfield 14, 3) := by decide +kernel
theorem dX1_copyFrom_8 : decode cX1_copyFrom 8 = .ok (.invokevirtual 24, 3) := by decide +kernel
theorem dX1_copyFrom_11 : decode cX1_copyFrom 11 = .ok (.aload_n 0, 1) := by decide +kernel
theorem dX1_copyFrom_12 : decode cX1_copyFrom 12 = .ok (.aload_n 1, 1) := by decide +kernel
theorem dX1_copyFrom_13 : decode cX1_copyFrom 13 = .ok (.getfield 20, 3) := by decide +kernel
theorem dX1_copyFrom_16 : decode cX1_copyFrom 16 = .ok (.putfield 20, 3) := by decide +kernel
theorem dX1_copyFrom_19 : decode cX1_copyFrom 19 = .ok (.return_, 1) := by decide +kernel
theorem dX1_top_0 : decode cX1_top 0 = .ok (.aload_n 0, 1) := by decide +kernel
theorem dX1_top_1 : decode cX1_top 1 = .ok (.getfield 20, 3) := by decide +kernel
theorem dX1_top_4 : decode cX1_top 4 = .ok (.ifCond .le 14, 3) := by decide +kernel
theorem dX1_top_7 : decode cX1_top 7 = .ok (.aload_n 0, 1) := by decide +kernel
theorem dX1_top_8 : decode cX1_top 8 = .ok (.getfield 14, 3) := by decide +kernel
theorem dX1_top_11 : decode cX1_top 11 = .ok (.iconst 0, 1) := by decide +kernel
theorem dX1_top_12 : decode cX1_top 12 = .ok (.invokevirtual 28, 3) := by decide +kernel
theorem dX1_top_15 : decode cX1_top 15 = .ok (.goto 4, 3) := by decide +kernel
theorem dX1_top_18 : decode cX1_top 18 = .ok (.iconst (-1), 1) := by decide +kernel
theorem dX1_top_19 : decode cX1_top 19 = .ok (.ireturn, 1) := by decide +kernel
theorem dX1_push_0 : decode cX1_push 0 = .ok (.aload_n 0, 1) := by decide +kernel
theorem dX1_push_1 : decode cX1_push 1 = .ok (.getfield 20, 3) := by decide +kernel
theorem dX1_push_4 : decode cX1_push 4 = .ok (.istore_n 3, 1) := by decide +kernel
theorem dX1_push_5 : decode cX1_push 5 = .ok (.aload_n 0, 1) := by decide +kernel
theorem dX1_push_6 : decode cX1_push 6 = .ok (.getfield 14, 3) := by decide +kernel
theorem dX1_push_9 : decode cX1_push 9 = .ok (.iload_n 3, 1) := by decide +kernel
theorem dX1_push_10 : decode cX1_push 10 = .ok (.iload_n 2, 1) := by decide +kernel
theorem dX1_push_11 : decode cX1_push 11 = .ok (.invokevirtual 32, 3) := by decide +kernel
theorem dX1_push_14 : decode cX1_push 14 = .ok (.aload_n 0, 1) := by decide +kernel
theorem dX1_push_15 : decode cX1_push 15 = .ok (.dup, 1) := by decide +kernel
theorem dX1_push_16 : decode cX1_push 16 = .ok (.getfield 20, 3) := by decide +kernel
theorem dX1_push_19 : decode cX1_push 19 = .ok (.iconst 1, 1) := by decide +kernel
theorem dX1_push_20 : decode cX1_push 20 = .ok (.iadd, 1) := by decide +kernel
theorem dX1_push_21 : decode cX1_push 21 = .ok (.putfield 20, 3) := by decide +kernel
theorem dX1_push_24 : decode cX1_push 24 = .ok (.iload_n 3, 1) := by decide +kernel
theorem dX1_push_25 : decode cX1_push 25 = .ok (.ifCond .le 43, 3) := by decide +kernel
theorem dX1_push_28 : decode cX1_push 28 = .ok (.iload_n 3, 1) := by decide +kernel
theorem dX1_push_29 : decode cX1_push 29 = .ok (.iconst 1, 1) := by decide +kernel
theorem dX1_push_30 : decode cX1_push 30 = .ok (.isub, 1) := by decide +kernel
theorem dX1_push_31 : decode cX1_push 31 = .ok (.iconst 2, 1) := by decide +kernel
theorem dX1_push_32 : decode cX1_push 32 = .ok (.idiv, 1) := by decide +kernel
theorem dX1_push_33 : decode cX1_push 33 = .ok (.istore 4, 2) := by decide +kernel
theorem dX1_push_35 : decode cX1_push 35 = .ok (.aload_n 1, 1) := by decide +kernel
theorem dX1_push_36 : decode cX1_push 36 = .ok (.iload_n 2, 1) := by decide +kernel
theorem dX1_push_37 : decode cX1_push 37 = .ok (.aload_n 0, 1) := by decide +kernel
theorem dX1_push_38 : decode cX1_push 38 = .ok (.getfield 14, 3) := by decide +kernel
theorem dX1_push_41 : decode cX1_push 41 = .ok (.iload 4, 2) := by decide +kernel
theorem dX1_push_43 : decode cX1_push 43 = .ok (.invokevirtual 28, 3) := by decide +kernel
theorem dX1_push_46 : decode cX1_push 46 = .ok (.invokevirtual 36, 3) := by decide +kernel
theorem dX1_push_49 : decode cX1_push 49 = .ok (.ifCond .ne 6, 3) := by decide +kernel
theorem dX1_push_52 : decode cX1_push 52 = .ok (.goto 16, 3) := by decide +kernel
theorem dX1_push_55 : decode cX1_push 55 = .ok (.aload_n 0, 1) := by decide +kernel
theorem dX1_push_56 : decode cX1_push 56 = .ok (.iload_n 3, 1) := by decide +kernel
theorem dX1_push_57 : decode cX1_push 57 = .ok (.iload 4, 2) := by decide +kernel
theorem dX1_push_59 : decode cX1_push 59 = .ok (.invokevirtual 42, 3) := by decide +kernel
theorem dX1_push_62 : decode cX1_push 62 = .ok (.iload 4, 2) := by decide +kernel
theorem dX1_push_64 : decode cX1_push 64 = .ok (.istore_n 3, 1) := by decide +kernel
theorem dX1_push_65 : decode cX1_push 65 = .ok (.goto (-41), 3) := by decide +kernel
theorem dX1_push_68 : decode cX1_push 68 = .ok (.return_, 1) := by decide +kernel
theorem dX1_removeTop_0 : decode cX1_removeTop 0 = .ok (.aload_n 0, 1) := by decide +kernel
theorem dX1_removeTop_1 : decode cX1_removeTop 1 = .ok (.dup, 1) := by decide +kernel
theorem dX1_removeTop_2 : decode cX1_removeTop 2 = .ok (.getfield 20, 3) := by decide +kernel
theorem dX1_removeTop_5 : decode cX1_removeTop 5 = .ok (.iconst 1, 1) := by decide +kernel
theorem dX1_removeTop_6 : decode cX1_removeTop 6 = .ok (.isub, 1) := by decide +kernel
theorem dX1_removeTop_7 : decode cX1_removeTop 7 = .ok (.putfield 20, 3) := by decide +kernel
theorem dX1_removeTop_10 : decode cX1_removeTop 10 = .ok (.aload_n 0, 1) := by decide +kernel
theorem dX1_removeTop_11 : decode cX1_removeTop 11 = .ok (.getfield 14, 3) := by decide +kernel
theorem dX1_removeTop_14 : decode cX1_removeTop 14 = .ok (.iconst 0, 1) := by decide +kernel
theorem dX1_removeTop_15 : decode cX1_removeTop 15 = .ok (.aload_n 0, 1) := by decide +kernel
theorem dX1_removeTop_16 : decode cX1_removeTop 16 = .ok (.getfield 14, 3) := by decide +kernel
theorem dX1_removeTop_19 : decode cX1_removeTop 19 = .ok (.aload_n 0, 1) := by decide +kernel
theorem dX1_removeTop_20 : decode cX1_removeTop 20 = .ok (.getfield 20, 3) := by decide +kernel
theorem dX1_removeTop_23 : decode cX1_removeTop 23 = .ok (.invokevirtual 28, 3) := by decide +kernel
theorem dX1_removeTop_26 : decode cX1_removeTop 26 = .ok (.invokevirtual 32, 3) := by decide +kernel
theorem dX1_removeTop_29 : decode cX1_removeTop 29 = .ok (.iconst 0, 1) := by decide +kernel
theorem dX1_removeTop_30 : decode cX1_removeTop 30 = .ok (.istore_n 2, 1) := by decide +kernel
theorem dX1_removeTop_31 : decode cX1_removeTop 31 = .ok (.iload_n 2, 1) := by decide +kernel
theorem dX1_removeTop_32 : decode cX1_removeTop 32 = .ok (.aload_n 0, 1) := by decide +kernel
theorem dX1_removeTop_33 : decode cX1_removeTop 33 = .ok (.getfield 20, 3) := by decide +kernel
theorem dX1_removeTop_36 : decode cX1_removeTop 36 = .ok (.if_icmp .ge 29, 3) := by decide +kernel
theorem dX1_removeTop_39 : decode cX1_removeTop 39 = .ok (.aload_n 0, 1) := by decide +kernel
theorem dX1_removeTop_40 : decode cX1_removeTop 40 = .ok (.aload_n 1, 1) := by decide +kernel
theorem dX1_removeTop_41 : decode cX1_removeTop 41 = .ok (.iload_n 2, 1) := by decide +kernel
theorem dX1_removeTop_42 : decode cX1_removeTop 42 = .ok (.invokevirtual 45, 3) := by decide +kernel
theorem dX1_removeTop_45 : decode cX1_removeTop 45 = .ok (.istore_n 3, 1) := by decide +kernel
theorem dX1_removeTop_46 : decode cX1_removeTop 46 = .ok (.iload_n 3, 1) := by decide +kernel
theorem dX1_removeTop_47 : decode cX1_removeTop 47 = .ok (.iload_n 2, 1) := by decide +kernel
theorem dX1_removeTop_48 : decode cX1_removeTop 48 = .ok (.if_icmp .gt 6, 3) := by decide +kernel
theorem dX1_removeTop_51 : decode cX1_removeTop 51 = .ok (.goto 14, 3) := by decide +kernel
theorem dX1_removeTop_54 : decode cX1_removeTop 54 = .ok (.aload_n 0, 1) := by decide +kernel
theorem dX1_removeTop_55 : decode cX1_removeTop 55 = .ok (.iload_n 2, 1) := by decide +kernel
theorem dX1_removeTop_56 : decode cX1_removeTop 56 = .ok (.iload_n 3, 1) := by decide +kernel
theorem dX1_removeTop_57 : decode cX1_removeTop 57 = .ok (.invokevirtual 42, 3) := by decide +kernel
theorem dX1_removeTop_60 : decode cX1_removeTop 60 = .ok (.iload_n 3, 1) := by decide +kernel
theorem dX1_removeTop_61 : decode cX1_removeTop 61 = .ok (.istore_n 2, 1) := by decide +kernel
theorem dX1_removeTop_62 : decode cX1_removeTop 62 = .ok (.goto (-31), 3) := by decide +kernel
theorem dX1_removeTop_65 : decode cX1_removeTop 65 = .ok (.return_, 1) := by decide +kernel
theorem dX1_firstOfThree_0 : decode cX1_firstOfThree 0 = .ok (.iload_n 2, 1) := by decide +kernel
theorem dX1_firstOfThree_1 : decode cX1_firstOfThree 1 = .ok (.istore_n 3, 1) := by decide +kernel
theorem dX1_firstOfThree_2 : decode cX1_firstOfThree 2 = .ok (.iconst 2, 1) := by decide +kernel
theorem dX1_firstOfThree_3 : decode cX1_firstOfThree 3 = .ok (.iload_n 2, 1) := by decide +kernel
theorem dX1_firstOfThree_4 : decode cX1_firstOfThree 4 = .ok (.imul, 1) := by decide +kernel
theorem dX1_firstOfThree_5 : decode cX1_firstOfThree 5 = .ok (.iconst 1, 1) := by decide +kernel
theorem dX1_firstOfThree_6 : decode cX1_firstOfThree 6 = .ok (.iadd, 1) := by decide +kernel
theorem dX1_firstOfThree_7 : decode cX1_firstOfThree 7 = .ok (.istore 4, 2) := by decide +kernel
theorem dX1_firstOfThree_9 : decode cX1_firstOfThree 9 = .ok (.iload 4, 2) := by decide +kernel
theorem dX1_firstOfThree_11 : decode cX1_firstOfThree 11 = .ok (.iconst 2, 1) := by decide +kernel
theorem dX1_firstOfThree_12 : decode cX1_firstOfThree 12 = .ok (.iload_n 2, 1) := by decide +kernel
theorem dX1_firstOfThree_13 : decode cX1_firstOfThree 13 = .ok (.imul, 1) := by decide +kernel
theorem dX1_firstOfThree_14 : decode cX1_firstOfThree 14 = .ok (.iconst 2, 1) := by decide +kernel
theorem dX1_firstOfThree_15 : decode cX1_firstOfThree 15 = .ok (.iadd, 1) := by decide +kernel
theorem dX1_firstOfThree_16 : decode cX1_firstOfThree 16 = .ok (.if_icmp .gt 45, 3) := by decide +kernel
theorem dX1_firstOfThree_19 : decode cX1_firstOfThree 19 = .ok (.iload 4, 2) := by decide +kernel
theorem dX1_firstOfThree_21 : decode cX1_firstOfThree 21 = .ok (.aload_n 0, 1) := by decide +kernel
theorem dX1_firstOfThree_22 : decode cX1_firstOfThree 22 = .ok (.getfield 20, 3) := by decide +kernel
theorem dX1_firstOfThree_25 : decode cX1_firstOfThree 25 = .ok (.if_icmp .ge 36, 3) := by decide +kernel
theorem dX1_firstOfThree_28 : decode cX1_firstOfThree 28 = .ok (.aload_n 1, 1) := by decide +kernel
theorem dX1_firstOfThree_29 : decode cX1_firstOfThree 29 = .ok (.aload_n 0, 1) := by decide +kernel
theorem dX1_firstOfThree_30 : decode cX1_firstOfThree 30 = .ok (.getfield 14, 3) := by decide +kernel
theorem dX1_firstOfThree_33 : decode cX1_firstOfThree 33 = .ok (.iload 4, 2) := by decide +kernel
theorem dX1_firstOfThree_35 : decode cX1_firstOfThree 35 = .ok (.invokevirtual 28, 3) := by decide +kernel
theorem dX1_firstOfThree_38 : decode cX1_firstOfThree 38 = .ok (.aload_n 0, 1) := by decide +kernel
theorem dX1_firstOfThree_39 : decode cX1_firstOfThree 39 = .ok (.getfield 14, 3) := by decide +kernel
theorem dX1_firstOfThree_42 : decode cX1_firstOfThree 42 = .ok (.iload_n 3, 1) := by decide +kernel
theorem dX1_firstOfThree_43 : decode cX1_firstOfThree 43 = .ok (.invokevirtual 28, 3) := by decide +kernel
theorem dX1_firstOfThree_46 : decode cX1_firstOfThree 46 = .ok (.invokevirtual 36, 3) := by decide +kernel
theorem dX1_firstOfThree_49 : decode cX1_firstOfThree 49 = .ok (.ifCond .eq 6, 3) := by decide +kernel
theorem dX1_firstOfThree_52 : decode cX1_firstOfThree 52 = .ok (.iload 4, 2) := by decide +kernel
theorem dX1_firstOfThree_54 : decode cX1_firstOfThree 54 = .ok (.istore_n 3, 1) := by decide +kernel
theorem dX1_firstOfThree_55 : decode cX1_firstOfThree 55 = .ok (.iinc 4 1, 3) := by decide +kernel
theorem dX1_firstOfThree_58 : decode cX1_firstOfThree 58 = .ok (.goto (-49), 3) := by decide +kernel
theorem dX1_firstOfThree_61 : decode cX1_firstOfThree 61 = .ok (.iload_n 3, 1) := by decide +kernel
theorem dX1_firstOfThree_62 : decode cX1_firstOfThree 62 = .ok (.ireturn, 1) := by decide +kernel
theorem dX1_swap_0 : decode cX1_swap 0 = .ok (.aload_n 0, 1) := by decide +kernel
theorem dX1_swap_1 : decode cX1_swap 1 = .ok (.getfield 14, 3) := by decide +kernel
theorem dX1_swap_4 : decode cX1_swap 4 = .ok (.iload_n 1, 1) := by decide +kernel
theorem dX1_swap_5 : decode cX1_swap 5 = .ok (.invokevirtual 28, 3) := by decide +kernel
theorem dX1_swap_8 : decode cX1_swap 8 = .ok (.istore_n 3, 1) := by decide +kernel
theorem dX1_swap_9 : decode cX1_swap 9 = .ok (.aload_n 0, 1) := by decide +kernel
theorem dX1_swap_10 : decode cX1_swap 10 = .ok (.getfield 14, 3) := by decide +kernel
theorem dX1_swap_13 : decode cX1_swap 13 = .ok (.iload_n 1, 1) := by decide +kernel
theorem dX1_swap_14 : decode cX1_swap 14 = .ok (.aload_n 0, 1) := by decide +kernel
theorem dX1_swap_15 : decode cX1_swap 15 = .ok (.getfield 14, 3) := by decide +kernel
theorem dX1_swap_18 : decode cX1_swap 18 = .ok (.iload_n 2, 1) := by decide +kernel
theorem dX1_swap_19 : decode cX1_swap 19 = .ok (.invokevirtual 28, 3) := by decide +kernel
theorem dX1_swap_22 : decode cX1_swap 22 = .ok (.invokevirtual 32, 3) := by decide +kernel
theorem dX1_swap_25 : decode cX1_swap 25 = .ok (.aload_n 0, 1) := by decide +kernel
theorem dX1_swap_26 : decode cX1_swap 26 = .ok (.getfield 14, 3) := by decide +kernel
theorem dX1_swap_29 : decode cX1_swap 29 = .ok (.iload_n 2, 1) := by decide +kernel
theorem dX1_swap_30 : decode cX1_swap 30 = .ok (.iload_n 3, 1) := by decide +kernel
theorem dX1_swap_31 : decode cX1_swap 31 = .ok (.invokevirtual 32, 3) := by decide +kernel
theorem dX1_swap_34 : decode cX1_swap 34 = .ok (.return_, 1) := by decide +kernel
theorem dX1_firstByScan_0 : decode cX1_firstByScan 0 = .ok (.iconst (-1), 1) := by decide +kernel
theorem dX1_firstByScan_1 : decode cX1_firstByScan 1 = .ok (.istore_n 1, 1) := by decide +kernel
theorem dX1_firstByScan_2 : decode cX1_firstByScan 2 = .ok (.iconst 0, 1) := by decide +kernel
theorem dX1_firstByScan_3 : decode cX1_firstByScan 3 = .ok (.istore_n 2, 1) := by decide +kernel
theorem dX1_firstByScan_4 : decode cX1_firstByScan 4 = .ok (.iload_n 2, 1) := by decide +kernel
theorem dX1_firstByScan_5 : decode cX1_firstByScan 5 = .ok (.aload_n 0, 1) := by decide +kernel
theorem dX1_firstByScan_6 : decode cX1_firstByScan 6 = .ok (.getfield 49, 3) := by decide +kernel
theorem dX1_firstByScan_9 : decode cX1_firstByScan 9 = .ok (.if_icmp .ge 37, 3) := by decide +kernel
theorem dX1_firstByScan_12 : decode cX1_firstByScan 12 = .ok (.aload_n 0, 1) := by decide +kernel
theorem dX1_firstByScan_13 : decode cX1_firstByScan 13 = .ok (.getfield 50, 3) := by decide +kernel
theorem dX1_firstByScan_16 : decode cX1_firstByScan 16 = .ok (.iload_n 2, 1) := by decide +kernel
theorem dX1_firstByScan_17 : decode cX1_firstByScan 17 = .ok (.invokevirtual 28, 3) := by decide +kernel
theorem dX1_firstByScan_20 : decode cX1_firstByScan 20 = .ok (.iconst (-1), 1) := by decide +kernel
theorem dX1_firstByScan_21 : decode cX1_firstByScan 21 = .ok (.if_icmp .ne 19, 3) := by decide +kernel
theorem dX1_firstByScan_24 : decode cX1_firstByScan 24 = .ok (.iload_n 1, 1) := by decide +kernel
theorem dX1_firstByScan_25 : decode cX1_firstByScan 25 = .ok (.iconst (-1), 1) := by decide +kernel
theorem dX1_firstByScan_26 : decode cX1_firstByScan 26 = .ok (.if_icmp .eq 12, 3) := by decide +kernel
theorem dX1_firstByScan_29 : decode cX1_firstByScan 29 = .ok (.aload_n 0, 1) := by decide +kernel
theorem dX1_firstByScan_30 : decode cX1_firstByScan 30 = .ok (.iload_n 2, 1) := by decide +kernel
theorem dX1_firstByScan_31 : decode cX1_firstByScan 31 = .ok (.iload_n 1, 1) := by decide +kernel
theorem dX1_firstByScan_32 : decode cX1_firstByScan 32 = .ok (.invokevirtual 36, 3) := by decide +kernel
theorem dX1_firstByScan_35 : decode cX1_firstByScan 35 = .ok (.ifCond .eq 5, 3) := by decide +kernel
theorem dX1_firstByScan_38 : decode cX1_firstByScan 38 = .ok (.iload_n 2, 1) := by decide +kernel
theorem dX1_firstByScan_39 : decode cX1_firstByScan 39 = .ok (.istore_n 1, 1) := by decide +kernel
theorem dX1_firstByScan_40 : decode cX1_firstByScan 40 = .ok (.iinc 2 1, 3) := by decide +kernel
theorem dX1_firstByScan_43 : decode cX1_firstByScan 43 = .ok (.goto (-39), 3) := by decide +kernel
theorem dX1_firstByScan_46 : decode cX1_firstByScan 46 = .ok (.iload_n 1, 1) := by decide +kernel
theorem dX1_firstByScan_47 : decode cX1_firstByScan 47 = .ok (.ireturn, 1) := by decide +kernel
theorem dX2_init_0 : decode cX2_init 0 = .ok (.aload_n 0, 1) := by decide +kernel
theorem dX2_init_1 : decode cX2_init 1 = .ok (.invokespecial 3, 3) := by decide +kernel
theorem dX2_init_4 : decode cX2_init 4 = .ok (.aload_n 0, 1) := by decide +kernel
theorem dX2_init_5 : decode cX2_init 5 = .ok (.new 9, 3) := by decide +kernel
theorem dX2_init_8 : decode cX2_init 8 = .ok (.dup, 1) := by decide +kernel
theorem dX2_init_9 : decode cX2_init 9 = .ok (.sipush 400, 3) := by decide +kernel
theorem dX2_init_12 : decode cX2_init 12 = .ok (.invokespecial 11, 3) := by decide +kernel
theorem dX2_init_15 : decode cX2_init 15 = .ok (.putfield 14, 3) := by decide +kernel
theorem dX2_init_18 : decode cX2_init 18 = .ok (.return_, 1) := by decide +kernel
theorem dX2_setInDepth_0 : decode cX2_setInDepth 0 = .ok (.aload_n 0, 1) := by decide +kernel
theorem dX2_setInDepth_1 : decode cX2_setInDepth 1 = .ok (.iload_n 1, 1) := by decide +kernel
theorem dX2_setInDepth_2 : decode cX2_setInDepth 2 = .ok (.iconst 0, 1) := by decide +kernel
theorem dX2_setInDepth_3 : decode cX2_setInDepth 3 = .ok (.iconst 0, 1) := by decide +kernel
theorem dX2_setInDepth_4 : decode cX2_setInDepth 4 = .ok (.invokestatic 20, 3) := by decide +kernel
theorem dX2_setInDepth_7 : decode cX2_setInDepth 7 = .ok (.ireturn, 1) := by decide +kernel
theorem dX2_follow_0 : decode cX2_follow 0 = .ok (.iload_n 2, 1) := by decide +kernel
theorem dX2_follow_1 : decode cX2_follow 1 = .ok (.istore 4, 2) := by decide +kernel
theorem dX2_follow_3 : decode cX2_follow 3 = .ok (.iload_n 3, 1) := by decide +kernel
theorem dX2_follow_4 : decode cX2_follow 4 = .ok (.bipush 20, 2) := by decide +kernel
theorem dX2_follow_6 : decode cX2_follow 6 = .ok (.if_icmp .ge 61, 3) := by decide +kernel
theorem dX2_follow_9 : decode cX2_follow 9 = .ok (.iload_n 1, 1) := by decide +kernel
theorem dX2_follow_10 : decode cX2_follow 10 = .ok (.iconst 1, 1) := by decide +kernel
theorem dX2_follow_11 : decode cX2_follow 11 = .ok (.iadd, 1) := by decide +kernel
theorem dX2_follow_12 : decode cX2_follow 12 = .ok (.istore 5, 2) := by decide +kernel
theorem dX2_follow_14 : decode cX2_follow 14 = .ok (.iload 5, 2) := by decide +kernel
theorem dX2_follow_16 : decode cX2_follow 16 = .ok (.aload_n 0, 1) := by decide +kernel
theorem dX2_follow_17 : decode cX2_follow 17 = .ok (.getfield 24, 3) := by decide +kernel
theorem dX2_follow_20 : decode cX2_follow 20 = .ok (.if_icmp .ge 47, 3) := by decide +kernel
theorem dX2_follow_23 : decode cX2_follow 23 = .ok (.aload_n 0, 1) := by decide +kernel
theorem dX2_follow_24 : decode cX2_follow 24 = .ok (.iload_n 1, 1) := by decide +kernel
theorem dX2_follow_25 : decode cX2_follow 25 = .ok (.iload 5, 2) := by decide +kernel
theorem dX2_follow_27 : decode cX2_follow 27 = .ok (.invokevirtual 30, 3) := by decide +kernel
theorem dX2_follow_30 : decode cX2_follow 30 = .ok (.ifCond .eq 31, 3) := by decide +kernel
theorem dX2_follow_33 : decode cX2_follow 33 = .ok (.iload 4, 2) := by decide +kernel
theorem dX2_follow_35 : decode cX2_follow 35 = .ok (.iload 5, 2) := by decide +kernel
theorem dX2_follow_37 : decode cX2_follow 37 = .ok (.ishr, 1) := by decide +kernel
theorem dX2_follow_38 : decode cX2_follow 38 = .ok (.iconst 1, 1) := by decide +kernel
theorem dX2_follow_39 : decode cX2_follow 39 = .ok (.iand, 1) := by decide +kernel
theorem dX2_follow_40 : decode cX2_follow 40 = .ok (.ifCond .ne 21, 3) := by decide +kernel
theorem dX2_follow_43 : decode cX2_follow 43 = .ok (.aload_n 0, 1) := by decide +kernel
theorem dX2_follow_44 : decode cX2_follow 44 = .ok (.iload 5, 2) := by decide +kernel
theorem dX2_follow_46 : decode cX2_follow 46 = .ok (.iload 4, 2) := by decide +kernel
theorem dX2_follow_48 : decode cX2_follow 48 = .ok (.iconst 1, 1) := by decide +kernel
theorem dX2_follow_49 : decode cX2_follow 49 = .ok (.iload 5, 2) := by decide +kernel
theorem dX2_follow_51 : decode cX2_follow 51 = .ok (.ishl, 1) := by decide +kernel
theorem dX2_follow_52 : decode cX2_follow 52 = .ok (.ior, 1) := by decide +kernel
theorem dX2_follow_53 : decode cX2_follow 53 = .ok (.iload_n 3, 1) := by decide +kernel
theorem dX2_follow_54 : decode cX2_follow 54 = .ok (.iconst 1, 1) := by decide +kernel
theorem dX2_follow_55 : decode cX2_follow 55 = .ok (.iadd, 1) := by decide +kernel
theorem dX2_follow_56 : decode cX2_follow 56 = .ok (.invokestatic 20, 3) := by decide +kernel
theorem dX2_follow_59 : decode cX2_follow 59 = .ok (.istore 4, 2) := by decide +kernel
theorem dX2_follow_61 : decode cX2_follow 61 = .ok (.iinc 5 1, 3) := by decide +kernel
theorem dX2_follow_64 : decode cX2_follow 64 = .ok (.goto (-50), 3) := by decide +kernel
theorem dX2_follow_67 : decode cX2_follow 67 = .ok (.iload 4, 2) := by decide +kernel
theorem dX2_follow_69 : decode cX2_follow 69 = .ok (.ireturn, 1) := by decide +kernel
theorem dX2_shelvedFamily_0 : decode cX2_shelvedFamily 0 = .ok (.aload_n 0, 1) := by decide +kernel
theorem dX2_shelvedFamily_1 : decode cX2_shelvedFamily 1 = .ok (.iload_n 1, 1) := by decide +kernel
theorem dX2_shelvedFamily_2 : decode cX2_shelvedFamily 2 = .ok (.iconst 1, 1) := by decide +kernel
theorem dX2_shelvedFamily_3 : decode cX2_shelvedFamily 3 = .ok (.iload_n 1, 1) := by decide +kernel
theorem dX2_shelvedFamily_4 : decode cX2_shelvedFamily 4 = .ok (.ishl, 1) := by decide +kernel
theorem dX2_shelvedFamily_5 : decode cX2_shelvedFamily 5 = .ok (.iconst 0, 1) := by decide +kernel
theorem dX2_shelvedFamily_6 : decode cX2_shelvedFamily 6 = .ok (.invokestatic 20, 3) := by decide +kernel
theorem dX2_shelvedFamily_9 : decode cX2_shelvedFamily 9 = .ok (.istore_n 2, 1) := by decide +kernel
theorem dX2_shelvedFamily_10 : decode cX2_shelvedFamily 10 = .ok (.iconst 0, 1) := by decide +kernel
theorem dX2_shelvedFamily_11 : decode cX2_shelvedFamily 11 = .ok (.istore_n 3, 1) := by decide +kernel
theorem dX2_shelvedFamily_12 : decode cX2_shelvedFamily 12 = .ok (.iload_n 3, 1) := by decide +kernel
theorem dX2_shelvedFamily_13 : decode cX2_shelvedFamily 13 = .ok (.aload_n 0, 1) := by decide +kernel
theorem dX2_shelvedFamily_14 : decode cX2_shelvedFamily 14 = .ok (.getfield 24, 3) := by decide +kernel
theorem dX2_shelvedFamily_17 : decode cX2_shelvedFamily 17 = .ok (.if_icmp .ge 25, 3) := by decide +kernel
theorem dX2_shelvedFamily_20 : decode cX2_shelvedFamily 20 = .ok (.aload_n 0, 1) := by decide +kernel
theorem dX2_shelvedFamily_21 : decode cX2_shelvedFamily 21 = .ok (.iload_n 3, 1) := by decide +kernel
theorem dX2_shelvedFamily_22 : decode cX2_shelvedFamily 22 = .ok (.invokevirtual 34, 3) := by decide +kernel
theorem dX2_shelvedFamily_25 : decode cX2_shelvedFamily 25 = .ok (.ifCond .ne 11, 3) := by decide +kernel
theorem dX2_shelvedFamily_28 : decode cX2_shelvedFamily 28 = .ok (.iload_n 2, 1) := by decide +kernel
theorem dX2_shelvedFamily_29 : decode cX2_shelvedFamily 29 = .ok (.iconst 1, 1) := by decide +kernel
theorem dX2_shelvedFamily_30 : decode cX2_shelvedFamily 30 = .ok (.iload_n 3, 1) := by decide +kernel
theorem dX2_shelvedFamily_31 : decode cX2_shelvedFamily 31 = .ok (.ishl, 1) := by decide +kernel
theorem dX2_shelvedFamily_32 : decode cX2_shelvedFamily 32 = .ok (.iconst (-1), 1) := by decide +kernel
theorem dX2_shelvedFamily_33 : decode cX2_shelvedFamily 33 = .ok (.ixor, 1) := by decide +kernel
theorem dX2_shelvedFamily_34 : decode cX2_shelvedFamily 34 = .ok (.iand, 1) := by decide +kernel
theorem dX2_shelvedFamily_35 : decode cX2_shelvedFamily 35 = .ok (.istore_n 2, 1) := by decide +kernel
theorem dX2_shelvedFamily_36 : decode cX2_shelvedFamily 36 = .ok (.iinc 3 1, 3) := by decide +kernel
theorem dX2_shelvedFamily_39 : decode cX2_shelvedFamily 39 = .ok (.goto (-27), 3) := by decide +kernel
theorem dX2_shelvedFamily_42 : decode cX2_shelvedFamily 42 = .ok (.iload_n 2, 1) := by decide +kernel
theorem dX2_shelvedFamily_43 : decode cX2_shelvedFamily 43 = .ok (.ireturn, 1) := by decide +kernel
theorem dX2_countByTable_0 : decode cX2_countByTable 0 = .ok (.aload_n 0, 1) := by decide +kernel
theorem dX2_countByTable_1 : decode cX2_countByTable 1 = .ok (.aload_n 1, 1) := by decide +kernel
theorem dX2_countByTable_2 : decode cX2_countByTable 2 = .ok (.invokevirtual 38, 3) := by decide +kernel
theorem dX2_countByTable_5 : decode cX2_countByTable 5 = .ok (.iconst 0, 1) := by decide +kernel
theorem dX2_countByTable_6 : decode cX2_countByTable 6 = .ok (.istore_n 3, 1) := by decide +kernel
theorem dX2_countByTable_7 : decode cX2_countByTable 7 = .ok (.iload_n 3, 1) := by decide +kernel
theorem dX2_countByTable_8 : decode cX2_countByTable 8 = .ok (.aload_n 1, 1) := by decide +kernel
theorem dX2_countByTable_9 : decode cX2_countByTable 9 = .ok (.getfield 24, 3) := by decide +kernel
theorem dX2_countByTable_12 : decode cX2_countByTable 12 = .ok (.if_icmp .ge 18, 3) := by decide +kernel
theorem dX2_countByTable_15 : decode cX2_countByTable 15 = .ok (.aload_n 0, 1) := by decide +kernel
theorem dX2_countByTable_16 : decode cX2_countByTable 16 = .ok (.iload_n 3, 1) := by decide +kernel
theorem dX2_countByTable_17 : decode cX2_countByTable 17 = .ok (.aload_n 1, 1) := by decide +kernel
theorem dX2_countByTable_18 : decode cX2_countByTable 18 = .ok (.getfield 24, 3) := by decide +kernel
theorem dX2_countByTable_21 : decode cX2_countByTable 21 = .ok (.invokevirtual 42, 3) := by decide +kernel
theorem dX2_countByTable_24 : decode cX2_countByTable 24 = .ok (.iinc 3 1, 3) := by decide +kernel
theorem dX2_countByTable_27 : decode cX2_countByTable 27 = .ok (.goto (-20), 3) := by decide +kernel
theorem dX2_countByTable_30 : decode cX2_countByTable 30 = .ok (.iconst 0, 1) := by decide +kernel
theorem dX2_countByTable_31 : decode cX2_countByTable 31 = .ok (.istore_n 3, 1) := by decide +kernel
theorem dX2_countByTable_32 : decode cX2_countByTable 32 = .ok (.iconst 0, 1) := by decide +kernel
theorem dX2_countByTable_33 : decode cX2_countByTable 33 = .ok (.istore 4, 2) := by decide +kernel
theorem dX2_countByTable_35 : decode cX2_countByTable 35 = .ok (.iload 4, 2) := by decide +kernel
theorem dX2_countByTable_37 : decode cX2_countByTable 37 = .ok (.aload_n 1, 1) := by decide +kernel
theorem dX2_countByTable_38 : decode cX2_countByTable 38 = .ok (.getfield 24, 3) := by decide +kernel
theorem dX2_countByTable_41 : decode cX2_countByTable 41 = .ok (.if_icmp .ge 25, 3) := by decide +kernel
theorem dX2_countByTable_44 : decode cX2_countByTable 44 = .ok (.iload_n 3, 1) := by decide +kernel
theorem dX2_countByTable_45 : decode cX2_countByTable 45 = .ok (.aload_n 0, 1) := by decide +kernel
theorem dX2_countByTable_46 : decode cX2_countByTable 46 = .ok (.getfield 14, 3) := by decide +kernel
theorem dX2_countByTable_49 : decode cX2_countByTable 49 = .ok (.iload_n 2, 1) := by decide +kernel
theorem dX2_countByTable_50 : decode cX2_countByTable 50 = .ok (.iload 4, 2) := by decide +kernel
theorem dX2_countByTable_52 : decode cX2_countByTable 52 = .ok (.invokestatic 46, 3) := by decide +kernel
theorem dX2_countByTable_55 : decode cX2_countByTable 55 = .ok (.invokevirtual 50, 3) := by decide +kernel
theorem dX2_countByTable_58 : decode cX2_countByTable 58 = .ok (.iadd, 1) := by decide +kernel
theorem dX2_countByTable_59 : decode cX2_countByTable 59 = .ok (.istore_n 3, 1) := by decide +kernel
theorem dX2_countByTable_60 : decode cX2_countByTable 60 = .ok (.iinc 4 1, 3) := by decide +kernel
theorem dX2_countByTable_63 : decode cX2_countByTable 63 = .ok (.goto (-28), 3) := by decide +kernel
theorem dX2_countByTable_66 : decode cX2_countByTable 66 = .ok (.iload_n 3, 1) := by decide +kernel
theorem dX2_countByTable_67 : decode cX2_countByTable 67 = .ok (.ireturn, 1) := by decide +kernel
theorem dX2_enterParents_0 : decode cX2_enterParents 0 = .ok (.iconst 0, 1) := by decide +kernel
theorem dX2_enterParents_1 : decode cX2_enterParents 1 = .ok (.istore_n 2, 1) := by decide +kernel
theorem dX2_enterParents_2 : decode cX2_enterParents 2 = .ok (.iload_n 2, 1) := by decide +kernel
theorem dX2_enterParents_3 : decode cX2_enterParents 3 = .ok (.aload_n 1, 1) := by decide +kernel
theorem dX2_enterParents_4 : decode cX2_enterParents 4 = .ok (.getfield 24, 3) := by decide +kernel
theorem dX2_enterParents_7 : decode cX2_enterParents 7 = .ok (.if_icmp .ge 51, 3) := by decide +kernel
theorem dX2_enterParents_10 : decode cX2_enterParents 10 = .ok (.iconst 0, 1) := by decide +kernel
theorem dX2_enterParents_11 : decode cX2_enterParents 11 = .ok (.istore_n 3, 1) := by decide +kernel
theorem dX2_enterParents_12 : decode cX2_enterParents 12 = .ok (.iload_n 3, 1) := by decide +kernel
theorem dX2_enterParents_13 : decode cX2_enterParents 13 = .ok (.aload_n 1, 1) := by decide +kernel
theorem dX2_enterParents_14 : decode cX2_enterParents 14 = .ok (.getfield 24, 3) := by decide +kernel
theorem dX2_enterParents_17 : decode cX2_enterParents 17 = .ok (.if_icmp .ge 35, 3) := by decide +kernel
theorem dX2_enterParents_20 : decode cX2_enterParents 20 = .ok (.aload_n 0, 1) := by decide +kernel
theorem dX2_enterParents_21 : decode cX2_enterParents 21 = .ok (.getfield 14, 3) := by decide +kernel
theorem dX2_enterParents_24 : decode cX2_enterParents 24 = .ok (.iload_n 2, 1) := by decide +kernel
theorem dX2_enterParents_25 : decode cX2_enterParents 25 = .ok (.iload_n 3, 1) := by decide +kernel
theorem dX2_enterParents_26 : decode cX2_enterParents 26 = .ok (.invokestatic 46, 3) := by decide +kernel
theorem dX2_enterParents_29 : decode cX2_enterParents 29 = .ok (.aload_n 1, 1) := by decide +kernel
theorem dX2_enterParents_30 : decode cX2_enterParents 30 = .ok (.iload_n 2, 1) := by decide +kernel
theorem dX2_enterParents_31 : decode cX2_enterParents 31 = .ok (.iload_n 3, 1) := by decide +kernel
theorem dX2_enterParents_32 : decode cX2_enterParents 32 = .ok (.invokevirtual 30, 3) := by decide +kernel
theorem dX2_enterParents_35 : decode cX2_enterParents 35 = .ok (.ifCond .eq 7, 3) := by decide +kernel
theorem dX2_enterParents_38 : decode cX2_enterParents 38 = .ok (.iconst 1, 1) := by decide +kernel
theorem dX2_enterParents_39 : decode cX2_enterParents 39 = .ok (.goto 4, 3) := by decide +kernel
theorem dX2_enterParents_42 : decode cX2_enterParents 42 = .ok (.iconst 0, 1) := by decide +kernel
theorem dX2_enterParents_43 : decode cX2_enterParents 43 = .ok (.invokevirtual 54, 3) := by decide +kernel
theorem dX2_enterParents_46 : decode cX2_enterParents 46 = .ok (.iinc 3 1, 3) := by decide +kernel
theorem dX2_enterParents_49 : decode cX2_enterParents 49 = .ok (.goto (-37), 3) := by decide +kernel
theorem dX2_enterParents_52 : decode cX2_enterParents 52 = .ok (.iinc 2 1, 3) := by decide +kernel
theorem dX2_enterParents_55 : decode cX2_enterParents 55 = .ok (.goto (-53), 3) := by decide +kernel
theorem dX2_enterParents_58 : decode cX2_enterParents 58 = .ok (.return_, 1) := by decide +kernel
theorem dX2_joinThrough_0 : decode cX2_joinThrough 0 = .ok (.iconst 0, 1) := by decide +kernel
theorem dX2_joinThrough_1 : decode cX2_joinThrough 1 = .ok (.istore_n 3, 1) := by decide +kernel
theorem dX2_joinThrough_2 : decode cX2_joinThrough 2 = .ok (.iload_n 3, 1) := by decide +kernel
theorem dX2_joinThrough_3 : decode cX2_joinThrough 3 = .ok (.iload_n 2, 1) := by decide +kernel
theorem dX2_joinThrough_4 : decode cX2_joinThrough 4 = .ok (.if_icmp .ge 71, 3) := by decide +kernel
theorem dX2_joinThrough_7 : decode cX2_joinThrough 7 = .ok (.aload_n 0, 1) := by decide +kernel
theorem dX2_joinThrough_8 : decode cX2_joinThrough 8 = .ok (.getfield 14, 3) := by decide +kernel
theorem dX2_joinThrough_11 : decode cX2_joinThrough 11 = .ok (.iload_n 3, 1) := by decide +kernel
theorem dX2_joinThrough_12 : decode cX2_joinThrough 12 = .ok (.iload_n 1, 1) := by decide +kernel
theorem dX2_joinThrough_13 : decode cX2_joinThrough 13 = .ok (.invokestatic 46, 3) := by decide +kernel
theorem dX2_joinThrough_16 : decode cX2_joinThrough 16 = .ok (.invokevirtual 50, 3) := by decide +kernel
theorem dX2_joinThrough_19 : decode cX2_joinThrough 19 = .ok (.iconst 1, 1) := by decide +kernel
theorem dX2_joinThrough_20 : decode cX2_joinThrough 20 = .ok (.if_icmp .ne 49, 3) := by decide +kernel
theorem dX2_joinThrough_23 : decode cX2_joinThrough 23 = .ok (.iconst 0, 1) := by decide +kernel
theorem dX2_joinThrough_24 : decode cX2_joinThrough 24 = .ok (.istore 4, 2) := by decide +kernel
theorem dX2_joinThrough_26 : decode cX2_joinThrough 26 = .ok (.iload 4, 2) := by decide +kernel
theorem dX2_joinThrough_28 : decode cX2_joinThrough 28 = .ok (.iload_n 2, 1) := by decide +kernel
theorem dX2_joinThrough_29 : decode cX2_joinThrough 29 = .ok (.if_icmp .ge 40, 3) := by decide +kernel
theorem dX2_joinThrough_32 : decode cX2_joinThrough 32 = .ok (.aload_n 0, 1) := by decide +kernel
theorem dX2_joinThrough_33 : decode cX2_joinThrough 33 = .ok (.getfield 14, 3) := by decide +kernel
theorem dX2_joinThrough_36 : decode cX2_joinThrough 36 = .ok (.iload_n 1, 1) := by decide +kernel
theorem dX2_joinThrough_37 : decode cX2_joinThrough 37 = .ok (.iload 4, 2) := by decide +kernel
theorem dX2_joinThrough_39 : decode cX2_joinThrough 39 = .ok (.invokestatic 46, 3) := by decide +kernel
theorem dX2_joinThrough_42 : decode cX2_joinThrough 42 = .ok (.invokevirtual 50, 3) := by decide +kernel
theorem dX2_joinThrough_45 : decode cX2_joinThrough 45 = .ok (.iconst 1, 1) := by decide +kernel
theorem dX2_joinThrough_46 : decode cX2_joinThrough 46 = .ok (.if_icmp .ne 17, 3) := by decide +kernel
theorem dX2_joinThrough_49 : decode cX2_joinThrough 49 = .ok (.aload_n 0, 1) := by decide +kernel
theorem dX2_joinThrough_50 : decode cX2_joinThrough 50 = .ok (.getfield 14, 3) := by decide +kernel
theorem dX2_joinThrough_53 : decode cX2_joinThrough 53 = .ok (.iload_n 3, 1) := by decide +kernel
theorem dX2_joinThrough_54 : decode cX2_joinThrough 54 = .ok (.iload 4, 2) := by decide +kernel
theorem dX2_joinThrough_56 : decode cX2_joinThrough 56 = .ok (.invokestatic 46, 3) := by decide +kernel
theorem dX2_joinThrough_59 : decode cX2_joinThrough 59 = .ok (.iconst 1, 1) := by decide +kernel
theorem dX2_joinThrough_60 : decode cX2_joinThrough 60 = .ok (.invokevirtual 54, 3) := by decide +kernel
theorem dX2_joinThrough_63 : decode cX2_joinThrough 63 = .ok (.iinc 4 1, 3) := by decide +kernel
theorem dX2_joinThrough_66 : decode cX2_joinThrough 66 = .ok (.goto (-40), 3) := by decide +kernel
theorem dX2_joinThrough_69 : decode cX2_joinThrough 69 = .ok (.iinc 3 1, 3) := by decide +kernel
theorem dX2_joinThrough_72 : decode cX2_joinThrough 72 = .ok (.goto (-70), 3) := by decide +kernel
theorem dX2_joinThrough_75 : decode cX2_joinThrough 75 = .ok (.return_, 1) := by decide +kernel
theorem dX2_cell_0 : decode cX2_cell 0 = .ok (.iload_n 0, 1) := by decide +kernel
theorem dX2_cell_1 : decode cX2_cell 1 = .ok (.bipush 20, 2) := by decide +kernel
theorem dX2_cell_3 : decode cX2_cell 3 = .ok (.imul, 1) := by decide +kernel
theorem dX2_cell_4 : decode cX2_cell 4 = .ok (.iload_n 1, 1) := by decide +kernel
theorem dX2_cell_5 : decode cX2_cell 5 = .ok (.iadd, 1) := by decide +kernel
theorem dX2_cell_6 : decode cX2_cell 6 = .ok (.ireturn, 1) := by decide +kernel
theorem dX3_init_0 : decode cX3_init 0 = .ok (.aload_n 0, 1) := by decide +kernel
theorem dX3_init_1 : decode cX3_init 1 = .ok (.invokespecial 3, 3) := by decide +kernel
theorem dX3_init_4 : decode cX3_init 4 = .ok (.aload_n 0, 1) := by decide +kernel
theorem dX3_init_5 : decode cX3_init 5 = .ok (.iconst 0, 1) := by decide +kernel
theorem dX3_init_6 : decode cX3_init 6 = .ok (.putfield 9, 3) := by decide +kernel
theorem dX3_init_9 : decode cX3_init 9 = .ok (.return_, 1) := by decide +kernel
theorem dX3_verdict_0 : decode cX3_verdict 0 = .ok (.iload_n 2, 1) := by decide +kernel
theorem dX3_verdict_1 : decode cX3_verdict 1 = .ok (.tableswitch 172 0 8 #[51, 60, 73, 82, 91, 100, 109, 126, 154], 51) := by decide +kernel
theorem dX3_verdict_52 : decode cX3_verdict 52 = .ok (.aload_n 0, 1) := by decide +kernel
theorem dX3_verdict_53 : decode cX3_verdict 53 = .ok (.aload_n 1, 1) := by decide +kernel
theorem dX3_verdict_54 : decode cX3_verdict 54 = .ok (.iload_n 3, 1) := by decide +kernel
theorem dX3_verdict_55 : decode cX3_verdict 55 = .ok (.iload 4, 2) := by decide +kernel
theorem dX3_verdict_57 : decode cX3_verdict 57 = .ok (.invokevirtual 15, 3) := by decide +kernel
theorem dX3_verdict_60 : decode cX3_verdict 60 = .ok (.ireturn, 1) := by decide +kernel
theorem dX3_verdict_61 : decode cX3_verdict 61 = .ok (.aload_n 0, 1) := by decide +kernel
theorem dX3_verdict_62 : decode cX3_verdict 62 = .ok (.aload_n 1, 1) := by decide +kernel
theorem dX3_verdict_63 : decode cX3_verdict 63 = .ok (.iload_n 3, 1) := by decide +kernel
theorem dX3_verdict_64 : decode cX3_verdict 64 = .ok (.iload 4, 2) := by decide +kernel
theorem dX3_verdict_66 : decode cX3_verdict 66 = .ok (.iload 5, 2) := by decide +kernel
theorem dX3_verdict_68 : decode cX3_verdict 68 = .ok (.iload 6, 2) := by decide +kernel
theorem dX3_verdict_70 : decode cX3_verdict 70 = .ok (.invokevirtual 19, 3) := by decide +kernel
theorem dX3_verdict_73 : decode cX3_verdict 73 = .ok (.ireturn, 1) := by decide +kernel
theorem dX3_verdict_74 : decode cX3_verdict 74 = .ok (.aload_n 0, 1) := by decide +kernel
theorem dX3_verdict_75 : decode cX3_verdict 75 = .ok (.aload_n 1, 1) := by decide +kernel
theorem dX3_verdict_76 : decode cX3_verdict 76 = .ok (.iload_n 3, 1) := by decide +kernel
theorem dX3_verdict_77 : decode cX3_verdict 77 = .ok (.iload 4, 2) := by decide +kernel
theorem dX3_verdict_79 : decode cX3_verdict 79 = .ok (.invokevirtual 23, 3) := by decide +kernel
theorem dX3_verdict_82 : decode cX3_verdict 82 = .ok (.ireturn, 1) := by decide +kernel
theorem dX3_verdict_83 : decode cX3_verdict 83 = .ok (.aload_n 0, 1) := by decide +kernel
theorem dX3_verdict_84 : decode cX3_verdict 84 = .ok (.aload_n 1, 1) := by decide +kernel
theorem dX3_verdict_85 : decode cX3_verdict 85 = .ok (.iload_n 3, 1) := by decide +kernel
theorem dX3_verdict_86 : decode cX3_verdict 86 = .ok (.iload 4, 2) := by decide +kernel
theorem dX3_verdict_88 : decode cX3_verdict 88 = .ok (.invokevirtual 26, 3) := by decide +kernel
theorem dX3_verdict_91 : decode cX3_verdict 91 = .ok (.ireturn, 1) := by decide +kernel
theorem dX3_verdict_92 : decode cX3_verdict 92 = .ok (.aload_n 0, 1) := by decide +kernel
theorem dX3_verdict_93 : decode cX3_verdict 93 = .ok (.aload_n 1, 1) := by decide +kernel
theorem dX3_verdict_94 : decode cX3_verdict 94 = .ok (.iload_n 3, 1) := by decide +kernel
theorem dX3_verdict_95 : decode cX3_verdict 95 = .ok (.iload 4, 2) := by decide +kernel
theorem dX3_verdict_97 : decode cX3_verdict 97 = .ok (.invokevirtual 29, 3) := by decide +kernel
theorem dX3_verdict_100 : decode cX3_verdict 100 = .ok (.ireturn, 1) := by decide +kernel
theorem dX3_verdict_101 : decode cX3_verdict 101 = .ok (.aload_n 0, 1) := by decide +kernel
theorem dX3_verdict_102 : decode cX3_verdict 102 = .ok (.aload_n 1, 1) := by decide +kernel
theorem dX3_verdict_103 : decode cX3_verdict 103 = .ok (.iload_n 3, 1) := by decide +kernel
theorem dX3_verdict_104 : decode cX3_verdict 104 = .ok (.iload 4, 2) := by decide +kernel
theorem dX3_verdict_106 : decode cX3_verdict 106 = .ok (.invokevirtual 32, 3) := by decide +kernel
theorem dX3_verdict_109 : decode cX3_verdict 109 = .ok (.ireturn, 1) := by decide +kernel
theorem dX3_verdict_110 : decode cX3_verdict 110 = .ok (.aload_n 1, 1) := by decide +kernel
theorem dX3_verdict_111 : decode cX3_verdict 111 = .ok (.getfield 35, 3) := by decide +kernel
theorem dX3_verdict_114 : decode cX3_verdict 114 = .ok (.iload_n 3, 1) := by decide +kernel
theorem dX3_verdict_115 : decode cX3_verdict 115 = .ok (.invokevirtual 41, 3) := by decide +kernel
theorem dX3_verdict_118 : decode cX3_verdict 118 = .ok (.ifCond .eq 7, 3) := by decide +kernel
theorem dX3_verdict_121 : decode cX3_verdict 121 = .ok (.iconst 0, 1) := by decide +kernel
theorem dX3_verdict_122 : decode cX3_verdict 122 = .ok (.goto 4, 3) := by decide +kernel
theorem dX3_verdict_125 : decode cX3_verdict 125 = .ok (.iconst (-1), 1) := by decide +kernel
theorem dX3_verdict_126 : decode cX3_verdict 126 = .ok (.ireturn, 1) := by decide +kernel
theorem dX3_verdict_127 : decode cX3_verdict 127 = .ok (.aload_n 1, 1) := by decide +kernel
theorem dX3_verdict_128 : decode cX3_verdict 128 = .ok (.getfield 47, 3) := by decide +kernel
theorem dX3_verdict_131 : decode cX3_verdict 131 = .ok (.getfield 51, 3) := by decide +kernel
theorem dX3_verdict_134 : decode cX3_verdict 134 = .ok (.ifCond .le 7, 3) := by decide +kernel
theorem dX3_verdict_137 : decode cX3_verdict 137 = .ok (.iconst 0, 1) := by decide +kernel
theorem dX3_verdict_138 : decode cX3_verdict 138 = .ok (.goto 16, 3) := by decide +kernel
theorem dX3_verdict_141 : decode cX3_verdict 141 = .ok (.aload_n 0, 1) := by decide +kernel
theorem dX3_verdict_142 : decode cX3_verdict 142 = .ok (.bipush 7, 2) := by decide +kernel
theorem dX3_verdict_144 : decode cX3_verdict 144 = .ok (.aload_n 1, 1) := by decide +kernel
theorem dX3_verdict_145 : decode cX3_verdict 145 = .ok (.getfield 35, 3) := by decide +kernel
theorem dX3_verdict_148 : decode cX3_verdict 148 = .ok (.invokevirtual 56, 3) := by decide +kernel
theorem dX3_verdict_151 : decode cX3_verdict 151 = .ok (.invokevirtual 60, 3) := by decide +kernel
theorem dX3_verdict_154 : decode cX3_verdict 154 = .ok (.ireturn, 1) := by decide +kernel
theorem dX3_verdict_155 : decode cX3_verdict 155 = .ok (.aload_n 1, 1) := by decide +kernel
theorem dX3_verdict_156 : decode cX3_verdict 156 = .ok (.getfield 64, 3) := by decide +kernel
theorem dX3_verdict_159 : decode cX3_verdict 159 = .ok (.iload_n 3, 1) := by decide +kernel
theorem dX3_verdict_160 : decode cX3_verdict 160 = .ok (.invokevirtual 68, 3) := by decide +kernel
theorem dX3_verdict_163 : decode cX3_verdict 163 = .ok (.ifCond .eq 7, 3) := by decide +kernel
theorem dX3_verdict_166 : decode cX3_verdict 166 = .ok (.iconst 0, 1) := by decide +kernel
theorem dX3_verdict_167 : decode cX3_verdict 167 = .ok (.goto 5, 3) := by decide +kernel
theorem dX3_verdict_170 : decode cX3_verdict 170 = .ok (.bipush (-2), 2) := by decide +kernel
theorem dX3_verdict_172 : decode cX3_verdict 172 = .ok (.ireturn, 1) := by decide +kernel
theorem dX3_verdict_173 : decode cX3_verdict 173 = .ok (.iload_n 3, 1) := by decide +kernel
theorem dX3_verdict_174 : decode cX3_verdict 174 = .ok (.iconst 1, 1) := by decide +kernel
theorem dX3_verdict_175 : decode cX3_verdict 175 = .ok (.bipush 99, 2) := by decide +kernel
theorem dX3_verdict_177 : decode cX3_verdict 177 = .ok (.invokestatic 71, 3) := by decide +kernel
theorem dX3_verdict_180 : decode cX3_verdict 180 = .ok (.ifCond .eq 7, 3) := by decide +kernel
theorem dX3_verdict_183 : decode cX3_verdict 183 = .ok (.iconst 0, 1) := by decide +kernel
theorem dX3_verdict_184 : decode cX3_verdict 184 = .ok (.goto 5, 3) := by decide +kernel
theorem dX3_verdict_187 : decode cX3_verdict 187 = .ok (.bipush (-3), 2) := by decide +kernel
theorem dX3_verdict_189 : decode cX3_verdict 189 = .ok (.ireturn, 1) := by decide +kernel
theorem dX3_deny_0 : decode cX3_deny 0 = .ok (.aload_n 0, 1) := by decide +kernel
theorem dX3_deny_1 : decode cX3_deny 1 = .ok (.iload_n 2, 1) := by decide +kernel
theorem dX3_deny_2 : decode cX3_deny 2 = .ok (.putfield 9, 3) := by decide +kernel
theorem dX3_deny_5 : decode cX3_deny 5 = .ok (.iload_n 1, 1) := by decide +kernel
theorem dX3_deny_6 : decode cX3_deny 6 = .ok (.ireturn, 1) := by decide +kernel
theorem dX3_isWithin_0 : decode cX3_isWithin 0 = .ok (.iload_n 0, 1) := by decide +kernel
theorem dX3_isWithin_1 : decode cX3_isWithin 1 = .ok (.iload_n 1, 1) := by decide +kernel
theorem dX3_isWithin_2 : decode cX3_isWithin 2 = .ok (.if_icmp .lt 12, 3) := by decide +kernel
theorem dX3_isWithin_5 : decode cX3_isWithin 5 = .ok (.iload_n 0, 1) := by decide +kernel
theorem dX3_isWithin_6 : decode cX3_isWithin 6 = .ok (.iload_n 2, 1) := by decide +kernel
theorem dX3_isWithin_7 : decode cX3_isWithin 7 = .ok (.if_icmp .gt 7, 3) := by decide +kernel
theorem dX3_isWithin_10 : decode cX3_isWithin 10 = .ok (.iconst 1, 1) := by decide +kernel
theorem dX3_isWithin_11 : decode cX3_isWithin 11 = .ok (.goto 4, 3) := by decide +kernel
theorem dX3_isWithin_14 : decode cX3_isWithin 14 = .ok (.iconst 0, 1) := by decide +kernel
theorem dX3_isWithin_15 : decode cX3_isWithin 15 = .ok (.ireturn, 1) := by decide +kernel
theorem dX3_onAddShelf_0 : decode cX3_onAddShelf 0 = .ok (.iload_n 2, 1) := by decide +kernel
theorem dX3_onAddShelf_1 : decode cX3_onAddShelf 1 = .ok (.iconst 0, 1) := by decide +kernel
theorem dX3_onAddShelf_2 : decode cX3_onAddShelf 2 = .ok (.iconst 2, 1) := by decide +kernel
theorem dX3_onAddShelf_3 : decode cX3_onAddShelf 3 = .ok (.invokestatic 71, 3) := by decide +kernel
theorem dX3_onAddShelf_6 : decode cX3_onAddShelf 6 = .ok (.ifCond .eq 13, 3) := by decide +kernel
theorem dX3_onAddShelf_9 : decode cX3_onAddShelf 9 = .ok (.iload_n 3, 1) := by decide +kernel
theorem dX3_onAddShelf_10 : decode cX3_onAddShelf 10 = .ok (.iconst 1, 1) := by decide +kernel
theorem dX3_onAddShelf_11 : decode cX3_onAddShelf 11 = .ok (.bipush 40, 2) := by decide +kernel
theorem dX3_onAddShelf_13 : decode cX3_onAddShelf 13 = .ok (.invokestatic 71, 3) := by decide +kernel
theorem dX3_onAddShelf_16 : decode cX3_onAddShelf 16 = .ok (.ifCond .ne 6, 3) := by decide +kernel
theorem dX3_onAddShelf_19 : decode cX3_onAddShelf 19 = .ok (.bipush (-3), 2) := by decide +kernel
theorem dX3_onAddShelf_21 : decode cX3_onAddShelf 21 = .ok (.ireturn, 1) := by decide +kernel
theorem dX3_onAddShelf_22 : decode cX3_onAddShelf 22 = .ok (.aload_n 1, 1) := by decide +kernel
theorem dX3_onAddShelf_23 : decode cX3_onAddShelf 23 = .ok (.getfield 64, 3) := by decide +kernel
theorem dX3_onAddShelf_26 : decode cX3_onAddShelf 26 = .ok (.getfield 75, 3) := by decide +kernel
theorem dX3_onAddShelf_29 : decode cX3_onAddShelf 29 = .ok (.bipush 8, 2) := by decide +kernel
theorem dX3_onAddShelf_31 : decode cX3_onAddShelf 31 = .ok (.if_icmp .ge 7, 3) := by decide +kernel
theorem dX3_onAddShelf_34 : decode cX3_onAddShelf 34 = .ok (.iconst 0, 1) := by decide +kernel
theorem dX3_onAddShelf_35 : decode cX3_onAddShelf 35 = .ok (.goto 10, 3) := by decide +kernel
theorem dX3_onAddShelf_38 : decode cX3_onAddShelf 38 = .ok (.aload_n 0, 1) := by decide +kernel
theorem dX3_onAddShelf_39 : decode cX3_onAddShelf 39 = .ok (.iconst 1, 1) := by decide +kernel
theorem dX3_onAddShelf_40 : decode cX3_onAddShelf 40 = .ok (.bipush 8, 2) := by decide +kernel
theorem dX3_onAddShelf_42 : decode cX3_onAddShelf 42 = .ok (.invokevirtual 60, 3) := by decide +kernel
theorem dX3_onAddShelf_45 : decode cX3_onAddShelf 45 = .ok (.ireturn, 1) := by decide +kernel
theorem dX3_onReceive_0 : decode cX3_onReceive 0 = .ok (.iload_n 2, 1) := by decide +kernel
theorem dX3_onReceive_1 : decode cX3_onReceive 1 = .ok (.iconst 0, 1) := by decide +kernel
theorem dX3_onReceive_2 : decode cX3_onReceive 2 = .ok (.iconst 5, 1) := by decide +kernel
theorem dX3_onReceive_3 : decode cX3_onReceive 3 = .ok (.invokestatic 71, 3) := by decide +kernel
theorem dX3_onReceive_6 : decode cX3_onReceive 6 = .ok (.ifCond .eq 34, 3) := by decide +kernel
theorem dX3_onReceive_9 : decode cX3_onReceive 9 = .ok (.iload_n 3, 1) := by decide +kernel
theorem dX3_onReceive_10 : decode cX3_onReceive 10 = .ok (.iconst 1, 1) := by decide +kernel
theorem dX3_onReceive_11 : decode cX3_onReceive 11 = .ok (.bipush 40, 2) := by decide +kernel
theorem dX3_onReceive_13 : decode cX3_onReceive 13 = .ok (.invokestatic 71, 3) := by decide +kernel
theorem dX3_onReceive_16 : decode cX3_onReceive 16 = .ok (.ifCond .eq 24, 3) := by decide +kernel
theorem dX3_onReceive_19 : decode cX3_onReceive 19 = .ok (.iload 4, 2) := by decide +kernel
theorem dX3_onReceive_21 : decode cX3_onReceive 21 = .ok (.iconst 0, 1) := by decide +kernel
theorem dX3_onReceive_22 : decode cX3_onReceive 22 = .ok (.iconst 2, 1) := by decide +kernel
theorem dX3_onReceive_23 : decode cX3_onReceive 23 = .ok (.invokestatic 71, 3) := by decide +kernel
theorem dX3_onReceive_26 : decode cX3_onReceive 26 = .ok (.ifCond .eq 14, 3) := by decide +kernel
theorem dX3_onReceive_29 : decode cX3_onReceive 29 = .ok (.iload 5, 2) := by decide +kernel
theorem dX3_onReceive_31 : decode cX3_onReceive 31 = .ok (.iconst 0, 1) := by decide +kernel
theorem dX3_onReceive_32 : decode cX3_onReceive 32 = .ok (.bipush 99, 2) := by decide +kernel
theorem dX3_onReceive_34 : decode cX3_onReceive 34 = .ok (.invokestatic 71, 3) := by decide +kernel
theorem dX3_onReceive_37 : decode cX3_onReceive 37 = .ok (.ifCond .ne 6, 3) := by decide +kernel
theorem dX3_onReceive_40 : decode cX3_onReceive 40 = .ok (.bipush (-3), 2) := by decide +kernel
theorem dX3_onReceive_42 : decode cX3_onReceive 42 = .ok (.ireturn, 1) := by decide +kernel
theorem dX3_onReceive_43 : decode cX3_onReceive 43 = .ok (.aload_n 0, 1) := by decide +kernel
theorem dX3_onReceive_44 : decode cX3_onReceive 44 = .ok (.aload_n 1, 1) := by decide +kernel
theorem dX3_onReceive_45 : decode cX3_onReceive 45 = .ok (.invokevirtual 76, 3) := by decide +kernel
theorem dX3_onReceive_48 : decode cX3_onReceive 48 = .ok (.istore 6, 2) := by decide +kernel
theorem dX3_onReceive_50 : decode cX3_onReceive 50 = .ok (.iload 6, 2) := by decide +kernel
theorem dX3_onReceive_52 : decode cX3_onReceive 52 = .ok (.ifCond .eq 6, 3) := by decide +kernel
theorem dX3_onReceive_55 : decode cX3_onReceive 55 = .ok (.iload 6, 2) := by decide +kernel
theorem dX3_onReceive_57 : decode cX3_onReceive 57 = .ok (.ireturn, 1) := by decide +kernel
theorem dX3_onReceive_58 : decode cX3_onReceive 58 = .ok (.aload_n 1, 1) := by decide +kernel
theorem dX3_onReceive_59 : decode cX3_onReceive 59 = .ok (.iload 4, 2) := by decide +kernel
theorem dX3_onReceive_61 : decode cX3_onReceive 61 = .ok (.iload_n 3, 1) := by decide +kernel
theorem dX3_onReceive_62 : decode cX3_onReceive 62 = .ok (.iconst (-1), 1) := by decide +kernel
theorem dX3_onReceive_63 : decode cX3_onReceive 63 = .ok (.iconst (-1), 1) := by decide +kernel
theorem dX3_onReceive_64 : decode cX3_onReceive 64 = .ok (.invokevirtual 80, 3) := by decide +kernel
theorem dX3_onReceive_67 : decode cX3_onReceive 67 = .ok (.iconst (-1), 1) := by decide +kernel
theorem dX3_onReceive_68 : decode cX3_onReceive 68 = .ok (.if_icmp .eq 7, 3) := by decide +kernel
theorem dX3_onReceive_71 : decode cX3_onReceive 71 = .ok (.iconst 0, 1) := by decide +kernel
theorem dX3_onReceive_72 : decode cX3_onReceive 72 = .ok (.goto 9, 3) := by decide +kernel
theorem dX3_onReceive_75 : decode cX3_onReceive 75 = .ok (.aload_n 0, 1) := by decide +kernel
theorem dX3_onReceive_76 : decode cX3_onReceive 76 = .ok (.iconst 2, 1) := by decide +kernel
theorem dX3_onReceive_77 : decode cX3_onReceive 77 = .ok (.iload_n 3, 1) := by decide +kernel
theorem dX3_onReceive_78 : decode cX3_onReceive 78 = .ok (.invokevirtual 60, 3) := by decide +kernel
theorem dX3_onReceive_81 : decode cX3_onReceive 81 = .ok (.ireturn, 1) := by decide +kernel
theorem dX3_onLotLimit_0 : decode cX3_onLotLimit 0 = .ok (.aload_n 1, 1) := by decide +kernel
theorem dX3_onLotLimit_1 : decode cX3_onLotLimit 1 = .ok (.getfield 35, 3) := by decide +kernel
theorem dX3_onLotLimit_4 : decode cX3_onLotLimit 4 = .ok (.getfield 84, 3) := by decide +kernel
theorem dX3_onLotLimit_7 : decode cX3_onLotLimit 7 = .ok (.bipush 20, 2) := by decide +kernel
theorem dX3_onLotLimit_9 : decode cX3_onLotLimit 9 = .ok (.if_icmp .ge 7, 3) := by decide +kernel
theorem dX3_onLotLimit_12 : decode cX3_onLotLimit 12 = .ok (.iconst 0, 1) := by decide +kernel
theorem dX3_onLotLimit_13 : decode cX3_onLotLimit 13 = .ok (.goto 10, 3) := by decide +kernel
theorem dX3_onLotLimit_16 : decode cX3_onLotLimit 16 = .ok (.aload_n 0, 1) := by decide +kernel
theorem dX3_onLotLimit_17 : decode cX3_onLotLimit 17 = .ok (.iconst 1, 1) := by decide +kernel
theorem dX3_onLotLimit_18 : decode cX3_onLotLimit 18 = .ok (.bipush 20, 2) := by decide +kernel
theorem dX3_onLotLimit_20 : decode cX3_onLotLimit 20 = .ok (.invokevirtual 60, 3) := by decide +kernel
theorem dX3_onLotLimit_23 : decode cX3_onLotLimit 23 = .ok (.ireturn, 1) := by decide +kernel
theorem dX3_onBothLimits_0 : decode cX3_onBothLimits 0 = .ok (.aload_n 0, 1) := by decide +kernel
theorem dX3_onBothLimits_1 : decode cX3_onBothLimits 1 = .ok (.aload_n 1, 1) := by decide +kernel
theorem dX3_onBothLimits_2 : decode cX3_onBothLimits 2 = .ok (.invokevirtual 85, 3) := by decide +kernel
theorem dX3_onBothLimits_5 : decode cX3_onBothLimits 5 = .ok (.ifCond .eq 5, 3) := by decide +kernel
theorem dX3_onBothLimits_8 : decode cX3_onBothLimits 8 = .ok (.iconst 1, 1) := by decide +kernel
theorem dX3_onBothLimits_9 : decode cX3_onBothLimits 9 = .ok (.ireturn, 1) := by decide +kernel
theorem dX3_onBothLimits_10 : decode cX3_onBothLimits 10 = .ok (.aload_n 1, 1) := by decide +kernel
theorem dX3_onBothLimits_11 : decode cX3_onBothLimits 11 = .ok (.getfield 35, 3) := by decide +kernel
theorem dX3_onBothLimits_14 : decode cX3_onBothLimits 14 = .ok (.invokevirtual 56, 3) := by decide +kernel
theorem dX3_onBothLimits_17 : decode cX3_onBothLimits 17 = .ok (.bipush 8, 2) := by decide +kernel
theorem dX3_onBothLimits_19 : decode cX3_onBothLimits 19 = .ok (.if_icmp .ge 7, 3) := by decide +kernel
theorem dX3_onBothLimits_22 : decode cX3_onBothLimits 22 = .ok (.iconst 0, 1) := by decide +kernel
theorem dX3_onBothLimits_23 : decode cX3_onBothLimits 23 = .ok (.goto 10, 3) := by decide +kernel
theorem dX3_onBothLimits_26 : decode cX3_onBothLimits 26 = .ok (.aload_n 0, 1) := by decide +kernel
theorem dX3_onBothLimits_27 : decode cX3_onBothLimits 27 = .ok (.iconst 1, 1) := by decide +kernel
theorem dX3_onBothLimits_28 : decode cX3_onBothLimits 28 = .ok (.bipush 8, 2) := by decide +kernel
theorem dX3_onBothLimits_30 : decode cX3_onBothLimits 30 = .ok (.invokevirtual 60, 3) := by decide +kernel
theorem dX3_onBothLimits_33 : decode cX3_onBothLimits 33 = .ok (.ireturn, 1) := by decide +kernel
theorem dX3_onSplit_0 : decode cX3_onSplit 0 = .ok (.aload_n 1, 1) := by decide +kernel
theorem dX3_onSplit_1 : decode cX3_onSplit 1 = .ok (.getfield 35, 3) := by decide +kernel
theorem dX3_onSplit_4 : decode cX3_onSplit 4 = .ok (.iload_n 2, 1) := by decide +kernel
theorem dX3_onSplit_5 : decode cX3_onSplit 5 = .ok (.invokevirtual 41, 3) := by decide +kernel
theorem dX3_onSplit_8 : decode cX3_onSplit 8 = .ok (.ifCond .ne 5, 3) := by decide +kernel
theorem dX3_onSplit_11 : decode cX3_onSplit 11 = .ok (.iconst (-1), 1) := by decide +kernel
theorem dX3_onSplit_12 : decode cX3_onSplit 12 = .ok (.ireturn, 1) := by decide +kernel
theorem dX3_onSplit_13 : decode cX3_onSplit 13 = .ok (.iload_n 3, 1) := by decide +kernel
theorem dX3_onSplit_14 : decode cX3_onSplit 14 = .ok (.iconst 1, 1) := by decide +kernel
theorem dX3_onSplit_15 : decode cX3_onSplit 15 = .ok (.bipush 40, 2) := by decide +kernel
theorem dX3_onSplit_17 : decode cX3_onSplit 17 = .ok (.invokestatic 71, 3) := by decide +kernel
theorem dX3_onSplit_20 : decode cX3_onSplit 20 = .ok (.ifCond .ne 6, 3) := by decide +kernel
theorem dX3_onSplit_23 : decode cX3_onSplit 23 = .ok (.bipush (-3), 2) := by decide +kernel
theorem dX3_onSplit_25 : decode cX3_onSplit 25 = .ok (.ireturn, 1) := by decide +kernel
theorem dX3_onSplit_26 : decode cX3_onSplit 26 = .ok (.aload_n 1, 1) := by decide +kernel
theorem dX3_onSplit_27 : decode cX3_onSplit 27 = .ok (.getfield 35, 3) := by decide +kernel
theorem dX3_onSplit_30 : decode cX3_onSplit 30 = .ok (.iload_n 2, 1) := by decide +kernel
theorem dX3_onSplit_31 : decode cX3_onSplit 31 = .ok (.invokevirtual 88, 3) := by decide +kernel
theorem dX3_onSplit_34 : decode cX3_onSplit 34 = .ok (.ifCond .ne 10, 3) := by decide +kernel
theorem dX3_onSplit_37 : decode cX3_onSplit 37 = .ok (.aload_n 0, 1) := by decide +kernel
theorem dX3_onSplit_38 : decode cX3_onSplit 38 = .ok (.iconst 5, 1) := by decide +kernel
theorem dX3_onSplit_39 : decode cX3_onSplit 39 = .ok (.iload_n 2, 1) := by decide +kernel
theorem dX3_onSplit_40 : decode cX3_onSplit 40 = .ok (.invokevirtual 60, 3) := by decide +kernel
theorem dX3_onSplit_43 : decode cX3_onSplit 43 = .ok (.ireturn, 1) := by decide +kernel
theorem dX3_onSplit_44 : decode cX3_onSplit 44 = .ok (.aload_n 1, 1) := by decide +kernel
theorem dX3_onSplit_45 : decode cX3_onSplit 45 = .ok (.iload_n 2, 1) := by decide +kernel
theorem dX3_onSplit_46 : decode cX3_onSplit 46 = .ok (.invokevirtual 91, 3) := by decide +kernel
theorem dX3_onSplit_49 : decode cX3_onSplit 49 = .ok (.ifCond .eq 10, 3) := by decide +kernel
theorem dX3_onSplit_52 : decode cX3_onSplit 52 = .ok (.aload_n 0, 1) := by decide +kernel
theorem dX3_onSplit_53 : decode cX3_onSplit 53 = .ok (.iconst 3, 1) := by decide +kernel
theorem dX3_onSplit_54 : decode cX3_onSplit 54 = .ok (.iload_n 2, 1) := by decide +kernel
theorem dX3_onSplit_55 : decode cX3_onSplit 55 = .ok (.invokevirtual 60, 3) := by decide +kernel
theorem dX3_onSplit_58 : decode cX3_onSplit 58 = .ok (.ireturn, 1) := by decide +kernel
theorem dX3_onSplit_59 : decode cX3_onSplit 59 = .ok (.aload_n 1, 1) := by decide +kernel
theorem dX3_onSplit_60 : decode cX3_onSplit 60 = .ok (.getfield 35, 3) := by decide +kernel
theorem dX3_onSplit_63 : decode cX3_onSplit 63 = .ok (.getfield 94, 3) := by decide +kernel
theorem dX3_onSplit_66 : decode cX3_onSplit 66 = .ok (.iload_n 2, 1) := by decide +kernel
theorem dX3_onSplit_67 : decode cX3_onSplit 67 = .ok (.invokevirtual 98, 3) := by decide +kernel
theorem dX3_onSplit_70 : decode cX3_onSplit 70 = .ok (.istore 4, 2) := by decide +kernel
theorem dX3_onSplit_72 : decode cX3_onSplit 72 = .ok (.iload 4, 2) := by decide +kernel
theorem dX3_onSplit_74 : decode cX3_onSplit 74 = .ok (.iload_n 3, 1) := by decide +kernel
theorem dX3_onSplit_75 : decode cX3_onSplit 75 = .ok (.if_icmp .le 11, 3) := by decide +kernel
theorem dX3_onSplit_78 : decode cX3_onSplit 78 = .ok (.aload_n 0, 1) := by decide +kernel
theorem dX3_onSplit_79 : decode cX3_onSplit 79 = .ok (.aload_n 1, 1) := by decide +kernel
theorem dX3_onSplit_80 : decode cX3_onSplit 80 = .ok (.invokevirtual 76, 3) := by decide +kernel
theorem dX3_onSplit_83 : decode cX3_onSplit 83 = .ok (.goto 11, 3) := by decide +kernel
theorem dX3_onSplit_86 : decode cX3_onSplit 86 = .ok (.aload_n 0, 1) := by decide +kernel
theorem dX3_onSplit_87 : decode cX3_onSplit 87 = .ok (.bipush 6, 2) := by decide +kernel
theorem dX3_onSplit_89 : decode cX3_onSplit 89 = .ok (.iload 4, 2) := by decide +kernel
theorem dX3_onSplit_91 : decode cX3_onSplit 91 = .ok (.invokevirtual 60, 3) := by decide +kernel
theorem dX3_onSplit_94 : decode cX3_onSplit 94 = .ok (.ireturn, 1) := by decide +kernel
theorem dX3_onMix_0 : decode cX3_onMix 0 = .ok (.aload_n 1, 1) := by decide +kernel
theorem dX3_onMix_1 : decode cX3_onMix 1 = .ok (.getfield 35, 3) := by decide +kernel
theorem dX3_onMix_4 : decode cX3_onMix 4 = .ok (.astore 4, 2) := by decide +kernel
theorem dX3_onMix_6 : decode cX3_onMix 6 = .ok (.aload 4, 2) := by decide +kernel
theorem dX3_onMix_8 : decode cX3_onMix 8 = .ok (.iload_n 2, 1) := by decide +kernel
theorem dX3_onMix_9 : decode cX3_onMix 9 = .ok (.invokevirtual 41, 3) := by decide +kernel
theorem dX3_onMix_12 : decode cX3_onMix 12 = .ok (.ifCond .eq 12, 3) := by decide +kernel
theorem dX3_onMix_15 : decode cX3_onMix 15 = .ok (.aload 4, 2) := by decide +kernel
theorem dX3_onMix_17 : decode cX3_onMix 17 = .ok (.iload_n 3, 1) := by decide +kernel
theorem dX3_onMix_18 : decode cX3_onMix 18 = .ok (.invokevirtual 41, 3) := by decide +kernel
theorem dX3_onMix_21 : decode cX3_onMix 21 = .ok (.ifCond .ne 5, 3) := by decide +kernel
theorem dX3_onMix_24 : decode cX3_onMix 24 = .ok (.iconst (-1), 1) := by decide +kernel
theorem dX3_onMix_25 : decode cX3_onMix 25 = .ok (.ireturn, 1) := by decide +kernel
theorem dX3_onMix_26 : decode cX3_onMix 26 = .ok (.iload_n 2, 1) := by decide +kernel
theorem dX3_onMix_27 : decode cX3_onMix 27 = .ok (.iload_n 3, 1) := by decide +kernel
theorem dX3_onMix_28 : decode cX3_onMix 28 = .ok (.if_icmp .ne 6, 3) := by decide +kernel
theorem dX3_onMix_31 : decode cX3_onMix 31 = .ok (.bipush (-3), 2) := by decide +kernel
theorem dX3_onMix_33 : decode cX3_onMix 33 = .ok (.ireturn, 1) := by decide +kernel
theorem dX3_onMix_34 : decode cX3_onMix 34 = .ok (.aload 4, 2) := by decide +kernel
theorem dX3_onMix_36 : decode cX3_onMix 36 = .ok (.iload_n 2, 1) := by decide +kernel
theorem dX3_onMix_37 : decode cX3_onMix 37 = .ok (.invokevirtual 88, 3) := by decide +kernel
theorem dX3_onMix_40 : decode cX3_onMix 40 = .ok (.ifCond .eq 12, 3) := by decide +kernel
theorem dX3_onMix_43 : decode cX3_onMix 43 = .ok (.aload 4, 2) := by decide +kernel
theorem dX3_onMix_45 : decode cX3_onMix 45 = .ok (.iload_n 3, 1) := by decide +kernel
theorem dX3_onMix_46 : decode cX3_onMix 46 = .ok (.invokevirtual 88, 3) := by decide +kernel
theorem dX3_onMix_49 : decode cX3_onMix 49 = .ok (.ifCond .ne 23, 3) := by decide +kernel
theorem dX3_onMix_52 : decode cX3_onMix 52 = .ok (.aload_n 0, 1) := by decide +kernel
theorem dX3_onMix_53 : decode cX3_onMix 53 = .ok (.iconst 5, 1) := by decide +kernel
theorem dX3_onMix_54 : decode cX3_onMix 54 = .ok (.aload 4, 2) := by decide +kernel
theorem dX3_onMix_56 : decode cX3_onMix 56 = .ok (.iload_n 2, 1) := by decide +kernel
theorem dX3_onMix_57 : decode cX3_onMix 57 = .ok (.invokevirtual 88, 3) := by decide +kernel
theorem dX3_onMix_60 : decode cX3_onMix 60 = .ok (.ifCond .eq 7, 3) := by decide +kernel
theorem dX3_onMix_63 : decode cX3_onMix 63 = .ok (.iload_n 3, 1) := by decide +kernel
theorem dX3_onMix_64 : decode cX3_onMix 64 = .ok (.goto 4, 3) := by decide +kernel
theorem dX3_onMix_67 : decode cX3_onMix 67 = .ok (.iload_n 2, 1) := by decide +kernel
theorem dX3_onMix_68 : decode cX3_onMix 68 = .ok (.invokevirtual 60, 3) := by decide +kernel
theorem dX3_onMix_71 : decode cX3_onMix 71 = .ok (.ireturn, 1) := by decide +kernel
theorem dX3_onMix_72 : decode cX3_onMix 72 = .ok (.aload_n 1, 1) := by decide +kernel
theorem dX3_onMix_73 : decode cX3_onMix 73 = .ok (.iload_n 2, 1) := by decide +kernel
theorem dX3_onMix_74 : decode cX3_onMix 74 = .ok (.invokevirtual 91, 3) := by decide +kernel
theorem dX3_onMix_77 : decode cX3_onMix 77 = .ok (.ifCond .ne 11, 3) := by decide +kernel
theorem dX3_onMix_80 : decode cX3_onMix 80 = .ok (.aload_n 1, 1) := by decide +kernel
theorem dX3_onMix_81 : decode cX3_onMix 81 = .ok (.iload_n 3, 1) := by decide +kernel
theorem dX3_onMix_82 : decode cX3_onMix 82 = .ok (.invokevirtual 91, 3) := by decide +kernel
theorem dX3_onMix_85 : decode cX3_onMix 85 = .ok (.ifCond .eq 22, 3) := by decide +kernel
theorem dX3_onMix_88 : decode cX3_onMix 88 = .ok (.aload_n 0, 1) := by decide +kernel
theorem dX3_onMix_89 : decode cX3_onMix 89 = .ok (.iconst 3, 1) := by decide +kernel
theorem dX3_onMix_90 : decode cX3_onMix 90 = .ok (.aload_n 1, 1) := by decide +kernel
theorem dX3_onMix_91 : decode cX3_onMix 91 = .ok (.iload_n 2, 1) := by decide +kernel
theorem dX3_onMix_92 : decode cX3_onMix 92 = .ok (.invokevirtual 91, 3) := by decide +kernel
theorem dX3_onMix_95 : decode cX3_onMix 95 = .ok (.ifCond .eq 7, 3) := by decide +kernel
theorem dX3_onMix_98 : decode cX3_onMix 98 = .ok (.iload_n 2, 1) := by decide +kernel
theorem dX3_onMix_99 : decode cX3_onMix 99 = .ok (.goto 4, 3) := by decide +kernel
theorem dX3_onMix_102 : decode cX3_onMix 102 = .ok (.iload_n 3, 1) := by decide +kernel
theorem dX3_onMix_103 : decode cX3_onMix 103 = .ok (.invokevirtual 60, 3) := by decide +kernel
theorem dX3_onMix_106 : decode cX3_onMix 106 = .ok (.ireturn, 1) := by decide +kernel
theorem dX3_onMix_107 : decode cX3_onMix 107 = .ok (.aload 4, 2) := by decide +kernel
theorem dX3_onMix_109 : decode cX3_onMix 109 = .ok (.getfield 104, 3) := by decide +kernel
theorem dX3_onMix_112 : decode cX3_onMix 112 = .ok (.iload_n 3, 1) := by decide +kernel
theorem dX3_onMix_113 : decode cX3_onMix 113 = .ok (.invokevirtual 98, 3) := by decide +kernel
theorem dX3_onMix_116 : decode cX3_onMix 116 = .ok (.istore 5, 2) := by decide +kernel
theorem dX3_onMix_118 : decode cX3_onMix 118 = .ok (.aload 4, 2) := by decide +kernel
theorem dX3_onMix_120 : decode cX3_onMix 120 = .ok (.getfield 104, 3) := by decide +kernel
theorem dX3_onMix_123 : decode cX3_onMix 123 = .ok (.iload_n 2, 1) := by decide +kernel
theorem dX3_onMix_124 : decode cX3_onMix 124 = .ok (.invokevirtual 98, 3) := by decide +kernel
theorem dX3_onMix_127 : decode cX3_onMix 127 = .ok (.iload 5, 2) := by decide +kernel
theorem dX3_onMix_129 : decode cX3_onMix 129 = .ok (.if_icmp .ne 24, 3) := by decide +kernel
theorem dX3_onMix_132 : decode cX3_onMix 132 = .ok (.aload 4, 2) := by decide +kernel
theorem dX3_onMix_134 : decode cX3_onMix 134 = .ok (.getfield 107, 3) := by decide +kernel
theorem dX3_onMix_137 : decode cX3_onMix 137 = .ok (.iload_n 2, 1) := by decide +kernel
theorem dX3_onMix_138 : decode cX3_onMix 138 = .ok (.invokevirtual 98, 3) := by decide +kernel
theorem dX3_onMix_141 : decode cX3_onMix 141 = .ok (.aload 4, 2) := by decide +kernel
theorem dX3_onMix_143 : decode cX3_onMix 143 = .ok (.getfield 107, 3) := by decide +kernel
theorem dX3_onMix_146 : decode cX3_onMix 146 = .ok (.iload_n 3, 1) := by decide +kernel
theorem dX3_onMix_147 : decode cX3_onMix 147 = .ok (.invokevirtual 98, 3) := by decide +kernel
theorem dX3_onMix_150 : decode cX3_onMix 150 = .ok (.if_icmp .eq 11, 3) := by decide +kernel
theorem dX3_onMix_153 : decode cX3_onMix 153 = .ok (.aload_n 0, 1) := by decide +kernel
theorem dX3_onMix_154 : decode cX3_onMix 154 = .ok (.iconst 4, 1) := by decide +kernel
theorem dX3_onMix_155 : decode cX3_onMix 155 = .ok (.iload 5, 2) := by decide +kernel
theorem dX3_onMix_157 : decode cX3_onMix 157 = .ok (.invokevirtual 60, 3) := by decide +kernel
theorem dX3_onMix_160 : decode cX3_onMix 160 = .ok (.ireturn, 1) := by decide +kernel
theorem dX3_onMix_161 : decode cX3_onMix 161 = .ok (.aload_n 0, 1) := by decide +kernel
theorem dX3_onMix_162 : decode cX3_onMix 162 = .ok (.aload_n 1, 1) := by decide +kernel
theorem dX3_onMix_163 : decode cX3_onMix 163 = .ok (.invokevirtual 85, 3) := by decide +kernel
theorem dX3_onMix_166 : decode cX3_onMix 166 = .ok (.ifCond .eq 5, 3) := by decide +kernel
theorem dX3_onMix_169 : decode cX3_onMix 169 = .ok (.iconst 1, 1) := by decide +kernel
theorem dX3_onMix_170 : decode cX3_onMix 170 = .ok (.ireturn, 1) := by decide +kernel
theorem dX3_onMix_171 : decode cX3_onMix 171 = .ok (.aload 4, 2) := by decide +kernel
theorem dX3_onMix_173 : decode cX3_onMix 173 = .ok (.getfield 94, 3) := by decide +kernel
theorem dX3_onMix_176 : decode cX3_onMix 176 = .ok (.iload_n 2, 1) := by decide +kernel
theorem dX3_onMix_177 : decode cX3_onMix 177 = .ok (.invokevirtual 98, 3) := by decide +kernel
theorem dX3_onMix_180 : decode cX3_onMix 180 = .ok (.aload 4, 2) := by decide +kernel
theorem dX3_onMix_182 : decode cX3_onMix 182 = .ok (.getfield 94, 3) := by decide +kernel
theorem dX3_onMix_185 : decode cX3_onMix 185 = .ok (.iload_n 3, 1) := by decide +kernel
theorem dX3_onMix_186 : decode cX3_onMix 186 = .ok (.invokevirtual 98, 3) := by decide +kernel
theorem dX3_onMix_189 : decode cX3_onMix 189 = .ok (.iadd, 1) := by decide +kernel
theorem dX3_onMix_190 : decode cX3_onMix 190 = .ok (.istore 6, 2) := by decide +kernel
theorem dX3_onMix_192 : decode cX3_onMix 192 = .ok (.aload_n 1, 1) := by decide +kernel
theorem dX3_onMix_193 : decode cX3_onMix 193 = .ok (.iload 5, 2) := by decide +kernel
theorem dX3_onMix_195 : decode cX3_onMix 195 = .ok (.iload 6, 2) := by decide +kernel
theorem dX3_onMix_197 : decode cX3_onMix 197 = .ok (.iload_n 2, 1) := by decide +kernel
theorem dX3_onMix_198 : decode cX3_onMix 198 = .ok (.iload_n 3, 1) := by decide +kernel
theorem dX3_onMix_199 : decode cX3_onMix 199 = .ok (.invokevirtual 80, 3) := by decide +kernel
theorem dX3_onMix_202 : decode cX3_onMix 202 = .ok (.iconst (-1), 1) := by decide +kernel
theorem dX3_onMix_203 : decode cX3_onMix 203 = .ok (.if_icmp .eq 7, 3) := by decide +kernel
theorem dX3_onMix_206 : decode cX3_onMix 206 = .ok (.iconst 0, 1) := by decide +kernel
theorem dX3_onMix_207 : decode cX3_onMix 207 = .ok (.goto 10, 3) := by decide +kernel
theorem dX3_onMix_210 : decode cX3_onMix 210 = .ok (.aload_n 0, 1) := by decide +kernel
theorem dX3_onMix_211 : decode cX3_onMix 211 = .ok (.iconst 2, 1) := by decide +kernel
theorem dX3_onMix_212 : decode cX3_onMix 212 = .ok (.iload 6, 2) := by decide +kernel
theorem dX3_onMix_214 : decode cX3_onMix 214 = .ok (.invokevirtual 60, 3) := by decide +kernel
theorem dX3_onMix_217 : decode cX3_onMix 217 = .ok (.ireturn, 1) := by decide +kernel
theorem dX3_onMove_0 : decode cX3_onMove 0 = .ok (.aload_n 1, 1) := by decide +kernel
theorem dX3_onMove_1 : decode cX3_onMove 1 = .ok (.getfield 35, 3) := by decide +kernel
theorem dX3_onMove_4 : decode cX3_onMove 4 = .ok (.iload_n 2, 1) := by decide +kernel
theorem dX3_onMove_5 : decode cX3_onMove 5 = .ok (.invokevirtual 41, 3) := by decide +kernel
theorem dX3_onMove_8 : decode cX3_onMove 8 = .ok (.ifCond .ne 5, 3) := by decide +kernel
theorem dX3_onMove_11 : decode cX3_onMove 11 = .ok (.iconst (-1), 1) := by decide +kernel
theorem dX3_onMove_12 : decode cX3_onMove 12 = .ok (.ireturn, 1) := by decide +kernel
theorem dX3_onMove_13 : decode cX3_onMove 13 = .ok (.aload_n 1, 1) := by decide +kernel
theorem dX3_onMove_14 : decode cX3_onMove 14 = .ok (.getfield 64, 3) := by decide +kernel
theorem dX3_onMove_17 : decode cX3_onMove 17 = .ok (.iload_n 3, 1) := by decide +kernel
theorem dX3_onMove_18 : decode cX3_onMove 18 = .ok (.invokevirtual 68, 3) := by decide +kernel
theorem dX3_onMove_21 : decode cX3_onMove 21 = .ok (.ifCond .ne 6, 3) := by decide +kernel
theorem dX3_onMove_24 : decode cX3_onMove 24 = .ok (.bipush (-2), 2) := by decide +kernel
theorem dX3_onMove_26 : decode cX3_onMove 26 = .ok (.ireturn, 1) := by decide +kernel
theorem dX3_onMove_27 : decode cX3_onMove 27 = .ok (.aload_n 1, 1) := by decide +kernel
theorem dX3_onMove_28 : decode cX3_onMove 28 = .ok (.getfield 35, 3) := by decide +kernel
theorem dX3_onMove_31 : decode cX3_onMove 31 = .ok (.iload_n 2, 1) := by decide +kernel
theorem dX3_onMove_32 : decode cX3_onMove 32 = .ok (.invokevirtual 88, 3) := by decide +kernel
theorem dX3_onMove_35 : decode cX3_onMove 35 = .ok (.ifCond .ne 10, 3) := by decide +kernel
theorem dX3_onMove_38 : decode cX3_onMove 38 = .ok (.aload_n 0, 1) := by decide +kernel
theorem dX3_onMove_39 : decode cX3_onMove 39 = .ok (.iconst 5, 1) := by decide +kernel
theorem dX3_onMove_40 : decode cX3_onMove 40 = .ok (.iload_n 2, 1) := by decide +kernel
theorem dX3_onMove_41 : decode cX3_onMove 41 = .ok (.invokevirtual 60, 3) := by decide +kernel
theorem dX3_onMove_44 : decode cX3_onMove 44 = .ok (.ireturn, 1) := by decide +kernel
theorem dX3_onMove_45 : decode cX3_onMove 45 = .ok (.aload_n 1, 1) := by decide +kernel
theorem dX3_onMove_46 : decode cX3_onMove 46 = .ok (.iload_n 2, 1) := by decide +kernel
theorem dX3_onMove_47 : decode cX3_onMove 47 = .ok (.invokevirtual 91, 3) := by decide +kernel
theorem dX3_onMove_50 : decode cX3_onMove 50 = .ok (.ifCond .eq 10, 3) := by decide +kernel
theorem dX3_onMove_53 : decode cX3_onMove 53 = .ok (.aload_n 0, 1) := by decide +kernel
theorem dX3_onMove_54 : decode cX3_onMove 54 = .ok (.iconst 3, 1) := by decide +kernel
theorem dX3_onMove_55 : decode cX3_onMove 55 = .ok (.iload_n 2, 1) := by decide +kernel
theorem dX3_onMove_56 : decode cX3_onMove 56 = .ok (.invokevirtual 60, 3) := by decide +kernel
theorem dX3_onMove_59 : decode cX3_onMove 59 = .ok (.ireturn, 1) := by decide +kernel
theorem dX3_onMove_60 : decode cX3_onMove 60 = .ok (.aload_n 1, 1) := by decide +kernel
theorem dX3_onMove_61 : decode cX3_onMove 61 = .ok (.getfield 64, 3) := by decide +kernel
theorem dX3_onMove_64 : decode cX3_onMove 64 = .ok (.getfield 110, 3) := by decide +kernel
theorem dX3_onMove_67 : decode cX3_onMove 67 = .ok (.iload_n 3, 1) := by decide +kernel
theorem dX3_onMove_68 : decode cX3_onMove 68 = .ok (.invokevirtual 98, 3) := by decide +kernel
theorem dX3_onMove_71 : decode cX3_onMove 71 = .ok (.istore 4, 2) := by decide +kernel
theorem dX3_onMove_73 : decode cX3_onMove 73 = .ok (.aload_n 1, 1) := by decide +kernel
theorem dX3_onMove_74 : decode cX3_onMove 74 = .ok (.getfield 35, 3) := by decide +kernel
theorem dX3_onMove_77 : decode cX3_onMove 77 = .ok (.getfield 104, 3) := by decide +kernel
theorem dX3_onMove_80 : decode cX3_onMove 80 = .ok (.iload_n 2, 1) := by decide +kernel
theorem dX3_onMove_81 : decode cX3_onMove 81 = .ok (.invokevirtual 98, 3) := by decide +kernel
theorem dX3_onMove_84 : decode cX3_onMove 84 = .ok (.iload 4, 2) := by decide +kernel
theorem dX3_onMove_86 : decode cX3_onMove 86 = .ok (.if_icmp .eq 11, 3) := by decide +kernel
theorem dX3_onMove_89 : decode cX3_onMove 89 = .ok (.aload_n 0, 1) := by decide +kernel
theorem dX3_onMove_90 : decode cX3_onMove 90 = .ok (.iconst 4, 1) := by decide +kernel
theorem dX3_onMove_91 : decode cX3_onMove 91 = .ok (.iload 4, 2) := by decide +kernel
theorem dX3_onMove_93 : decode cX3_onMove 93 = .ok (.invokevirtual 60, 3) := by decide +kernel
theorem dX3_onMove_96 : decode cX3_onMove 96 = .ok (.ireturn, 1) := by decide +kernel
theorem dX3_onMove_97 : decode cX3_onMove 97 = .ok (.aload_n 1, 1) := by decide +kernel
theorem dX3_onMove_98 : decode cX3_onMove 98 = .ok (.getfield 35, 3) := by decide +kernel
theorem dX3_onMove_101 : decode cX3_onMove 101 = .ok (.getfield 94, 3) := by decide +kernel
theorem dX3_onMove_104 : decode cX3_onMove 104 = .ok (.iload_n 2, 1) := by decide +kernel
theorem dX3_onMove_105 : decode cX3_onMove 105 = .ok (.invokevirtual 98, 3) := by decide +kernel
theorem dX3_onMove_108 : decode cX3_onMove 108 = .ok (.istore 5, 2) := by decide +kernel
theorem dX3_onMove_110 : decode cX3_onMove 110 = .ok (.aload_n 1, 1) := by decide +kernel
theorem dX3_onMove_111 : decode cX3_onMove 111 = .ok (.iload_n 3, 1) := by decide +kernel
theorem dX3_onMove_112 : decode cX3_onMove 112 = .ok (.iload_n 2, 1) := by decide +kernel
theorem dX3_onMove_113 : decode cX3_onMove 113 = .ok (.iconst (-1), 1) := by decide +kernel
theorem dX3_onMove_114 : decode cX3_onMove 114 = .ok (.invokevirtual 111, 3) := by decide +kernel
theorem dX3_onMove_117 : decode cX3_onMove 117 = .ok (.iload 5, 2) := by decide +kernel
theorem dX3_onMove_119 : decode cX3_onMove 119 = .ok (.if_icmp .lt 7, 3) := by decide +kernel
theorem dX3_onMove_122 : decode cX3_onMove 122 = .ok (.iconst 0, 1) := by decide +kernel
theorem dX3_onMove_123 : decode cX3_onMove 123 = .ok (.goto 10, 3) := by decide +kernel
theorem dX3_onMove_126 : decode cX3_onMove 126 = .ok (.aload_n 0, 1) := by decide +kernel
theorem dX3_onMove_127 : decode cX3_onMove 127 = .ok (.iconst 2, 1) := by decide +kernel
theorem dX3_onMove_128 : decode cX3_onMove 128 = .ok (.iload 5, 2) := by decide +kernel
theorem dX3_onMove_130 : decode cX3_onMove 130 = .ok (.invokevirtual 60, 3) := by decide +kernel
theorem dX3_onMove_133 : decode cX3_onMove 133 = .ok (.ireturn, 1) := by decide +kernel
theorem dX3_onShip_0 : decode cX3_onShip 0 = .ok (.iload_n 2, 1) := by decide +kernel
theorem dX3_onShip_1 : decode cX3_onShip 1 = .ok (.iconst 0, 1) := by decide +kernel
theorem dX3_onShip_2 : decode cX3_onShip 2 = .ok (.iconst 5, 1) := by decide +kernel
theorem dX3_onShip_3 : decode cX3_onShip 3 = .ok (.invokestatic 71, 3) := by decide +kernel
theorem dX3_onShip_6 : decode cX3_onShip 6 = .ok (.ifCond .eq 13, 3) := by decide +kernel
theorem dX3_onShip_9 : decode cX3_onShip 9 = .ok (.iload_n 3, 1) := by decide +kernel
theorem dX3_onShip_10 : decode cX3_onShip 10 = .ok (.iconst 1, 1) := by decide +kernel
theorem dX3_onShip_11 : decode cX3_onShip 11 = .ok (.bipush 99, 2) := by decide +kernel
theorem dX3_onShip_13 : decode cX3_onShip 13 = .ok (.invokestatic 71, 3) := by decide +kernel
theorem dX3_onShip_16 : decode cX3_onShip 16 = .ok (.ifCond .ne 6, 3) := by decide +kernel
theorem dX3_onShip_19 : decode cX3_onShip 19 = .ok (.bipush (-3), 2) := by decide +kernel
theorem dX3_onShip_21 : decode cX3_onShip 21 = .ok (.ireturn, 1) := by decide +kernel
theorem dX3_onShip_22 : decode cX3_onShip 22 = .ok (.aload_n 1, 1) := by decide +kernel
theorem dX3_onShip_23 : decode cX3_onShip 23 = .ok (.iload_n 2, 1) := by decide +kernel
theorem dX3_onShip_24 : decode cX3_onShip 24 = .ok (.invokevirtual 115, 3) := by decide +kernel
theorem dX3_onShip_27 : decode cX3_onShip 27 = .ok (.istore 4, 2) := by decide +kernel
theorem dX3_onShip_29 : decode cX3_onShip 29 = .ok (.iload 4, 2) := by decide +kernel
theorem dX3_onShip_31 : decode cX3_onShip 31 = .ok (.iload_n 3, 1) := by decide +kernel
theorem dX3_onShip_32 : decode cX3_onShip 32 = .ok (.if_icmp .lt 7, 3) := by decide +kernel
theorem dX3_onShip_35 : decode cX3_onShip 35 = .ok (.iconst 0, 1) := by decide +kernel
theorem dX3_onShip_36 : decode cX3_onShip 36 = .ok (.goto 11, 3) := by decide +kernel
theorem dX3_onShip_39 : decode cX3_onShip 39 = .ok (.aload_n 0, 1) := by decide +kernel
theorem dX3_onShip_40 : decode cX3_onShip 40 = .ok (.bipush 6, 2) := by decide +kernel
theorem dX3_onShip_42 : decode cX3_onShip 42 = .ok (.iload 4, 2) := by decide +kernel
theorem dX3_onShip_44 : decode cX3_onShip 44 = .ok (.invokevirtual 60, 3) := by decide +kernel
theorem dX3_onShip_47 : decode cX3_onShip 47 = .ok (.ireturn, 1) := by decide +kernel
theorem dX4_init_0 : decode cX4_init 0 = .ok (.aload_n 0, 1) := by decide +kernel
theorem dX4_init_1 : decode cX4_init 1 = .ok (.invokespecial 3, 3) := by decide +kernel
theorem dX4_init_4 : decode cX4_init 4 = .ok (.aload_n 0, 1) := by decide +kernel
theorem dX4_init_5 : decode cX4_init 5 = .ok (.bipush 8, 2) := by decide +kernel
theorem dX4_init_7 : decode cX4_init 7 = .ok (.anewarray 9, 3) := by decide +kernel
theorem dX4_init_10 : decode cX4_init 10 = .ok (.putfield 11, 3) := by decide +kernel
theorem dX4_init_13 : decode cX4_init 13 = .ok (.aload_n 0, 1) := by decide +kernel
theorem dX4_init_14 : decode cX4_init 14 = .ok (.iconst 0, 1) := by decide +kernel
theorem dX4_init_15 : decode cX4_init 15 = .ok (.putfield 17, 3) := by decide +kernel
theorem dX4_init_18 : decode cX4_init 18 = .ok (.aload_n 0, 1) := by decide +kernel
theorem dX4_init_19 : decode cX4_init 19 = .ok (.iconst 0, 1) := by decide +kernel
theorem dX4_init_20 : decode cX4_init 20 = .ok (.putfield 21, 3) := by decide +kernel
theorem dX4_init_23 : decode cX4_init 23 = .ok (.iconst 0, 1) := by decide +kernel
theorem dX4_init_24 : decode cX4_init 24 = .ok (.istore_n 1, 1) := by decide +kernel
theorem dX4_init_25 : decode cX4_init 25 = .ok (.iload_n 1, 1) := by decide +kernel
theorem dX4_init_26 : decode cX4_init 26 = .ok (.aload_n 0, 1) := by decide +kernel
theorem dX4_init_27 : decode cX4_init 27 = .ok (.getfield 11, 3) := by decide +kernel
theorem dX4_init_30 : decode cX4_init 30 = .ok (.arraylength, 1) := by decide +kernel
theorem dX4_init_31 : decode cX4_init 31 = .ok (.if_icmp .ge 22, 3) := by decide +kernel
theorem dX4_init_34 : decode cX4_init 34 = .ok (.aload_n 0, 1) := by decide +kernel
theorem dX4_init_35 : decode cX4_init 35 = .ok (.getfield 11, 3) := by decide +kernel
theorem dX4_init_38 : decode cX4_init 38 = .ok (.iload_n 1, 1) := by decide +kernel
theorem dX4_init_39 : decode cX4_init 39 = .ok (.new 9, 3) := by decide +kernel
theorem dX4_init_42 : decode cX4_init 42 = .ok (.dup, 1) := by decide +kernel
theorem dX4_init_43 : decode cX4_init 43 = .ok (.invokespecial 24, 3) := by decide +kernel
theorem dX4_init_46 : decode cX4_init 46 = .ok (.aastore, 1) := by decide +kernel
theorem dX4_init_47 : decode cX4_init 47 = .ok (.iinc 1 1, 3) := by decide +kernel
theorem dX4_init_50 : decode cX4_init 50 = .ok (.goto (-25), 3) := by decide +kernel
theorem dX4_init_53 : decode cX4_init 53 = .ok (.return_, 1) := by decide +kernel
theorem dX4_keep_0 : decode cX4_keep 0 = .ok (.aload_n 0, 1) := by decide +kernel
theorem dX4_keep_1 : decode cX4_keep 1 = .ok (.getfield 17, 3) := by decide +kernel
theorem dX4_keep_4 : decode cX4_keep 4 = .ok (.ifCond .lt 40, 3) := by decide +kernel
theorem dX4_keep_7 : decode cX4_keep 7 = .ok (.aload_n 0, 1) := by decide +kernel
theorem dX4_keep_8 : decode cX4_keep 8 = .ok (.getfield 17, 3) := by decide +kernel
theorem dX4_keep_11 : decode cX4_keep 11 = .ok (.aload_n 0, 1) := by decide +kernel
theorem dX4_keep_12 : decode cX4_keep 12 = .ok (.getfield 11, 3) := by decide +kernel
theorem dX4_keep_15 : decode cX4_keep 15 = .ok (.arraylength, 1) := by decide +kernel
theorem dX4_keep_16 : decode cX4_keep 16 = .ok (.if_icmp .ge 28, 3) := by decide +kernel
theorem dX4_keep_19 : decode cX4_keep 19 = .ok (.aload_n 0, 1) := by decide +kernel
theorem dX4_keep_20 : decode cX4_keep 20 = .ok (.getfield 11, 3) := by decide +kernel
theorem dX4_keep_23 : decode cX4_keep 23 = .ok (.aload_n 0, 1) := by decide +kernel
theorem dX4_keep_24 : decode cX4_keep 24 = .ok (.getfield 17, 3) := by decide +kernel
theorem dX4_keep_27 : decode cX4_keep 27 = .ok (.aaload, 1) := by decide +kernel
theorem dX4_keep_28 : decode cX4_keep 28 = .ok (.ifnull 16, 3) := by decide +kernel
theorem dX4_keep_31 : decode cX4_keep 31 = .ok (.aload_n 0, 1) := by decide +kernel
theorem dX4_keep_32 : decode cX4_keep 32 = .ok (.getfield 11, 3) := by decide +kernel
theorem dX4_keep_35 : decode cX4_keep 35 = .ok (.aload_n 0, 1) := by decide +kernel
theorem dX4_keep_36 : decode cX4_keep 36 = .ok (.getfield 17, 3) := by decide +kernel
theorem dX4_keep_39 : decode cX4_keep 39 = .ok (.aaload, 1) := by decide +kernel
theorem dX4_keep_40 : decode cX4_keep 40 = .ok (.aload_n 1, 1) := by decide +kernel
theorem dX4_keep_41 : decode cX4_keep 41 = .ok (.invokevirtual 25, 3) := by decide +kernel
theorem dX4_keep_44 : decode cX4_keep 44 = .ok (.aload_n 0, 1) := by decide +kernel
theorem dX4_keep_45 : decode cX4_keep 45 = .ok (.aload_n 0, 1) := by decide +kernel
theorem dX4_keep_46 : decode cX4_keep 46 = .ok (.getfield 17, 3) := by decide +kernel
theorem dX4_keep_49 : decode cX4_keep 49 = .ok (.iconst 1, 1) := by decide +kernel
theorem dX4_keep_50 : decode cX4_keep 50 = .ok (.iadd, 1) := by decide +kernel
theorem dX4_keep_51 : decode cX4_keep 51 = .ok (.bipush 8, 2) := by decide +kernel
theorem dX4_keep_53 : decode cX4_keep 53 = .ok (.irem, 1) := by decide +kernel
theorem dX4_keep_54 : decode cX4_keep 54 = .ok (.putfield 17, 3) := by decide +kernel
theorem dX4_keep_57 : decode cX4_keep 57 = .ok (.aload_n 0, 1) := by decide +kernel
theorem dX4_keep_58 : decode cX4_keep 58 = .ok (.aload_n 0, 1) := by decide +kernel
theorem dX4_keep_59 : decode cX4_keep 59 = .ok (.getfield 21, 3) := by decide +kernel
theorem dX4_keep_62 : decode cX4_keep 62 = .ok (.iconst 1, 1) := by decide +kernel
theorem dX4_keep_63 : decode cX4_keep 63 = .ok (.iadd, 1) := by decide +kernel
theorem dX4_keep_64 : decode cX4_keep 64 = .ok (.bipush 8, 2) := by decide +kernel
theorem dX4_keep_66 : decode cX4_keep 66 = .ok (.invokestatic 29, 3) := by decide +kernel
theorem dX4_keep_69 : decode cX4_keep 69 = .ok (.putfield 21, 3) := by decide +kernel
theorem dX4_keep_72 : decode cX4_keep 72 = .ok (.return_, 1) := by decide +kernel
theorem dX4_giveBack_0 : decode cX4_giveBack 0 = .ok (.aload_n 0, 1) := by decide +kernel
theorem dX4_giveBack_1 : decode cX4_giveBack 1 = .ok (.aload_n 0, 1) := by decide +kernel
theorem dX4_giveBack_2 : decode cX4_giveBack 2 = .ok (.getfield 17, 3) := by decide +kernel
theorem dX4_giveBack_5 : decode cX4_giveBack 5 = .ok (.bipush 8, 2) := by decide +kernel
theorem dX4_giveBack_7 : decode cX4_giveBack 7 = .ok (.iadd, 1) := by decide +kernel
theorem dX4_giveBack_8 : decode cX4_giveBack 8 = .ok (.iconst 1, 1) := by decide +kernel
theorem dX4_giveBack_9 : decode cX4_giveBack 9 = .ok (.isub, 1) := by decide +kernel
theorem dX4_giveBack_10 : decode cX4_giveBack 10 = .ok (.bipush 8, 2) := by decide +kernel
theorem dX4_giveBack_12 : decode cX4_giveBack 12 = .ok (.irem, 1) := by decide +kernel
theorem dX4_giveBack_13 : decode cX4_giveBack 13 = .ok (.putfield 17, 3) := by decide +kernel
theorem dX4_giveBack_16 : decode cX4_giveBack 16 = .ok (.aload_n 0, 1) := by decide +kernel
theorem dX4_giveBack_17 : decode cX4_giveBack 17 = .ok (.dup, 1) := by decide +kernel
theorem dX4_giveBack_18 : decode cX4_giveBack 18 = .ok (.getfield 21, 3) := by decide +kernel
theorem dX4_giveBack_21 : decode cX4_giveBack 21 = .ok (.iconst 1, 1) := by decide +kernel
theorem dX4_giveBack_22 : decode cX4_giveBack 22 = .ok (.isub, 1) := by decide +kernel
theorem dX4_giveBack_23 : decode cX4_giveBack 23 = .ok (.putfield 21, 3) := by decide +kernel
theorem dX4_giveBack_26 : decode cX4_giveBack 26 = .ok (.aload_n 0, 1) := by decide +kernel
theorem dX4_giveBack_27 : decode cX4_giveBack 27 = .ok (.getfield 17, 3) := by decide +kernel
theorem dX4_giveBack_30 : decode cX4_giveBack 30 = .ok (.ifCond .lt 40, 3) := by decide +kernel
theorem dX4_giveBack_33 : decode cX4_giveBack 33 = .ok (.aload_n 0, 1) := by decide +kernel
theorem dX4_giveBack_34 : decode cX4_giveBack 34 = .ok (.getfield 17, 3) := by decide +kernel
theorem dX4_giveBack_37 : decode cX4_giveBack 37 = .ok (.aload_n 0, 1) := by decide +kernel
theorem dX4_giveBack_38 : decode cX4_giveBack 38 = .ok (.getfield 11, 3) := by decide +kernel
theorem dX4_giveBack_41 : decode cX4_giveBack 41 = .ok (.arraylength, 1) := by decide +kernel
theorem dX4_giveBack_42 : decode cX4_giveBack 42 = .ok (.if_icmp .ge 28, 3) := by decide +kernel
theorem dX4_giveBack_45 : decode cX4_giveBack 45 = .ok (.aload_n 0, 1) := by decide +kernel
theorem dX4_giveBack_46 : decode cX4_giveBack 46 = .ok (.getfield 11, 3) := by decide +kernel
theorem dX4_giveBack_49 : decode cX4_giveBack 49 = .ok (.aload_n 0, 1) := by decide +kernel
theorem dX4_giveBack_50 : decode cX4_giveBack 50 = .ok (.getfield 17, 3) := by decide +kernel
theorem dX4_giveBack_53 : decode cX4_giveBack 53 = .ok (.aaload, 1) := by decide +kernel
theorem dX4_giveBack_54 : decode cX4_giveBack 54 = .ok (.ifnull 16, 3) := by decide +kernel
theorem dX4_giveBack_57 : decode cX4_giveBack 57 = .ok (.aload_n 1, 1) := by decide +kernel
theorem dX4_giveBack_58 : decode cX4_giveBack 58 = .ok (.aload_n 0, 1) := by decide +kernel
theorem dX4_giveBack_59 : decode cX4_giveBack 59 = .ok (.getfield 11, 3) := by decide +kernel
theorem dX4_giveBack_62 : decode cX4_giveBack 62 = .ok (.aload_n 0, 1) := by decide +kernel
theorem dX4_giveBack_63 : decode cX4_giveBack 63 = .ok (.getfield 17, 3) := by decide +kernel
theorem dX4_giveBack_66 : decode cX4_giveBack 66 = .ok (.aaload, 1) := by decide +kernel
theorem dX4_giveBack_67 : decode cX4_giveBack 67 = .ok (.invokevirtual 25, 3) := by decide +kernel
theorem dX4_giveBack_70 : decode cX4_giveBack 70 = .ok (.return_, 1) := by decide +kernel
theorem dX4_forget_0 : decode cX4_forget 0 = .ok (.aload_n 0, 1) := by decide +kernel
theorem dX4_forget_1 : decode cX4_forget 1 = .ok (.iconst 0, 1) := by decide +kernel
theorem dX4_forget_2 : decode cX4_forget 2 = .ok (.putfield 21, 3) := by decide +kernel
theorem dX4_forget_5 : decode cX4_forget 5 = .ok (.return_, 1) := by decide +kernel
theorem dX5_init_0 : decode cX5_init 0 = .ok (.aload_n 0, 1) := by decide +kernel
theorem dX5_init_1 : decode cX5_init 1 = .ok (.invokespecial 3, 3) := by decide +kernel
theorem dX5_init_4 : decode cX5_init 4 = .ok (.aload_n 0, 1) := by decide +kernel
theorem dX5_init_5 : decode cX5_init 5 = .ok (.new 9, 3) := by decide +kernel
theorem dX5_init_8 : decode cX5_init 8 = .ok (.dup, 1) := by decide +kernel
theorem dX5_init_9 : decode cX5_init 9 = .ok (.bipush 20, 2) := by decide +kernel
theorem dX5_init_11 : decode cX5_init 11 = .ok (.invokespecial 11, 3) := by decide +kernel
theorem dX5_init_14 : decode cX5_init 14 = .ok (.putfield 14, 3) := by decide +kernel
theorem dX5_init_17 : decode cX5_init 17 = .ok (.aload_n 0, 1) := by decide +kernel
theorem dX5_init_18 : decode cX5_init 18 = .ok (.new 9, 3) := by decide +kernel
theorem dX5_init_21 : decode cX5_init 21 = .ok (.dup, 1) := by decide +kernel
theorem dX5_init_22 : decode cX5_init 22 = .ok (.bipush 20, 2) := by decide +kernel
theorem dX5_init_24 : decode cX5_init 24 = .ok (.invokespecial 11, 3) := by decide +kernel
theorem dX5_init_27 : decode cX5_init 27 = .ok (.putfield 20, 3) := by decide +kernel
theorem dX5_init_30 : decode cX5_init 30 = .ok (.aload_n 0, 1) := by decide +kernel
theorem dX5_init_31 : decode cX5_init 31 = .ok (.new 9, 3) := by decide +kernel
theorem dX5_init_34 : decode cX5_init 34 = .ok (.dup, 1) := by decide +kernel
theorem dX5_init_35 : decode cX5_init 35 = .ok (.bipush 20, 2) := by decide +kernel
theorem dX5_init_37 : decode cX5_init 37 = .ok (.invokespecial 11, 3) := by decide +kernel
theorem dX5_init_40 : decode cX5_init 40 = .ok (.putfield 23, 3) := by decide +kernel
theorem dX5_init_43 : decode cX5_init 43 = .ok (.aload_n 0, 1) := by decide +kernel
theorem dX5_init_44 : decode cX5_init 44 = .ok (.new 9, 3) := by decide +kernel
theorem dX5_init_47 : decode cX5_init 47 = .ok (.dup, 1) := by decide +kernel
theorem dX5_init_48 : decode cX5_init 48 = .ok (.bipush 20, 2) := by decide +kernel
theorem dX5_init_50 : decode cX5_init 50 = .ok (.invokespecial 11, 3) := by decide +kernel
theorem dX5_init_53 : decode cX5_init 53 = .ok (.putfield 26, 3) := by decide +kernel
theorem dX5_init_56 : decode cX5_init 56 = .ok (.aload_n 0, 1) := by decide +kernel
theorem dX5_init_57 : decode cX5_init 57 = .ok (.new 9, 3) := by decide +kernel
theorem dX5_init_60 : decode cX5_init 60 = .ok (.dup, 1) := by decide +kernel
theorem dX5_init_61 : decode cX5_init 61 = .ok (.bipush 20, 2) := by decide +kernel
theorem dX5_init_63 : decode cX5_init 63 = .ok (.invokespecial 11, 3) := by decide +kernel
theorem dX5_init_66 : decode cX5_init 66 = .ok (.putfield 29, 3) := by decide +kernel
theorem dX5_init_69 : decode cX5_init 69 = .ok (.aload_n 0, 1) := by decide +kernel
theorem dX5_init_70 : decode cX5_init 70 = .ok (.new 9, 3) := by decide +kernel
theorem dX5_init_73 : decode cX5_init 73 = .ok (.dup, 1) := by decide +kernel
theorem dX5_init_74 : decode cX5_init 74 = .ok (.bipush 20, 2) := by decide +kernel
theorem dX5_init_76 : decode cX5_init 76 = .ok (.invokespecial 11, 3) := by decide +kernel
theorem dX5_init_79 : decode cX5_init 79 = .ok (.putfield 32, 3) := by decide +kernel
theorem dX5_init_82 : decode cX5_init 82 = .ok (.aload_n 0, 1) := by decide +kernel
theorem dX5_init_83 : decode cX5_init 83 = .ok (.new 9, 3) := by decide +kernel
theorem dX5_init_86 : decode cX5_init 86 = .ok (.dup, 1) := by decide +kernel
theorem dX5_init_87 : decode cX5_init 87 = .ok (.bipush 20, 2) := by decide +kernel
theorem dX5_init_89 : decode cX5_init 89 = .ok (.invokespecial 11, 3) := by decide +kernel
theorem dX5_init_92 : decode cX5_init 92 = .ok (.putfield 35, 3) := by decide +kernel
theorem dX5_init_95 : decode cX5_init 95 = .ok (.aload_n 0, 1) := by decide +kernel
theorem dX5_init_96 : decode cX5_init 96 = .ok (.iconst 0, 1) := by decide +kernel
theorem dX5_init_97 : decode cX5_init 97 = .ok (.putfield 38, 3) := by decide +kernel
theorem dX5_init_100 : decode cX5_init 100 = .ok (.return_, 1) := by decide +kernel
theorem dX5_copyFrom_0 : decode cX5_copyFrom 0 = .ok (.aload_n 0, 1) := by decide +kernel
theorem dX5_copyFrom_1 : decode cX5_copyFrom 1 = .ok (.getfield 14, 3) := by decide +kernel
theorem dX5_copyFrom_4 : decode cX5_copyFrom 4 = .ok (.aload_n 1, 1) := by decide +kernel
theorem dX5_copyFrom_5 : decode cX5_copyFrom 5 = .ok (.getfield 14, 3) := by decide +kernel
theorem dX5_copyFrom_8 : decode cX5_copyFrom 8 = .ok (.invokevirtual 42, 3) := by decide +kernel
theorem dX5_copyFrom_11 : decode cX5_copyFrom 11 = .ok (.aload_n 0, 1) := by decide +kernel
theorem dX5_copyFrom_12 : decode cX5_copyFrom 12 = .ok (.getfield 20, 3) := by decide +kernel
theorem dX5_copyFrom_15 : decode cX5_copyFrom 15 = .ok (.aload_n 1, 1) := by decide +kernel
theorem dX5_copyFrom_16 : decode cX5_copyFrom 16 = .ok (.getfield 20, 3) := by decide +kernel
theorem dX5_copyFrom_19 : decode cX5_copyFrom 19 = .ok (.invokevirtual 42, 3) := by decide +kernel
theorem dX5_copyFrom_22 : decode cX5_copyFrom 22 = .ok (.aload_n 0, 1) := by decide +kernel
theorem dX5_copyFrom_23 : decode cX5_copyFrom 23 = .ok (.getfield 23, 3) := by decide +kernel
theorem dX5_copyFrom_26 : decode cX5_copyFrom 26 = .ok (.aload_n 1, 1) := by decide +kernel
theorem dX5_copyFrom_27 : decode cX5_copyFrom 27 = .ok (.getfield 23, 3) := by decide +kernel
theorem dX5_copyFrom_30 : decode cX5_copyFrom 30 = .ok (.invokevirtual 42, 3) := by decide +kernel
theorem dX5_copyFrom_33 : decode cX5_copyFrom 33 = .ok (.aload_n 0, 1) := by decide +kernel
theorem dX5_copyFrom_34 : decode cX5_copyFrom 34 = .ok (.getfield 26, 3) := by decide +kernel
theorem dX5_copyFrom_37 : decode cX5_copyFrom 37 = .ok (.aload_n 1, 1) := by decide +kernel
theorem dX5_copyFrom_38 : decode cX5_copyFrom 38 = .ok (.getfield 26, 3) := by decide +kernel
theorem dX5_copyFrom_41 : decode cX5_copyFrom 41 = .ok (.invokevirtual 42, 3) := by decide +kernel
theorem dX5_copyFrom_44 : decode cX5_copyFrom 44 = .ok (.aload_n 0, 1) := by decide +kernel
theorem dX5_copyFrom_45 : decode cX5_copyFrom 45 = .ok (.getfield 29, 3) := by decide +kernel
theorem dX5_copyFrom_48 : decode cX5_copyFrom 48 = .ok (.aload_n 1, 1) := by decide +kernel
theorem dX5_copyFrom_49 : decode cX5_copyFrom 49 = .ok (.getfield 29, 3) := by decide +kernel
theorem dX5_copyFrom_52 : decode cX5_copyFrom 52 = .ok (.invokevirtual 42, 3) := by decide +kernel
theorem dX5_copyFrom_55 : decode cX5_copyFrom 55 = .ok (.aload_n 0, 1) := by decide +kernel
theorem dX5_copyFrom_56 : decode cX5_copyFrom 56 = .ok (.getfield 32, 3) := by decide +kernel
theorem dX5_copyFrom_59 : decode cX5_copyFrom 59 = .ok (.aload_n 1, 1) := by decide +kernel
theorem dX5_copyFrom_60 : decode cX5_copyFrom 60 = .ok (.getfield 32, 3) := by decide +kernel
theorem dX5_copyFrom_63 : decode cX5_copyFrom 63 = .ok (.invokevirtual 42, 3) := by decide +kernel
theorem dX5_copyFrom_66 : decode cX5_copyFrom 66 = .ok (.aload_n 0, 1) := by decide +kernel
theorem dX5_copyFrom_67 : decode cX5_copyFrom 67 = .ok (.getfield 35, 3) := by decide +kernel
theorem dX5_copyFrom_70 : decode cX5_copyFrom 70 = .ok (.aload_n 1, 1) := by decide +kernel
theorem dX5_copyFrom_71 : decode cX5_copyFrom 71 = .ok (.getfield 35, 3) := by decide +kernel
theorem dX5_copyFrom_74 : decode cX5_copyFrom 74 = .ok (.invokevirtual 42, 3) := by decide +kernel
theorem dX5_copyFrom_77 : decode cX5_copyFrom 77 = .ok (.aload_n 0, 1) := by decide +kernel
theorem dX5_copyFrom_78 : decode cX5_copyFrom 78 = .ok (.aload_n 1, 1) := by decide +kernel
theorem dX5_copyFrom_79 : decode cX5_copyFrom 79 = .ok (.getfield 38, 3) := by decide +kernel
theorem dX5_copyFrom_82 : decode cX5_copyFrom 82 = .ok (.putfield 38, 3) := by decide +kernel
theorem dX5_copyFrom_85 : decode cX5_copyFrom 85 = .ok (.return_, 1) := by decide +kernel
theorem dX5_has_0 : decode cX5_has 0 = .ok (.iload_n 1, 1) := by decide +kernel
theorem dX5_has_1 : decode cX5_has 1 = .ok (.ifCond .lt 15, 3) := by decide +kernel
theorem dX5_has_4 : decode cX5_has 4 = .ok (.iload_n 1, 1) := by decide +kernel
theorem dX5_has_5 : decode cX5_has 5 = .ok (.aload_n 0, 1) := by decide +kernel
theorem dX5_has_6 : decode cX5_has 6 = .ok (.getfield 38, 3) := by decide +kernel
theorem dX5_has_9 : decode cX5_has 9 = .ok (.if_icmp .ge 7, 3) := by decide +kernel
theorem dX5_has_12 : decode cX5_has 12 = .ok (.iconst 1, 1) := by decide +kernel
theorem dX5_has_13 : decode cX5_has 13 = .ok (.goto 4, 3) := by decide +kernel
theorem dX5_has_16 : decode cX5_has 16 = .ok (.iconst 0, 1) := by decide +kernel
theorem dX5_has_17 : decode cX5_has 17 = .ok (.ireturn, 1) := by decide +kernel
theorem dX5_add_0 : decode cX5_add 0 = .ok (.aload_n 0, 1) := by decide +kernel
theorem dX5_add_1 : decode cX5_add 1 = .ok (.getfield 38, 3) := by decide +kernel
theorem dX5_add_4 : decode cX5_add 4 = .ok (.istore 6, 2) := by decide +kernel
theorem dX5_add_6 : decode cX5_add 6 = .ok (.aload_n 0, 1) := by decide +kernel
theorem dX5_add_7 : decode cX5_add 7 = .ok (.getfield 14, 3) := by decide +kernel
theorem dX5_add_10 : decode cX5_add 10 = .ok (.iload 6, 2) := by decide +kernel
theorem dX5_add_12 : decode cX5_add 12 = .ok (.iload_n 1, 1) := by decide +kernel
theorem dX5_add_13 : decode cX5_add 13 = .ok (.invokevirtual 46, 3) := by decide +kernel
theorem dX5_add_16 : decode cX5_add 16 = .ok (.aload_n 0, 1) := by decide +kernel
theorem dX5_add_17 : decode cX5_add 17 = .ok (.getfield 20, 3) := by decide +kernel
theorem dX5_add_20 : decode cX5_add 20 = .ok (.iload 6, 2) := by decide +kernel
theorem dX5_add_22 : decode cX5_add 22 = .ok (.iload_n 2, 1) := by decide +kernel
theorem dX5_add_23 : decode cX5_add 23 = .ok (.invokevirtual 46, 3) := by decide +kernel
theorem dX5_add_26 : decode cX5_add 26 = .ok (.aload_n 0, 1) := by decide +kernel
theorem dX5_add_27 : decode cX5_add 27 = .ok (.getfield 23, 3) := by decide +kernel
theorem dX5_add_30 : decode cX5_add 30 = .ok (.iload 6, 2) := by decide +kernel
theorem dX5_add_32 : decode cX5_add 32 = .ok (.iload_n 3, 1) := by decide +kernel
theorem dX5_add_33 : decode cX5_add 33 = .ok (.invokevirtual 46, 3) := by decide +kernel
theorem dX5_add_36 : decode cX5_add 36 = .ok (.aload_n 0, 1) := by decide +kernel
theorem dX5_add_37 : decode cX5_add 37 = .ok (.getfield 26, 3) := by decide +kernel
theorem dX5_add_40 : decode cX5_add 40 = .ok (.iload 6, 2) := by decide +kernel
theorem dX5_add_42 : decode cX5_add 42 = .ok (.iload 4, 2) := by decide +kernel
theorem dX5_add_44 : decode cX5_add 44 = .ok (.invokevirtual 46, 3) := by decide +kernel
theorem dX5_add_47 : decode cX5_add 47 = .ok (.aload_n 0, 1) := by decide +kernel
theorem dX5_add_48 : decode cX5_add 48 = .ok (.getfield 29, 3) := by decide +kernel
theorem dX5_add_51 : decode cX5_add 51 = .ok (.iload 6, 2) := by decide +kernel
theorem dX5_add_53 : decode cX5_add 53 = .ok (.iload 5, 2) := by decide +kernel
theorem dX5_add_55 : decode cX5_add 55 = .ok (.invokevirtual 46, 3) := by decide +kernel
theorem dX5_add_58 : decode cX5_add 58 = .ok (.aload_n 0, 1) := by decide +kernel
theorem dX5_add_59 : decode cX5_add 59 = .ok (.getfield 32, 3) := by decide +kernel
theorem dX5_add_62 : decode cX5_add 62 = .ok (.iload 6, 2) := by decide +kernel
theorem dX5_add_64 : decode cX5_add 64 = .ok (.iconst (-1), 1) := by decide +kernel
theorem dX5_add_65 : decode cX5_add 65 = .ok (.invokevirtual 46, 3) := by decide +kernel
theorem dX5_add_68 : decode cX5_add 68 = .ok (.aload_n 0, 1) := by decide +kernel
theorem dX5_add_69 : decode cX5_add 69 = .ok (.getfield 35, 3) := by decide +kernel
theorem dX5_add_72 : decode cX5_add 72 = .ok (.iload 6, 2) := by decide +kernel
theorem dX5_add_74 : decode cX5_add 74 = .ok (.iconst (-1), 1) := by decide +kernel
theorem dX5_add_75 : decode cX5_add 75 = .ok (.invokevirtual 46, 3) := by decide +kernel
theorem dX5_add_78 : decode cX5_add 78 = .ok (.aload_n 0, 1) := by decide +kernel
theorem dX5_add_79 : decode cX5_add 79 = .ok (.dup, 1) := by decide +kernel
theorem dX5_add_80 : decode cX5_add 80 = .ok (.getfield 38, 3) := by decide +kernel
theorem dX5_add_83 : decode cX5_add 83 = .ok (.iconst 1, 1) := by decide +kernel
theorem dX5_add_84 : decode cX5_add 84 = .ok (.iadd, 1) := by decide +kernel
theorem dX5_add_85 : decode cX5_add 85 = .ok (.putfield 38, 3) := by decide +kernel
theorem dX5_add_88 : decode cX5_add 88 = .ok (.iload 6, 2) := by decide +kernel
theorem dX5_add_90 : decode cX5_add 90 = .ok (.ireturn, 1) := by decide +kernel
theorem dX5_setParents_0 : decode cX5_setParents 0 = .ok (.aload_n 0, 1) := by decide +kernel
theorem dX5_setParents_1 : decode cX5_setParents 1 = .ok (.getfield 32, 3) := by decide +kernel
theorem dX5_setParents_4 : decode cX5_setParents 4 = .ok (.iload_n 1, 1) := by decide +kernel
theorem dX5_setParents_5 : decode cX5_setParents 5 = .ok (.iload_n 2, 1) := by decide +kernel
theorem dX5_setParents_6 : decode cX5_setParents 6 = .ok (.invokevirtual 46, 3) := by decide +kernel
theorem dX5_setParents_9 : decode cX5_setParents 9 = .ok (.aload_n 0, 1) := by decide +kernel
theorem dX5_setParents_10 : decode cX5_setParents 10 = .ok (.getfield 35, 3) := by decide +kernel
theorem dX5_setParents_13 : decode cX5_setParents 13 = .ok (.iload_n 1, 1) := by decide +kernel
theorem dX5_setParents_14 : decode cX5_setParents 14 = .ok (.iload_n 3, 1) := by decide +kernel
theorem dX5_setParents_15 : decode cX5_setParents 15 = .ok (.invokevirtual 46, 3) := by decide +kernel
theorem dX5_setParents_18 : decode cX5_setParents 18 = .ok (.return_, 1) := by decide +kernel
theorem dX5_remove_0 : decode cX5_remove 0 = .ok (.aload_n 0, 1) := by decide +kernel
theorem dX5_remove_1 : decode cX5_remove 1 = .ok (.getfield 23, 3) := by decide +kernel
theorem dX5_remove_4 : decode cX5_remove 4 = .ok (.iload_n 1, 1) := by decide +kernel
theorem dX5_remove_5 : decode cX5_remove 5 = .ok (.iconst 0, 1) := by decide +kernel
theorem dX5_remove_6 : decode cX5_remove 6 = .ok (.invokevirtual 46, 3) := by decide +kernel
theorem dX5_remove_9 : decode cX5_remove 9 = .ok (.aload_n 0, 1) := by decide +kernel
theorem dX5_remove_10 : decode cX5_remove 10 = .ok (.getfield 29, 3) := by decide +kernel
theorem dX5_remove_13 : decode cX5_remove 13 = .ok (.iload_n 1, 1) := by decide +kernel
theorem dX5_remove_14 : decode cX5_remove 14 = .ok (.bipush (-2), 2) := by decide +kernel
theorem dX5_remove_16 : decode cX5_remove 16 = .ok (.invokevirtual 46, 3) := by decide +kernel
theorem dX5_remove_19 : decode cX5_remove 19 = .ok (.return_, 1) := by decide +kernel
theorem dX5_isShelved_0 : decode cX5_isShelved 0 = .ok (.aload_n 0, 1) := by decide +kernel
theorem dX5_isShelved_1 : decode cX5_isShelved 1 = .ok (.getfield 29, 3) := by decide +kernel
theorem dX5_isShelved_4 : decode cX5_isShelved 4 = .ok (.iload_n 1, 1) := by decide +kernel
theorem dX5_isShelved_5 : decode cX5_isShelved 5 = .ok (.invokevirtual 50, 3) := by decide +kernel
theorem dX5_isShelved_8 : decode cX5_isShelved 8 = .ok (.ifCond .lt 7, 3) := by decide +kernel
theorem dX5_isShelved_11 : decode cX5_isShelved 11 = .ok (.iconst 1, 1) := by decide +kernel
theorem dX5_isShelved_12 : decode cX5_isShelved 12 = .ok (.goto 4, 3) := by decide +kernel
theorem dX5_isShelved_15 : decode cX5_isShelved 15 = .ok (.iconst 0, 1) := by decide +kernel
theorem dX5_isShelved_16 : decode cX5_isShelved 16 = .ok (.ireturn, 1) := by decide +kernel
theorem dX5_parentsOf_0 : decode cX5_parentsOf 0 = .ok (.aload_n 0, 1) := by decide +kernel
theorem dX5_parentsOf_1 : decode cX5_parentsOf 1 = .ok (.getfield 32, 3) := by decide +kernel
theorem dX5_parentsOf_4 : decode cX5_parentsOf 4 = .ok (.iload_n 1, 1) := by decide +kernel
theorem dX5_parentsOf_5 : decode cX5_parentsOf 5 = .ok (.invokevirtual 50, 3) := by decide +kernel
theorem dX5_parentsOf_8 : decode cX5_parentsOf 8 = .ok (.iconst (-1), 1) := by decide +kernel
theorem dX5_parentsOf_9 : decode cX5_parentsOf 9 = .ok (.if_icmp .ne 7, 3) := by decide +kernel
theorem dX5_parentsOf_12 : decode cX5_parentsOf 12 = .ok (.iconst 0, 1) := by decide +kernel
theorem dX5_parentsOf_13 : decode cX5_parentsOf 13 = .ok (.goto 4, 3) := by decide +kernel
theorem dX5_parentsOf_16 : decode cX5_parentsOf 16 = .ok (.iconst 1, 1) := by decide +kernel
theorem dX5_parentsOf_17 : decode cX5_parentsOf 17 = .ok (.aload_n 0, 1) := by decide +kernel
theorem dX5_parentsOf_18 : decode cX5_parentsOf 18 = .ok (.getfield 35, 3) := by decide +kernel
theorem dX5_parentsOf_21 : decode cX5_parentsOf 21 = .ok (.iload_n 1, 1) := by decide +kernel
theorem dX5_parentsOf_22 : decode cX5_parentsOf 22 = .ok (.invokevirtual 50, 3) := by decide +kernel
theorem dX5_parentsOf_25 : decode cX5_parentsOf 25 = .ok (.iconst (-1), 1) := by decide +kernel
theorem dX5_parentsOf_26 : decode cX5_parentsOf 26 = .ok (.if_icmp .ne 7, 3) := by decide +kernel
theorem dX5_parentsOf_29 : decode cX5_parentsOf 29 = .ok (.iconst 0, 1) := by decide +kernel
theorem dX5_parentsOf_30 : decode cX5_parentsOf 30 = .ok (.goto 4, 3) := by decide +kernel
theorem dX5_parentsOf_33 : decode cX5_parentsOf 33 = .ok (.iconst 1, 1) := by decide +kernel
theorem dX5_parentsOf_34 : decode cX5_parentsOf 34 = .ok (.iadd, 1) := by decide +kernel
theorem dX5_parentsOf_35 : decode cX5_parentsOf 35 = .ok (.ireturn, 1) := by decide +kernel
theorem dX5_isParent_0 : decode cX5_isParent 0 = .ok (.aload_n 0, 1) := by decide +kernel
theorem dX5_isParent_1 : decode cX5_isParent 1 = .ok (.getfield 32, 3) := by decide +kernel
theorem dX5_isParent_4 : decode cX5_isParent 4 = .ok (.iload_n 2, 1) := by decide +kernel
theorem dX5_isParent_5 : decode cX5_isParent 5 = .ok (.invokevirtual 50, 3) := by decide +kernel
theorem dX5_isParent_8 : decode cX5_isParent 8 = .ok (.iload_n 1, 1) := by decide +kernel
theorem dX5_isParent_9 : decode cX5_isParent 9 = .ok (.if_icmp .eq 15, 3) := by decide +kernel
theorem dX5_isParent_12 : decode cX5_isParent 12 = .ok (.aload_n 0, 1) := by decide +kernel
theorem dX5_isParent_13 : decode cX5_isParent 13 = .ok (.getfield 35, 3) := by decide +kernel
theorem dX5_isParent_16 : decode cX5_isParent 16 = .ok (.iload_n 2, 1) := by decide +kernel
theorem dX5_isParent_17 : decode cX5_isParent 17 = .ok (.invokevirtual 50, 3) := by decide +kernel
theorem dX5_isParent_20 : decode cX5_isParent 20 = .ok (.iload_n 1, 1) := by decide +kernel
theorem dX5_isParent_21 : decode cX5_isParent 21 = .ok (.if_icmp .ne 7, 3) := by decide +kernel
theorem dX5_isParent_24 : decode cX5_isParent 24 = .ok (.iconst 1, 1) := by decide +kernel
theorem dX5_isParent_25 : decode cX5_isParent 25 = .ok (.goto 4, 3) := by decide +kernel
theorem dX5_isParent_28 : decode cX5_isParent 28 = .ok (.iconst 0, 1) := by decide +kernel
theorem dX5_isParent_29 : decode cX5_isParent 29 = .ok (.ireturn, 1) := by decide +kernel
theorem dX5_countAt_0 : decode cX5_countAt 0 = .ok (.iconst 0, 1) := by decide +kernel
theorem dX5_countAt_1 : decode cX5_countAt 1 = .ok (.istore_n 2, 1) := by decide +kernel
theorem dX5_countAt_2 : decode cX5_countAt 2 = .ok (.iconst 0, 1) := by decide +kernel
theorem dX5_countAt_3 : decode cX5_countAt 3 = .ok (.istore_n 3, 1) := by decide +kernel
theorem dX5_countAt_4 : decode cX5_countAt 4 = .ok (.iload_n 3, 1) := by decide +kernel
theorem dX5_countAt_5 : decode cX5_countAt 5 = .ok (.aload_n 0, 1) := by decide +kernel
theorem dX5_countAt_6 : decode cX5_countAt 6 = .ok (.getfield 38, 3) := by decide +kernel
theorem dX5_countAt_9 : decode cX5_countAt 9 = .ok (.if_icmp .ge 24, 3) := by decide +kernel
theorem dX5_countAt_12 : decode cX5_countAt 12 = .ok (.aload_n 0, 1) := by decide +kernel
theorem dX5_countAt_13 : decode cX5_countAt 13 = .ok (.getfield 29, 3) := by decide +kernel
theorem dX5_countAt_16 : decode cX5_countAt 16 = .ok (.iload_n 3, 1) := by decide +kernel
theorem dX5_countAt_17 : decode cX5_countAt 17 = .ok (.invokevirtual 50, 3) := by decide +kernel
theorem dX5_countAt_20 : decode cX5_countAt 20 = .ok (.iload_n 1, 1) := by decide +kernel
theorem dX5_countAt_21 : decode cX5_countAt 21 = .ok (.if_icmp .ne 6, 3) := by decide +kernel
theorem dX5_countAt_24 : decode cX5_countAt 24 = .ok (.iinc 2 1, 3) := by decide +kernel
theorem dX5_countAt_27 : decode cX5_countAt 27 = .ok (.iinc 3 1, 3) := by decide +kernel
theorem dX5_countAt_30 : decode cX5_countAt 30 = .ok (.goto (-26), 3) := by decide +kernel
theorem dX5_countAt_33 : decode cX5_countAt 33 = .ok (.iload_n 2, 1) := by decide +kernel
theorem dX5_countAt_34 : decode cX5_countAt 34 = .ok (.ireturn, 1) := by decide +kernel
theorem dX5_volumeAt_0 : decode cX5_volumeAt 0 = .ok (.iconst 0, 1) := by decide +kernel
theorem dX5_volumeAt_1 : decode cX5_volumeAt 1 = .ok (.istore_n 2, 1) := by decide +kernel
theorem dX5_volumeAt_2 : decode cX5_volumeAt 2 = .ok (.iconst 0, 1) := by decide +kernel
theorem dX5_volumeAt_3 : decode cX5_volumeAt 3 = .ok (.istore_n 3, 1) := by decide +kernel
theorem dX5_volumeAt_4 : decode cX5_volumeAt 4 = .ok (.iload_n 3, 1) := by decide +kernel
theorem dX5_volumeAt_5 : decode cX5_volumeAt 5 = .ok (.aload_n 0, 1) := by decide +kernel
theorem dX5_volumeAt_6 : decode cX5_volumeAt 6 = .ok (.getfield 38, 3) := by decide +kernel
theorem dX5_volumeAt_9 : decode cX5_volumeAt 9 = .ok (.if_icmp .ge 32, 3) := by decide +kernel
theorem dX5_volumeAt_12 : decode cX5_volumeAt 12 = .ok (.aload_n 0, 1) := by decide +kernel
theorem dX5_volumeAt_13 : decode cX5_volumeAt 13 = .ok (.getfield 29, 3) := by decide +kernel
theorem dX5_volumeAt_16 : decode cX5_volumeAt 16 = .ok (.iload_n 3, 1) := by decide +kernel
theorem dX5_volumeAt_17 : decode cX5_volumeAt 17 = .ok (.invokevirtual 50, 3) := by decide +kernel
theorem dX5_volumeAt_20 : decode cX5_volumeAt 20 = .ok (.iload_n 1, 1) := by decide +kernel
theorem dX5_volumeAt_21 : decode cX5_volumeAt 21 = .ok (.if_icmp .ne 14, 3) := by decide +kernel
theorem dX5_volumeAt_24 : decode cX5_volumeAt 24 = .ok (.iload_n 2, 1) := by decide +kernel
theorem dX5_volumeAt_25 : decode cX5_volumeAt 25 = .ok (.aload_n 0, 1) := by decide +kernel
theorem dX5_volumeAt_26 : decode cX5_volumeAt 26 = .ok (.getfield 23, 3) := by decide +kernel
theorem dX5_volumeAt_29 : decode cX5_volumeAt 29 = .ok (.iload_n 3, 1) := by decide +kernel
theorem dX5_volumeAt_30 : decode cX5_volumeAt 30 = .ok (.invokevirtual 50, 3) := by decide +kernel
theorem dX5_volumeAt_33 : decode cX5_volumeAt 33 = .ok (.iadd, 1) := by decide +kernel
theorem dX5_volumeAt_34 : decode cX5_volumeAt 34 = .ok (.istore_n 2, 1) := by decide +kernel
theorem dX5_volumeAt_35 : decode cX5_volumeAt 35 = .ok (.iinc 3 1, 3) := by decide +kernel
theorem dX5_volumeAt_38 : decode cX5_volumeAt 38 = .ok (.goto (-34), 3) := by decide +kernel
theorem dX5_volumeAt_41 : decode cX5_volumeAt 41 = .ok (.iload_n 2, 1) := by decide +kernel
theorem dX5_volumeAt_42 : decode cX5_volumeAt 42 = .ok (.ireturn, 1) := by decide +kernel
theorem dX5_shelvedCount_0 : decode cX5_shelvedCount 0 = .ok (.iconst 0, 1) := by decide +kernel
theorem dX5_shelvedCount_1 : decode cX5_shelvedCount 1 = .ok (.istore_n 1, 1) := by decide +kernel
theorem dX5_shelvedCount_2 : decode cX5_shelvedCount 2 = .ok (.iconst 0, 1) := by decide +kernel
theorem dX5_shelvedCount_3 : decode cX5_shelvedCount 3 = .ok (.istore_n 2, 1) := by decide +kernel
theorem dX5_shelvedCount_4 : decode cX5_shelvedCount 4 = .ok (.iload_n 2, 1) := by decide +kernel
theorem dX5_shelvedCount_5 : decode cX5_shelvedCount 5 = .ok (.aload_n 0, 1) := by decide +kernel
theorem dX5_shelvedCount_6 : decode cX5_shelvedCount 6 = .ok (.getfield 38, 3) := by decide +kernel
theorem dX5_shelvedCount_9 : decode cX5_shelvedCount 9 = .ok (.if_icmp .ge 20, 3) := by decide +kernel
theorem dX5_shelvedCount_12 : decode cX5_shelvedCount 12 = .ok (.aload_n 0, 1) := by decide +kernel
theorem dX5_shelvedCount_13 : decode cX5_shelvedCount 13 = .ok (.iload_n 2, 1) := by decide +kernel
theorem dX5_shelvedCount_14 : decode cX5_shelvedCount 14 = .ok (.invokevirtual 54, 3) := by decide +kernel
theorem dX5_shelvedCount_17 : decode cX5_shelvedCount 17 = .ok (.ifCond .eq 6, 3) := by decide +kernel
theorem dX5_shelvedCount_20 : decode cX5_shelvedCount 20 = .ok (.iinc 1 1, 3) := by decide +kernel
theorem dX5_shelvedCount_23 : decode cX5_shelvedCount 23 = .ok (.iinc 2 1, 3) := by decide +kernel
theorem dX5_shelvedCount_26 : decode cX5_shelvedCount 26 = .ok (.goto (-22), 3) := by decide +kernel
theorem dX5_shelvedCount_29 : decode cX5_shelvedCount 29 = .ok (.iload_n 1, 1) := by decide +kernel
theorem dX5_shelvedCount_30 : decode cX5_shelvedCount 30 = .ok (.ireturn, 1) := by decide +kernel
theorem dX5_shelvedVolume_0 : decode cX5_shelvedVolume 0 = .ok (.iconst 0, 1) := by decide +kernel
theorem dX5_shelvedVolume_1 : decode cX5_shelvedVolume 1 = .ok (.istore_n 1, 1) := by decide +kernel
theorem dX5_shelvedVolume_2 : decode cX5_shelvedVolume 2 = .ok (.iconst 0, 1) := by decide +kernel
theorem dX5_shelvedVolume_3 : decode cX5_shelvedVolume 3 = .ok (.istore_n 2, 1) := by decide +kernel
theorem dX5_shelvedVolume_4 : decode cX5_shelvedVolume 4 = .ok (.iload_n 2, 1) := by decide +kernel
theorem dX5_shelvedVolume_5 : decode cX5_shelvedVolume 5 = .ok (.aload_n 0, 1) := by decide +kernel
theorem dX5_shelvedVolume_6 : decode cX5_shelvedVolume 6 = .ok (.getfield 38, 3) := by decide +kernel
theorem dX5_shelvedVolume_9 : decode cX5_shelvedVolume 9 = .ok (.if_icmp .ge 28, 3) := by decide +kernel
theorem dX5_shelvedVolume_12 : decode cX5_shelvedVolume 12 = .ok (.aload_n 0, 1) := by decide +kernel
theorem dX5_shelvedVolume_13 : decode cX5_shelvedVolume 13 = .ok (.iload_n 2, 1) := by decide +kernel
theorem dX5_shelvedVolume_14 : decode cX5_shelvedVolume 14 = .ok (.invokevirtual 54, 3) := by decide +kernel
theorem dX5_shelvedVolume_17 : decode cX5_shelvedVolume 17 = .ok (.ifCond .eq 14, 3) := by decide +kernel
theorem dX5_shelvedVolume_20 : decode cX5_shelvedVolume 20 = .ok (.iload_n 1, 1) := by decide +kernel
theorem dX5_shelvedVolume_21 : decode cX5_shelvedVolume 21 = .ok (.aload_n 0, 1) := by decide +kernel
theorem dX5_shelvedVolume_22 : decode cX5_shelvedVolume 22 = .ok (.getfield 23, 3) := by decide +kernel
theorem dX5_shelvedVolume_25 : decode cX5_shelvedVolume 25 = .ok (.iload_n 2, 1) := by decide +kernel
theorem dX5_shelvedVolume_26 : decode cX5_shelvedVolume 26 = .ok (.invokevirtual 50, 3) := by decide +kernel
theorem dX5_shelvedVolume_29 : decode cX5_shelvedVolume 29 = .ok (.iadd, 1) := by decide +kernel
theorem dX5_shelvedVolume_30 : decode cX5_shelvedVolume 30 = .ok (.istore_n 1, 1) := by decide +kernel
theorem dX5_shelvedVolume_31 : decode cX5_shelvedVolume 31 = .ok (.iinc 2 1, 3) := by decide +kernel
theorem dX5_shelvedVolume_34 : decode cX5_shelvedVolume 34 = .ok (.goto (-30), 3) := by decide +kernel
theorem dX5_shelvedVolume_37 : decode cX5_shelvedVolume 37 = .ok (.iload_n 1, 1) := by decide +kernel
theorem dX5_shelvedVolume_38 : decode cX5_shelvedVolume 38 = .ok (.ireturn, 1) := by decide +kernel
theorem dX5_expiresBefore_0 : decode cX5_expiresBefore 0 = .ok (.aload_n 0, 1) := by decide +kernel
theorem dX5_expiresBefore_1 : decode cX5_expiresBefore 1 = .ok (.getfield 26, 3) := by decide +kernel
theorem dX5_expiresBefore_4 : decode cX5_expiresBefore 4 = .ok (.iload_n 1, 1) := by decide +kernel
theorem dX5_expiresBefore_5 : decode cX5_expiresBefore 5 = .ok (.invokevirtual 50, 3) := by decide +kernel
theorem dX5_expiresBefore_8 : decode cX5_expiresBefore 8 = .ok (.istore_n 3, 1) := by decide +kernel
theorem dX5_expiresBefore_9 : decode cX5_expiresBefore 9 = .ok (.aload_n 0, 1) := by decide +kernel
theorem dX5_expiresBefore_10 : decode cX5_expiresBefore 10 = .ok (.getfield 26, 3) := by decide +kernel
theorem dX5_expiresBefore_13 : decode cX5_expiresBefore 13 = .ok (.iload_n 2, 1) := by decide +kernel
theorem dX5_expiresBefore_14 : decode cX5_expiresBefore 14 = .ok (.invokevirtual 50, 3) := by decide +kernel
theorem dX5_expiresBefore_17 : decode cX5_expiresBefore 17 = .ok (.istore 4, 2) := by decide +kernel
theorem dX5_expiresBefore_19 : decode cX5_expiresBefore 19 = .ok (.iload_n 3, 1) := by decide +kernel
theorem dX5_expiresBefore_20 : decode cX5_expiresBefore 20 = .ok (.iload 4, 2) := by decide +kernel
theorem dX5_expiresBefore_22 : decode cX5_expiresBefore 22 = .ok (.if_icmp .lt 14, 3) := by decide +kernel
theorem dX5_expiresBefore_25 : decode cX5_expiresBefore 25 = .ok (.iload_n 3, 1) := by decide +kernel
theorem dX5_expiresBefore_26 : decode cX5_expiresBefore 26 = .ok (.iload 4, 2) := by decide +kernel
theorem dX5_expiresBefore_28 : decode cX5_expiresBefore 28 = .ok (.if_icmp .ne 12, 3) := by decide +kernel
theorem dX5_expiresBefore_31 : decode cX5_expiresBefore 31 = .ok (.iload_n 1, 1) := by decide +kernel
theorem dX5_expiresBefore_32 : decode cX5_expiresBefore 32 = .ok (.iload_n 2, 1) := by decide +kernel
theorem dX5_expiresBefore_33 : decode cX5_expiresBefore 33 = .ok (.if_icmp .ge 7, 3) := by decide +kernel
theorem dX5_expiresBefore_36 : decode cX5_expiresBefore 36 = .ok (.iconst 1, 1) := by decide +kernel
theorem dX5_expiresBefore_37 : decode cX5_expiresBefore 37 = .ok (.goto 4, 3) := by decide +kernel
theorem dX5_expiresBefore_40 : decode cX5_expiresBefore 40 = .ok (.iconst 0, 1) := by decide +kernel
theorem dX5_expiresBefore_41 : decode cX5_expiresBefore 41 = .ok (.ireturn, 1) := by decide +kernel
theorem dX5_compostsBefore_0 : decode cX5_compostsBefore 0 = .ok (.aload_n 0, 1) := by decide +kernel
theorem dX5_compostsBefore_1 : decode cX5_compostsBefore 1 = .ok (.getfield 23, 3) := by decide +kernel
theorem dX5_compostsBefore_4 : decode cX5_compostsBefore 4 = .ok (.iload_n 1, 1) := by decide +kernel
theorem dX5_compostsBefore_5 : decode cX5_compostsBefore 5 = .ok (.invokevirtual 50, 3) := by decide +kernel
theorem dX5_compostsBefore_8 : decode cX5_compostsBefore 8 = .ok (.istore_n 3, 1) := by decide +kernel
theorem dX5_compostsBefore_9 : decode cX5_compostsBefore 9 = .ok (.aload_n 0, 1) := by decide +kernel
theorem dX5_compostsBefore_10 : decode cX5_compostsBefore 10 = .ok (.getfield 23, 3) := by decide +kernel
theorem dX5_compostsBefore_13 : decode cX5_compostsBefore 13 = .ok (.iload_n 2, 1) := by decide +kernel
theorem dX5_compostsBefore_14 : decode cX5_compostsBefore 14 = .ok (.invokevirtual 50, 3) := by decide +kernel
theorem dX5_compostsBefore_17 : decode cX5_compostsBefore 17 = .ok (.istore 4, 2) := by decide +kernel
theorem dX5_compostsBefore_19 : decode cX5_compostsBefore 19 = .ok (.iload_n 3, 1) := by decide +kernel
theorem dX5_compostsBefore_20 : decode cX5_compostsBefore 20 = .ok (.iload 4, 2) := by decide +kernel
theorem dX5_compostsBefore_22 : decode cX5_compostsBefore 22 = .ok (.if_icmp .eq 15, 3) := by decide +kernel
theorem dX5_compostsBefore_25 : decode cX5_compostsBefore 25 = .ok (.iload_n 3, 1) := by decide +kernel
theorem dX5_compostsBefore_26 : decode cX5_compostsBefore 26 = .ok (.iload 4, 2) := by decide +kernel
theorem dX5_compostsBefore_28 : decode cX5_compostsBefore 28 = .ok (.if_icmp .le 7, 3) := by decide +kernel
theorem dX5_compostsBefore_31 : decode cX5_compostsBefore 31 = .ok (.iconst 1, 1) := by decide +kernel
theorem dX5_compostsBefore_32 : decode cX5_compostsBefore 32 = .ok (.goto 4, 3) := by decide +kernel
theorem dX5_compostsBefore_35 : decode cX5_compostsBefore 35 = .ok (.iconst 0, 1) := by decide +kernel
theorem dX5_compostsBefore_36 : decode cX5_compostsBefore 36 = .ok (.ireturn, 1) := by decide +kernel
theorem dX5_compostsBefore_37 : decode cX5_compostsBefore 37 = .ok (.aload_n 0, 1) := by decide +kernel
theorem dX5_compostsBefore_38 : decode cX5_compostsBefore 38 = .ok (.getfield 26, 3) := by decide +kernel
theorem dX5_compostsBefore_41 : decode cX5_compostsBefore 41 = .ok (.iload_n 1, 1) := by decide +kernel
theorem dX5_compostsBefore_42 : decode cX5_compostsBefore 42 = .ok (.invokevirtual 50, 3) := by decide +kernel
theorem dX5_compostsBefore_45 : decode cX5_compostsBefore 45 = .ok (.istore 5, 2) := by decide +kernel
theorem dX5_compostsBefore_47 : decode cX5_compostsBefore 47 = .ok (.aload_n 0, 1) := by decide +kernel
theorem dX5_compostsBefore_48 : decode cX5_compostsBefore 48 = .ok (.getfield 26, 3) := by decide +kernel
theorem dX5_compostsBefore_51 : decode cX5_compostsBefore 51 = .ok (.iload_n 2, 1) := by decide +kernel
theorem dX5_compostsBefore_52 : decode cX5_compostsBefore 52 = .ok (.invokevirtual 50, 3) := by decide +kernel
theorem dX5_compostsBefore_55 : decode cX5_compostsBefore 55 = .ok (.istore 6, 2) := by decide +kernel
theorem dX5_compostsBefore_57 : decode cX5_compostsBefore 57 = .ok (.iload 5, 2) := by decide +kernel
theorem dX5_compostsBefore_59 : decode cX5_compostsBefore 59 = .ok (.iload 6, 2) := by decide +kernel
theorem dX5_compostsBefore_61 : decode cX5_compostsBefore 61 = .ok (.if_icmp .lt 15, 3) := by decide +kernel
theorem dX5_compostsBefore_64 : decode cX5_compostsBefore 64 = .ok (.iload 5, 2) := by decide +kernel
theorem dX5_compostsBefore_66 : decode cX5_compostsBefore 66 = .ok (.iload 6, 2) := by decide +kernel
theorem dX5_compostsBefore_68 : decode cX5_compostsBefore 68 = .ok (.if_icmp .ne 12, 3) := by decide +kernel
theorem dX5_compostsBefore_71 : decode cX5_compostsBefore 71 = .ok (.iload_n 1, 1) := by decide +kernel
theorem dX5_compostsBefore_72 : decode cX5_compostsBefore 72 = .ok (.iload_n 2, 1) := by decide +kernel
theorem dX5_compostsBefore_73 : decode cX5_compostsBefore 73 = .ok (.if_icmp .ge 7, 3) := by decide +kernel
theorem dX5_compostsBefore_76 : decode cX5_compostsBefore 76 = .ok (.iconst 1, 1) := by decide +kernel
theorem dX5_compostsBefore_77 : decode cX5_compostsBefore 77 = .ok (.goto 4, 3) := by decide +kernel
theorem dX5_compostsBefore_80 : decode cX5_compostsBefore 80 = .ok (.iconst 0, 1) := by decide +kernel
theorem dX5_compostsBefore_81 : decode cX5_compostsBefore 81 = .ok (.ireturn, 1) := by decide +kernel
theorem dX6_init_0 : decode cX6_init 0 = .ok (.aload_n 0, 1) := by decide +kernel
theorem dX6_init_1 : decode cX6_init 1 = .ok (.invokespecial 5, 3) := by decide +kernel
theorem dX6_init_4 : decode cX6_init 4 = .ok (.aload_n 0, 1) := by decide +kernel
theorem dX6_init_5 : decode cX6_init 5 = .ok (.new 11, 3) := by decide +kernel
theorem dX6_init_8 : decode cX6_init 8 = .ok (.dup, 1) := by decide +kernel
theorem dX6_init_9 : decode cX6_init 9 = .ok (.bipush 8, 2) := by decide +kernel
theorem dX6_init_11 : decode cX6_init 11 = .ok (.invokespecial 13, 3) := by decide +kernel
theorem dX6_init_14 : decode cX6_init 14 = .ok (.putfield 16, 3) := by decide +kernel
theorem dX6_init_17 : decode cX6_init 17 = .ok (.aload_n 0, 1) := by decide +kernel
theorem dX6_init_18 : decode cX6_init 18 = .ok (.new 11, 3) := by decide +kernel
theorem dX6_init_21 : decode cX6_init 21 = .ok (.dup, 1) := by decide +kernel
theorem dX6_init_22 : decode cX6_init 22 = .ok (.bipush 8, 2) := by decide +kernel
theorem dX6_init_24 : decode cX6_init 24 = .ok (.invokespecial 13, 3) := by decide +kernel
theorem dX6_init_27 : decode cX6_init 27 = .ok (.putfield 20, 3) := by decide +kernel
theorem dX6_init_30 : decode cX6_init 30 = .ok (.aload_n 0, 1) := by decide +kernel
theorem dX6_init_31 : decode cX6_init 31 = .ok (.new 11, 3) := by decide +kernel
theorem dX6_init_34 : decode cX6_init 34 = .ok (.dup, 1) := by decide +kernel
theorem dX6_init_35 : decode cX6_init 35 = .ok (.bipush 8, 2) := by decide +kernel
theorem dX6_init_37 : decode cX6_init 37 = .ok (.invokespecial 13, 3) := by decide +kernel
theorem dX6_init_40 : decode cX6_init 40 = .ok (.putfield 23, 3) := by decide +kernel
theorem dX6_init_43 : decode cX6_init 43 = .ok (.aload_n 0, 1) := by decide +kernel
theorem dX6_init_44 : decode cX6_init 44 = .ok (.new 11, 3) := by decide +kernel
theorem dX6_init_47 : decode cX6_init 47 = .ok (.dup, 1) := by decide +kernel
theorem dX6_init_48 : decode cX6_init 48 = .ok (.sipush 256, 3) := by decide +kernel
theorem dX6_init_51 : decode cX6_init 51 = .ok (.invokespecial 13, 3) := by decide +kernel
theorem dX6_init_54 : decode cX6_init 54 = .ok (.putfield 26, 3) := by decide +kernel
theorem dX6_init_57 : decode cX6_init 57 = .ok (.aload_n 0, 1) := by decide +kernel
theorem dX6_init_58 : decode cX6_init 58 = .ok (.iconst 0, 1) := by decide +kernel
theorem dX6_init_59 : decode cX6_init 59 = .ok (.putfield 29, 3) := by decide +kernel
theorem dX6_init_62 : decode cX6_init 62 = .ok (.aload_n 0, 1) := by decide +kernel
theorem dX6_init_63 : decode cX6_init 63 = .ok (.iconst 0, 1) := by decide +kernel
theorem dX6_init_64 : decode cX6_init 64 = .ok (.putfield 33, 3) := by decide +kernel
theorem dX6_init_67 : decode cX6_init 67 = .ok (.return_, 1) := by decide +kernel
theorem dX6_fewestBySets_0 : decode cX6_fewestBySets 0 = .ok (.aload_n 0, 1) := by decide +kernel
theorem dX6_fewestBySets_1 : decode cX6_fewestBySets 1 = .ok (.aload_n 1, 1) := by decide +kernel
theorem dX6_fewestBySets_2 : decode cX6_fewestBySets 2 = .ok (.iload_n 2, 1) := by decide +kernel
theorem dX6_fewestBySets_3 : decode cX6_fewestBySets 3 = .ok (.invokevirtual 36, 3) := by decide +kernel
theorem dX6_fewestBySets_6 : decode cX6_fewestBySets 6 = .ok (.iconst 1, 1) := by decide +kernel
theorem dX6_fewestBySets_7 : decode cX6_fewestBySets 7 = .ok (.aload_n 0, 1) := by decide +kernel
theorem dX6_fewestBySets_8 : decode cX6_fewestBySets 8 = .ok (.getfield 33, 3) := by decide +kernel
theorem dX6_fewestBySets_11 : decode cX6_fewestBySets 11 = .ok (.ishl, 1) := by decide +kernel
theorem dX6_fewestBySets_12 : decode cX6_fewestBySets 12 = .ok (.istore_n 3, 1) := by decide +kernel
theorem dX6_fewestBySets_13 : decode cX6_fewestBySets 13 = .ok (.aload_n 0, 1) := by decide +kernel
theorem dX6_fewestBySets_14 : decode cX6_fewestBySets 14 = .ok (.getfield 26, 3) := by decide +kernel
theorem dX6_fewestBySets_17 : decode cX6_fewestBySets 17 = .ok (.iconst 0, 1) := by decide +kernel
theorem dX6_fewestBySets_18 : decode cX6_fewestBySets 18 = .ok (.iconst 0, 1) := by decide +kernel
theorem dX6_fewestBySets_19 : decode cX6_fewestBySets 19 = .ok (.invokevirtual 40, 3) := by decide +kernel
theorem dX6_fewestBySets_22 : decode cX6_fewestBySets 22 = .ok (.iconst 1, 1) := by decide +kernel
theorem dX6_fewestBySets_23 : decode cX6_fewestBySets 23 = .ok (.istore 4, 2) := by decide +kernel
theorem dX6_fewestBySets_25 : decode cX6_fewestBySets 25 = .ok (.iload 4, 2) := by decide +kernel
theorem dX6_fewestBySets_27 : decode cX6_fewestBySets 27 = .ok (.iload_n 3, 1) := by decide +kernel
theorem dX6_fewestBySets_28 : decode cX6_fewestBySets 28 = .ok (.if_icmp .ge 24, 3) := by decide +kernel
theorem dX6_fewestBySets_31 : decode cX6_fewestBySets 31 = .ok (.aload_n 0, 1) := by decide +kernel
theorem dX6_fewestBySets_32 : decode cX6_fewestBySets 32 = .ok (.getfield 26, 3) := by decide +kernel
theorem dX6_fewestBySets_35 : decode cX6_fewestBySets 35 = .ok (.iload 4, 2) := by decide +kernel
theorem dX6_fewestBySets_37 : decode cX6_fewestBySets 37 = .ok (.aload_n 0, 1) := by decide +kernel
theorem dX6_fewestBySets_38 : decode cX6_fewestBySets 38 = .ok (.iload 4, 2) := by decide +kernel
theorem dX6_fewestBySets_40 : decode cX6_fewestBySets 40 = .ok (.invokevirtual 44, 3) := by decide +kernel
theorem dX6_fewestBySets_43 : decode cX6_fewestBySets 43 = .ok (.invokevirtual 40, 3) := by decide +kernel
theorem dX6_fewestBySets_46 : decode cX6_fewestBySets 46 = .ok (.iinc 4 1, 3) := by decide +kernel
theorem dX6_fewestBySets_49 : decode cX6_fewestBySets 49 = .ok (.goto (-24), 3) := by decide +kernel
theorem dX6_fewestBySets_52 : decode cX6_fewestBySets 52 = .ok (.aload_n 0, 1) := by decide +kernel
theorem dX6_fewestBySets_53 : decode cX6_fewestBySets 53 = .ok (.getfield 33, 3) := by decide +kernel
theorem dX6_fewestBySets_56 : decode cX6_fewestBySets 56 = .ok (.ifCond .ne 7, 3) := by decide +kernel
theorem dX6_fewestBySets_59 : decode cX6_fewestBySets 59 = .ok (.iconst 0, 1) := by decide +kernel
theorem dX6_fewestBySets_60 : decode cX6_fewestBySets 60 = .ok (.goto 18, 3) := by decide +kernel
theorem dX6_fewestBySets_63 : decode cX6_fewestBySets 63 = .ok (.aload_n 0, 1) := by decide +kernel
theorem dX6_fewestBySets_64 : decode cX6_fewestBySets 64 = .ok (.getfield 26, 3) := by decide +kernel
theorem dX6_fewestBySets_67 : decode cX6_fewestBySets 67 = .ok (.iload_n 3, 1) := by decide +kernel
theorem dX6_fewestBySets_68 : decode cX6_fewestBySets 68 = .ok (.iconst 1, 1) := by decide +kernel
theorem dX6_fewestBySets_69 : decode cX6_fewestBySets 69 = .ok (.isub, 1) := by decide +kernel
theorem dX6_fewestBySets_70 : decode cX6_fewestBySets 70 = .ok (.invokevirtual 48, 3) := by decide +kernel
theorem dX6_fewestBySets_73 : decode cX6_fewestBySets 73 = .ok (.bipush 64, 2) := by decide +kernel
theorem dX6_fewestBySets_75 : decode cX6_fewestBySets 75 = .ok (.idiv, 1) := by decide +kernel
theorem dX6_fewestBySets_76 : decode cX6_fewestBySets 76 = .ok (.iconst 1, 1) := by decide +kernel
theorem dX6_fewestBySets_77 : decode cX6_fewestBySets 77 = .ok (.iadd, 1) := by decide +kernel
theorem dX6_fewestBySets_78 : decode cX6_fewestBySets 78 = .ok (.ireturn, 1) := by decide +kernel
theorem dX6_leastFilling_0 : decode cX6_leastFilling 0 = .ok (.sipush 512, 3) := by decide +kernel
theorem dX6_leastFilling_3 : decode cX6_leastFilling 3 = .ok (.istore_n 2, 1) := by decide +kernel
theorem dX6_leastFilling_4 : decode cX6_leastFilling 4 = .ok (.iconst 0, 1) := by decide +kernel
theorem dX6_leastFilling_5 : decode cX6_leastFilling 5 = .ok (.istore_n 3, 1) := by decide +kernel
theorem dX6_leastFilling_6 : decode cX6_leastFilling 6 = .ok (.iload_n 3, 1) := by decide +kernel
theorem dX6_leastFilling_7 : decode cX6_leastFilling 7 = .ok (.aload_n 0, 1) := by decide +kernel
theorem dX6_leastFilling_8 : decode cX6_leastFilling 8 = .ok (.getfield 33, 3) := by decide +kernel
theorem dX6_leastFilling_11 : decode cX6_leastFilling 11 = .ok (.if_icmp .ge 51, 3) := by decide +kernel
theorem dX6_leastFilling_14 : decode cX6_leastFilling 14 = .ok (.iload_n 1, 1) := by decide +kernel
theorem dX6_leastFilling_15 : decode cX6_leastFilling 15 = .ok (.iload_n 3, 1) := by decide +kernel
theorem dX6_leastFilling_16 : decode cX6_leastFilling 16 = .ok (.ishr, 1) := by decide +kernel
theorem dX6_leastFilling_17 : decode cX6_leastFilling 17 = .ok (.iconst 1, 1) := by decide +kernel
theorem dX6_leastFilling_18 : decode cX6_leastFilling 18 = .ok (.iand, 1) := by decide +kernel
theorem dX6_leastFilling_19 : decode cX6_leastFilling 19 = .ok (.iconst 1, 1) := by decide +kernel
theorem dX6_leastFilling_20 : decode cX6_leastFilling 20 = .ok (.if_icmp .ne 36, 3) := by decide +kernel
theorem dX6_leastFilling_23 : decode cX6_leastFilling 23 = .ok (.aload_n 0, 1) := by decide +kernel
theorem dX6_leastFilling_24 : decode cX6_leastFilling 24 = .ok (.getfield 26, 3) := by decide +kernel
theorem dX6_leastFilling_27 : decode cX6_leastFilling 27 = .ok (.iload_n 1, 1) := by decide +kernel
theorem dX6_leastFilling_28 : decode cX6_leastFilling 28 = .ok (.iconst 1, 1) := by decide +kernel
theorem dX6_leastFilling_29 : decode cX6_leastFilling 29 = .ok (.iload_n 3, 1) := by decide +kernel
theorem dX6_leastFilling_30 : decode cX6_leastFilling 30 = .ok (.ishl, 1) := by decide +kernel
theorem dX6_leastFilling_31 : decode cX6_leastFilling 31 = .ok (.ixor, 1) := by decide +kernel
theorem dX6_leastFilling_32 : decode cX6_leastFilling 32 = .ok (.invokevirtual 48, 3) := by decide +kernel
theorem dX6_leastFilling_35 : decode cX6_leastFilling 35 = .ok (.istore 4, 2) := by decide +kernel
theorem dX6_leastFilling_37 : decode cX6_leastFilling 37 = .ok (.iload_n 2, 1) := by decide +kernel
theorem dX6_leastFilling_38 : decode cX6_leastFilling 38 = .ok (.aload_n 0, 1) := by decide +kernel
theorem dX6_leastFilling_39 : decode cX6_leastFilling 39 = .ok (.iload 4, 2) := by decide +kernel
theorem dX6_leastFilling_41 : decode cX6_leastFilling 41 = .ok (.aload_n 0, 1) := by decide +kernel
theorem dX6_leastFilling_42 : decode cX6_leastFilling 42 = .ok (.getfield 20, 3) := by decide +kernel
theorem dX6_leastFilling_45 : decode cX6_leastFilling 45 = .ok (.iload_n 3, 1) := by decide +kernel
theorem dX6_leastFilling_46 : decode cX6_leastFilling 46 = .ok (.invokevirtual 48, 3) := by decide +kernel
theorem dX6_leastFilling_49 : decode cX6_leastFilling 49 = .ok (.invokevirtual 51, 3) := by decide +kernel
theorem dX6_leastFilling_52 : decode cX6_leastFilling 52 = .ok (.invokestatic 55, 3) := by decide +kernel
theorem dX6_leastFilling_55 : decode cX6_leastFilling 55 = .ok (.istore_n 2, 1) := by decide +kernel
theorem dX6_leastFilling_56 : decode cX6_leastFilling 56 = .ok (.iinc 3 1, 3) := by decide +kernel
theorem dX6_leastFilling_59 : decode cX6_leastFilling 59 = .ok (.goto (-53), 3) := by decide +kernel
theorem dX6_leastFilling_62 : decode cX6_leastFilling 62 = .ok (.iload_n 2, 1) := by decide +kernel
theorem dX6_leastFilling_63 : decode cX6_leastFilling 63 = .ok (.ireturn, 1) := by decide +kernel
theorem dX6_fillingWith_0 : decode cX6_fillingWith 0 = .ok (.iload_n 1, 1) := by decide +kernel
theorem dX6_fillingWith_1 : decode cX6_fillingWith 1 = .ok (.bipush 64, 2) := by decide +kernel
theorem dX6_fillingWith_3 : decode cX6_fillingWith 3 = .ok (.idiv, 1) := by decide +kernel
theorem dX6_fillingWith_4 : decode cX6_fillingWith 4 = .ok (.istore_n 3, 1) := by decide +kernel
theorem dX6_fillingWith_5 : decode cX6_fillingWith 5 = .ok (.iload_n 1, 1) := by decide +kernel
theorem dX6_fillingWith_6 : decode cX6_fillingWith 6 = .ok (.bipush 64, 2) := by decide +kernel
theorem dX6_fillingWith_8 : decode cX6_fillingWith 8 = .ok (.irem, 1) := by decide +kernel
theorem dX6_fillingWith_9 : decode cX6_fillingWith 9 = .ok (.iload_n 2, 1) := by decide +kernel
theorem dX6_fillingWith_10 : decode cX6_fillingWith 10 = .ok (.iadd, 1) := by decide +kernel
theorem dX6_fillingWith_11 : decode cX6_fillingWith 11 = .ok (.aload_n 0, 1) := by decide +kernel
theorem dX6_fillingWith_12 : decode cX6_fillingWith 12 = .ok (.getfield 16, 3) := by decide +kernel
theorem dX6_fillingWith_15 : decode cX6_fillingWith 15 = .ok (.iload_n 3, 1) := by decide +kernel
theorem dX6_fillingWith_16 : decode cX6_fillingWith 16 = .ok (.invokevirtual 48, 3) := by decide +kernel
theorem dX6_fillingWith_19 : decode cX6_fillingWith 19 = .ok (.if_icmp .gt 7, 3) := by decide +kernel
theorem dX6_fillingWith_22 : decode cX6_fillingWith 22 = .ok (.iload_n 1, 1) := by decide +kernel
theorem dX6_fillingWith_23 : decode cX6_fillingWith 23 = .ok (.iload_n 2, 1) := by decide +kernel
theorem dX6_fillingWith_24 : decode cX6_fillingWith 24 = .ok (.iadd, 1) := by decide +kernel
theorem dX6_fillingWith_25 : decode cX6_fillingWith 25 = .ok (.ireturn, 1) := by decide +kernel
theorem dX6_fillingWith_26 : decode cX6_fillingWith 26 = .ok (.iload_n 2, 1) := by decide +kernel
theorem dX6_fillingWith_27 : decode cX6_fillingWith 27 = .ok (.aload_n 0, 1) := by decide +kernel
theorem dX6_fillingWith_28 : decode cX6_fillingWith 28 = .ok (.getfield 16, 3) := by decide +kernel
theorem dX6_fillingWith_31 : decode cX6_fillingWith 31 = .ok (.iload_n 3, 1) := by decide +kernel
theorem dX6_fillingWith_32 : decode cX6_fillingWith 32 = .ok (.iconst 1, 1) := by decide +kernel
theorem dX6_fillingWith_33 : decode cX6_fillingWith 33 = .ok (.iadd, 1) := by decide +kernel
theorem dX6_fillingWith_34 : decode cX6_fillingWith 34 = .ok (.invokevirtual 48, 3) := by decide +kernel
theorem dX6_fillingWith_37 : decode cX6_fillingWith 37 = .ok (.if_icmp .gt 12, 3) := by decide +kernel
theorem dX6_fillingWith_40 : decode cX6_fillingWith 40 = .ok (.iload_n 3, 1) := by decide +kernel
theorem dX6_fillingWith_41 : decode cX6_fillingWith 41 = .ok (.iconst 1, 1) := by decide +kernel
theorem dX6_fillingWith_42 : decode cX6_fillingWith 42 = .ok (.iadd, 1) := by decide +kernel
theorem dX6_fillingWith_43 : decode cX6_fillingWith 43 = .ok (.bipush 64, 2) := by decide +kernel
theorem dX6_fillingWith_45 : decode cX6_fillingWith 45 = .ok (.imul, 1) := by decide +kernel
theorem dX6_fillingWith_46 : decode cX6_fillingWith 46 = .ok (.iload_n 2, 1) := by decide +kernel
theorem dX6_fillingWith_47 : decode cX6_fillingWith 47 = .ok (.iadd, 1) := by decide +kernel
theorem dX6_fillingWith_48 : decode cX6_fillingWith 48 = .ok (.ireturn, 1) := by decide +kernel
theorem dX6_fillingWith_49 : decode cX6_fillingWith 49 = .ok (.sipush 512, 3) := by decide +kernel
theorem dX6_fillingWith_52 : decode cX6_fillingWith 52 = .ok (.ireturn, 1) := by decide +kernel
theorem dX6_fewestBySearch_0 : decode cX6_fewestBySearch 0 = .ok (.aload_n 0, 1) := by decide +kernel
theorem dX6_fewestBySearch_1 : decode cX6_fewestBySearch 1 = .ok (.aload_n 1, 1) := by decide +kernel
theorem dX6_fewestBySearch_2 : decode cX6_fewestBySearch 2 = .ok (.iload_n 2, 1) := by decide +kernel
theorem dX6_fewestBySearch_3 : decode cX6_fewestBySearch 3 = .ok (.invokevirtual 36, 3) := by decide +kernel
theorem dX6_fewestBySearch_6 : decode cX6_fewestBySearch 6 = .ok (.iconst 0, 1) := by decide +kernel
theorem dX6_fewestBySearch_7 : decode cX6_fewestBySearch 7 = .ok (.istore_n 3, 1) := by decide +kernel
theorem dX6_fewestBySearch_8 : decode cX6_fewestBySearch 8 = .ok (.iload_n 3, 1) := by decide +kernel
theorem dX6_fewestBySearch_9 : decode cX6_fewestBySearch 9 = .ok (.aload_n 0, 1) := by decide +kernel
theorem dX6_fewestBySearch_10 : decode cX6_fewestBySearch 10 = .ok (.getfield 29, 3) := by decide +kernel
theorem dX6_fewestBySearch_13 : decode cX6_fewestBySearch 13 = .ok (.if_icmp .ge 42, 3) := by decide +kernel
theorem dX6_fewestBySearch_16 : decode cX6_fewestBySearch 16 = .ok (.aload_n 0, 1) := by decide +kernel
theorem dX6_fewestBySearch_17 : decode cX6_fewestBySearch 17 = .ok (.getfield 23, 3) := by decide +kernel
theorem dX6_fewestBySearch_20 : decode cX6_fewestBySearch 20 = .ok (.aload_n 0, 1) := by decide +kernel
theorem dX6_fewestBySearch_21 : decode cX6_fewestBySearch 21 = .ok (.getfield 16, 3) := by decide +kernel
theorem dX6_fewestBySearch_24 : decode cX6_fewestBySearch 24 = .ok (.invokevirtual 60, 3) := by decide +kernel
theorem dX6_fewestBySearch_27 : decode cX6_fewestBySearch 27 = .ok (.aload_n 0, 1) := by decide +kernel
theorem dX6_fewestBySearch_28 : decode cX6_fewestBySearch 28 = .ok (.getfield 20, 3) := by decide +kernel
theorem dX6_fewestBySearch_31 : decode cX6_fewestBySearch 31 = .ok (.aload_n 0, 1) := by decide +kernel
theorem dX6_fewestBySearch_32 : decode cX6_fewestBySearch 32 = .ok (.getfield 33, 3) := by decide +kernel
theorem dX6_fewestBySearch_35 : decode cX6_fewestBySearch 35 = .ok (.aload_n 0, 1) := by decide +kernel
theorem dX6_fewestBySearch_36 : decode cX6_fewestBySearch 36 = .ok (.getfield 23, 3) := by decide +kernel
theorem dX6_fewestBySearch_39 : decode cX6_fewestBySearch 39 = .ok (.iload_n 3, 1) := by decide +kernel
theorem dX6_fewestBySearch_40 : decode cX6_fewestBySearch 40 = .ok (.iconst 0, 1) := by decide +kernel
theorem dX6_fewestBySearch_41 : decode cX6_fewestBySearch 41 = .ok (.invokestatic 64, 3) := by decide +kernel
theorem dX6_fewestBySearch_44 : decode cX6_fewestBySearch 44 = .ok (.ifCond .eq 5, 3) := by decide +kernel
theorem dX6_fewestBySearch_47 : decode cX6_fewestBySearch 47 = .ok (.iload_n 3, 1) := by decide +kernel
theorem dX6_fewestBySearch_48 : decode cX6_fewestBySearch 48 = .ok (.ireturn, 1) := by decide +kernel
theorem dX6_fewestBySearch_49 : decode cX6_fewestBySearch 49 = .ok (.iinc 3 1, 3) := by decide +kernel
theorem dX6_fewestBySearch_52 : decode cX6_fewestBySearch 52 = .ok (.goto (-44), 3) := by decide +kernel
theorem dX6_fewestBySearch_55 : decode cX6_fewestBySearch 55 = .ok (.aload_n 0, 1) := by decide +kernel
theorem dX6_fewestBySearch_56 : decode cX6_fewestBySearch 56 = .ok (.getfield 29, 3) := by decide +kernel
theorem dX6_fewestBySearch_59 : decode cX6_fewestBySearch 59 = .ok (.ireturn, 1) := by decide +kernel
theorem dX6_lay_0 : decode cX6_lay 0 = .ok (.iload 4, 2) := by decide +kernel
theorem dX6_lay_2 : decode cX6_lay 2 = .ok (.iload_n 1, 1) := by decide +kernel
theorem dX6_lay_3 : decode cX6_lay 3 = .ok (.if_icmp .ge 10, 3) := by decide +kernel
theorem dX6_lay_6 : decode cX6_lay 6 = .ok (.iload 4, 2) := by decide +kernel
theorem dX6_lay_8 : decode cX6_lay 8 = .ok (.bipush 8, 2) := by decide +kernel
theorem dX6_lay_10 : decode cX6_lay 10 = .ok (.if_icmp .lt 5, 3) := by decide +kernel
theorem dX6_lay_13 : decode cX6_lay 13 = .ok (.iconst 1, 1) := by decide +kernel
theorem dX6_lay_14 : decode cX6_lay 14 = .ok (.ireturn, 1) := by decide +kernel
theorem dX6_lay_15 : decode cX6_lay 15 = .ok (.aload_n 0, 1) := by decide +kernel
theorem dX6_lay_16 : decode cX6_lay 16 = .ok (.iload 4, 2) := by decide +kernel
theorem dX6_lay_18 : decode cX6_lay 18 = .ok (.invokevirtual 48, 3) := by decide +kernel
theorem dX6_lay_21 : decode cX6_lay 21 = .ok (.istore 5, 2) := by decide +kernel
theorem dX6_lay_23 : decode cX6_lay 23 = .ok (.iconst 0, 1) := by decide +kernel
theorem dX6_lay_24 : decode cX6_lay 24 = .ok (.istore 6, 2) := by decide +kernel
theorem dX6_lay_26 : decode cX6_lay 26 = .ok (.iload 6, 2) := by decide +kernel
theorem dX6_lay_28 : decode cX6_lay 28 = .ok (.iload_n 3, 1) := by decide +kernel
theorem dX6_lay_29 : decode cX6_lay 29 = .ok (.if_icmp .ge 68, 3) := by decide +kernel
theorem dX6_lay_32 : decode cX6_lay 32 = .ok (.aload_n 2, 1) := by decide +kernel
theorem dX6_lay_33 : decode cX6_lay 33 = .ok (.iload 6, 2) := by decide +kernel
theorem dX6_lay_35 : decode cX6_lay 35 = .ok (.invokevirtual 48, 3) := by decide +kernel
theorem dX6_lay_38 : decode cX6_lay 38 = .ok (.istore 7, 2) := by decide +kernel
theorem dX6_lay_40 : decode cX6_lay 40 = .ok (.iload 7, 2) := by decide +kernel
theorem dX6_lay_42 : decode cX6_lay 42 = .ok (.iload 5, 2) := by decide +kernel
theorem dX6_lay_44 : decode cX6_lay 44 = .ok (.if_icmp .lt 47, 3) := by decide +kernel
theorem dX6_lay_47 : decode cX6_lay 47 = .ok (.aload_n 2, 1) := by decide +kernel
theorem dX6_lay_48 : decode cX6_lay 48 = .ok (.iload 6, 2) := by decide +kernel
theorem dX6_lay_50 : decode cX6_lay 50 = .ok (.invokestatic 68, 3) := by decide +kernel
theorem dX6_lay_53 : decode cX6_lay 53 = .ok (.ifCond .ne 38, 3) := by decide +kernel
theorem dX6_lay_56 : decode cX6_lay 56 = .ok (.aload_n 2, 1) := by decide +kernel
theorem dX6_lay_57 : decode cX6_lay 57 = .ok (.iload 6, 2) := by decide +kernel
theorem dX6_lay_59 : decode cX6_lay 59 = .ok (.iload 7, 2) := by decide +kernel
theorem dX6_lay_61 : decode cX6_lay 61 = .ok (.iload 5, 2) := by decide +kernel
theorem dX6_lay_63 : decode cX6_lay 63 = .ok (.isub, 1) := by decide +kernel
theorem dX6_lay_64 : decode cX6_lay 64 = .ok (.invokevirtual 40, 3) := by decide +kernel
theorem dX6_lay_67 : decode cX6_lay 67 = .ok (.aload_n 0, 1) := by decide +kernel
theorem dX6_lay_68 : decode cX6_lay 68 = .ok (.iload_n 1, 1) := by decide +kernel
theorem dX6_lay_69 : decode cX6_lay 69 = .ok (.aload_n 2, 1) := by decide +kernel
theorem dX6_lay_70 : decode cX6_lay 70 = .ok (.iload_n 3, 1) := by decide +kernel
theorem dX6_lay_71 : decode cX6_lay 71 = .ok (.iload 4, 2) := by decide +kernel
theorem dX6_lay_73 : decode cX6_lay 73 = .ok (.iconst 1, 1) := by decide +kernel
theorem dX6_lay_74 : decode cX6_lay 74 = .ok (.iadd, 1) := by decide +kernel
theorem dX6_lay_75 : decode cX6_lay 75 = .ok (.invokestatic 64, 3) := by decide +kernel
theorem dX6_lay_78 : decode cX6_lay 78 = .ok (.ifCond .eq 5, 3) := by decide +kernel
theorem dX6_lay_81 : decode cX6_lay 81 = .ok (.iconst 1, 1) := by decide +kernel
theorem dX6_lay_82 : decode cX6_lay 82 = .ok (.ireturn, 1) := by decide +kernel
theorem dX6_lay_83 : decode cX6_lay 83 = .ok (.aload_n 2, 1) := by decide +kernel
theorem dX6_lay_84 : decode cX6_lay 84 = .ok (.iload 6, 2) := by decide +kernel
theorem dX6_lay_86 : decode cX6_lay 86 = .ok (.iload 7, 2) := by decide +kernel
theorem dX6_lay_88 : decode cX6_lay 88 = .ok (.invokevirtual 40, 3) := by decide +kernel
theorem dX6_lay_91 : decode cX6_lay 91 = .ok (.iinc 6 1, 3) := by decide +kernel
theorem dX6_lay_94 : decode cX6_lay 94 = .ok (.goto (-68), 3) := by decide +kernel
theorem dX6_lay_97 : decode cX6_lay 97 = .ok (.iconst 0, 1) := by decide +kernel
theorem dX6_lay_98 : decode cX6_lay 98 = .ok (.ireturn, 1) := by decide +kernel
theorem dX6_hasRoomBefore_0 : decode cX6_hasRoomBefore 0 = .ok (.iconst 0, 1) := by decide +kernel
theorem dX6_hasRoomBefore_1 : decode cX6_hasRoomBefore 1 = .ok (.istore_n 2, 1) := by decide +kernel
theorem dX6_hasRoomBefore_2 : decode cX6_hasRoomBefore 2 = .ok (.iload_n 2, 1) := by decide +kernel
theorem dX6_hasRoomBefore_3 : decode cX6_hasRoomBefore 3 = .ok (.iload_n 1, 1) := by decide +kernel
theorem dX6_hasRoomBefore_4 : decode cX6_hasRoomBefore 4 = .ok (.if_icmp .ge 24, 3) := by decide +kernel
theorem dX6_hasRoomBefore_7 : decode cX6_hasRoomBefore 7 = .ok (.aload_n 0, 1) := by decide +kernel
theorem dX6_hasRoomBefore_8 : decode cX6_hasRoomBefore 8 = .ok (.iload_n 2, 1) := by decide +kernel
theorem dX6_hasRoomBefore_9 : decode cX6_hasRoomBefore 9 = .ok (.invokevirtual 48, 3) := by decide +kernel
theorem dX6_hasRoomBefore_12 : decode cX6_hasRoomBefore 12 = .ok (.aload_n 0, 1) := by decide +kernel
theorem dX6_hasRoomBefore_13 : decode cX6_hasRoomBefore 13 = .ok (.iload_n 1, 1) := by decide +kernel
theorem dX6_hasRoomBefore_14 : decode cX6_hasRoomBefore 14 = .ok (.invokevirtual 48, 3) := by decide +kernel
theorem dX6_hasRoomBefore_17 : decode cX6_hasRoomBefore 17 = .ok (.if_icmp .ne 5, 3) := by decide +kernel
theorem dX6_hasRoomBefore_20 : decode cX6_hasRoomBefore 20 = .ok (.iconst 1, 1) := by decide +kernel
theorem dX6_hasRoomBefore_21 : decode cX6_hasRoomBefore 21 = .ok (.ireturn, 1) := by decide +kernel
theorem dX6_hasRoomBefore_22 : decode cX6_hasRoomBefore 22 = .ok (.iinc 2 1, 3) := by decide +kernel
theorem dX6_hasRoomBefore_25 : decode cX6_hasRoomBefore 25 = .ok (.goto (-23), 3) := by decide +kernel
theorem dX6_hasRoomBefore_28 : decode cX6_hasRoomBefore 28 = .ok (.iconst 0, 1) := by decide +kernel
theorem dX6_hasRoomBefore_29 : decode cX6_hasRoomBefore 29 = .ok (.ireturn, 1) := by decide +kernel
theorem dX6_gather_0 : decode cX6_gather 0 = .ok (.aload_n 0, 1) := by decide +kernel
theorem dX6_gather_1 : decode cX6_gather 1 = .ok (.getfield 16, 3) := by decide +kernel
theorem dX6_gather_4 : decode cX6_gather 4 = .ok (.iconst 0, 1) := by decide +kernel
theorem dX6_gather_5 : decode cX6_gather 5 = .ok (.invokevirtual 72, 3) := by decide +kernel
theorem dX6_gather_8 : decode cX6_gather 8 = .ok (.aload_n 0, 1) := by decide +kernel
theorem dX6_gather_9 : decode cX6_gather 9 = .ok (.getfield 20, 3) := by decide +kernel
theorem dX6_gather_12 : decode cX6_gather 12 = .ok (.iconst 0, 1) := by decide +kernel
theorem dX6_gather_13 : decode cX6_gather 13 = .ok (.invokevirtual 72, 3) := by decide +kernel
theorem dX6_gather_16 : decode cX6_gather 16 = .ok (.aload_n 0, 1) := by decide +kernel
theorem dX6_gather_17 : decode cX6_gather 17 = .ok (.iconst 0, 1) := by decide +kernel
theorem dX6_gather_18 : decode cX6_gather 18 = .ok (.putfield 29, 3) := by decide +kernel
theorem dX6_gather_21 : decode cX6_gather 21 = .ok (.aload_n 0, 1) := by decide +kernel
theorem dX6_gather_22 : decode cX6_gather 22 = .ok (.iconst 0, 1) := by decide +kernel
theorem dX6_gather_23 : decode cX6_gather 23 = .ok (.putfield 33, 3) := by decide +kernel
theorem dX6_gather_26 : decode cX6_gather 26 = .ok (.iconst 0, 1) := by decide +kernel
theorem dX6_gather_27 : decode cX6_gather 27 = .ok (.istore_n 3, 1) := by decide +kernel
theorem dX6_gather_28 : decode cX6_gather 28 = .ok (.iload_n 3, 1) := by decide +kernel
theorem dX6_gather_29 : decode cX6_gather 29 = .ok (.aload_n 1, 1) := by decide +kernel
theorem dX6_gather_30 : decode cX6_gather 30 = .ok (.getfield 75, 3) := by decide +kernel
theorem dX6_gather_33 : decode cX6_gather 33 = .ok (.getfield 81, 3) := by decide +kernel
theorem dX6_gather_36 : decode cX6_gather 36 = .ok (.if_icmp .ge 65, 3) := by decide +kernel
theorem dX6_gather_39 : decode cX6_gather 39 = .ok (.aload_n 0, 1) := by decide +kernel
theorem dX6_gather_40 : decode cX6_gather 40 = .ok (.getfield 29, 3) := by decide +kernel
theorem dX6_gather_43 : decode cX6_gather 43 = .ok (.bipush 8, 2) := by decide +kernel
theorem dX6_gather_45 : decode cX6_gather 45 = .ok (.if_icmp .ge 56, 3) := by decide +kernel
theorem dX6_gather_48 : decode cX6_gather 48 = .ok (.aload_n 1, 1) := by decide +kernel
theorem dX6_gather_49 : decode cX6_gather 49 = .ok (.getfield 75, 3) := by decide +kernel
theorem dX6_gather_52 : decode cX6_gather 52 = .ok (.getfield 86, 3) := by decide +kernel
theorem dX6_gather_55 : decode cX6_gather 55 = .ok (.iload_n 3, 1) := by decide +kernel
theorem dX6_gather_56 : decode cX6_gather 56 = .ok (.invokevirtual 48, 3) := by decide +kernel
theorem dX6_gather_59 : decode cX6_gather 59 = .ok (.iload_n 2, 1) := by decide +kernel
theorem dX6_gather_60 : decode cX6_gather 60 = .ok (.if_icmp .ne 35, 3) := by decide +kernel
theorem dX6_gather_63 : decode cX6_gather 63 = .ok (.aload_n 0, 1) := by decide +kernel
theorem dX6_gather_64 : decode cX6_gather 64 = .ok (.getfield 16, 3) := by decide +kernel
theorem dX6_gather_67 : decode cX6_gather 67 = .ok (.aload_n 0, 1) := by decide +kernel
theorem dX6_gather_68 : decode cX6_gather 68 = .ok (.getfield 29, 3) := by decide +kernel
theorem dX6_gather_71 : decode cX6_gather 71 = .ok (.aload_n 1, 1) := by decide +kernel
theorem dX6_gather_72 : decode cX6_gather 72 = .ok (.getfield 75, 3) := by decide +kernel
theorem dX6_gather_75 : decode cX6_gather 75 = .ok (.getfield 89, 3) := by decide +kernel
theorem dX6_gather_78 : decode cX6_gather 78 = .ok (.iload_n 3, 1) := by decide +kernel
theorem dX6_gather_79 : decode cX6_gather 79 = .ok (.invokevirtual 48, 3) := by decide +kernel
theorem dX6_gather_82 : decode cX6_gather 82 = .ok (.invokestatic 90, 3) := by decide +kernel
theorem dX6_gather_85 : decode cX6_gather 85 = .ok (.aload_n 0, 1) := by decide +kernel
theorem dX6_gather_86 : decode cX6_gather 86 = .ok (.dup, 1) := by decide +kernel
theorem dX6_gather_87 : decode cX6_gather 87 = .ok (.getfield 29, 3) := by decide +kernel
theorem dX6_gather_90 : decode cX6_gather 90 = .ok (.iconst 1, 1) := by decide +kernel
theorem dX6_gather_91 : decode cX6_gather 91 = .ok (.iadd, 1) := by decide +kernel
theorem dX6_gather_92 : decode cX6_gather 92 = .ok (.putfield 29, 3) := by decide +kernel
theorem dX6_gather_95 : decode cX6_gather 95 = .ok (.iinc 3 1, 3) := by decide +kernel
theorem dX6_gather_98 : decode cX6_gather 98 = .ok (.goto (-70), 3) := by decide +kernel
theorem dX6_gather_101 : decode cX6_gather 101 = .ok (.iconst 0, 1) := by decide +kernel
theorem dX6_gather_102 : decode cX6_gather 102 = .ok (.istore_n 3, 1) := by decide +kernel
theorem dX6_gather_103 : decode cX6_gather 103 = .ok (.iload_n 3, 1) := by decide +kernel
theorem dX6_gather_104 : decode cX6_gather 104 = .ok (.aload_n 1, 1) := by decide +kernel
theorem dX6_gather_105 : decode cX6_gather 105 = .ok (.getfield 94, 3) := by decide +kernel
theorem dX6_gather_108 : decode cX6_gather 108 = .ok (.getfield 98, 3) := by decide +kernel
theorem dX6_gather_111 : decode cX6_gather 111 = .ok (.if_icmp .ge 76, 3) := by decide +kernel
theorem dX6_gather_114 : decode cX6_gather 114 = .ok (.aload_n 0, 1) := by decide +kernel
theorem dX6_gather_115 : decode cX6_gather 115 = .ok (.getfield 33, 3) := by decide +kernel
theorem dX6_gather_118 : decode cX6_gather 118 = .ok (.bipush 8, 2) := by decide +kernel
theorem dX6_gather_120 : decode cX6_gather 120 = .ok (.if_icmp .ge 67, 3) := by decide +kernel
theorem dX6_gather_123 : decode cX6_gather 123 = .ok (.aload_n 1, 1) := by decide +kernel
theorem dX6_gather_124 : decode cX6_gather 124 = .ok (.getfield 94, 3) := by decide +kernel
theorem dX6_gather_127 : decode cX6_gather 127 = .ok (.iload_n 3, 1) := by decide +kernel
theorem dX6_gather_128 : decode cX6_gather 128 = .ok (.invokevirtual 101, 3) := by decide +kernel
theorem dX6_gather_131 : decode cX6_gather 131 = .ok (.ifCond .eq 50, 3) := by decide +kernel
theorem dX6_gather_134 : decode cX6_gather 134 = .ok (.aload_n 1, 1) := by decide +kernel
theorem dX6_gather_135 : decode cX6_gather 135 = .ok (.getfield 94, 3) := by decide +kernel
theorem dX6_gather_138 : decode cX6_gather 138 = .ok (.getfield 105, 3) := by decide +kernel
theorem dX6_gather_141 : decode cX6_gather 141 = .ok (.iload_n 3, 1) := by decide +kernel
theorem dX6_gather_142 : decode cX6_gather 142 = .ok (.invokevirtual 48, 3) := by decide +kernel
theorem dX6_gather_145 : decode cX6_gather 145 = .ok (.iload_n 2, 1) := by decide +kernel
theorem dX6_gather_146 : decode cX6_gather 146 = .ok (.if_icmp .ne 35, 3) := by decide +kernel
theorem dX6_gather_149 : decode cX6_gather 149 = .ok (.aload_n 0, 1) := by decide +kernel
theorem dX6_gather_150 : decode cX6_gather 150 = .ok (.getfield 20, 3) := by decide +kernel
theorem dX6_gather_153 : decode cX6_gather 153 = .ok (.aload_n 0, 1) := by decide +kernel
theorem dX6_gather_154 : decode cX6_gather 154 = .ok (.getfield 33, 3) := by decide +kernel
theorem dX6_gather_157 : decode cX6_gather 157 = .ok (.aload_n 1, 1) := by decide +kernel
theorem dX6_gather_158 : decode cX6_gather 158 = .ok (.getfield 94, 3) := by decide +kernel
theorem dX6_gather_161 : decode cX6_gather 161 = .ok (.getfield 106, 3) := by decide +kernel
theorem dX6_gather_164 : decode cX6_gather 164 = .ok (.iload_n 3, 1) := by decide +kernel
theorem dX6_gather_165 : decode cX6_gather 165 = .ok (.invokevirtual 48, 3) := by decide +kernel
theorem dX6_gather_168 : decode cX6_gather 168 = .ok (.invokestatic 90, 3) := by decide +kernel
theorem dX6_gather_171 : decode cX6_gather 171 = .ok (.aload_n 0, 1) := by decide +kernel
theorem dX6_gather_172 : decode cX6_gather 172 = .ok (.dup, 1) := by decide +kernel
theorem dX6_gather_173 : decode cX6_gather 173 = .ok (.getfield 33, 3) := by decide +kernel
theorem dX6_gather_176 : decode cX6_gather 176 = .ok (.iconst 1, 1) := by decide +kernel
theorem dX6_gather_177 : decode cX6_gather 177 = .ok (.iadd, 1) := by decide +kernel
theorem dX6_gather_178 : decode cX6_gather 178 = .ok (.putfield 33, 3) := by decide +kernel
theorem dX6_gather_181 : decode cX6_gather 181 = .ok (.iinc 3 1, 3) := by decide +kernel
theorem dX6_gather_184 : decode cX6_gather 184 = .ok (.goto (-81), 3) := by decide +kernel
theorem dX6_gather_187 : decode cX6_gather 187 = .ok (.return_, 1) := by decide +kernel
theorem dX6_insert_0 : decode cX6_insert 0 = .ok (.iload_n 1, 1) := by decide +kernel
theorem dX6_insert_1 : decode cX6_insert 1 = .ok (.istore_n 3, 1) := by decide +kernel
theorem dX6_insert_2 : decode cX6_insert 2 = .ok (.iload_n 1, 1) := by decide +kernel
theorem dX6_insert_3 : decode cX6_insert 3 = .ok (.iconst 1, 1) := by decide +kernel
theorem dX6_insert_4 : decode cX6_insert 4 = .ok (.isub, 1) := by decide +kernel
theorem dX6_insert_5 : decode cX6_insert 5 = .ok (.istore 4, 2) := by decide +kernel
theorem dX6_insert_7 : decode cX6_insert 7 = .ok (.iload 4, 2) := by decide +kernel
theorem dX6_insert_9 : decode cX6_insert 9 = .ok (.ifCond .lt 33, 3) := by decide +kernel
theorem dX6_insert_12 : decode cX6_insert 12 = .ok (.aload_n 0, 1) := by decide +kernel
theorem dX6_insert_13 : decode cX6_insert 13 = .ok (.iload 4, 2) := by decide +kernel
theorem dX6_insert_15 : decode cX6_insert 15 = .ok (.invokevirtual 48, 3) := by decide +kernel
theorem dX6_insert_18 : decode cX6_insert 18 = .ok (.iload_n 2, 1) := by decide +kernel
theorem dX6_insert_19 : decode cX6_insert 19 = .ok (.if_icmp .ge 23, 3) := by decide +kernel
theorem dX6_insert_22 : decode cX6_insert 22 = .ok (.aload_n 0, 1) := by decide +kernel
theorem dX6_insert_23 : decode cX6_insert 23 = .ok (.iload_n 3, 1) := by decide +kernel
theorem dX6_insert_24 : decode cX6_insert 24 = .ok (.aload_n 0, 1) := by decide +kernel
theorem dX6_insert_25 : decode cX6_insert 25 = .ok (.iload 4, 2) := by decide +kernel
theorem dX6_insert_27 : decode cX6_insert 27 = .ok (.invokevirtual 48, 3) := by decide +kernel
theorem dX6_insert_30 : decode cX6_insert 30 = .ok (.invokevirtual 40, 3) := by decide +kernel
theorem dX6_insert_33 : decode cX6_insert 33 = .ok (.iload 4, 2) := by decide +kernel
theorem dX6_insert_35 : decode cX6_insert 35 = .ok (.istore_n 3, 1) := by decide +kernel
theorem dX6_insert_36 : decode cX6_insert 36 = .ok (.iinc 4 (-1), 3) := by decide +kernel
theorem dX6_insert_39 : decode cX6_insert 39 = .ok (.goto (-32), 3) := by decide +kernel
theorem dX6_insert_42 : decode cX6_insert 42 = .ok (.aload_n 0, 1) := by decide +kernel
theorem dX6_insert_43 : decode cX6_insert 43 = .ok (.iload_n 3, 1) := by decide +kernel
theorem dX6_insert_44 : decode cX6_insert 44 = .ok (.iload_n 2, 1) := by decide +kernel
theorem dX6_insert_45 : decode cX6_insert 45 = .ok (.invokevirtual 40, 3) := by decide +kernel
theorem dX6_insert_48 : decode cX6_insert 48 = .ok (.return_, 1) := by decide +kernel
theorem dX7_init_0 : decode cX7_init 0 = .ok (.aload_n 0, 1) := by decide +kernel
theorem dX7_init_1 : decode cX7_init 1 = .ok (.invokespecial 1, 3) := by decide +kernel
theorem dX7_init_4 : decode cX7_init 4 = .ok (.aload_n 0, 1) := by decide +kernel
theorem dX7_init_5 : decode cX7_init 5 = .ok (.iload_n 1, 1) := by decide +kernel
theorem dX7_init_6 : decode cX7_init 6 = .ok (.ifCond .le 7, 3) := by decide +kernel
theorem dX7_init_9 : decode cX7_init 9 = .ok (.iload_n 1, 1) := by decide +kernel
theorem dX7_init_10 : decode cX7_init 10 = .ok (.goto 4, 3) := by decide +kernel
theorem dX7_init_13 : decode cX7_init 13 = .ok (.iconst 0, 1) := by decide +kernel
theorem dX7_init_14 : decode cX7_init 14 = .ok (.newarray .int, 2) := by decide +kernel
theorem dX7_init_16 : decode cX7_init 16 = .ok (.putfield 7, 3) := by decide +kernel
theorem dX7_init_19 : decode cX7_init 19 = .ok (.return_, 1) := by decide +kernel
theorem dX7_get_0 : decode cX7_get 0 = .ok (.iload_n 1, 1) := by decide +kernel
theorem dX7_get_1 : decode cX7_get 1 = .ok (.ifCond .lt 21, 3) := by decide +kernel
theorem dX7_get_4 : decode cX7_get 4 = .ok (.iload_n 1, 1) := by decide +kernel
theorem dX7_get_5 : decode cX7_get 5 = .ok (.aload_n 0, 1) := by decide +kernel
theorem dX7_get_6 : decode cX7_get 6 = .ok (.getfield 7, 3) := by decide +kernel
theorem dX7_get_9 : decode cX7_get 9 = .ok (.arraylength, 1) := by decide +kernel
theorem dX7_get_10 : decode cX7_get 10 = .ok (.if_icmp .ge 12, 3) := by decide +kernel
theorem dX7_get_13 : decode cX7_get 13 = .ok (.aload_n 0, 1) := by decide +kernel
theorem dX7_get_14 : decode cX7_get 14 = .ok (.getfield 7, 3) := by decide +kernel
theorem dX7_get_17 : decode cX7_get 17 = .ok (.iload_n 1, 1) := by decide +kernel
theorem dX7_get_18 : decode cX7_get 18 = .ok (.iaload, 1) := by decide +kernel
theorem dX7_get_19 : decode cX7_get 19 = .ok (.goto 4, 3) := by decide +kernel
theorem dX7_get_22 : decode cX7_get 22 = .ok (.iconst 0, 1) := by decide +kernel
theorem dX7_get_23 : decode cX7_get 23 = .ok (.ireturn, 1) := by decide +kernel
theorem dX7_set_0 : decode cX7_set 0 = .ok (.iload_n 1, 1) := by decide +kernel
theorem dX7_set_1 : decode cX7_set 1 = .ok (.ifCond .lt 19, 3) := by decide +kernel
theorem dX7_set_4 : decode cX7_set 4 = .ok (.iload_n 1, 1) := by decide +kernel
theorem dX7_set_5 : decode cX7_set 5 = .ok (.aload_n 0, 1) := by decide +kernel
theorem dX7_set_6 : decode cX7_set 6 = .ok (.getfield 7, 3) := by decide +kernel
theorem dX7_set_9 : decode cX7_set 9 = .ok (.arraylength, 1) := by decide +kernel
theorem dX7_set_10 : decode cX7_set 10 = .ok (.if_icmp .ge 10, 3) := by decide +kernel
theorem dX7_set_13 : decode cX7_set 13 = .ok (.aload_n 0, 1) := by decide +kernel
theorem dX7_set_14 : decode cX7_set 14 = .ok (.getfield 7, 3) := by decide +kernel
theorem dX7_set_17 : decode cX7_set 17 = .ok (.iload_n 1, 1) := by decide +kernel
theorem dX7_set_18 : decode cX7_set 18 = .ok (.iload_n 2, 1) := by decide +kernel
theorem dX7_set_19 : decode cX7_set 19 = .ok (.iastore, 1) := by decide +kernel
theorem dX7_set_20 : decode cX7_set 20 = .ok (.return_, 1) := by decide +kernel
theorem dX7_fill_0 : decode cX7_fill 0 = .ok (.iconst 0, 1) := by decide +kernel
theorem dX7_fill_1 : decode cX7_fill 1 = .ok (.istore_n 2, 1) := by decide +kernel
theorem dX7_fill_2 : decode cX7_fill 2 = .ok (.iload_n 2, 1) := by decide +kernel
theorem dX7_fill_3 : decode cX7_fill 3 = .ok (.aload_n 0, 1) := by decide +kernel
theorem dX7_fill_4 : decode cX7_fill 4 = .ok (.getfield 7, 3) := by decide +kernel
theorem dX7_fill_7 : decode cX7_fill 7 = .ok (.arraylength, 1) := by decide +kernel
theorem dX7_fill_8 : decode cX7_fill 8 = .ok (.if_icmp .ge 16, 3) := by decide +kernel
theorem dX7_fill_11 : decode cX7_fill 11 = .ok (.aload_n 0, 1) := by decide +kernel
theorem dX7_fill_12 : decode cX7_fill 12 = .ok (.getfield 7, 3) := by decide +kernel
theorem dX7_fill_15 : decode cX7_fill 15 = .ok (.iload_n 2, 1) := by decide +kernel
theorem dX7_fill_16 : decode cX7_fill 16 = .ok (.iload_n 1, 1) := by decide +kernel
theorem dX7_fill_17 : decode cX7_fill 17 = .ok (.iastore, 1) := by decide +kernel
theorem dX7_fill_18 : decode cX7_fill 18 = .ok (.iinc 2 1, 3) := by decide +kernel
theorem dX7_fill_21 : decode cX7_fill 21 = .ok (.goto (-19), 3) := by decide +kernel
theorem dX7_fill_24 : decode cX7_fill 24 = .ok (.return_, 1) := by decide +kernel
theorem dX7_copyFrom_0 : decode cX7_copyFrom 0 = .ok (.aload_n 1, 1) := by decide +kernel
theorem dX7_copyFrom_1 : decode cX7_copyFrom 1 = .ok (.getfield 7, 3) := by decide +kernel
theorem dX7_copyFrom_4 : decode cX7_copyFrom 4 = .ok (.iconst 0, 1) := by decide +kernel
theorem dX7_copyFrom_5 : decode cX7_copyFrom 5 = .ok (.aload_n 0, 1) := by decide +kernel
theorem dX7_copyFrom_6 : decode cX7_copyFrom 6 = .ok (.getfield 7, 3) := by decide +kernel
theorem dX7_copyFrom_9 : decode cX7_copyFrom 9 = .ok (.iconst 0, 1) := by decide +kernel
theorem dX7_copyFrom_10 : decode cX7_copyFrom 10 = .ok (.aload_n 0, 1) := by decide +kernel
theorem dX7_copyFrom_11 : decode cX7_copyFrom 11 = .ok (.getfield 7, 3) := by decide +kernel
theorem dX7_copyFrom_14 : decode cX7_copyFrom 14 = .ok (.arraylength, 1) := by decide +kernel
theorem dX7_copyFrom_15 : decode cX7_copyFrom 15 = .ok (.aload_n 1, 1) := by decide +kernel
theorem dX7_copyFrom_16 : decode cX7_copyFrom 16 = .ok (.getfield 7, 3) := by decide +kernel
theorem dX7_copyFrom_19 : decode cX7_copyFrom 19 = .ok (.arraylength, 1) := by decide +kernel
theorem dX7_copyFrom_20 : decode cX7_copyFrom 20 = .ok (.invokestatic 13, 3) := by decide +kernel
theorem dX7_copyFrom_23 : decode cX7_copyFrom 23 = .ok (.invokestatic 19, 3) := by decide +kernel
theorem dX7_copyFrom_26 : decode cX7_copyFrom 26 = .ok (.return_, 1) := by decide +kernel
theorem dX8_init_0 : decode cX8_init 0 = .ok (.aload_n 0, 1) := by decide +kernel
theorem dX8_init_1 : decode cX8_init 1 = .ok (.invokespecial 3, 3) := by decide +kernel
theorem dX8_init_4 : decode cX8_init 4 = .ok (.aload_n 0, 1) := by decide +kernel
theorem dX8_init_5 : decode cX8_init 5 = .ok (.new 9, 3) := by decide +kernel
theorem dX8_init_8 : decode cX8_init 8 = .ok (.dup, 1) := by decide +kernel
theorem dX8_init_9 : decode cX8_init 9 = .ok (.bipush 8, 2) := by decide +kernel
theorem dX8_init_11 : decode cX8_init 11 = .ok (.invokespecial 11, 3) := by decide +kernel
theorem dX8_init_14 : decode cX8_init 14 = .ok (.putfield 14, 3) := by decide +kernel
theorem dX8_init_17 : decode cX8_init 17 = .ok (.aload_n 0, 1) := by decide +kernel
theorem dX8_init_18 : decode cX8_init 18 = .ok (.new 9, 3) := by decide +kernel
theorem dX8_init_21 : decode cX8_init 21 = .ok (.dup, 1) := by decide +kernel
theorem dX8_init_22 : decode cX8_init 22 = .ok (.bipush 8, 2) := by decide +kernel
theorem dX8_init_24 : decode cX8_init 24 = .ok (.invokespecial 11, 3) := by decide +kernel
theorem dX8_init_27 : decode cX8_init 27 = .ok (.putfield 20, 3) := by decide +kernel
theorem dX8_init_30 : decode cX8_init 30 = .ok (.aload_n 0, 1) := by decide +kernel
theorem dX8_init_31 : decode cX8_init 31 = .ok (.new 9, 3) := by decide +kernel
theorem dX8_init_34 : decode cX8_init 34 = .ok (.dup, 1) := by decide +kernel
theorem dX8_init_35 : decode cX8_init 35 = .ok (.bipush 8, 2) := by decide +kernel
theorem dX8_init_37 : decode cX8_init 37 = .ok (.invokespecial 11, 3) := by decide +kernel
theorem dX8_init_40 : decode cX8_init 40 = .ok (.putfield 23, 3) := by decide +kernel
theorem dX8_init_43 : decode cX8_init 43 = .ok (.aload_n 0, 1) := by decide +kernel
theorem dX8_init_44 : decode cX8_init 44 = .ok (.iconst 0, 1) := by decide +kernel
theorem dX8_init_45 : decode cX8_init 45 = .ok (.putfield 26, 3) := by decide +kernel
theorem dX8_init_48 : decode cX8_init 48 = .ok (.return_, 1) := by decide +kernel
theorem dX8_copyFrom_0 : decode cX8_copyFrom 0 = .ok (.aload_n 0, 1) := by decide +kernel
theorem dX8_copyFrom_1 : decode cX8_copyFrom 1 = .ok (.getfield 14, 3) := by decide +kernel
theorem dX8_copyFrom_4 : decode cX8_copyFrom 4 = .ok (.aload_n 1, 1) := by decide +kernel
theorem dX8_copyFrom_5 : decode cX8_copyFrom 5 = .ok (.getfield 14, 3) := by decide +kernel
theorem dX8_copyFrom_8 : decode cX8_copyFrom 8 = .ok (.invokevirtual 30, 3) := by decide +kernel
theorem dX8_copyFrom_11 : decode cX8_copyFrom 11 = .ok (.aload_n 0, 1) := by decide +kernel
theorem dX8_copyFrom_12 : decode cX8_copyFrom 12 = .ok (.getfield 20, 3) := by decide +kernel
theorem dX8_copyFrom_15 : decode cX8_copyFrom 15 = .ok (.aload_n 1, 1) := by decide +kernel
theorem dX8_copyFrom_16 : decode cX8_copyFrom 16 = .ok (.getfield 20, 3) := by decide +kernel
theorem dX8_copyFrom_19 : decode cX8_copyFrom 19 = .ok (.invokevirtual 30, 3) := by decide +kernel
theorem dX8_copyFrom_22 : decode cX8_copyFrom 22 = .ok (.aload_n 0, 1) := by decide +kernel
theorem dX8_copyFrom_23 : decode cX8_copyFrom 23 = .ok (.getfield 23, 3) := by decide +kernel
theorem dX8_copyFrom_26 : decode cX8_copyFrom 26 = .ok (.aload_n 1, 1) := by decide +kernel
theorem dX8_copyFrom_27 : decode cX8_copyFrom 27 = .ok (.getfield 23, 3) := by decide +kernel
theorem dX8_copyFrom_30 : decode cX8_copyFrom 30 = .ok (.invokevirtual 30, 3) := by decide +kernel
theorem dX8_copyFrom_33 : decode cX8_copyFrom 33 = .ok (.aload_n 0, 1) := by decide +kernel
theorem dX8_copyFrom_34 : decode cX8_copyFrom 34 = .ok (.aload_n 1, 1) := by decide +kernel
theorem dX8_copyFrom_35 : decode cX8_copyFrom 35 = .ok (.getfield 26, 3) := by decide +kernel
theorem dX8_copyFrom_38 : decode cX8_copyFrom 38 = .ok (.putfield 26, 3) := by decide +kernel
theorem dX8_copyFrom_41 : decode cX8_copyFrom 41 = .ok (.return_, 1) := by decide +kernel
theorem dX8_has_0 : decode cX8_has 0 = .ok (.iload_n 1, 1) := by decide +kernel
theorem dX8_has_1 : decode cX8_has 1 = .ok (.ifCond .lt 15, 3) := by decide +kernel
theorem dX8_has_4 : decode cX8_has 4 = .ok (.iload_n 1, 1) := by decide +kernel
theorem dX8_has_5 : decode cX8_has 5 = .ok (.aload_n 0, 1) := by decide +kernel
theorem dX8_has_6 : decode cX8_has 6 = .ok (.getfield 26, 3) := by decide +kernel
theorem dX8_has_9 : decode cX8_has 9 = .ok (.if_icmp .ge 7, 3) := by decide +kernel
theorem dX8_has_12 : decode cX8_has 12 = .ok (.iconst 1, 1) := by decide +kernel
theorem dX8_has_13 : decode cX8_has 13 = .ok (.goto 4, 3) := by decide +kernel
theorem dX8_has_16 : decode cX8_has 16 = .ok (.iconst 0, 1) := by decide +kernel
theorem dX8_has_17 : decode cX8_has 17 = .ok (.ireturn, 1) := by decide +kernel
theorem dX8_add_0 : decode cX8_add 0 = .ok (.aload_n 0, 1) := by decide +kernel
theorem dX8_add_1 : decode cX8_add 1 = .ok (.getfield 26, 3) := by decide +kernel
theorem dX8_add_4 : decode cX8_add 4 = .ok (.istore_n 3, 1) := by decide +kernel
theorem dX8_add_5 : decode cX8_add 5 = .ok (.aload_n 0, 1) := by decide +kernel
theorem dX8_add_6 : decode cX8_add 6 = .ok (.getfield 14, 3) := by decide +kernel
theorem dX8_add_9 : decode cX8_add 9 = .ok (.iload_n 3, 1) := by decide +kernel
theorem dX8_add_10 : decode cX8_add 10 = .ok (.iload_n 1, 1) := by decide +kernel
theorem dX8_add_11 : decode cX8_add 11 = .ok (.invokevirtual 34, 3) := by decide +kernel
theorem dX8_add_14 : decode cX8_add 14 = .ok (.aload_n 0, 1) := by decide +kernel
theorem dX8_add_15 : decode cX8_add 15 = .ok (.getfield 20, 3) := by decide +kernel
theorem dX8_add_18 : decode cX8_add 18 = .ok (.iload_n 3, 1) := by decide +kernel
theorem dX8_add_19 : decode cX8_add 19 = .ok (.iload_n 2, 1) := by decide +kernel
theorem dX8_add_20 : decode cX8_add 20 = .ok (.invokevirtual 34, 3) := by decide +kernel
theorem dX8_add_23 : decode cX8_add 23 = .ok (.aload_n 0, 1) := by decide +kernel
theorem dX8_add_24 : decode cX8_add 24 = .ok (.getfield 23, 3) := by decide +kernel
theorem dX8_add_27 : decode cX8_add 27 = .ok (.iload_n 3, 1) := by decide +kernel
theorem dX8_add_28 : decode cX8_add 28 = .ok (.iconst (-1), 1) := by decide +kernel
theorem dX8_add_29 : decode cX8_add 29 = .ok (.invokevirtual 34, 3) := by decide +kernel
theorem dX8_add_32 : decode cX8_add 32 = .ok (.aload_n 0, 1) := by decide +kernel
theorem dX8_add_33 : decode cX8_add 33 = .ok (.dup, 1) := by decide +kernel
theorem dX8_add_34 : decode cX8_add 34 = .ok (.getfield 26, 3) := by decide +kernel
theorem dX8_add_37 : decode cX8_add 37 = .ok (.iconst 1, 1) := by decide +kernel
theorem dX8_add_38 : decode cX8_add 38 = .ok (.iadd, 1) := by decide +kernel
theorem dX8_add_39 : decode cX8_add 39 = .ok (.putfield 26, 3) := by decide +kernel
theorem dX8_add_42 : decode cX8_add 42 = .ok (.iload_n 3, 1) := by decide +kernel
theorem dX8_add_43 : decode cX8_add 43 = .ok (.ireturn, 1) := by decide +kernel
theorem dX9_init_0 : decode cX9_init 0 = .ok (.aload_n 0, 1) := by decide +kernel
theorem dX9_init_1 : decode cX9_init 1 = .ok (.invokespecial 3, 3) := by decide +kernel
theorem dX9_init_4 : decode cX9_init 4 = .ok (.aload_n 0, 1) := by decide +kernel
theorem dX9_init_5 : decode cX9_init 5 = .ok (.new 9, 3) := by decide +kernel
theorem dX9_init_8 : decode cX9_init 8 = .ok (.dup, 1) := by decide +kernel
theorem dX9_init_9 : decode cX9_init 9 = .ok (.invokespecial 11, 3) := by decide +kernel
theorem dX9_init_12 : decode cX9_init 12 = .ok (.putfield 12, 3) := by decide +kernel
theorem dX9_init_15 : decode cX9_init 15 = .ok (.aload_n 0, 1) := by decide +kernel
theorem dX9_init_16 : decode cX9_init 16 = .ok (.new 18, 3) := by decide +kernel
theorem dX9_init_19 : decode cX9_init 19 = .ok (.dup, 1) := by decide +kernel
theorem dX9_init_20 : decode cX9_init 20 = .ok (.invokespecial 20, 3) := by decide +kernel
theorem dX9_init_23 : decode cX9_init 23 = .ok (.putfield 21, 3) := by decide +kernel
theorem dX9_init_26 : decode cX9_init 26 = .ok (.aload_n 0, 1) := by decide +kernel
theorem dX9_init_27 : decode cX9_init 27 = .ok (.new 25, 3) := by decide +kernel
theorem dX9_init_30 : decode cX9_init 30 = .ok (.dup, 1) := by decide +kernel
theorem dX9_init_31 : decode cX9_init 31 = .ok (.invokespecial 27, 3) := by decide +kernel
theorem dX9_init_34 : decode cX9_init 34 = .ok (.putfield 28, 3) := by decide +kernel
theorem dX9_init_37 : decode cX9_init 37 = .ok (.aload_n 0, 1) := by decide +kernel
theorem dX9_init_38 : decode cX9_init 38 = .ok (.iconst 0, 1) := by decide +kernel
theorem dX9_init_39 : decode cX9_init 39 = .ok (.putfield 32, 3) := by decide +kernel
theorem dX9_init_42 : decode cX9_init 42 = .ok (.aload_n 0, 1) := by decide +kernel
theorem dX9_init_43 : decode cX9_init 43 = .ok (.iconst 0, 1) := by decide +kernel
theorem dX9_init_44 : decode cX9_init 44 = .ok (.putfield 36, 3) := by decide +kernel
theorem dX9_init_47 : decode cX9_init 47 = .ok (.aload_n 0, 1) := by decide +kernel
theorem dX9_init_48 : decode cX9_init 48 = .ok (.iconst 0, 1) := by decide +kernel
theorem dX9_init_49 : decode cX9_init 49 = .ok (.putfield 39, 3) := by decide +kernel
theorem dX9_init_52 : decode cX9_init 52 = .ok (.aload_n 0, 1) := by decide +kernel
theorem dX9_init_53 : decode cX9_init 53 = .ok (.iconst 0, 1) := by decide +kernel
theorem dX9_init_54 : decode cX9_init 54 = .ok (.putfield 42, 3) := by decide +kernel
theorem dX9_init_57 : decode cX9_init 57 = .ok (.return_, 1) := by decide +kernel
theorem dX9_copyFrom_0 : decode cX9_copyFrom 0 = .ok (.aload_n 0, 1) := by decide +kernel
theorem dX9_copyFrom_1 : decode cX9_copyFrom 1 = .ok (.getfield 12, 3) := by decide +kernel
theorem dX9_copyFrom_4 : decode cX9_copyFrom 4 = .ok (.aload_n 1, 1) := by decide +kernel
theorem dX9_copyFrom_5 : decode cX9_copyFrom 5 = .ok (.getfield 12, 3) := by decide +kernel
theorem dX9_copyFrom_8 : decode cX9_copyFrom 8 = .ok (.invokevirtual 45, 3) := by decide +kernel
theorem dX9_copyFrom_11 : decode cX9_copyFrom 11 = .ok (.aload_n 0, 1) := by decide +kernel
theorem dX9_copyFrom_12 : decode cX9_copyFrom 12 = .ok (.getfield 21, 3) := by decide +kernel
theorem dX9_copyFrom_15 : decode cX9_copyFrom 15 = .ok (.aload_n 1, 1) := by decide +kernel
theorem dX9_copyFrom_16 : decode cX9_copyFrom 16 = .ok (.getfield 21, 3) := by decide +kernel
theorem dX9_copyFrom_19 : decode cX9_copyFrom 19 = .ok (.invokevirtual 49, 3) := by decide +kernel
theorem dX9_copyFrom_22 : decode cX9_copyFrom 22 = .ok (.aload_n 0, 1) := by decide +kernel
theorem dX9_copyFrom_23 : decode cX9_copyFrom 23 = .ok (.getfield 28, 3) := by decide +kernel
theorem dX9_copyFrom_26 : decode cX9_copyFrom 26 = .ok (.aload_n 1, 1) := by decide +kernel
theorem dX9_copyFrom_27 : decode cX9_copyFrom 27 = .ok (.getfield 28, 3) := by decide +kernel
theorem dX9_copyFrom_30 : decode cX9_copyFrom 30 = .ok (.invokevirtual 52, 3) := by decide +kernel
theorem dX9_copyFrom_33 : decode cX9_copyFrom 33 = .ok (.aload_n 0, 1) := by decide +kernel
theorem dX9_copyFrom_34 : decode cX9_copyFrom 34 = .ok (.aload_n 1, 1) := by decide +kernel
theorem dX9_copyFrom_35 : decode cX9_copyFrom 35 = .ok (.getfield 32, 3) := by decide +kernel
theorem dX9_copyFrom_38 : decode cX9_copyFrom 38 = .ok (.putfield 32, 3) := by decide +kernel
theorem dX9_copyFrom_41 : decode cX9_copyFrom 41 = .ok (.aload_n 0, 1) := by decide +kernel
theorem dX9_copyFrom_42 : decode cX9_copyFrom 42 = .ok (.aload_n 1, 1) := by decide +kernel
theorem dX9_copyFrom_43 : decode cX9_copyFrom 43 = .ok (.getfield 36, 3) := by decide +kernel
theorem dX9_copyFrom_46 : decode cX9_copyFrom 46 = .ok (.putfield 36, 3) := by decide +kernel
theorem dX9_copyFrom_49 : decode cX9_copyFrom 49 = .ok (.aload_n 0, 1) := by decide +kernel
theorem dX9_copyFrom_50 : decode cX9_copyFrom 50 = .ok (.aload_n 1, 1) := by decide +kernel
theorem dX9_copyFrom_51 : decode cX9_copyFrom 51 = .ok (.getfield 39, 3) := by decide +kernel
theorem dX9_copyFrom_54 : decode cX9_copyFrom 54 = .ok (.putfield 39, 3) := by decide +kernel
theorem dX9_copyFrom_57 : decode cX9_copyFrom 57 = .ok (.aload_n 0, 1) := by decide +kernel
theorem dX9_copyFrom_58 : decode cX9_copyFrom 58 = .ok (.aload_n 1, 1) := by decide +kernel
theorem dX9_copyFrom_59 : decode cX9_copyFrom 59 = .ok (.getfield 42, 3) := by decide +kernel
theorem dX9_copyFrom_62 : decode cX9_copyFrom 62 = .ok (.putfield 42, 3) := by decide +kernel
theorem dX9_copyFrom_65 : decode cX9_copyFrom 65 = .ok (.return_, 1) := by decide +kernel
theorem dX9_hasExpired_0 : decode cX9_hasExpired 0 = .ok (.aload_n 0, 1) := by decide +kernel
theorem dX9_hasExpired_1 : decode cX9_hasExpired 1 = .ok (.getfield 32, 3) := by decide +kernel
theorem dX9_hasExpired_4 : decode cX9_hasExpired 4 = .ok (.aload_n 0, 1) := by decide +kernel
theorem dX9_hasExpired_5 : decode cX9_hasExpired 5 = .ok (.getfield 21, 3) := by decide +kernel
theorem dX9_hasExpired_8 : decode cX9_hasExpired 8 = .ok (.getfield 55, 3) := by decide +kernel
theorem dX9_hasExpired_11 : decode cX9_hasExpired 11 = .ok (.iload_n 1, 1) := by decide +kernel
theorem dX9_hasExpired_12 : decode cX9_hasExpired 12 = .ok (.invokevirtual 59, 3) := by decide +kernel
theorem dX9_hasExpired_15 : decode cX9_hasExpired 15 = .ok (.if_icmp .le 7, 3) := by decide +kernel
theorem dX9_hasExpired_18 : decode cX9_hasExpired 18 = .ok (.iconst 1, 1) := by decide +kernel
theorem dX9_hasExpired_19 : decode cX9_hasExpired 19 = .ok (.goto 4, 3) := by decide +kernel
theorem dX9_hasExpired_22 : decode cX9_hasExpired 22 = .ok (.iconst 0, 1) := by decide +kernel
theorem dX9_hasExpired_23 : decode cX9_hasExpired 23 = .ok (.ireturn, 1) := by decide +kernel
theorem dX9_expiredCount_0 : decode cX9_expiredCount 0 = .ok (.iconst 0, 1) := by decide +kernel
theorem dX9_expiredCount_1 : decode cX9_expiredCount 1 = .ok (.istore_n 1, 1) := by decide +kernel
theorem dX9_expiredCount_2 : decode cX9_expiredCount 2 = .ok (.iconst 0, 1) := by decide +kernel
theorem dX9_expiredCount_3 : decode cX9_expiredCount 3 = .ok (.istore_n 2, 1) := by decide +kernel
theorem dX9_expiredCount_4 : decode cX9_expiredCount 4 = .ok (.iload_n 2, 1) := by decide +kernel
theorem dX9_expiredCount_5 : decode cX9_expiredCount 5 = .ok (.aload_n 0, 1) := by decide +kernel
theorem dX9_expiredCount_6 : decode cX9_expiredCount 6 = .ok (.getfield 21, 3) := by decide +kernel
theorem dX9_expiredCount_9 : decode cX9_expiredCount 9 = .ok (.getfield 65, 3) := by decide +kernel
theorem dX9_expiredCount_12 : decode cX9_expiredCount 12 = .ok (.if_icmp .ge 31, 3) := by decide +kernel
theorem dX9_expiredCount_15 : decode cX9_expiredCount 15 = .ok (.aload_n 0, 1) := by decide +kernel
theorem dX9_expiredCount_16 : decode cX9_expiredCount 16 = .ok (.getfield 21, 3) := by decide +kernel
theorem dX9_expiredCount_19 : decode cX9_expiredCount 19 = .ok (.iload_n 2, 1) := by decide +kernel
theorem dX9_expiredCount_20 : decode cX9_expiredCount 20 = .ok (.invokevirtual 68, 3) := by decide +kernel
theorem dX9_expiredCount_23 : decode cX9_expiredCount 23 = .ok (.ifCond .eq 14, 3) := by decide +kernel
theorem dX9_expiredCount_26 : decode cX9_expiredCount 26 = .ok (.aload_n 0, 1) := by decide +kernel
theorem dX9_expiredCount_27 : decode cX9_expiredCount 27 = .ok (.iload_n 2, 1) := by decide +kernel
theorem dX9_expiredCount_28 : decode cX9_expiredCount 28 = .ok (.invokevirtual 72, 3) := by decide +kernel
theorem dX9_expiredCount_31 : decode cX9_expiredCount 31 = .ok (.ifCond .eq 6, 3) := by decide +kernel
theorem dX9_expiredCount_34 : decode cX9_expiredCount 34 = .ok (.iinc 1 1, 3) := by decide +kernel
theorem dX9_expiredCount_37 : decode cX9_expiredCount 37 = .ok (.iinc 2 1, 3) := by decide +kernel
theorem dX9_expiredCount_40 : decode cX9_expiredCount 40 = .ok (.goto (-36), 3) := by decide +kernel
theorem dX9_expiredCount_43 : decode cX9_expiredCount 43 = .ok (.iload_n 1, 1) := by decide +kernel
theorem dX9_expiredCount_44 : decode cX9_expiredCount 44 = .ok (.ireturn, 1) := by decide +kernel
theorem dX9_roomWithout_0 : decode cX9_roomWithout 0 = .ok (.aload_n 0, 1) := by decide +kernel
theorem dX9_roomWithout_1 : decode cX9_roomWithout 1 = .ok (.getfield 12, 3) := by decide +kernel
theorem dX9_roomWithout_4 : decode cX9_roomWithout 4 = .ok (.getfield 75, 3) := by decide +kernel
theorem dX9_roomWithout_7 : decode cX9_roomWithout 7 = .ok (.iload_n 1, 1) := by decide +kernel
theorem dX9_roomWithout_8 : decode cX9_roomWithout 8 = .ok (.invokevirtual 59, 3) := by decide +kernel
theorem dX9_roomWithout_11 : decode cX9_roomWithout 11 = .ok (.istore 4, 2) := by decide +kernel
theorem dX9_roomWithout_13 : decode cX9_roomWithout 13 = .ok (.iconst 0, 1) := by decide +kernel
theorem dX9_roomWithout_14 : decode cX9_roomWithout 14 = .ok (.istore 5, 2) := by decide +kernel
theorem dX9_roomWithout_16 : decode cX9_roomWithout 16 = .ok (.iload 5, 2) := by decide +kernel
theorem dX9_roomWithout_18 : decode cX9_roomWithout 18 = .ok (.aload_n 0, 1) := by decide +kernel
theorem dX9_roomWithout_19 : decode cX9_roomWithout 19 = .ok (.getfield 21, 3) := by decide +kernel
theorem dX9_roomWithout_22 : decode cX9_roomWithout 22 = .ok (.getfield 65, 3) := by decide +kernel
theorem dX9_roomWithout_25 : decode cX9_roomWithout 25 = .ok (.if_icmp .ge 54, 3) := by decide +kernel
theorem dX9_roomWithout_28 : decode cX9_roomWithout 28 = .ok (.aload_n 0, 1) := by decide +kernel
theorem dX9_roomWithout_29 : decode cX9_roomWithout 29 = .ok (.getfield 21, 3) := by decide +kernel
theorem dX9_roomWithout_32 : decode cX9_roomWithout 32 = .ok (.getfield 78, 3) := by decide +kernel
theorem dX9_roomWithout_35 : decode cX9_roomWithout 35 = .ok (.iload 5, 2) := by decide +kernel
theorem dX9_roomWithout_37 : decode cX9_roomWithout 37 = .ok (.invokevirtual 59, 3) := by decide +kernel
theorem dX9_roomWithout_40 : decode cX9_roomWithout 40 = .ok (.iload_n 1, 1) := by decide +kernel
theorem dX9_roomWithout_41 : decode cX9_roomWithout 41 = .ok (.if_icmp .ne 32, 3) := by decide +kernel
theorem dX9_roomWithout_44 : decode cX9_roomWithout 44 = .ok (.iload 5, 2) := by decide +kernel
theorem dX9_roomWithout_46 : decode cX9_roomWithout 46 = .ok (.iload_n 2, 1) := by decide +kernel
theorem dX9_roomWithout_47 : decode cX9_roomWithout 47 = .ok (.if_icmp .eq 26, 3) := by decide +kernel
theorem dX9_roomWithout_50 : decode cX9_roomWithout 50 = .ok (.iload 5, 2) := by decide +kernel
theorem dX9_roomWithout_52 : decode cX9_roomWithout 52 = .ok (.iload_n 3, 1) := by decide +kernel
theorem dX9_roomWithout_53 : decode cX9_roomWithout 53 = .ok (.if_icmp .eq 20, 3) := by decide +kernel
theorem dX9_roomWithout_56 : decode cX9_roomWithout 56 = .ok (.iload 4, 2) := by decide +kernel
theorem dX9_roomWithout_58 : decode cX9_roomWithout 58 = .ok (.aload_n 0, 1) := by decide +kernel
theorem dX9_roomWithout_59 : decode cX9_roomWithout 59 = .ok (.getfield 21, 3) := by decide +kernel
theorem dX9_roomWithout_62 : decode cX9_roomWithout 62 = .ok (.getfield 81, 3) := by decide +kernel
theorem dX9_roomWithout_65 : decode cX9_roomWithout 65 = .ok (.iload 5, 2) := by decide +kernel
theorem dX9_roomWithout_67 : decode cX9_roomWithout 67 = .ok (.invokevirtual 59, 3) := by decide +kernel
theorem dX9_roomWithout_70 : decode cX9_roomWithout 70 = .ok (.isub, 1) := by decide +kernel
theorem dX9_roomWithout_71 : decode cX9_roomWithout 71 = .ok (.istore 4, 2) := by decide +kernel
theorem dX9_roomWithout_73 : decode cX9_roomWithout 73 = .ok (.iinc 5 1, 3) := by decide +kernel
theorem dX9_roomWithout_76 : decode cX9_roomWithout 76 = .ok (.goto (-60), 3) := by decide +kernel
theorem dX9_roomWithout_79 : decode cX9_roomWithout 79 = .ok (.iload 4, 2) := by decide +kernel
theorem dX9_roomWithout_81 : decode cX9_roomWithout 81 = .ok (.ireturn, 1) := by decide +kernel
theorem dX9_placeFor_0 : decode cX9_placeFor 0 = .ok (.iconst (-1), 1) := by decide +kernel
theorem dX9_placeFor_1 : decode cX9_placeFor 1 = .ok (.istore 5, 2) := by decide +kernel
theorem dX9_placeFor_3 : decode cX9_placeFor 3 = .ok (.iconst 0, 1) := by decide +kernel
theorem dX9_placeFor_4 : decode cX9_placeFor 4 = .ok (.istore 6, 2) := by decide +kernel
theorem dX9_placeFor_6 : decode cX9_placeFor 6 = .ok (.iconst 0, 1) := by decide +kernel
theorem dX9_placeFor_7 : decode cX9_placeFor 7 = .ok (.istore 7, 2) := by decide +kernel
theorem dX9_placeFor_9 : decode cX9_placeFor 9 = .ok (.iload 7, 2) := by decide +kernel
theorem dX9_placeFor_11 : decode cX9_placeFor 11 = .ok (.aload_n 0, 1) := by decide +kernel
theorem dX9_placeFor_12 : decode cX9_placeFor 12 = .ok (.getfield 12, 3) := by decide +kernel
theorem dX9_placeFor_15 : decode cX9_placeFor 15 = .ok (.getfield 84, 3) := by decide +kernel
theorem dX9_placeFor_18 : decode cX9_placeFor 18 = .ok (.if_icmp .ge 63, 3) := by decide +kernel
theorem dX9_placeFor_21 : decode cX9_placeFor 21 = .ok (.aload_n 0, 1) := by decide +kernel
theorem dX9_placeFor_22 : decode cX9_placeFor 22 = .ok (.getfield 12, 3) := by decide +kernel
theorem dX9_placeFor_25 : decode cX9_placeFor 25 = .ok (.getfield 85, 3) := by decide +kernel
theorem dX9_placeFor_28 : decode cX9_placeFor 28 = .ok (.iload 7, 2) := by decide +kernel
theorem dX9_placeFor_30 : decode cX9_placeFor 30 = .ok (.invokevirtual 59, 3) := by decide +kernel
theorem dX9_placeFor_33 : decode cX9_placeFor 33 = .ok (.iload_n 1, 1) := by decide +kernel
theorem dX9_placeFor_34 : decode cX9_placeFor 34 = .ok (.if_icmp .ne 41, 3) := by decide +kernel
theorem dX9_placeFor_37 : decode cX9_placeFor 37 = .ok (.aload_n 0, 1) := by decide +kernel
theorem dX9_placeFor_38 : decode cX9_placeFor 38 = .ok (.iload 7, 2) := by decide +kernel
theorem dX9_placeFor_40 : decode cX9_placeFor 40 = .ok (.iload_n 3, 1) := by decide +kernel
theorem dX9_placeFor_41 : decode cX9_placeFor 41 = .ok (.iload 4, 2) := by decide +kernel
theorem dX9_placeFor_43 : decode cX9_placeFor 43 = .ok (.invokevirtual 88, 3) := by decide +kernel
theorem dX9_placeFor_46 : decode cX9_placeFor 46 = .ok (.istore 8, 2) := by decide +kernel
theorem dX9_placeFor_48 : decode cX9_placeFor 48 = .ok (.iload 8, 2) := by decide +kernel
theorem dX9_placeFor_50 : decode cX9_placeFor 50 = .ok (.iload_n 2, 1) := by decide +kernel
theorem dX9_placeFor_51 : decode cX9_placeFor 51 = .ok (.if_icmp .lt 24, 3) := by decide +kernel
theorem dX9_placeFor_54 : decode cX9_placeFor 54 = .ok (.iload 5, 2) := by decide +kernel
theorem dX9_placeFor_56 : decode cX9_placeFor 56 = .ok (.iconst (-1), 1) := by decide +kernel
theorem dX9_placeFor_57 : decode cX9_placeFor 57 = .ok (.if_icmp .eq 10, 3) := by decide +kernel
theorem dX9_placeFor_60 : decode cX9_placeFor 60 = .ok (.iload 8, 2) := by decide +kernel
theorem dX9_placeFor_62 : decode cX9_placeFor 62 = .ok (.iload 6, 2) := by decide +kernel
theorem dX9_placeFor_64 : decode cX9_placeFor 64 = .ok (.if_icmp .ge 11, 3) := by decide +kernel
theorem dX9_placeFor_67 : decode cX9_placeFor 67 = .ok (.iload 7, 2) := by decide +kernel
theorem dX9_placeFor_69 : decode cX9_placeFor 69 = .ok (.istore 5, 2) := by decide +kernel
theorem dX9_placeFor_71 : decode cX9_placeFor 71 = .ok (.iload 8, 2) := by decide +kernel
theorem dX9_placeFor_73 : decode cX9_placeFor 73 = .ok (.istore 6, 2) := by decide +kernel
theorem dX9_placeFor_75 : decode cX9_placeFor 75 = .ok (.iinc 7 1, 3) := by decide +kernel
theorem dX9_placeFor_78 : decode cX9_placeFor 78 = .ok (.goto (-69), 3) := by decide +kernel
theorem dX9_placeFor_81 : decode cX9_placeFor 81 = .ok (.iload 5, 2) := by decide +kernel
theorem dX9_placeFor_83 : decode cX9_placeFor 83 = .ok (.ireturn, 1) := by decide +kernel
theorem dX9_isShippable_0 : decode cX9_isShippable 0 = .ok (.aload_n 0, 1) := by decide +kernel
theorem dX9_isShippable_1 : decode cX9_isShippable 1 = .ok (.getfield 21, 3) := by decide +kernel
theorem dX9_isShippable_4 : decode cX9_isShippable 4 = .ok (.iload_n 1, 1) := by decide +kernel
theorem dX9_isShippable_5 : decode cX9_isShippable 5 = .ok (.invokevirtual 68, 3) := by decide +kernel
theorem dX9_isShippable_8 : decode cX9_isShippable 8 = .ok (.ifCond .eq 30, 3) := by decide +kernel
theorem dX9_isShippable_11 : decode cX9_isShippable 11 = .ok (.aload_n 0, 1) := by decide +kernel
theorem dX9_isShippable_12 : decode cX9_isShippable 12 = .ok (.getfield 21, 3) := by decide +kernel
theorem dX9_isShippable_15 : decode cX9_isShippable 15 = .ok (.getfield 92, 3) := by decide +kernel
theorem dX9_isShippable_18 : decode cX9_isShippable 18 = .ok (.iload_n 1, 1) := by decide +kernel
theorem dX9_isShippable_19 : decode cX9_isShippable 19 = .ok (.invokevirtual 59, 3) := by decide +kernel
theorem dX9_isShippable_22 : decode cX9_isShippable 22 = .ok (.iload_n 2, 1) := by decide +kernel
theorem dX9_isShippable_23 : decode cX9_isShippable 23 = .ok (.if_icmp .ne 15, 3) := by decide +kernel
theorem dX9_isShippable_26 : decode cX9_isShippable 26 = .ok (.aload_n 0, 1) := by decide +kernel
theorem dX9_isShippable_27 : decode cX9_isShippable 27 = .ok (.iload_n 1, 1) := by decide +kernel
theorem dX9_isShippable_28 : decode cX9_isShippable 28 = .ok (.invokevirtual 72, 3) := by decide +kernel
theorem dX9_isShippable_31 : decode cX9_isShippable 31 = .ok (.ifCond .ne 7, 3) := by decide +kernel
theorem dX9_isShippable_34 : decode cX9_isShippable 34 = .ok (.iconst 1, 1) := by decide +kernel
theorem dX9_isShippable_35 : decode cX9_isShippable 35 = .ok (.goto 4, 3) := by decide +kernel
theorem dX9_isShippable_38 : decode cX9_isShippable 38 = .ok (.iconst 0, 1) := by decide +kernel
theorem dX9_isShippable_39 : decode cX9_isShippable 39 = .ok (.ireturn, 1) := by decide +kernel
theorem dX9_shippableVolume_0 : decode cX9_shippableVolume 0 = .ok (.iconst 0, 1) := by decide +kernel
theorem dX9_shippableVolume_1 : decode cX9_shippableVolume 1 = .ok (.istore_n 2, 1) := by decide +kernel
theorem dX9_shippableVolume_2 : decode cX9_shippableVolume 2 = .ok (.iconst 0, 1) := by decide +kernel
theorem dX9_shippableVolume_3 : decode cX9_shippableVolume 3 = .ok (.istore_n 3, 1) := by decide +kernel
theorem dX9_shippableVolume_4 : decode cX9_shippableVolume 4 = .ok (.iload_n 3, 1) := by decide +kernel
theorem dX9_shippableVolume_5 : decode cX9_shippableVolume 5 = .ok (.aload_n 0, 1) := by decide +kernel
theorem dX9_shippableVolume_6 : decode cX9_shippableVolume 6 = .ok (.getfield 21, 3) := by decide +kernel
theorem dX9_shippableVolume_9 : decode cX9_shippableVolume 9 = .ok (.getfield 65, 3) := by decide +kernel
theorem dX9_shippableVolume_12 : decode cX9_shippableVolume 12 = .ok (.if_icmp .ge 32, 3) := by decide +kernel
theorem dX9_shippableVolume_15 : decode cX9_shippableVolume 15 = .ok (.aload_n 0, 1) := by decide +kernel
theorem dX9_shippableVolume_16 : decode cX9_shippableVolume 16 = .ok (.iload_n 3, 1) := by decide +kernel
theorem dX9_shippableVolume_17 : decode cX9_shippableVolume 17 = .ok (.iload_n 1, 1) := by decide +kernel
theorem dX9_shippableVolume_18 : decode cX9_shippableVolume 18 = .ok (.invokevirtual 95, 3) := by decide +kernel
theorem dX9_shippableVolume_21 : decode cX9_shippableVolume 21 = .ok (.ifCond .eq 17, 3) := by decide +kernel
theorem dX9_shippableVolume_24 : decode cX9_shippableVolume 24 = .ok (.iload_n 2, 1) := by decide +kernel
theorem dX9_shippableVolume_25 : decode cX9_shippableVolume 25 = .ok (.aload_n 0, 1) := by decide +kernel
theorem dX9_shippableVolume_26 : decode cX9_shippableVolume 26 = .ok (.getfield 21, 3) := by decide +kernel
theorem dX9_shippableVolume_29 : decode cX9_shippableVolume 29 = .ok (.getfield 81, 3) := by decide +kernel
theorem dX9_shippableVolume_32 : decode cX9_shippableVolume 32 = .ok (.iload_n 3, 1) := by decide +kernel
theorem dX9_shippableVolume_33 : decode cX9_shippableVolume 33 = .ok (.invokevirtual 59, 3) := by decide +kernel
theorem dX9_shippableVolume_36 : decode cX9_shippableVolume 36 = .ok (.iadd, 1) := by decide +kernel
theorem dX9_shippableVolume_37 : decode cX9_shippableVolume 37 = .ok (.istore_n 2, 1) := by decide +kernel
theorem dX9_shippableVolume_38 : decode cX9_shippableVolume 38 = .ok (.iinc 3 1, 3) := by decide +kernel
theorem dX9_shippableVolume_41 : decode cX9_shippableVolume 41 = .ok (.goto (-37), 3) := by decide +kernel
theorem dX9_shippableVolume_44 : decode cX9_shippableVolume 44 = .ok (.iload_n 2, 1) := by decide +kernel
theorem dX9_shippableVolume_45 : decode cX9_shippableVolume 45 = .ok (.ireturn, 1) := by decide +kernel
theorem dX9_earliestShippable_0 : decode cX9_earliestShippable 0 = .ok (.iconst (-1), 1) := by decide +kernel
theorem dX9_earliestShippable_1 : decode cX9_earliestShippable 1 = .ok (.istore_n 2, 1) := by decide +kernel
theorem dX9_earliestShippable_2 : decode cX9_earliestShippable 2 = .ok (.iconst 0, 1) := by decide +kernel
theorem dX9_earliestShippable_3 : decode cX9_earliestShippable 3 = .ok (.istore_n 3, 1) := by decide +kernel
theorem dX9_earliestShippable_4 : decode cX9_earliestShippable 4 = .ok (.iload_n 3, 1) := by decide +kernel
theorem dX9_earliestShippable_5 : decode cX9_earliestShippable 5 = .ok (.aload_n 0, 1) := by decide +kernel
theorem dX9_earliestShippable_6 : decode cX9_earliestShippable 6 = .ok (.getfield 21, 3) := by decide +kernel
theorem dX9_earliestShippable_9 : decode cX9_earliestShippable 9 = .ok (.getfield 65, 3) := by decide +kernel
theorem dX9_earliestShippable_12 : decode cX9_earliestShippable 12 = .ok (.if_icmp .ge 37, 3) := by decide +kernel
theorem dX9_earliestShippable_15 : decode cX9_earliestShippable 15 = .ok (.aload_n 0, 1) := by decide +kernel
theorem dX9_earliestShippable_16 : decode cX9_earliestShippable 16 = .ok (.iload_n 3, 1) := by decide +kernel
theorem dX9_earliestShippable_17 : decode cX9_earliestShippable 17 = .ok (.iload_n 1, 1) := by decide +kernel
theorem dX9_earliestShippable_18 : decode cX9_earliestShippable 18 = .ok (.invokevirtual 95, 3) := by decide +kernel
theorem dX9_earliestShippable_21 : decode cX9_earliestShippable 21 = .ok (.ifCond .eq 22, 3) := by decide +kernel
theorem dX9_earliestShippable_24 : decode cX9_earliestShippable 24 = .ok (.iload_n 2, 1) := by decide +kernel
theorem dX9_earliestShippable_25 : decode cX9_earliestShippable 25 = .ok (.iconst (-1), 1) := by decide +kernel
theorem dX9_earliestShippable_26 : decode cX9_earliestShippable 26 = .ok (.if_icmp .eq 15, 3) := by decide +kernel
theorem dX9_earliestShippable_29 : decode cX9_earliestShippable 29 = .ok (.aload_n 0, 1) := by decide +kernel
theorem dX9_earliestShippable_30 : decode cX9_earliestShippable 30 = .ok (.getfield 21, 3) := by decide +kernel
theorem dX9_earliestShippable_33 : decode cX9_earliestShippable 33 = .ok (.iload_n 3, 1) := by decide +kernel
theorem dX9_earliestShippable_34 : decode cX9_earliestShippable 34 = .ok (.iload_n 2, 1) := by decide +kernel
theorem dX9_earliestShippable_35 : decode cX9_earliestShippable 35 = .ok (.invokevirtual 99, 3) := by decide +kernel
theorem dX9_earliestShippable_38 : decode cX9_earliestShippable 38 = .ok (.ifCond .eq 5, 3) := by decide +kernel
theorem dX9_earliestShippable_41 : decode cX9_earliestShippable 41 = .ok (.iload_n 3, 1) := by decide +kernel
theorem dX9_earliestShippable_42 : decode cX9_earliestShippable 42 = .ok (.istore_n 2, 1) := by decide +kernel
theorem dX9_earliestShippable_43 : decode cX9_earliestShippable 43 = .ok (.iinc 3 1, 3) := by decide +kernel
theorem dX9_earliestShippable_46 : decode cX9_earliestShippable 46 = .ok (.goto (-42), 3) := by decide +kernel
theorem dX9_earliestShippable_49 : decode cX9_earliestShippable 49 = .ok (.iload_n 2, 1) := by decide +kernel
theorem dX9_earliestShippable_50 : decode cX9_earliestShippable 50 = .ok (.ireturn, 1) := by decide +kernel
theorem dX9_shelvedAtRank_0 : decode cX9_shelvedAtRank 0 = .ok (.iconst 0, 1) := by decide +kernel
theorem dX9_shelvedAtRank_1 : decode cX9_shelvedAtRank 1 = .ok (.istore_n 2, 1) := by decide +kernel
theorem dX9_shelvedAtRank_2 : decode cX9_shelvedAtRank 2 = .ok (.iload_n 2, 1) := by decide +kernel
theorem dX9_shelvedAtRank_3 : decode cX9_shelvedAtRank 3 = .ok (.aload_n 0, 1) := by decide +kernel
theorem dX9_shelvedAtRank_4 : decode cX9_shelvedAtRank 4 = .ok (.getfield 21, 3) := by decide +kernel
theorem dX9_shelvedAtRank_7 : decode cX9_shelvedAtRank 7 = .ok (.getfield 65, 3) := by decide +kernel
theorem dX9_shelvedAtRank_10 : decode cX9_shelvedAtRank 10 = .ok (.if_icmp .ge 31, 3) := by decide +kernel
theorem dX9_shelvedAtRank_13 : decode cX9_shelvedAtRank 13 = .ok (.aload_n 0, 1) := by decide +kernel
theorem dX9_shelvedAtRank_14 : decode cX9_shelvedAtRank 14 = .ok (.getfield 21, 3) := by decide +kernel
theorem dX9_shelvedAtRank_17 : decode cX9_shelvedAtRank 17 = .ok (.iload_n 2, 1) := by decide +kernel
theorem dX9_shelvedAtRank_18 : decode cX9_shelvedAtRank 18 = .ok (.invokevirtual 68, 3) := by decide +kernel
theorem dX9_shelvedAtRank_21 : decode cX9_shelvedAtRank 21 = .ok (.ifCond .eq 14, 3) := by decide +kernel
theorem dX9_shelvedAtRank_24 : decode cX9_shelvedAtRank 24 = .ok (.aload_n 0, 1) := by decide +kernel
theorem dX9_shelvedAtRank_25 : decode cX9_shelvedAtRank 25 = .ok (.iload_n 2, 1) := by decide +kernel
theorem dX9_shelvedAtRank_26 : decode cX9_shelvedAtRank 26 = .ok (.invokevirtual 102, 3) := by decide +kernel
theorem dX9_shelvedAtRank_29 : decode cX9_shelvedAtRank 29 = .ok (.iload_n 1, 1) := by decide +kernel
theorem dX9_shelvedAtRank_30 : decode cX9_shelvedAtRank 30 = .ok (.if_icmp .ne 5, 3) := by decide +kernel
theorem dX9_shelvedAtRank_33 : decode cX9_shelvedAtRank 33 = .ok (.iload_n 2, 1) := by decide +kernel
theorem dX9_shelvedAtRank_34 : decode cX9_shelvedAtRank 34 = .ok (.ireturn, 1) := by decide +kernel
theorem dX9_shelvedAtRank_35 : decode cX9_shelvedAtRank 35 = .ok (.iinc 2 1, 3) := by decide +kernel
theorem dX9_shelvedAtRank_38 : decode cX9_shelvedAtRank 38 = .ok (.goto (-36), 3) := by decide +kernel
theorem dX9_shelvedAtRank_41 : decode cX9_shelvedAtRank 41 = .ok (.iconst (-1), 1) := by decide +kernel
theorem dX9_shelvedAtRank_42 : decode cX9_shelvedAtRank 42 = .ok (.ireturn, 1) := by decide +kernel
theorem dX9_rankOfShelved_0 : decode cX9_rankOfShelved 0 = .ok (.iconst 0, 1) := by decide +kernel
theorem dX9_rankOfShelved_1 : decode cX9_rankOfShelved 1 = .ok (.istore_n 2, 1) := by decide +kernel
theorem dX9_rankOfShelved_2 : decode cX9_rankOfShelved 2 = .ok (.iconst 0, 1) := by decide +kernel
theorem dX9_rankOfShelved_3 : decode cX9_rankOfShelved 3 = .ok (.istore_n 3, 1) := by decide +kernel
theorem dX9_rankOfShelved_4 : decode cX9_rankOfShelved 4 = .ok (.iload_n 3, 1) := by decide +kernel
theorem dX9_rankOfShelved_5 : decode cX9_rankOfShelved 5 = .ok (.aload_n 0, 1) := by decide +kernel
theorem dX9_rankOfShelved_6 : decode cX9_rankOfShelved 6 = .ok (.getfield 21, 3) := by decide +kernel
theorem dX9_rankOfShelved_9 : decode cX9_rankOfShelved 9 = .ok (.getfield 65, 3) := by decide +kernel
theorem dX9_rankOfShelved_12 : decode cX9_rankOfShelved 12 = .ok (.if_icmp .ge 35, 3) := by decide +kernel
theorem dX9_rankOfShelved_15 : decode cX9_rankOfShelved 15 = .ok (.aload_n 0, 1) := by decide +kernel
theorem dX9_rankOfShelved_16 : decode cX9_rankOfShelved 16 = .ok (.getfield 21, 3) := by decide +kernel
theorem dX9_rankOfShelved_19 : decode cX9_rankOfShelved 19 = .ok (.iload_n 3, 1) := by decide +kernel
theorem dX9_rankOfShelved_20 : decode cX9_rankOfShelved 20 = .ok (.invokevirtual 68, 3) := by decide +kernel
theorem dX9_rankOfShelved_23 : decode cX9_rankOfShelved 23 = .ok (.ifCond .eq 18, 3) := by decide +kernel
theorem dX9_rankOfShelved_26 : decode cX9_rankOfShelved 26 = .ok (.aload_n 0, 1) := by decide +kernel
theorem dX9_rankOfShelved_27 : decode cX9_rankOfShelved 27 = .ok (.getfield 21, 3) := by decide +kernel
theorem dX9_rankOfShelved_30 : decode cX9_rankOfShelved 30 = .ok (.iload_n 3, 1) := by decide +kernel
theorem dX9_rankOfShelved_31 : decode cX9_rankOfShelved 31 = .ok (.iload_n 1, 1) := by decide +kernel
theorem dX9_rankOfShelved_32 : decode cX9_rankOfShelved 32 = .ok (.invokevirtual 99, 3) := by decide +kernel
theorem dX9_rankOfShelved_35 : decode cX9_rankOfShelved 35 = .ok (.ifCond .eq 6, 3) := by decide +kernel
theorem dX9_rankOfShelved_38 : decode cX9_rankOfShelved 38 = .ok (.iinc 2 1, 3) := by decide +kernel
theorem dX9_rankOfShelved_41 : decode cX9_rankOfShelved 41 = .ok (.iinc 3 1, 3) := by decide +kernel
theorem dX9_rankOfShelved_44 : decode cX9_rankOfShelved 44 = .ok (.goto (-40), 3) := by decide +kernel
theorem dX9_rankOfShelved_47 : decode cX9_rankOfShelved 47 = .ok (.iload_n 2, 1) := by decide +kernel
theorem dX9_rankOfShelved_48 : decode cX9_rankOfShelved 48 = .ok (.ireturn, 1) := by decide +kernel
theorem dX9_shelfAtRank_0 : decode cX9_shelfAtRank 0 = .ok (.iconst 0, 1) := by decide +kernel
theorem dX9_shelfAtRank_1 : decode cX9_shelfAtRank 1 = .ok (.istore_n 2, 1) := by decide +kernel
theorem dX9_shelfAtRank_2 : decode cX9_shelfAtRank 2 = .ok (.iload_n 2, 1) := by decide +kernel
theorem dX9_shelfAtRank_3 : decode cX9_shelfAtRank 3 = .ok (.aload_n 0, 1) := by decide +kernel
theorem dX9_shelfAtRank_4 : decode cX9_shelfAtRank 4 = .ok (.getfield 12, 3) := by decide +kernel
theorem dX9_shelfAtRank_7 : decode cX9_shelfAtRank 7 = .ok (.getfield 84, 3) := by decide +kernel
theorem dX9_shelfAtRank_10 : decode cX9_shelfAtRank 10 = .ok (.if_icmp .ge 20, 3) := by decide +kernel
theorem dX9_shelfAtRank_13 : decode cX9_shelfAtRank 13 = .ok (.aload_n 0, 1) := by decide +kernel
theorem dX9_shelfAtRank_14 : decode cX9_shelfAtRank 14 = .ok (.iload_n 2, 1) := by decide +kernel
theorem dX9_shelfAtRank_15 : decode cX9_shelfAtRank 15 = .ok (.invokevirtual 105, 3) := by decide +kernel
theorem dX9_shelfAtRank_18 : decode cX9_shelfAtRank 18 = .ok (.iload_n 1, 1) := by decide +kernel
theorem dX9_shelfAtRank_19 : decode cX9_shelfAtRank 19 = .ok (.if_icmp .ne 5, 3) := by decide +kernel
theorem dX9_shelfAtRank_22 : decode cX9_shelfAtRank 22 = .ok (.iload_n 2, 1) := by decide +kernel
theorem dX9_shelfAtRank_23 : decode cX9_shelfAtRank 23 = .ok (.ireturn, 1) := by decide +kernel
theorem dX9_shelfAtRank_24 : decode cX9_shelfAtRank 24 = .ok (.iinc 2 1, 3) := by decide +kernel
theorem dX9_shelfAtRank_27 : decode cX9_shelfAtRank 27 = .ok (.goto (-25), 3) := by decide +kernel
theorem dX9_shelfAtRank_30 : decode cX9_shelfAtRank 30 = .ok (.iconst (-1), 1) := by decide +kernel
theorem dX9_shelfAtRank_31 : decode cX9_shelfAtRank 31 = .ok (.ireturn, 1) := by decide +kernel
theorem dX9_rankOfShelf_0 : decode cX9_rankOfShelf 0 = .ok (.iconst 0, 1) := by decide +kernel
theorem dX9_rankOfShelf_1 : decode cX9_rankOfShelf 1 = .ok (.istore_n 2, 1) := by decide +kernel
theorem dX9_rankOfShelf_2 : decode cX9_rankOfShelf 2 = .ok (.iconst 0, 1) := by decide +kernel
theorem dX9_rankOfShelf_3 : decode cX9_rankOfShelf 3 = .ok (.istore_n 3, 1) := by decide +kernel
theorem dX9_rankOfShelf_4 : decode cX9_rankOfShelf 4 = .ok (.iload_n 3, 1) := by decide +kernel
theorem dX9_rankOfShelf_5 : decode cX9_rankOfShelf 5 = .ok (.aload_n 0, 1) := by decide +kernel
theorem dX9_rankOfShelf_6 : decode cX9_rankOfShelf 6 = .ok (.getfield 12, 3) := by decide +kernel
theorem dX9_rankOfShelf_9 : decode cX9_rankOfShelf 9 = .ok (.getfield 84, 3) := by decide +kernel
theorem dX9_rankOfShelf_12 : decode cX9_rankOfShelf 12 = .ok (.if_icmp .ge 21, 3) := by decide +kernel
theorem dX9_rankOfShelf_15 : decode cX9_rankOfShelf 15 = .ok (.aload_n 0, 1) := by decide +kernel
theorem dX9_rankOfShelf_16 : decode cX9_rankOfShelf 16 = .ok (.iload_n 3, 1) := by decide +kernel
theorem dX9_rankOfShelf_17 : decode cX9_rankOfShelf 17 = .ok (.iload_n 1, 1) := by decide +kernel
theorem dX9_rankOfShelf_18 : decode cX9_rankOfShelf 18 = .ok (.invokevirtual 108, 3) := by decide +kernel
theorem dX9_rankOfShelf_21 : decode cX9_rankOfShelf 21 = .ok (.ifCond .eq 6, 3) := by decide +kernel
theorem dX9_rankOfShelf_24 : decode cX9_rankOfShelf 24 = .ok (.iinc 2 1, 3) := by decide +kernel
theorem dX9_rankOfShelf_27 : decode cX9_rankOfShelf 27 = .ok (.iinc 3 1, 3) := by decide +kernel
theorem dX9_rankOfShelf_30 : decode cX9_rankOfShelf 30 = .ok (.goto (-26), 3) := by decide +kernel
theorem dX9_rankOfShelf_33 : decode cX9_rankOfShelf 33 = .ok (.iload_n 2, 1) := by decide +kernel
theorem dX9_rankOfShelf_34 : decode cX9_rankOfShelf 34 = .ok (.ireturn, 1) := by decide +kernel
theorem dX9_isDueBefore_0 : decode cX9_isDueBefore 0 = .ok (.aload_n 0, 1) := by decide +kernel
theorem dX9_isDueBefore_1 : decode cX9_isDueBefore 1 = .ok (.getfield 12, 3) := by decide +kernel
theorem dX9_isDueBefore_4 : decode cX9_isDueBefore 4 = .ok (.getfield 111, 3) := by decide +kernel
theorem dX9_isDueBefore_7 : decode cX9_isDueBefore 7 = .ok (.iload_n 1, 1) := by decide +kernel
theorem dX9_isDueBefore_8 : decode cX9_isDueBefore 8 = .ok (.invokevirtual 59, 3) := by decide +kernel
theorem dX9_isDueBefore_11 : decode cX9_isDueBefore 11 = .ok (.istore_n 3, 1) := by decide +kernel
theorem dX9_isDueBefore_12 : decode cX9_isDueBefore 12 = .ok (.aload_n 0, 1) := by decide +kernel
theorem dX9_isDueBefore_13 : decode cX9_isDueBefore 13 = .ok (.getfield 12, 3) := by decide +kernel
theorem dX9_isDueBefore_16 : decode cX9_isDueBefore 16 = .ok (.getfield 111, 3) := by decide +kernel
theorem dX9_isDueBefore_19 : decode cX9_isDueBefore 19 = .ok (.iload_n 2, 1) := by decide +kernel
theorem dX9_isDueBefore_20 : decode cX9_isDueBefore 20 = .ok (.invokevirtual 59, 3) := by decide +kernel
theorem dX9_isDueBefore_23 : decode cX9_isDueBefore 23 = .ok (.istore 4, 2) := by decide +kernel
theorem dX9_isDueBefore_25 : decode cX9_isDueBefore 25 = .ok (.iload_n 3, 1) := by decide +kernel
theorem dX9_isDueBefore_26 : decode cX9_isDueBefore 26 = .ok (.iload 4, 2) := by decide +kernel
theorem dX9_isDueBefore_28 : decode cX9_isDueBefore 28 = .ok (.if_icmp .eq 15, 3) := by decide +kernel
theorem dX9_isDueBefore_31 : decode cX9_isDueBefore 31 = .ok (.iload_n 3, 1) := by decide +kernel
theorem dX9_isDueBefore_32 : decode cX9_isDueBefore 32 = .ok (.iload 4, 2) := by decide +kernel
theorem dX9_isDueBefore_34 : decode cX9_isDueBefore 34 = .ok (.if_icmp .ge 7, 3) := by decide +kernel
theorem dX9_isDueBefore_37 : decode cX9_isDueBefore 37 = .ok (.iconst 1, 1) := by decide +kernel
theorem dX9_isDueBefore_38 : decode cX9_isDueBefore 38 = .ok (.goto 4, 3) := by decide +kernel
theorem dX9_isDueBefore_41 : decode cX9_isDueBefore 41 = .ok (.iconst 0, 1) := by decide +kernel
theorem dX9_isDueBefore_42 : decode cX9_isDueBefore 42 = .ok (.ireturn, 1) := by decide +kernel
theorem dX9_isDueBefore_43 : decode cX9_isDueBefore 43 = .ok (.aload_n 0, 1) := by decide +kernel
theorem dX9_isDueBefore_44 : decode cX9_isDueBefore 44 = .ok (.getfield 21, 3) := by decide +kernel
theorem dX9_isDueBefore_47 : decode cX9_isDueBefore 47 = .ok (.iload_n 1, 1) := by decide +kernel
theorem dX9_isDueBefore_48 : decode cX9_isDueBefore 48 = .ok (.invokevirtual 114, 3) := by decide +kernel
theorem dX9_isDueBefore_51 : decode cX9_isDueBefore 51 = .ok (.istore 5, 2) := by decide +kernel
theorem dX9_isDueBefore_53 : decode cX9_isDueBefore 53 = .ok (.aload_n 0, 1) := by decide +kernel
theorem dX9_isDueBefore_54 : decode cX9_isDueBefore 54 = .ok (.getfield 21, 3) := by decide +kernel
theorem dX9_isDueBefore_57 : decode cX9_isDueBefore 57 = .ok (.iload_n 2, 1) := by decide +kernel
theorem dX9_isDueBefore_58 : decode cX9_isDueBefore 58 = .ok (.invokevirtual 114, 3) := by decide +kernel
theorem dX9_isDueBefore_61 : decode cX9_isDueBefore 61 = .ok (.istore 6, 2) := by decide +kernel
theorem dX9_isDueBefore_63 : decode cX9_isDueBefore 63 = .ok (.iload 5, 2) := by decide +kernel
theorem dX9_isDueBefore_65 : decode cX9_isDueBefore 65 = .ok (.iload 6, 2) := by decide +kernel
theorem dX9_isDueBefore_67 : decode cX9_isDueBefore 67 = .ok (.if_icmp .gt 15, 3) := by decide +kernel
theorem dX9_isDueBefore_70 : decode cX9_isDueBefore 70 = .ok (.iload 5, 2) := by decide +kernel
theorem dX9_isDueBefore_72 : decode cX9_isDueBefore 72 = .ok (.iload 6, 2) := by decide +kernel
theorem dX9_isDueBefore_74 : decode cX9_isDueBefore 74 = .ok (.if_icmp .ne 12, 3) := by decide +kernel
theorem dX9_isDueBefore_77 : decode cX9_isDueBefore 77 = .ok (.iload_n 1, 1) := by decide +kernel
theorem dX9_isDueBefore_78 : decode cX9_isDueBefore 78 = .ok (.iload_n 2, 1) := by decide +kernel
theorem dX9_isDueBefore_79 : decode cX9_isDueBefore 79 = .ok (.if_icmp .ge 7, 3) := by decide +kernel
theorem dX9_isDueBefore_82 : decode cX9_isDueBefore 82 = .ok (.iconst 1, 1) := by decide +kernel
theorem dX9_isDueBefore_83 : decode cX9_isDueBefore 83 = .ok (.goto 4, 3) := by decide +kernel
theorem dX9_isDueBefore_86 : decode cX9_isDueBefore 86 = .ok (.iconst 0, 1) := by decide +kernel
theorem dX9_isDueBefore_87 : decode cX9_isDueBefore 87 = .ok (.ireturn, 1) := by decide +kernel
theorem dX10_init_0 : decode cX10_init 0 = .ok (.aload_n 0, 1) := by decide +kernel
theorem dX10_init_1 : decode cX10_init 1 = .ok (.invokespecial 3, 3) := by decide +kernel
theorem dX10_init_4 : decode cX10_init 4 = .ok (.aload_n 0, 1) := by decide +kernel
theorem dX10_init_5 : decode cX10_init 5 = .ok (.new 9, 3) := by decide +kernel
theorem dX10_init_8 : decode cX10_init 8 = .ok (.dup, 1) := by decide +kernel
theorem dX10_init_9 : decode cX10_init 9 = .ok (.bipush 60, 2) := by decide +kernel
theorem dX10_init_11 : decode cX10_init 11 = .ok (.invokespecial 11, 3) := by decide +kernel
theorem dX10_init_14 : decode cX10_init 14 = .ok (.putfield 14, 3) := by decide +kernel
theorem dX10_init_17 : decode cX10_init 17 = .ok (.aload_n 0, 1) := by decide +kernel
theorem dX10_init_18 : decode cX10_init 18 = .ok (.new 9, 3) := by decide +kernel
theorem dX10_init_21 : decode cX10_init 21 = .ok (.dup, 1) := by decide +kernel
theorem dX10_init_22 : decode cX10_init 22 = .ok (.iconst 4, 1) := by decide +kernel
theorem dX10_init_23 : decode cX10_init 23 = .ok (.invokespecial 11, 3) := by decide +kernel
theorem dX10_init_26 : decode cX10_init 26 = .ok (.putfield 20, 3) := by decide +kernel
theorem dX10_init_29 : decode cX10_init 29 = .ok (.aload_n 0, 1) := by decide +kernel
theorem dX10_init_30 : decode cX10_init 30 = .ok (.iconst 0, 1) := by decide +kernel
theorem dX10_init_31 : decode cX10_init 31 = .ok (.putfield 23, 3) := by decide +kernel
theorem dX10_init_34 : decode cX10_init 34 = .ok (.aload_n 0, 1) := by decide +kernel
theorem dX10_init_35 : decode cX10_init 35 = .ok (.iconst (-1), 1) := by decide +kernel
theorem dX10_init_36 : decode cX10_init 36 = .ok (.putfield 27, 3) := by decide +kernel
theorem dX10_init_39 : decode cX10_init 39 = .ok (.aload_n 0, 1) := by decide +kernel
theorem dX10_init_40 : decode cX10_init 40 = .ok (.iconst (-1), 1) := by decide +kernel
theorem dX10_init_41 : decode cX10_init 41 = .ok (.putfield 30, 3) := by decide +kernel
theorem dX10_init_44 : decode cX10_init 44 = .ok (.aload_n 0, 1) := by decide +kernel
theorem dX10_init_45 : decode cX10_init 45 = .ok (.iconst 0, 1) := by decide +kernel
theorem dX10_init_46 : decode cX10_init 46 = .ok (.putfield 33, 3) := by decide +kernel
theorem dX10_init_49 : decode cX10_init 49 = .ok (.return_, 1) := by decide +kernel
theorem dX10_append_0 : decode cX10_append 0 = .ok (.aload_n 0, 1) := by decide +kernel
theorem dX10_append_1 : decode cX10_append 1 = .ok (.getfield 14, 3) := by decide +kernel
theorem dX10_append_4 : decode cX10_append 4 = .ok (.aload_n 0, 1) := by decide +kernel
theorem dX10_append_5 : decode cX10_append 5 = .ok (.getfield 23, 3) := by decide +kernel
theorem dX10_append_8 : decode cX10_append 8 = .ok (.iload_n 1, 1) := by decide +kernel
theorem dX10_append_9 : decode cX10_append 9 = .ok (.invokevirtual 36, 3) := by decide +kernel
theorem dX10_append_12 : decode cX10_append 12 = .ok (.aload_n 0, 1) := by decide +kernel
theorem dX10_append_13 : decode cX10_append 13 = .ok (.dup, 1) := by decide +kernel
theorem dX10_append_14 : decode cX10_append 14 = .ok (.getfield 23, 3) := by decide +kernel
theorem dX10_append_17 : decode cX10_append 17 = .ok (.iconst 1, 1) := by decide +kernel
theorem dX10_append_18 : decode cX10_append 18 = .ok (.iadd, 1) := by decide +kernel
theorem dX10_append_19 : decode cX10_append 19 = .ok (.putfield 23, 3) := by decide +kernel
theorem dX10_append_22 : decode cX10_append 22 = .ok (.return_, 1) := by decide +kernel
theorem dX10_clear_0 : decode cX10_clear 0 = .ok (.aload_n 0, 1) := by decide +kernel
theorem dX10_clear_1 : decode cX10_clear 1 = .ok (.iconst 0, 1) := by decide +kernel
theorem dX10_clear_2 : decode cX10_clear 2 = .ok (.putfield 23, 3) := by decide +kernel
theorem dX10_clear_5 : decode cX10_clear 5 = .ok (.return_, 1) := by decide +kernel
theorem dX10_commandsOrFault_0 : decode cX10_commandsOrFault 0 = .ok (.iconst 0, 1) := by decide +kernel
theorem dX10_commandsOrFault_1 : decode cX10_commandsOrFault 1 = .ok (.istore_n 1, 1) := by decide +kernel
theorem dX10_commandsOrFault_2 : decode cX10_commandsOrFault 2 = .ok (.iconst 1, 1) := by decide +kernel
theorem dX10_commandsOrFault_3 : decode cX10_commandsOrFault 3 = .ok (.istore_n 2, 1) := by decide +kernel
theorem dX10_commandsOrFault_4 : decode cX10_commandsOrFault 4 = .ok (.iload_n 2, 1) := by decide +kernel
theorem dX10_commandsOrFault_5 : decode cX10_commandsOrFault 5 = .ok (.bipush 60, 2) := by decide +kernel
theorem dX10_commandsOrFault_7 : decode cX10_commandsOrFault 7 = .ok (.if_icmp .gt 56, 3) := by decide +kernel
theorem dX10_commandsOrFault_10 : decode cX10_commandsOrFault 10 = .ok (.aload_n 0, 1) := by decide +kernel
theorem dX10_commandsOrFault_11 : decode cX10_commandsOrFault 11 = .ok (.iload_n 1, 1) := by decide +kernel
theorem dX10_commandsOrFault_12 : decode cX10_commandsOrFault 12 = .ok (.invokevirtual 40, 3) := by decide +kernel
theorem dX10_commandsOrFault_15 : decode cX10_commandsOrFault 15 = .ok (.ifCond .ne 6, 3) := by decide +kernel
theorem dX10_commandsOrFault_18 : decode cX10_commandsOrFault 18 = .ok (.goto 45, 3) := by decide +kernel
theorem dX10_commandsOrFault_21 : decode cX10_commandsOrFault 21 = .ok (.aload_n 0, 1) := by decide +kernel
theorem dX10_commandsOrFault_22 : decode cX10_commandsOrFault 22 = .ok (.getfield 33, 3) := by decide +kernel
theorem dX10_commandsOrFault_25 : decode cX10_commandsOrFault 25 = .ok (.aload_n 0, 1) := by decide +kernel
theorem dX10_commandsOrFault_26 : decode cX10_commandsOrFault 26 = .ok (.getfield 23, 3) := by decide +kernel
theorem dX10_commandsOrFault_29 : decode cX10_commandsOrFault 29 = .ok (.if_icmp .ne 5, 3) := by decide +kernel
theorem dX10_commandsOrFault_32 : decode cX10_commandsOrFault 32 = .ok (.iload_n 2, 1) := by decide +kernel
theorem dX10_commandsOrFault_33 : decode cX10_commandsOrFault 33 = .ok (.ireturn, 1) := by decide +kernel
theorem dX10_commandsOrFault_34 : decode cX10_commandsOrFault 34 = .ok (.aload_n 0, 1) := by decide +kernel
theorem dX10_commandsOrFault_35 : decode cX10_commandsOrFault 35 = .ok (.aload_n 0, 1) := by decide +kernel
theorem dX10_commandsOrFault_36 : decode cX10_commandsOrFault 36 = .ok (.getfield 33, 3) := by decide +kernel
theorem dX10_commandsOrFault_39 : decode cX10_commandsOrFault 39 = .ok (.invokevirtual 44, 3) := by decide +kernel
theorem dX10_commandsOrFault_42 : decode cX10_commandsOrFault 42 = .ok (.bipush 59, 2) := by decide +kernel
theorem dX10_commandsOrFault_44 : decode cX10_commandsOrFault 44 = .ok (.if_icmp .eq 6, 3) := by decide +kernel
theorem dX10_commandsOrFault_47 : decode cX10_commandsOrFault 47 = .ok (.goto 16, 3) := by decide +kernel
theorem dX10_commandsOrFault_50 : decode cX10_commandsOrFault 50 = .ok (.aload_n 0, 1) := by decide +kernel
theorem dX10_commandsOrFault_51 : decode cX10_commandsOrFault 51 = .ok (.getfield 33, 3) := by decide +kernel
theorem dX10_commandsOrFault_54 : decode cX10_commandsOrFault 54 = .ok (.iconst 1, 1) := by decide +kernel
theorem dX10_commandsOrFault_55 : decode cX10_commandsOrFault 55 = .ok (.iadd, 1) := by decide +kernel
theorem dX10_commandsOrFault_56 : decode cX10_commandsOrFault 56 = .ok (.istore_n 1, 1) := by decide +kernel
theorem dX10_commandsOrFault_57 : decode cX10_commandsOrFault 57 = .ok (.iinc 2 1, 3) := by decide +kernel
theorem dX10_commandsOrFault_60 : decode cX10_commandsOrFault 60 = .ok (.goto (-56), 3) := by decide +kernel
theorem dX10_commandsOrFault_63 : decode cX10_commandsOrFault 63 = .ok (.aload_n 0, 1) := by decide +kernel
theorem dX10_commandsOrFault_64 : decode cX10_commandsOrFault 64 = .ok (.aload_n 0, 1) := by decide +kernel
theorem dX10_commandsOrFault_65 : decode cX10_commandsOrFault 65 = .ok (.getfield 33, 3) := by decide +kernel
theorem dX10_commandsOrFault_68 : decode cX10_commandsOrFault 68 = .ok (.putfield 27, 3) := by decide +kernel
theorem dX10_commandsOrFault_71 : decode cX10_commandsOrFault 71 = .ok (.iconst (-1), 1) := by decide +kernel
theorem dX10_commandsOrFault_72 : decode cX10_commandsOrFault 72 = .ok (.ireturn, 1) := by decide +kernel
theorem dX10_read_0 : decode cX10_read 0 = .ok (.iload_n 1, 1) := by decide +kernel
theorem dX10_read_1 : decode cX10_read 1 = .ok (.istore_n 2, 1) := by decide +kernel
theorem dX10_read_2 : decode cX10_read 2 = .ok (.iconst 0, 1) := by decide +kernel
theorem dX10_read_3 : decode cX10_read 3 = .ok (.istore_n 3, 1) := by decide +kernel
theorem dX10_read_4 : decode cX10_read 4 = .ok (.iload_n 3, 1) := by decide +kernel
theorem dX10_read_5 : decode cX10_read 5 = .ok (.bipush 10, 2) := by decide +kernel
theorem dX10_read_7 : decode cX10_read 7 = .ok (.if_icmp .ge 37, 3) := by decide +kernel
theorem dX10_read_10 : decode cX10_read 10 = .ok (.aload_n 0, 1) := by decide +kernel
theorem dX10_read_11 : decode cX10_read 11 = .ok (.iload_n 3, 1) := by decide +kernel
theorem dX10_read_12 : decode cX10_read 12 = .ok (.invokestatic 48, 3) := by decide +kernel
theorem dX10_read_15 : decode cX10_read 15 = .ok (.iload_n 1, 1) := by decide +kernel
theorem dX10_read_16 : decode cX10_read 16 = .ok (.invokevirtual 52, 3) := by decide +kernel
theorem dX10_read_19 : decode cX10_read 19 = .ok (.ifCond .eq 10, 3) := by decide +kernel
theorem dX10_read_22 : decode cX10_read 22 = .ok (.aload_n 0, 1) := by decide +kernel
theorem dX10_read_23 : decode cX10_read 23 = .ok (.iload_n 3, 1) := by decide +kernel
theorem dX10_read_24 : decode cX10_read 24 = .ok (.putfield 30, 3) := by decide +kernel
theorem dX10_read_27 : decode cX10_read 27 = .ok (.iconst 1, 1) := by decide +kernel
theorem dX10_read_28 : decode cX10_read 28 = .ok (.ireturn, 1) := by decide +kernel
theorem dX10_read_29 : decode cX10_read 29 = .ok (.iload_n 2, 1) := by decide +kernel
theorem dX10_read_30 : decode cX10_read 30 = .ok (.aload_n 0, 1) := by decide +kernel
theorem dX10_read_31 : decode cX10_read 31 = .ok (.getfield 33, 3) := by decide +kernel
theorem dX10_read_34 : decode cX10_read 34 = .ok (.invokestatic 56, 3) := by decide +kernel
theorem dX10_read_37 : decode cX10_read 37 = .ok (.istore_n 2, 1) := by decide +kernel
theorem dX10_read_38 : decode cX10_read 38 = .ok (.iinc 3 1, 3) := by decide +kernel
theorem dX10_read_41 : decode cX10_read 41 = .ok (.goto (-37), 3) := by decide +kernel
theorem dX10_read_44 : decode cX10_read 44 = .ok (.aload_n 0, 1) := by decide +kernel
theorem dX10_read_45 : decode cX10_read 45 = .ok (.iload_n 2, 1) := by decide +kernel
theorem dX10_read_46 : decode cX10_read 46 = .ok (.putfield 33, 3) := by decide +kernel
theorem dX10_read_49 : decode cX10_read 49 = .ok (.iconst 0, 1) := by decide +kernel
theorem dX10_read_50 : decode cX10_read 50 = .ok (.ireturn, 1) := by decide +kernel
theorem dX10_pattern_0 : decode cX10_pattern 0 = .ok (.iload_n 0, 1) := by decide +kernel
theorem dX10_pattern_1 : decode cX10_pattern 1 = .ok (.tableswitch 78 0 8 #[51, 54, 57, 60, 63, 66, 69, 72, 75], 51) := by decide +kernel
theorem dX10_pattern_52 : decode cX10_pattern 52 = .ok (.ldc 62, 2) := by decide +kernel
theorem dX10_pattern_54 : decode cX10_pattern 54 = .ok (.areturn, 1) := by decide +kernel
theorem dX10_pattern_55 : decode cX10_pattern 55 = .ok (.ldc 64, 2) := by decide +kernel
theorem dX10_pattern_57 : decode cX10_pattern 57 = .ok (.areturn, 1) := by decide +kernel
theorem dX10_pattern_58 : decode cX10_pattern 58 = .ok (.ldc 66, 2) := by decide +kernel
theorem dX10_pattern_60 : decode cX10_pattern 60 = .ok (.areturn, 1) := by decide +kernel
theorem dX10_pattern_61 : decode cX10_pattern 61 = .ok (.ldc 68, 2) := by decide +kernel
theorem dX10_pattern_63 : decode cX10_pattern 63 = .ok (.areturn, 1) := by decide +kernel
theorem dX10_pattern_64 : decode cX10_pattern 64 = .ok (.ldc 70, 2) := by decide +kernel
theorem dX10_pattern_66 : decode cX10_pattern 66 = .ok (.areturn, 1) := by decide +kernel
theorem dX10_pattern_67 : decode cX10_pattern 67 = .ok (.ldc 72, 2) := by decide +kernel
theorem dX10_pattern_69 : decode cX10_pattern 69 = .ok (.areturn, 1) := by decide +kernel
theorem dX10_pattern_70 : decode cX10_pattern 70 = .ok (.ldc 74, 2) := by decide +kernel
theorem dX10_pattern_72 : decode cX10_pattern 72 = .ok (.areturn, 1) := by decide +kernel
theorem dX10_pattern_73 : decode cX10_pattern 73 = .ok (.ldc 76, 2) := by decide +kernel
theorem dX10_pattern_75 : decode cX10_pattern 75 = .ok (.areturn, 1) := by decide +kernel
theorem dX10_pattern_76 : decode cX10_pattern 76 = .ok (.ldc 78, 2) := by decide +kernel
theorem dX10_pattern_78 : decode cX10_pattern 78 = .ok (.areturn, 1) := by decide +kernel
theorem dX10_pattern_79 : decode cX10_pattern 79 = .ok (.ldc 80, 2) := by decide +kernel
theorem dX10_pattern_81 : decode cX10_pattern 81 = .ok (.areturn, 1) := by decide +kernel
theorem dX10_fits_0 : decode cX10_fits 0 = .ok (.aload_n 0, 1) := by decide +kernel
theorem dX10_fits_1 : decode cX10_fits 1 = .ok (.iload_n 2, 1) := by decide +kernel
theorem dX10_fits_2 : decode cX10_fits 2 = .ok (.putfield 33, 3) := by decide +kernel
theorem dX10_fits_5 : decode cX10_fits 5 = .ok (.iconst 0, 1) := by decide +kernel
theorem dX10_fits_6 : decode cX10_fits 6 = .ok (.istore_n 3, 1) := by decide +kernel
theorem dX10_fits_7 : decode cX10_fits 7 = .ok (.iconst 0, 1) := by decide +kernel
theorem dX10_fits_8 : decode cX10_fits 8 = .ok (.istore 4, 2) := by decide +kernel
theorem dX10_fits_10 : decode cX10_fits 10 = .ok (.iload 4, 2) := by decide +kernel
theorem dX10_fits_12 : decode cX10_fits 12 = .ok (.aload_n 1, 1) := by decide +kernel
theorem dX10_fits_13 : decode cX10_fits 13 = .ok (.invokevirtual 82, 3) := by decide +kernel
theorem dX10_fits_16 : decode cX10_fits 16 = .ok (.if_icmp .ge 87, 3) := by decide +kernel
theorem dX10_fits_19 : decode cX10_fits 19 = .ok (.aload_n 1, 1) := by decide +kernel
theorem dX10_fits_20 : decode cX10_fits 20 = .ok (.iload 4, 2) := by decide +kernel
theorem dX10_fits_22 : decode cX10_fits 22 = .ok (.invokevirtual 87, 3) := by decide +kernel
theorem dX10_fits_25 : decode cX10_fits 25 = .ok (.istore 5, 2) := by decide +kernel
theorem dX10_fits_27 : decode cX10_fits 27 = .ok (.iload 5, 2) := by decide +kernel
theorem dX10_fits_29 : decode cX10_fits 29 = .ok (.bipush 35, 2) := by decide +kernel
theorem dX10_fits_31 : decode cX10_fits 31 = .ok (.if_icmp .eq 10, 3) := by decide +kernel
theorem dX10_fits_34 : decode cX10_fits 34 = .ok (.iload 5, 2) := by decide +kernel
theorem dX10_fits_36 : decode cX10_fits 36 = .ok (.bipush 42, 2) := by decide +kernel
theorem dX10_fits_38 : decode cX10_fits 38 = .ok (.if_icmp .ne 31, 3) := by decide +kernel
theorem dX10_fits_41 : decode cX10_fits 41 = .ok (.aload_n 0, 1) := by decide +kernel
theorem dX10_fits_42 : decode cX10_fits 42 = .ok (.iload 5, 2) := by decide +kernel
theorem dX10_fits_44 : decode cX10_fits 44 = .ok (.bipush 35, 2) := by decide +kernel
theorem dX10_fits_46 : decode cX10_fits 46 = .ok (.if_icmp .ne 7, 3) := by decide +kernel
theorem dX10_fits_49 : decode cX10_fits 49 = .ok (.iconst 1, 1) := by decide +kernel
theorem dX10_fits_50 : decode cX10_fits 50 = .ok (.goto 4, 3) := by decide +kernel
theorem dX10_fits_53 : decode cX10_fits 53 = .ok (.iconst 2, 1) := by decide +kernel
theorem dX10_fits_54 : decode cX10_fits 54 = .ok (.iload_n 3, 1) := by decide +kernel
theorem dX10_fits_55 : decode cX10_fits 55 = .ok (.invokevirtual 91, 3) := by decide +kernel
theorem dX10_fits_58 : decode cX10_fits 58 = .ok (.ifCond .ne 5, 3) := by decide +kernel
theorem dX10_fits_61 : decode cX10_fits 61 = .ok (.iconst 0, 1) := by decide +kernel
theorem dX10_fits_62 : decode cX10_fits 62 = .ok (.ireturn, 1) := by decide +kernel
theorem dX10_fits_63 : decode cX10_fits 63 = .ok (.iinc 3 1, 3) := by decide +kernel
theorem dX10_fits_66 : decode cX10_fits 66 = .ok (.goto 31, 3) := by decide +kernel
theorem dX10_fits_69 : decode cX10_fits 69 = .ok (.aload_n 0, 1) := by decide +kernel
theorem dX10_fits_70 : decode cX10_fits 70 = .ok (.aload_n 0, 1) := by decide +kernel
theorem dX10_fits_71 : decode cX10_fits 71 = .ok (.getfield 33, 3) := by decide +kernel
theorem dX10_fits_74 : decode cX10_fits 74 = .ok (.invokevirtual 44, 3) := by decide +kernel
theorem dX10_fits_77 : decode cX10_fits 77 = .ok (.iload 5, 2) := by decide +kernel
theorem dX10_fits_79 : decode cX10_fits 79 = .ok (.if_icmp .ne 16, 3) := by decide +kernel
theorem dX10_fits_82 : decode cX10_fits 82 = .ok (.aload_n 0, 1) := by decide +kernel
theorem dX10_fits_83 : decode cX10_fits 83 = .ok (.dup, 1) := by decide +kernel
theorem dX10_fits_84 : decode cX10_fits 84 = .ok (.getfield 33, 3) := by decide +kernel
theorem dX10_fits_87 : decode cX10_fits 87 = .ok (.iconst 1, 1) := by decide +kernel
theorem dX10_fits_88 : decode cX10_fits 88 = .ok (.iadd, 1) := by decide +kernel
theorem dX10_fits_89 : decode cX10_fits 89 = .ok (.putfield 33, 3) := by decide +kernel
theorem dX10_fits_92 : decode cX10_fits 92 = .ok (.goto 5, 3) := by decide +kernel
theorem dX10_fits_95 : decode cX10_fits 95 = .ok (.iconst 0, 1) := by decide +kernel
theorem dX10_fits_96 : decode cX10_fits 96 = .ok (.ireturn, 1) := by decide +kernel
theorem dX10_fits_97 : decode cX10_fits 97 = .ok (.iinc 4 1, 3) := by decide +kernel
theorem dX10_fits_100 : decode cX10_fits 100 = .ok (.goto (-90), 3) := by decide +kernel
theorem dX10_fits_103 : decode cX10_fits 103 = .ok (.iconst 1, 1) := by decide +kernel
theorem dX10_fits_104 : decode cX10_fits 104 = .ok (.ireturn, 1) := by decide +kernel
theorem dX10_takeDigits_0 : decode cX10_takeDigits 0 = .ok (.iconst 0, 1) := by decide +kernel
theorem dX10_takeDigits_1 : decode cX10_takeDigits 1 = .ok (.istore_n 3, 1) := by decide +kernel
theorem dX10_takeDigits_2 : decode cX10_takeDigits 2 = .ok (.iconst 0, 1) := by decide +kernel
theorem dX10_takeDigits_3 : decode cX10_takeDigits 3 = .ok (.istore 4, 2) := by decide +kernel
theorem dX10_takeDigits_5 : decode cX10_takeDigits 5 = .ok (.iload 4, 2) := by decide +kernel
theorem dX10_takeDigits_7 : decode cX10_takeDigits 7 = .ok (.iload_n 1, 1) := by decide +kernel
theorem dX10_takeDigits_8 : decode cX10_takeDigits 8 = .ok (.if_icmp .ge 50, 3) := by decide +kernel
theorem dX10_takeDigits_11 : decode cX10_takeDigits 11 = .ok (.aload_n 0, 1) := by decide +kernel
theorem dX10_takeDigits_12 : decode cX10_takeDigits 12 = .ok (.aload_n 0, 1) := by decide +kernel
theorem dX10_takeDigits_13 : decode cX10_takeDigits 13 = .ok (.getfield 33, 3) := by decide +kernel
theorem dX10_takeDigits_16 : decode cX10_takeDigits 16 = .ok (.invokevirtual 44, 3) := by decide +kernel
theorem dX10_takeDigits_19 : decode cX10_takeDigits 19 = .ok (.invokestatic 95, 3) := by decide +kernel
theorem dX10_takeDigits_22 : decode cX10_takeDigits 22 = .ok (.ifCond .eq 36, 3) := by decide +kernel
theorem dX10_takeDigits_25 : decode cX10_takeDigits 25 = .ok (.bipush 10, 2) := by decide +kernel
theorem dX10_takeDigits_27 : decode cX10_takeDigits 27 = .ok (.iload_n 3, 1) := by decide +kernel
theorem dX10_takeDigits_28 : decode cX10_takeDigits 28 = .ok (.imul, 1) := by decide +kernel
theorem dX10_takeDigits_29 : decode cX10_takeDigits 29 = .ok (.aload_n 0, 1) := by decide +kernel
theorem dX10_takeDigits_30 : decode cX10_takeDigits 30 = .ok (.aload_n 0, 1) := by decide +kernel
theorem dX10_takeDigits_31 : decode cX10_takeDigits 31 = .ok (.getfield 33, 3) := by decide +kernel
theorem dX10_takeDigits_34 : decode cX10_takeDigits 34 = .ok (.invokevirtual 44, 3) := by decide +kernel
theorem dX10_takeDigits_37 : decode cX10_takeDigits 37 = .ok (.iadd, 1) := by decide +kernel
theorem dX10_takeDigits_38 : decode cX10_takeDigits 38 = .ok (.bipush 48, 2) := by decide +kernel
theorem dX10_takeDigits_40 : decode cX10_takeDigits 40 = .ok (.isub, 1) := by decide +kernel
theorem dX10_takeDigits_41 : decode cX10_takeDigits 41 = .ok (.istore_n 3, 1) := by decide +kernel
theorem dX10_takeDigits_42 : decode cX10_takeDigits 42 = .ok (.aload_n 0, 1) := by decide +kernel
theorem dX10_takeDigits_43 : decode cX10_takeDigits 43 = .ok (.dup, 1) := by decide +kernel
theorem dX10_takeDigits_44 : decode cX10_takeDigits 44 = .ok (.getfield 33, 3) := by decide +kernel
theorem dX10_takeDigits_47 : decode cX10_takeDigits 47 = .ok (.iconst 1, 1) := by decide +kernel
theorem dX10_takeDigits_48 : decode cX10_takeDigits 48 = .ok (.iadd, 1) := by decide +kernel
theorem dX10_takeDigits_49 : decode cX10_takeDigits 49 = .ok (.putfield 33, 3) := by decide +kernel
theorem dX10_takeDigits_52 : decode cX10_takeDigits 52 = .ok (.iinc 4 1, 3) := by decide +kernel
theorem dX10_takeDigits_55 : decode cX10_takeDigits 55 = .ok (.goto (-50), 3) := by decide +kernel
theorem dX10_takeDigits_58 : decode cX10_takeDigits 58 = .ok (.aload_n 0, 1) := by decide +kernel
theorem dX10_takeDigits_59 : decode cX10_takeDigits 59 = .ok (.getfield 20, 3) := by decide +kernel
theorem dX10_takeDigits_62 : decode cX10_takeDigits 62 = .ok (.iload_n 2, 1) := by decide +kernel
theorem dX10_takeDigits_63 : decode cX10_takeDigits 63 = .ok (.iload_n 3, 1) := by decide +kernel
theorem dX10_takeDigits_64 : decode cX10_takeDigits 64 = .ok (.invokevirtual 36, 3) := by decide +kernel
theorem dX10_takeDigits_67 : decode cX10_takeDigits 67 = .ok (.iload 4, 2) := by decide +kernel
theorem dX10_takeDigits_69 : decode cX10_takeDigits 69 = .ok (.ifCond .le 7, 3) := by decide +kernel
theorem dX10_takeDigits_72 : decode cX10_takeDigits 72 = .ok (.iconst 1, 1) := by decide +kernel
theorem dX10_takeDigits_73 : decode cX10_takeDigits 73 = .ok (.goto 4, 3) := by decide +kernel
theorem dX10_takeDigits_76 : decode cX10_takeDigits 76 = .ok (.iconst 0, 1) := by decide +kernel
theorem dX10_takeDigits_77 : decode cX10_takeDigits 77 = .ok (.ireturn, 1) := by decide +kernel
theorem dX10_characterAt_0 : decode cX10_characterAt 0 = .ok (.iload_n 1, 1) := by decide +kernel
theorem dX10_characterAt_1 : decode cX10_characterAt 1 = .ok (.aload_n 0, 1) := by decide +kernel
theorem dX10_characterAt_2 : decode cX10_characterAt 2 = .ok (.getfield 23, 3) := by decide +kernel
theorem dX10_characterAt_5 : decode cX10_characterAt 5 = .ok (.if_icmp .ge 14, 3) := by decide +kernel
theorem dX10_characterAt_8 : decode cX10_characterAt 8 = .ok (.aload_n 0, 1) := by decide +kernel
theorem dX10_characterAt_9 : decode cX10_characterAt 9 = .ok (.getfield 14, 3) := by decide +kernel
theorem dX10_characterAt_12 : decode cX10_characterAt 12 = .ok (.iload_n 1, 1) := by decide +kernel
theorem dX10_characterAt_13 : decode cX10_characterAt 13 = .ok (.invokevirtual 98, 3) := by decide +kernel
theorem dX10_characterAt_16 : decode cX10_characterAt 16 = .ok (.goto 4, 3) := by decide +kernel
theorem dX10_characterAt_19 : decode cX10_characterAt 19 = .ok (.iconst (-1), 1) := by decide +kernel
theorem dX10_characterAt_20 : decode cX10_characterAt 20 = .ok (.ireturn, 1) := by decide +kernel
theorem dX10_isDigit_0 : decode cX10_isDigit 0 = .ok (.iload_n 0, 1) := by decide +kernel
theorem dX10_isDigit_1 : decode cX10_isDigit 1 = .ok (.bipush 48, 2) := by decide +kernel
theorem dX10_isDigit_3 : decode cX10_isDigit 3 = .ok (.if_icmp .lt 13, 3) := by decide +kernel
theorem dX10_isDigit_6 : decode cX10_isDigit 6 = .ok (.iload_n 0, 1) := by decide +kernel
theorem dX10_isDigit_7 : decode cX10_isDigit 7 = .ok (.bipush 57, 2) := by decide +kernel
theorem dX10_isDigit_9 : decode cX10_isDigit 9 = .ok (.if_icmp .gt 7, 3) := by decide +kernel
theorem dX10_isDigit_12 : decode cX10_isDigit 12 = .ok (.iconst 1, 1) := by decide +kernel
theorem dX10_isDigit_13 : decode cX10_isDigit 13 = .ok (.goto 4, 3) := by decide +kernel
theorem dX10_isDigit_16 : decode cX10_isDigit 16 = .ok (.iconst 0, 1) := by decide +kernel
theorem dX10_isDigit_17 : decode cX10_isDigit 17 = .ok (.ireturn, 1) := by decide +kernel
theorem dX11_init_0 : decode cX11_init 0 = .ok (.aload_n 0, 1) := by decide +kernel
theorem dX11_init_1 : decode cX11_init 1 = .ok (.invokespecial 1, 3) := by decide +kernel
theorem dX11_init_4 : decode cX11_init 4 = .ok (.aload_n 0, 1) := by decide +kernel
theorem dX11_init_5 : decode cX11_init 5 = .ok (.new 7, 3) := by decide +kernel
theorem dX11_init_8 : decode cX11_init 8 = .ok (.dup, 1) := by decide +kernel
theorem dX11_init_9 : decode cX11_init 9 = .ok (.invokespecial 9, 3) := by decide +kernel
theorem dX11_init_12 : decode cX11_init 12 = .ok (.putfield 10, 3) := by decide +kernel
theorem dX11_init_15 : decode cX11_init 15 = .ok (.aload_n 0, 1) := by decide +kernel
theorem dX11_init_16 : decode cX11_init 16 = .ok (.new 7, 3) := by decide +kernel
theorem dX11_init_19 : decode cX11_init 19 = .ok (.dup, 1) := by decide +kernel
theorem dX11_init_20 : decode cX11_init 20 = .ok (.invokespecial 9, 3) := by decide +kernel
theorem dX11_init_23 : decode cX11_init 23 = .ok (.putfield 16, 3) := by decide +kernel
theorem dX11_init_26 : decode cX11_init 26 = .ok (.aload_n 0, 1) := by decide +kernel
theorem dX11_init_27 : decode cX11_init 27 = .ok (.new 7, 3) := by decide +kernel
theorem dX11_init_30 : decode cX11_init 30 = .ok (.dup, 1) := by decide +kernel
theorem dX11_init_31 : decode cX11_init 31 = .ok (.invokespecial 9, 3) := by decide +kernel
theorem dX11_init_34 : decode cX11_init 34 = .ok (.putfield 19, 3) := by decide +kernel
theorem dX11_init_37 : decode cX11_init 37 = .ok (.aload_n 0, 1) := by decide +kernel
theorem dX11_init_38 : decode cX11_init 38 = .ok (.new 22, 3) := by decide +kernel
theorem dX11_init_41 : decode cX11_init 41 = .ok (.dup, 1) := by decide +kernel
theorem dX11_init_42 : decode cX11_init 42 = .ok (.invokespecial 24, 3) := by decide +kernel
theorem dX11_init_45 : decode cX11_init 45 = .ok (.putfield 25, 3) := by decide +kernel
theorem dX11_init_48 : decode cX11_init 48 = .ok (.aload_n 0, 1) := by decide +kernel
theorem dX11_init_49 : decode cX11_init 49 = .ok (.new 29, 3) := by decide +kernel
theorem dX11_init_52 : decode cX11_init 52 = .ok (.dup, 1) := by decide +kernel
theorem dX11_init_53 : decode cX11_init 53 = .ok (.invokespecial 31, 3) := by decide +kernel
theorem dX11_init_56 : decode cX11_init 56 = .ok (.putfield 32, 3) := by decide +kernel
theorem dX11_init_59 : decode cX11_init 59 = .ok (.aload_n 0, 1) := by decide +kernel
theorem dX11_init_60 : decode cX11_init 60 = .ok (.new 36, 3) := by decide +kernel
theorem dX11_init_63 : decode cX11_init 63 = .ok (.dup, 1) := by decide +kernel
theorem dX11_init_64 : decode cX11_init 64 = .ok (.invokespecial 38, 3) := by decide +kernel
theorem dX11_init_67 : decode cX11_init 67 = .ok (.putfield 39, 3) := by decide +kernel
theorem dX11_init_70 : decode cX11_init 70 = .ok (.aload_n 0, 1) := by decide +kernel
theorem dX11_init_71 : decode cX11_init 71 = .ok (.new 43, 3) := by decide +kernel
theorem dX11_init_74 : decode cX11_init 74 = .ok (.dup, 1) := by decide +kernel
theorem dX11_init_75 : decode cX11_init 75 = .ok (.invokespecial 45, 3) := by decide +kernel
theorem dX11_init_78 : decode cX11_init 78 = .ok (.putfield 46, 3) := by decide +kernel
theorem dX11_init_81 : decode cX11_init 81 = .ok (.aload_n 0, 1) := by decide +kernel
theorem dX11_init_82 : decode cX11_init 82 = .ok (.new 50, 3) := by decide +kernel
theorem dX11_init_85 : decode cX11_init 85 = .ok (.dup, 1) := by decide +kernel
theorem dX11_init_86 : decode cX11_init 86 = .ok (.invokespecial 52, 3) := by decide +kernel
theorem dX11_init_89 : decode cX11_init 89 = .ok (.putfield 53, 3) := by decide +kernel
theorem dX11_init_92 : decode cX11_init 92 = .ok (.aload_n 0, 1) := by decide +kernel
theorem dX11_init_93 : decode cX11_init 93 = .ok (.new 57, 3) := by decide +kernel
theorem dX11_init_96 : decode cX11_init 96 = .ok (.dup, 1) := by decide +kernel
theorem dX11_init_97 : decode cX11_init 97 = .ok (.invokespecial 59, 3) := by decide +kernel
theorem dX11_init_100 : decode cX11_init 100 = .ok (.putfield 60, 3) := by decide +kernel
theorem dX11_init_103 : decode cX11_init 103 = .ok (.aload_n 0, 1) := by decide +kernel
theorem dX11_init_104 : decode cX11_init 104 = .ok (.iconst 0, 1) := by decide +kernel
theorem dX11_init_105 : decode cX11_init 105 = .ok (.putfield 64, 3) := by decide +kernel
theorem dX11_init_108 : decode cX11_init 108 = .ok (.aload_n 0, 1) := by decide +kernel
theorem dX11_init_109 : decode cX11_init 109 = .ok (.iconst (-1), 1) := by decide +kernel
theorem dX11_init_110 : decode cX11_init 110 = .ok (.putfield 68, 3) := by decide +kernel
theorem dX11_init_113 : decode cX11_init 113 = .ok (.aload_n 0, 1) := by decide +kernel
theorem dX11_init_114 : decode cX11_init 114 = .ok (.iconst 0, 1) := by decide +kernel
theorem dX11_init_115 : decode cX11_init 115 = .ok (.putfield 72, 3) := by decide +kernel
theorem dX11_init_118 : decode cX11_init 118 = .ok (.aload_n 0, 1) := by decide +kernel
theorem dX11_init_119 : decode cX11_init 119 = .ok (.iconst (-1), 1) := by decide +kernel
theorem dX11_init_120 : decode cX11_init 120 = .ok (.putfield 75, 3) := by decide +kernel
theorem dX11_init_123 : decode cX11_init 123 = .ok (.return_, 1) := by decide +kernel
theorem dX11_addShelf_0 : decode cX11_addShelf 0 = .ok (.aload_n 0, 1) := by decide +kernel
theorem dX11_addShelf_1 : decode cX11_addShelf 1 = .ok (.iconst 0, 1) := by decide +kernel
theorem dX11_addShelf_2 : decode cX11_addShelf 2 = .ok (.iload_n 1, 1) := by decide +kernel
theorem dX11_addShelf_3 : decode cX11_addShelf 3 = .ok (.iload_n 2, 1) := by decide +kernel
theorem dX11_addShelf_4 : decode cX11_addShelf 4 = .ok (.iconst 0, 1) := by decide +kernel
theorem dX11_addShelf_5 : decode cX11_addShelf 5 = .ok (.iconst 0, 1) := by decide +kernel
theorem dX11_addShelf_6 : decode cX11_addShelf 6 = .ok (.invokevirtual 78, 3) := by decide +kernel
theorem dX11_addShelf_9 : decode cX11_addShelf 9 = .ok (.ireturn, 1) := by decide +kernel
theorem dX11_count_0 : decode cX11_count 0 = .ok (.aload_n 0, 1) := by decide +kernel
theorem dX11_count_1 : decode cX11_count 1 = .ok (.bipush 8, 2) := by decide +kernel
theorem dX11_count_3 : decode cX11_count 3 = .ok (.iload_n 1, 1) := by decide +kernel
theorem dX11_count_4 : decode cX11_count 4 = .ok (.iconst 0, 1) := by decide +kernel
theorem dX11_count_5 : decode cX11_count 5 = .ok (.iconst 0, 1) := by decide +kernel
theorem dX11_count_6 : decode cX11_count 6 = .ok (.iconst 0, 1) := by decide +kernel
theorem dX11_count_7 : decode cX11_count 7 = .ok (.invokevirtual 78, 3) := by decide +kernel
theorem dX11_count_10 : decode cX11_count 10 = .ok (.ireturn, 1) := by decide +kernel
theorem dX11_shelfCount_0 : decode cX11_shelfCount 0 = .ok (.aload_n 0, 1) := by decide +kernel
theorem dX11_shelfCount_1 : decode cX11_shelfCount 1 = .ok (.getfield 10, 3) := by decide +kernel
theorem dX11_shelfCount_4 : decode cX11_shelfCount 4 = .ok (.getfield 82, 3) := by decide +kernel
theorem dX11_shelfCount_7 : decode cX11_shelfCount 7 = .ok (.getfield 86, 3) := by decide +kernel
theorem dX11_shelfCount_10 : decode cX11_shelfCount 10 = .ok (.ireturn, 1) := by decide +kernel
theorem dX11_zoneOf_0 : decode cX11_zoneOf 0 = .ok (.aload_n 0, 1) := by decide +kernel
theorem dX11_zoneOf_1 : decode cX11_zoneOf 1 = .ok (.iload_n 1, 1) := by decide +kernel
theorem dX11_zoneOf_2 : decode cX11_zoneOf 2 = .ok (.invokevirtual 91, 3) := by decide +kernel
theorem dX11_zoneOf_5 : decode cX11_zoneOf 5 = .ok (.aload_n 0, 1) := by decide +kernel
theorem dX11_zoneOf_6 : decode cX11_zoneOf 6 = .ok (.getfield 10, 3) := by decide +kernel
theorem dX11_zoneOf_9 : decode cX11_zoneOf 9 = .ok (.getfield 82, 3) := by decide +kernel
theorem dX11_zoneOf_12 : decode cX11_zoneOf 12 = .ok (.getfield 95, 3) := by decide +kernel
theorem dX11_zoneOf_15 : decode cX11_zoneOf 15 = .ok (.iload_n 1, 1) := by decide +kernel
theorem dX11_zoneOf_16 : decode cX11_zoneOf 16 = .ok (.invokevirtual 99, 3) := by decide +kernel
theorem dX11_zoneOf_19 : decode cX11_zoneOf 19 = .ok (.ireturn, 1) := by decide +kernel
theorem dX11_roomOf_0 : decode cX11_roomOf 0 = .ok (.aload_n 0, 1) := by decide +kernel
theorem dX11_roomOf_1 : decode cX11_roomOf 1 = .ok (.iload_n 1, 1) := by decide +kernel
theorem dX11_roomOf_2 : decode cX11_roomOf 2 = .ok (.invokevirtual 91, 3) := by decide +kernel
theorem dX11_roomOf_5 : decode cX11_roomOf 5 = .ok (.aload_n 0, 1) := by decide +kernel
theorem dX11_roomOf_6 : decode cX11_roomOf 6 = .ok (.getfield 10, 3) := by decide +kernel
theorem dX11_roomOf_9 : decode cX11_roomOf 9 = .ok (.iload_n 1, 1) := by decide +kernel
theorem dX11_roomOf_10 : decode cX11_roomOf 10 = .ok (.iconst (-1), 1) := by decide +kernel
theorem dX11_roomOf_11 : decode cX11_roomOf 11 = .ok (.iconst (-1), 1) := by decide +kernel
theorem dX11_roomOf_12 : decode cX11_roomOf 12 = .ok (.invokevirtual 105, 3) := by decide +kernel
theorem dX11_roomOf_15 : decode cX11_roomOf 15 = .ok (.ireturn, 1) := by decide +kernel
theorem dX11_lotsOn_0 : decode cX11_lotsOn 0 = .ok (.aload_n 0, 1) := by decide +kernel
theorem dX11_lotsOn_1 : decode cX11_lotsOn 1 = .ok (.iload_n 1, 1) := by decide +kernel
theorem dX11_lotsOn_2 : decode cX11_lotsOn 2 = .ok (.invokevirtual 91, 3) := by decide +kernel
theorem dX11_lotsOn_5 : decode cX11_lotsOn 5 = .ok (.aload_n 0, 1) := by decide +kernel
theorem dX11_lotsOn_6 : decode cX11_lotsOn 6 = .ok (.getfield 10, 3) := by decide +kernel
theorem dX11_lotsOn_9 : decode cX11_lotsOn 9 = .ok (.getfield 109, 3) := by decide +kernel
theorem dX11_lotsOn_12 : decode cX11_lotsOn 12 = .ok (.iload_n 1, 1) := by decide +kernel
theorem dX11_lotsOn_13 : decode cX11_lotsOn 13 = .ok (.invokevirtual 113, 3) := by decide +kernel
theorem dX11_lotsOn_16 : decode cX11_lotsOn 16 = .ok (.ireturn, 1) := by decide +kernel
theorem dX11_shelfFor_0 : decode cX11_shelfFor 0 = .ok (.iload_n 1, 1) := by decide +kernel
theorem dX11_shelfFor_1 : decode cX11_shelfFor 1 = .ok (.iconst 0, 1) := by decide +kernel
theorem dX11_shelfFor_2 : decode cX11_shelfFor 2 = .ok (.iconst 2, 1) := by decide +kernel
theorem dX11_shelfFor_3 : decode cX11_shelfFor 3 = .ok (.invokestatic 118, 3) := by decide +kernel
theorem dX11_shelfFor_6 : decode cX11_shelfFor 6 = .ok (.iload_n 2, 1) := by decide +kernel
theorem dX11_shelfFor_7 : decode cX11_shelfFor 7 = .ok (.iconst 1, 1) := by decide +kernel
theorem dX11_shelfFor_8 : decode cX11_shelfFor 8 = .ok (.bipush 40, 2) := by decide +kernel
theorem dX11_shelfFor_10 : decode cX11_shelfFor 10 = .ok (.invokestatic 118, 3) := by decide +kernel
theorem dX11_shelfFor_13 : decode cX11_shelfFor 13 = .ok (.aload_n 0, 1) := by decide +kernel
theorem dX11_shelfFor_14 : decode cX11_shelfFor 14 = .ok (.getfield 10, 3) := by decide +kernel
theorem dX11_shelfFor_17 : decode cX11_shelfFor 17 = .ok (.iload_n 1, 1) := by decide +kernel
theorem dX11_shelfFor_18 : decode cX11_shelfFor 18 = .ok (.iload_n 2, 1) := by decide +kernel
theorem dX11_shelfFor_19 : decode cX11_shelfFor 19 = .ok (.iconst (-1), 1) := by decide +kernel
theorem dX11_shelfFor_20 : decode cX11_shelfFor 20 = .ok (.iconst (-1), 1) := by decide +kernel
theorem dX11_shelfFor_21 : decode cX11_shelfFor 21 = .ok (.invokevirtual 122, 3) := by decide +kernel
theorem dX11_shelfFor_24 : decode cX11_shelfFor 24 = .ok (.invokestatic 126, 3) := by decide +kernel
theorem dX11_shelfFor_27 : decode cX11_shelfFor 27 = .ok (.ireturn, 1) := by decide +kernel
theorem dX11_countedDay_0 : decode cX11_countedDay 0 = .ok (.aload_n 0, 1) := by decide +kernel
theorem dX11_countedDay_1 : decode cX11_countedDay 1 = .ok (.iload_n 1, 1) := by decide +kernel
theorem dX11_countedDay_2 : decode cX11_countedDay 2 = .ok (.invokevirtual 91, 3) := by decide +kernel
theorem dX11_countedDay_5 : decode cX11_countedDay 5 = .ok (.aload_n 0, 1) := by decide +kernel
theorem dX11_countedDay_6 : decode cX11_countedDay 6 = .ok (.getfield 10, 3) := by decide +kernel
theorem dX11_countedDay_9 : decode cX11_countedDay 9 = .ok (.getfield 82, 3) := by decide +kernel
theorem dX11_countedDay_12 : decode cX11_countedDay 12 = .ok (.getfield 129, 3) := by decide +kernel
theorem dX11_countedDay_15 : decode cX11_countedDay 15 = .ok (.iload_n 1, 1) := by decide +kernel
theorem dX11_countedDay_16 : decode cX11_countedDay 16 = .ok (.invokevirtual 99, 3) := by decide +kernel
theorem dX11_countedDay_19 : decode cX11_countedDay 19 = .ok (.invokestatic 126, 3) := by decide +kernel
theorem dX11_countedDay_22 : decode cX11_countedDay 22 = .ok (.ireturn, 1) := by decide +kernel
theorem dX11_shelfToCount_0 : decode cX11_shelfToCount 0 = .ok (.aload_n 0, 1) := by decide +kernel
theorem dX11_shelfToCount_1 : decode cX11_shelfToCount 1 = .ok (.getfield 10, 3) := by decide +kernel
theorem dX11_shelfToCount_4 : decode cX11_shelfToCount 4 = .ok (.iload_n 1, 1) := by decide +kernel
theorem dX11_shelfToCount_5 : decode cX11_shelfToCount 5 = .ok (.invokevirtual 132, 3) := by decide +kernel
theorem dX11_shelfToCount_8 : decode cX11_shelfToCount 8 = .ok (.invokestatic 126, 3) := by decide +kernel
theorem dX11_shelfToCount_11 : decode cX11_shelfToCount 11 = .ok (.ireturn, 1) := by decide +kernel
theorem dX11_fewestShelves_0 : decode cX11_fewestShelves 0 = .ok (.iload_n 1, 1) := by decide +kernel
theorem dX11_fewestShelves_1 : decode cX11_fewestShelves 1 = .ok (.iconst 0, 1) := by decide +kernel
theorem dX11_fewestShelves_2 : decode cX11_fewestShelves 2 = .ok (.iconst 2, 1) := by decide +kernel
theorem dX11_fewestShelves_3 : decode cX11_fewestShelves 3 = .ok (.invokestatic 118, 3) := by decide +kernel
theorem dX11_fewestShelves_6 : decode cX11_fewestShelves 6 = .ok (.aload_n 0, 1) := by decide +kernel
theorem dX11_fewestShelves_7 : decode cX11_fewestShelves 7 = .ok (.getfield 46, 3) := by decide +kernel
theorem dX11_fewestShelves_10 : decode cX11_fewestShelves 10 = .ok (.aload_n 0, 1) := by decide +kernel
theorem dX11_fewestShelves_11 : decode cX11_fewestShelves 11 = .ok (.getfield 10, 3) := by decide +kernel
theorem dX11_fewestShelves_14 : decode cX11_fewestShelves 14 = .ok (.iload_n 1, 1) := by decide +kernel
theorem dX11_fewestShelves_15 : decode cX11_fewestShelves 15 = .ok (.invokevirtual 135, 3) := by decide +kernel
theorem dX11_fewestShelves_18 : decode cX11_fewestShelves 18 = .ok (.ireturn, 1) := by decide +kernel
theorem dX11_fewestShelvesBySearch_0 : decode cX11_fewestShelvesBySearch 0 = .ok (.iload_n 1, 1) := by decide +kernel
theorem dX11_fewestShelvesBySearch_1 : decode cX11_fewestShelvesBySearch 1 = .ok (.iconst 0, 1) := by decide +kernel
theorem dX11_fewestShelvesBySearch_2 : decode cX11_fewestShelvesBySearch 2 = .ok (.iconst 2, 1) := by decide +kernel
theorem dX11_fewestShelvesBySearch_3 : decode cX11_fewestShelvesBySearch 3 = .ok (.invokestatic 118, 3) := by decide +kernel
theorem dX11_fewestShelvesBySearch_6 : decode cX11_fewestShelvesBySearch 6 = .ok (.aload_n 0, 1) := by decide +kernel
theorem dX11_fewestShelvesBySearch_7 : decode cX11_fewestShelvesBySearch 7 = .ok (.getfield 46, 3) := by decide +kernel
theorem dX11_fewestShelvesBySearch_10 : decode cX11_fewestShelvesBySearch 10 = .ok (.aload_n 0, 1) := by decide +kernel
theorem dX11_fewestShelvesBySearch_11 : decode cX11_fewestShelvesBySearch 11 = .ok (.getfield 10, 3) := by decide +kernel
theorem dX11_fewestShelvesBySearch_14 : decode cX11_fewestShelvesBySearch 14 = .ok (.iload_n 1, 1) := by decide +kernel
theorem dX11_fewestShelvesBySearch_15 : decode cX11_fewestShelvesBySearch 15 = .ok (.invokevirtual 139, 3) := by decide +kernel
theorem dX11_fewestShelvesBySearch_18 : decode cX11_fewestShelvesBySearch 18 = .ok (.ireturn, 1) := by decide +kernel
theorem dX11_receive_0 : decode cX11_receive 0 = .ok (.aload_n 0, 1) := by decide +kernel
theorem dX11_receive_1 : decode cX11_receive 1 = .ok (.iconst 1, 1) := by decide +kernel
theorem dX11_receive_2 : decode cX11_receive 2 = .ok (.iload_n 1, 1) := by decide +kernel
theorem dX11_receive_3 : decode cX11_receive 3 = .ok (.iload_n 2, 1) := by decide +kernel
theorem dX11_receive_4 : decode cX11_receive 4 = .ok (.iload_n 3, 1) := by decide +kernel
theorem dX11_receive_5 : decode cX11_receive 5 = .ok (.iload 4, 2) := by decide +kernel
theorem dX11_receive_7 : decode cX11_receive 7 = .ok (.invokevirtual 78, 3) := by decide +kernel
theorem dX11_receive_10 : decode cX11_receive 10 = .ok (.ireturn, 1) := by decide +kernel
theorem dX11_split_0 : decode cX11_split 0 = .ok (.aload_n 0, 1) := by decide +kernel
theorem dX11_split_1 : decode cX11_split 1 = .ok (.iconst 2, 1) := by decide +kernel
theorem dX11_split_2 : decode cX11_split 2 = .ok (.iload_n 1, 1) := by decide +kernel
theorem dX11_split_3 : decode cX11_split 3 = .ok (.iload_n 2, 1) := by decide +kernel
theorem dX11_split_4 : decode cX11_split 4 = .ok (.iconst 0, 1) := by decide +kernel
theorem dX11_split_5 : decode cX11_split 5 = .ok (.iconst 0, 1) := by decide +kernel
theorem dX11_split_6 : decode cX11_split 6 = .ok (.invokevirtual 78, 3) := by decide +kernel
theorem dX11_split_9 : decode cX11_split 9 = .ok (.ireturn, 1) := by decide +kernel
theorem dX11_mix_0 : decode cX11_mix 0 = .ok (.aload_n 0, 1) := by decide +kernel
theorem dX11_mix_1 : decode cX11_mix 1 = .ok (.iconst 3, 1) := by decide +kernel
theorem dX11_mix_2 : decode cX11_mix 2 = .ok (.iload_n 1, 1) := by decide +kernel
theorem dX11_mix_3 : decode cX11_mix 3 = .ok (.iload_n 2, 1) := by decide +kernel
theorem dX11_mix_4 : decode cX11_mix 4 = .ok (.iconst 0, 1) := by decide +kernel
theorem dX11_mix_5 : decode cX11_mix 5 = .ok (.iconst 0, 1) := by decide +kernel
theorem dX11_mix_6 : decode cX11_mix 6 = .ok (.invokevirtual 78, 3) := by decide +kernel
theorem dX11_mix_9 : decode cX11_mix 9 = .ok (.ireturn, 1) := by decide +kernel
theorem dX11_move_0 : decode cX11_move 0 = .ok (.aload_n 0, 1) := by decide +kernel
theorem dX11_move_1 : decode cX11_move 1 = .ok (.iconst 4, 1) := by decide +kernel
theorem dX11_move_2 : decode cX11_move 2 = .ok (.iload_n 1, 1) := by decide +kernel
theorem dX11_move_3 : decode cX11_move 3 = .ok (.iload_n 2, 1) := by decide +kernel
theorem dX11_move_4 : decode cX11_move 4 = .ok (.iconst 0, 1) := by decide +kernel
theorem dX11_move_5 : decode cX11_move 5 = .ok (.iconst 0, 1) := by decide +kernel
theorem dX11_move_6 : decode cX11_move 6 = .ok (.invokevirtual 78, 3) := by decide +kernel
theorem dX11_move_9 : decode cX11_move 9 = .ok (.ireturn, 1) := by decide +kernel
theorem dX11_ship_0 : decode cX11_ship 0 = .ok (.aload_n 0, 1) := by decide +kernel
theorem dX11_ship_1 : decode cX11_ship 1 = .ok (.iconst 5, 1) := by decide +kernel
theorem dX11_ship_2 : decode cX11_ship 2 = .ok (.iload_n 1, 1) := by decide +kernel
theorem dX11_ship_3 : decode cX11_ship 3 = .ok (.iload_n 2, 1) := by decide +kernel
theorem dX11_ship_4 : decode cX11_ship 4 = .ok (.iconst 0, 1) := by decide +kernel
theorem dX11_ship_5 : decode cX11_ship 5 = .ok (.iconst 0, 1) := by decide +kernel
theorem dX11_ship_6 : decode cX11_ship 6 = .ok (.invokevirtual 78, 3) := by decide +kernel
theorem dX11_ship_9 : decode cX11_ship 9 = .ok (.ireturn, 1) := by decide +kernel
theorem dX11_recall_0 : decode cX11_recall 0 = .ok (.aload_n 0, 1) := by decide +kernel
theorem dX11_recall_1 : decode cX11_recall 1 = .ok (.bipush 6, 2) := by decide +kernel
theorem dX11_recall_3 : decode cX11_recall 3 = .ok (.iload_n 1, 1) := by decide +kernel
theorem dX11_recall_4 : decode cX11_recall 4 = .ok (.iconst 0, 1) := by decide +kernel
theorem dX11_recall_5 : decode cX11_recall 5 = .ok (.iconst 0, 1) := by decide +kernel
theorem dX11_recall_6 : decode cX11_recall 6 = .ok (.iconst 0, 1) := by decide +kernel
theorem dX11_recall_7 : decode cX11_recall 7 = .ok (.invokevirtual 78, 3) := by decide +kernel
theorem dX11_recall_10 : decode cX11_recall 10 = .ok (.ireturn, 1) := by decide +kernel
theorem dX11_lotCount_0 : decode cX11_lotCount 0 = .ok (.aload_n 0, 1) := by decide +kernel
theorem dX11_lotCount_1 : decode cX11_lotCount 1 = .ok (.getfield 10, 3) := by decide +kernel
theorem dX11_lotCount_4 : decode cX11_lotCount 4 = .ok (.getfield 109, 3) := by decide +kernel
theorem dX11_lotCount_7 : decode cX11_lotCount 7 = .ok (.getfield 142, 3) := by decide +kernel
theorem dX11_lotCount_10 : decode cX11_lotCount 10 = .ok (.ireturn, 1) := by decide +kernel
theorem dX11_isOnShelf_0 : decode cX11_isOnShelf 0 = .ok (.aload_n 0, 1) := by decide +kernel
theorem dX11_isOnShelf_1 : decode cX11_isOnShelf 1 = .ok (.iload_n 1, 1) := by decide +kernel
theorem dX11_isOnShelf_2 : decode cX11_isOnShelf 2 = .ok (.invokevirtual 143, 3) := by decide +kernel
theorem dX11_isOnShelf_5 : decode cX11_isOnShelf 5 = .ok (.aload_n 0, 1) := by decide +kernel
theorem dX11_isOnShelf_6 : decode cX11_isOnShelf 6 = .ok (.getfield 10, 3) := by decide +kernel
theorem dX11_isOnShelf_9 : decode cX11_isOnShelf 9 = .ok (.getfield 109, 3) := by decide +kernel
theorem dX11_isOnShelf_12 : decode cX11_isOnShelf 12 = .ok (.iload_n 1, 1) := by decide +kernel
theorem dX11_isOnShelf_13 : decode cX11_isOnShelf 13 = .ok (.invokevirtual 146, 3) := by decide +kernel
theorem dX11_isOnShelf_16 : decode cX11_isOnShelf 16 = .ok (.ireturn, 1) := by decide +kernel
theorem dX11_shelfOf_0 : decode cX11_shelfOf 0 = .ok (.aload_n 0, 1) := by decide +kernel
theorem dX11_shelfOf_1 : decode cX11_shelfOf 1 = .ok (.iload_n 1, 1) := by decide +kernel
theorem dX11_shelfOf_2 : decode cX11_shelfOf 2 = .ok (.invokevirtual 143, 3) := by decide +kernel
theorem dX11_shelfOf_5 : decode cX11_shelfOf 5 = .ok (.aload_n 0, 1) := by decide +kernel
theorem dX11_shelfOf_6 : decode cX11_shelfOf 6 = .ok (.getfield 10, 3) := by decide +kernel
theorem dX11_shelfOf_9 : decode cX11_shelfOf 9 = .ok (.getfield 109, 3) := by decide +kernel
theorem dX11_shelfOf_12 : decode cX11_shelfOf 12 = .ok (.getfield 150, 3) := by decide +kernel
theorem dX11_shelfOf_15 : decode cX11_shelfOf 15 = .ok (.iload_n 1, 1) := by decide +kernel
theorem dX11_shelfOf_16 : decode cX11_shelfOf 16 = .ok (.invokevirtual 99, 3) := by decide +kernel
theorem dX11_shelfOf_19 : decode cX11_shelfOf 19 = .ok (.invokestatic 126, 3) := by decide +kernel
theorem dX11_shelfOf_22 : decode cX11_shelfOf 22 = .ok (.ireturn, 1) := by decide +kernel
theorem dX11_volumeOf_0 : decode cX11_volumeOf 0 = .ok (.aload_n 0, 1) := by decide +kernel
theorem dX11_volumeOf_1 : decode cX11_volumeOf 1 = .ok (.iload_n 1, 1) := by decide +kernel
theorem dX11_volumeOf_2 : decode cX11_volumeOf 2 = .ok (.invokevirtual 143, 3) := by decide +kernel
theorem dX11_volumeOf_5 : decode cX11_volumeOf 5 = .ok (.aload_n 0, 1) := by decide +kernel
theorem dX11_volumeOf_6 : decode cX11_volumeOf 6 = .ok (.getfield 10, 3) := by decide +kernel
theorem dX11_volumeOf_9 : decode cX11_volumeOf 9 = .ok (.getfield 109, 3) := by decide +kernel
theorem dX11_volumeOf_12 : decode cX11_volumeOf 12 = .ok (.getfield 153, 3) := by decide +kernel
theorem dX11_volumeOf_15 : decode cX11_volumeOf 15 = .ok (.iload_n 1, 1) := by decide +kernel
theorem dX11_volumeOf_16 : decode cX11_volumeOf 16 = .ok (.invokevirtual 99, 3) := by decide +kernel
theorem dX11_volumeOf_19 : decode cX11_volumeOf 19 = .ok (.ireturn, 1) := by decide +kernel
theorem dX11_expiryOf_0 : decode cX11_expiryOf 0 = .ok (.aload_n 0, 1) := by decide +kernel
theorem dX11_expiryOf_1 : decode cX11_expiryOf 1 = .ok (.iload_n 1, 1) := by decide +kernel
theorem dX11_expiryOf_2 : decode cX11_expiryOf 2 = .ok (.invokevirtual 143, 3) := by decide +kernel
theorem dX11_expiryOf_5 : decode cX11_expiryOf 5 = .ok (.aload_n 0, 1) := by decide +kernel
theorem dX11_expiryOf_6 : decode cX11_expiryOf 6 = .ok (.getfield 10, 3) := by decide +kernel
theorem dX11_expiryOf_9 : decode cX11_expiryOf 9 = .ok (.getfield 109, 3) := by decide +kernel
theorem dX11_expiryOf_12 : decode cX11_expiryOf 12 = .ok (.getfield 156, 3) := by decide +kernel
theorem dX11_expiryOf_15 : decode cX11_expiryOf 15 = .ok (.iload_n 1, 1) := by decide +kernel
theorem dX11_expiryOf_16 : decode cX11_expiryOf 16 = .ok (.invokevirtual 99, 3) := by decide +kernel
theorem dX11_expiryOf_19 : decode cX11_expiryOf 19 = .ok (.ireturn, 1) := by decide +kernel
theorem dX11_isExpired_0 : decode cX11_isExpired 0 = .ok (.aload_n 0, 1) := by decide +kernel
theorem dX11_isExpired_1 : decode cX11_isExpired 1 = .ok (.iload_n 1, 1) := by decide +kernel
theorem dX11_isExpired_2 : decode cX11_isExpired 2 = .ok (.invokevirtual 143, 3) := by decide +kernel
theorem dX11_isExpired_5 : decode cX11_isExpired 5 = .ok (.aload_n 0, 1) := by decide +kernel
theorem dX11_isExpired_6 : decode cX11_isExpired 6 = .ok (.getfield 10, 3) := by decide +kernel
theorem dX11_isExpired_9 : decode cX11_isExpired 9 = .ok (.iload_n 1, 1) := by decide +kernel
theorem dX11_isExpired_10 : decode cX11_isExpired 10 = .ok (.invokevirtual 159, 3) := by decide +kernel
theorem dX11_isExpired_13 : decode cX11_isExpired 13 = .ok (.ireturn, 1) := by decide +kernel
theorem dX11_parentCount_0 : decode cX11_parentCount 0 = .ok (.aload_n 0, 1) := by decide +kernel
theorem dX11_parentCount_1 : decode cX11_parentCount 1 = .ok (.iload_n 1, 1) := by decide +kernel
theorem dX11_parentCount_2 : decode cX11_parentCount 2 = .ok (.invokevirtual 143, 3) := by decide +kernel
theorem dX11_parentCount_5 : decode cX11_parentCount 5 = .ok (.aload_n 0, 1) := by decide +kernel
theorem dX11_parentCount_6 : decode cX11_parentCount 6 = .ok (.getfield 10, 3) := by decide +kernel
theorem dX11_parentCount_9 : decode cX11_parentCount 9 = .ok (.getfield 109, 3) := by decide +kernel
theorem dX11_parentCount_12 : decode cX11_parentCount 12 = .ok (.iload_n 1, 1) := by decide +kernel
theorem dX11_parentCount_13 : decode cX11_parentCount 13 = .ok (.invokevirtual 162, 3) := by decide +kernel
theorem dX11_parentCount_16 : decode cX11_parentCount 16 = .ok (.ireturn, 1) := by decide +kernel
theorem dX11_descendants_0 : decode cX11_descendants 0 = .ok (.aload_n 0, 1) := by decide +kernel
theorem dX11_descendants_1 : decode cX11_descendants 1 = .ok (.iload_n 1, 1) := by decide +kernel
theorem dX11_descendants_2 : decode cX11_descendants 2 = .ok (.invokevirtual 143, 3) := by decide +kernel
theorem dX11_descendants_5 : decode cX11_descendants 5 = .ok (.aload_n 0, 1) := by decide +kernel
theorem dX11_descendants_6 : decode cX11_descendants 6 = .ok (.getfield 10, 3) := by decide +kernel
theorem dX11_descendants_9 : decode cX11_descendants 9 = .ok (.getfield 109, 3) := by decide +kernel
theorem dX11_descendants_12 : decode cX11_descendants 12 = .ok (.iload_n 1, 1) := by decide +kernel
theorem dX11_descendants_13 : decode cX11_descendants 13 = .ok (.invokestatic 165, 3) := by decide +kernel
theorem dX11_descendants_16 : decode cX11_descendants 16 = .ok (.invokestatic 169, 3) := by decide +kernel
theorem dX11_descendants_19 : decode cX11_descendants 19 = .ok (.ireturn, 1) := by decide +kernel
theorem dX11_descendantsByTable_0 : decode cX11_descendantsByTable 0 = .ok (.aload_n 0, 1) := by decide +kernel
theorem dX11_descendantsByTable_1 : decode cX11_descendantsByTable 1 = .ok (.iload_n 1, 1) := by decide +kernel
theorem dX11_descendantsByTable_2 : decode cX11_descendantsByTable 2 = .ok (.invokevirtual 143, 3) := by decide +kernel
theorem dX11_descendantsByTable_5 : decode cX11_descendantsByTable 5 = .ok (.aload_n 0, 1) := by decide +kernel
theorem dX11_descendantsByTable_6 : decode cX11_descendantsByTable 6 = .ok (.getfield 39, 3) := by decide +kernel
theorem dX11_descendantsByTable_9 : decode cX11_descendantsByTable 9 = .ok (.aload_n 0, 1) := by decide +kernel
theorem dX11_descendantsByTable_10 : decode cX11_descendantsByTable 10 = .ok (.getfield 10, 3) := by decide +kernel
theorem dX11_descendantsByTable_13 : decode cX11_descendantsByTable 13 = .ok (.getfield 109, 3) := by decide +kernel
theorem dX11_descendantsByTable_16 : decode cX11_descendantsByTable 16 = .ok (.iload_n 1, 1) := by decide +kernel
theorem dX11_descendantsByTable_17 : decode cX11_descendantsByTable 17 = .ok (.invokevirtual 174, 3) := by decide +kernel
theorem dX11_descendantsByTable_20 : decode cX11_descendantsByTable 20 = .ok (.ireturn, 1) := by decide +kernel
theorem dX11_descendsFrom_0 : decode cX11_descendsFrom 0 = .ok (.aload_n 0, 1) := by decide +kernel
theorem dX11_descendsFrom_1 : decode cX11_descendsFrom 1 = .ok (.iload_n 1, 1) := by decide +kernel
theorem dX11_descendsFrom_2 : decode cX11_descendsFrom 2 = .ok (.invokevirtual 143, 3) := by decide +kernel
theorem dX11_descendsFrom_5 : decode cX11_descendsFrom 5 = .ok (.aload_n 0, 1) := by decide +kernel
theorem dX11_descendsFrom_6 : decode cX11_descendsFrom 6 = .ok (.iload_n 2, 1) := by decide +kernel
theorem dX11_descendsFrom_7 : decode cX11_descendsFrom 7 = .ok (.invokevirtual 143, 3) := by decide +kernel
theorem dX11_descendsFrom_10 : decode cX11_descendsFrom 10 = .ok (.aload_n 0, 1) := by decide +kernel
theorem dX11_descendsFrom_11 : decode cX11_descendsFrom 11 = .ok (.getfield 10, 3) := by decide +kernel
theorem dX11_descendsFrom_14 : decode cX11_descendsFrom 14 = .ok (.getfield 109, 3) := by decide +kernel
theorem dX11_descendsFrom_17 : decode cX11_descendsFrom 17 = .ok (.iload_n 2, 1) := by decide +kernel
theorem dX11_descendsFrom_18 : decode cX11_descendsFrom 18 = .ok (.invokestatic 165, 3) := by decide +kernel
theorem dX11_descendsFrom_21 : decode cX11_descendsFrom 21 = .ok (.iload_n 1, 1) := by decide +kernel
theorem dX11_descendsFrom_22 : decode cX11_descendsFrom 22 = .ok (.ishr, 1) := by decide +kernel
theorem dX11_descendsFrom_23 : decode cX11_descendsFrom 23 = .ok (.iconst 1, 1) := by decide +kernel
theorem dX11_descendsFrom_24 : decode cX11_descendsFrom 24 = .ok (.iand, 1) := by decide +kernel
theorem dX11_descendsFrom_25 : decode cX11_descendsFrom 25 = .ok (.iconst 1, 1) := by decide +kernel
theorem dX11_descendsFrom_26 : decode cX11_descendsFrom 26 = .ok (.if_icmp .ne 7, 3) := by decide +kernel
theorem dX11_descendsFrom_29 : decode cX11_descendsFrom 29 = .ok (.iconst 1, 1) := by decide +kernel
theorem dX11_descendsFrom_30 : decode cX11_descendsFrom 30 = .ok (.goto 4, 3) := by decide +kernel
theorem dX11_descendsFrom_33 : decode cX11_descendsFrom 33 = .ok (.iconst 0, 1) := by decide +kernel
theorem dX11_descendsFrom_34 : decode cX11_descendsFrom 34 = .ok (.ireturn, 1) := by decide +kernel
theorem dX11_recallSize_0 : decode cX11_recallSize 0 = .ok (.aload_n 0, 1) := by decide +kernel
theorem dX11_recallSize_1 : decode cX11_recallSize 1 = .ok (.iload_n 1, 1) := by decide +kernel
theorem dX11_recallSize_2 : decode cX11_recallSize 2 = .ok (.invokevirtual 143, 3) := by decide +kernel
theorem dX11_recallSize_5 : decode cX11_recallSize 5 = .ok (.aload_n 0, 1) := by decide +kernel
theorem dX11_recallSize_6 : decode cX11_recallSize 6 = .ok (.getfield 10, 3) := by decide +kernel
theorem dX11_recallSize_9 : decode cX11_recallSize 9 = .ok (.getfield 109, 3) := by decide +kernel
theorem dX11_recallSize_12 : decode cX11_recallSize 12 = .ok (.iload_n 1, 1) := by decide +kernel
theorem dX11_recallSize_13 : decode cX11_recallSize 13 = .ok (.invokestatic 177, 3) := by decide +kernel
theorem dX11_recallSize_16 : decode cX11_recallSize 16 = .ok (.invokestatic 169, 3) := by decide +kernel
theorem dX11_recallSize_19 : decode cX11_recallSize 19 = .ok (.ireturn, 1) := by decide +kernel
theorem dX11_available_0 : decode cX11_available 0 = .ok (.iload_n 1, 1) := by decide +kernel
theorem dX11_available_1 : decode cX11_available 1 = .ok (.iconst 0, 1) := by decide +kernel
theorem dX11_available_2 : decode cX11_available 2 = .ok (.iconst 5, 1) := by decide +kernel
theorem dX11_available_3 : decode cX11_available 3 = .ok (.invokestatic 118, 3) := by decide +kernel
theorem dX11_available_6 : decode cX11_available 6 = .ok (.aload_n 0, 1) := by decide +kernel
theorem dX11_available_7 : decode cX11_available 7 = .ok (.getfield 10, 3) := by decide +kernel
theorem dX11_available_10 : decode cX11_available 10 = .ok (.iload_n 1, 1) := by decide +kernel
theorem dX11_available_11 : decode cX11_available 11 = .ok (.invokevirtual 180, 3) := by decide +kernel
theorem dX11_available_14 : decode cX11_available 14 = .ok (.ireturn, 1) := by decide +kernel
theorem dX11_firstToShip_0 : decode cX11_firstToShip 0 = .ok (.iload_n 1, 1) := by decide +kernel
theorem dX11_firstToShip_1 : decode cX11_firstToShip 1 = .ok (.iconst 0, 1) := by decide +kernel
theorem dX11_firstToShip_2 : decode cX11_firstToShip 2 = .ok (.iconst 5, 1) := by decide +kernel
theorem dX11_firstToShip_3 : decode cX11_firstToShip 3 = .ok (.invokestatic 118, 3) := by decide +kernel
theorem dX11_firstToShip_6 : decode cX11_firstToShip 6 = .ok (.aload_n 0, 1) := by decide +kernel
theorem dX11_firstToShip_7 : decode cX11_firstToShip 7 = .ok (.getfield 10, 3) := by decide +kernel
theorem dX11_firstToShip_10 : decode cX11_firstToShip 10 = .ok (.iload_n 1, 1) := by decide +kernel
theorem dX11_firstToShip_11 : decode cX11_firstToShip 11 = .ok (.invokevirtual 183, 3) := by decide +kernel
theorem dX11_firstToShip_14 : decode cX11_firstToShip 14 = .ok (.invokestatic 126, 3) := by decide +kernel
theorem dX11_firstToShip_17 : decode cX11_firstToShip 17 = .ok (.ireturn, 1) := by decide +kernel
theorem dX11_lotByExpiry_0 : decode cX11_lotByExpiry 0 = .ok (.aload_n 0, 1) := by decide +kernel
theorem dX11_lotByExpiry_1 : decode cX11_lotByExpiry 1 = .ok (.getfield 10, 3) := by decide +kernel
theorem dX11_lotByExpiry_4 : decode cX11_lotByExpiry 4 = .ok (.iload_n 1, 1) := by decide +kernel
theorem dX11_lotByExpiry_5 : decode cX11_lotByExpiry 5 = .ok (.invokevirtual 186, 3) := by decide +kernel
theorem dX11_lotByExpiry_8 : decode cX11_lotByExpiry 8 = .ok (.invokestatic 126, 3) := by decide +kernel
theorem dX11_lotByExpiry_11 : decode cX11_lotByExpiry 11 = .ok (.ireturn, 1) := by decide +kernel
theorem dX11_compost_0 : decode cX11_compost 0 = .ok (.aload_n 0, 1) := by decide +kernel
theorem dX11_compost_1 : decode cX11_compost 1 = .ok (.bipush 7, 2) := by decide +kernel
theorem dX11_compost_3 : decode cX11_compost 3 = .ok (.iconst 0, 1) := by decide +kernel
theorem dX11_compost_4 : decode cX11_compost 4 = .ok (.iconst 0, 1) := by decide +kernel
theorem dX11_compost_5 : decode cX11_compost 5 = .ok (.iconst 0, 1) := by decide +kernel
theorem dX11_compost_6 : decode cX11_compost 6 = .ok (.iconst 0, 1) := by decide +kernel
theorem dX11_compost_7 : decode cX11_compost 7 = .ok (.invokevirtual 78, 3) := by decide +kernel
theorem dX11_compost_10 : decode cX11_compost 10 = .ok (.ireturn, 1) := by decide +kernel
theorem dX11_heapSize_0 : decode cX11_heapSize 0 = .ok (.aload_n 0, 1) := by decide +kernel
theorem dX11_heapSize_1 : decode cX11_heapSize 1 = .ok (.getfield 10, 3) := by decide +kernel
theorem dX11_heapSize_4 : decode cX11_heapSize 4 = .ok (.getfield 189, 3) := by decide +kernel
theorem dX11_heapSize_7 : decode cX11_heapSize 7 = .ok (.getfield 193, 3) := by decide +kernel
theorem dX11_heapSize_10 : decode cX11_heapSize 10 = .ok (.ireturn, 1) := by decide +kernel
theorem dX11_nextCompost_0 : decode cX11_nextCompost 0 = .ok (.aload_n 0, 1) := by decide +kernel
theorem dX11_nextCompost_1 : decode cX11_nextCompost 1 = .ok (.getfield 10, 3) := by decide +kernel
theorem dX11_nextCompost_4 : decode cX11_nextCompost 4 = .ok (.getfield 189, 3) := by decide +kernel
theorem dX11_nextCompost_7 : decode cX11_nextCompost 7 = .ok (.invokevirtual 196, 3) := by decide +kernel
theorem dX11_nextCompost_10 : decode cX11_nextCompost 10 = .ok (.invokestatic 126, 3) := by decide +kernel
theorem dX11_nextCompost_13 : decode cX11_nextCompost 13 = .ok (.ireturn, 1) := by decide +kernel
theorem dX11_nextCompostByScan_0 : decode cX11_nextCompostByScan 0 = .ok (.aload_n 0, 1) := by decide +kernel
theorem dX11_nextCompostByScan_1 : decode cX11_nextCompostByScan 1 = .ok (.getfield 10, 3) := by decide +kernel
theorem dX11_nextCompostByScan_4 : decode cX11_nextCompostByScan 4 = .ok (.getfield 109, 3) := by decide +kernel
theorem dX11_nextCompostByScan_7 : decode cX11_nextCompostByScan 7 = .ok (.invokestatic 200, 3) := by decide +kernel
theorem dX11_nextCompostByScan_10 : decode cX11_nextCompostByScan 10 = .ok (.invokestatic 126, 3) := by decide +kernel
theorem dX11_nextCompostByScan_13 : decode cX11_nextCompostByScan 13 = .ok (.ireturn, 1) := by decide +kernel
theorem dX11_pass_0 : decode cX11_pass 0 = .ok (.aload_n 0, 1) := by decide +kernel
theorem dX11_pass_1 : decode cX11_pass 1 = .ok (.bipush 9, 2) := by decide +kernel
theorem dX11_pass_3 : decode cX11_pass 3 = .ok (.iload_n 1, 1) := by decide +kernel
theorem dX11_pass_4 : decode cX11_pass 4 = .ok (.iconst 0, 1) := by decide +kernel
theorem dX11_pass_5 : decode cX11_pass 5 = .ok (.iconst 0, 1) := by decide +kernel
theorem dX11_pass_6 : decode cX11_pass 6 = .ok (.iconst 0, 1) := by decide +kernel
theorem dX11_pass_7 : decode cX11_pass 7 = .ok (.invokevirtual 78, 3) := by decide +kernel
theorem dX11_pass_10 : decode cX11_pass 10 = .ok (.ireturn, 1) := by decide +kernel
theorem dX11_day_0 : decode cX11_day 0 = .ok (.aload_n 0, 1) := by decide +kernel
theorem dX11_day_1 : decode cX11_day 1 = .ok (.getfield 10, 3) := by decide +kernel
theorem dX11_day_4 : decode cX11_day 4 = .ok (.getfield 204, 3) := by decide +kernel
theorem dX11_day_7 : decode cX11_day 7 = .ok (.ireturn, 1) := by decide +kernel
theorem dX11_received_0 : decode cX11_received 0 = .ok (.aload_n 0, 1) := by decide +kernel
theorem dX11_received_1 : decode cX11_received 1 = .ok (.getfield 10, 3) := by decide +kernel
theorem dX11_received_4 : decode cX11_received 4 = .ok (.getfield 207, 3) := by decide +kernel
theorem dX11_received_7 : decode cX11_received 7 = .ok (.ireturn, 1) := by decide +kernel
theorem dX11_stored_0 : decode cX11_stored 0 = .ok (.aload_n 0, 1) := by decide +kernel
theorem dX11_stored_1 : decode cX11_stored 1 = .ok (.getfield 10, 3) := by decide +kernel
theorem dX11_stored_4 : decode cX11_stored 4 = .ok (.getfield 109, 3) := by decide +kernel
theorem dX11_stored_7 : decode cX11_stored 7 = .ok (.invokevirtual 210, 3) := by decide +kernel
theorem dX11_stored_10 : decode cX11_stored 10 = .ok (.ireturn, 1) := by decide +kernel
theorem dX11_heaped_0 : decode cX11_heaped 0 = .ok (.aload_n 0, 1) := by decide +kernel
theorem dX11_heaped_1 : decode cX11_heaped 1 = .ok (.getfield 10, 3) := by decide +kernel
theorem dX11_heaped_4 : decode cX11_heaped 4 = .ok (.getfield 109, 3) := by decide +kernel
theorem dX11_heaped_7 : decode cX11_heaped 7 = .ok (.iconst (-1), 1) := by decide +kernel
theorem dX11_heaped_8 : decode cX11_heaped 8 = .ok (.invokevirtual 213, 3) := by decide +kernel
theorem dX11_heaped_11 : decode cX11_heaped 11 = .ok (.ireturn, 1) := by decide +kernel
theorem dX11_shipped_0 : decode cX11_shipped 0 = .ok (.aload_n 0, 1) := by decide +kernel
theorem dX11_shipped_1 : decode cX11_shipped 1 = .ok (.getfield 10, 3) := by decide +kernel
theorem dX11_shipped_4 : decode cX11_shipped 4 = .ok (.getfield 216, 3) := by decide +kernel
theorem dX11_shipped_7 : decode cX11_shipped 7 = .ok (.ireturn, 1) := by decide +kernel
theorem dX11_composted_0 : decode cX11_composted 0 = .ok (.aload_n 0, 1) := by decide +kernel
theorem dX11_composted_1 : decode cX11_composted 1 = .ok (.getfield 10, 3) := by decide +kernel
theorem dX11_composted_4 : decode cX11_composted 4 = .ok (.getfield 219, 3) := by decide +kernel
theorem dX11_composted_7 : decode cX11_composted 7 = .ok (.ireturn, 1) := by decide +kernel
theorem dX11_meanVolume_0 : decode cX11_meanVolume 0 = .ok (.aload_n 0, 1) := by decide +kernel
theorem dX11_meanVolume_1 : decode cX11_meanVolume 1 = .ok (.getfield 10, 3) := by decide +kernel
theorem dX11_meanVolume_4 : decode cX11_meanVolume 4 = .ok (.getfield 109, 3) := by decide +kernel
theorem dX11_meanVolume_7 : decode cX11_meanVolume 7 = .ok (.invokevirtual 222, 3) := by decide +kernel
theorem dX11_meanVolume_10 : decode cX11_meanVolume 10 = .ok (.istore_n 1, 1) := by decide +kernel
theorem dX11_meanVolume_11 : decode cX11_meanVolume 11 = .ok (.iload_n 1, 1) := by decide +kernel
theorem dX11_meanVolume_12 : decode cX11_meanVolume 12 = .ok (.ifCond .ne 13, 3) := by decide +kernel
theorem dX11_meanVolume_15 : decode cX11_meanVolume 15 = .ok (.new 225, 3) := by decide +kernel
theorem dX11_meanVolume_18 : decode cX11_meanVolume 18 = .ok (.dup, 1) := by decide +kernel
theorem dX11_meanVolume_19 : decode cX11_meanVolume 19 = .ok (.ldc 227, 2) := by decide +kernel
theorem dX11_meanVolume_21 : decode cX11_meanVolume 21 = .ok (.invokespecial 229, 3) := by decide +kernel
theorem dX11_meanVolume_24 : decode cX11_meanVolume 24 = .ok (.athrow, 1) := by decide +kernel
theorem dX11_meanVolume_25 : decode cX11_meanVolume 25 = .ok (.aload_n 0, 1) := by decide +kernel
theorem dX11_meanVolume_26 : decode cX11_meanVolume 26 = .ok (.getfield 10, 3) := by decide +kernel
theorem dX11_meanVolume_29 : decode cX11_meanVolume 29 = .ok (.getfield 109, 3) := by decide +kernel
theorem dX11_meanVolume_32 : decode cX11_meanVolume 32 = .ok (.invokevirtual 210, 3) := by decide +kernel
theorem dX11_meanVolume_35 : decode cX11_meanVolume 35 = .ok (.i2d, 1) := by decide +kernel
theorem dX11_meanVolume_36 : decode cX11_meanVolume 36 = .ok (.iload_n 1, 1) := by decide +kernel
theorem dX11_meanVolume_37 : decode cX11_meanVolume 37 = .ok (.i2d, 1) := by decide +kernel
theorem dX11_meanVolume_38 : decode cX11_meanVolume 38 = .ok (.ddiv, 1) := by decide +kernel
theorem dX11_meanVolume_39 : decode cX11_meanVolume 39 = .ok (.dreturn, 1) := by decide +kernel
theorem dX11_expiredShare_0 : decode cX11_expiredShare 0 = .ok (.aload_n 0, 1) := by decide +kernel
theorem dX11_expiredShare_1 : decode cX11_expiredShare 1 = .ok (.getfield 10, 3) := by decide +kernel
theorem dX11_expiredShare_4 : decode cX11_expiredShare 4 = .ok (.getfield 109, 3) := by decide +kernel
theorem dX11_expiredShare_7 : decode cX11_expiredShare 7 = .ok (.invokevirtual 222, 3) := by decide +kernel
theorem dX11_expiredShare_10 : decode cX11_expiredShare 10 = .ok (.istore_n 1, 1) := by decide +kernel
theorem dX11_expiredShare_11 : decode cX11_expiredShare 11 = .ok (.iload_n 1, 1) := by decide +kernel
theorem dX11_expiredShare_12 : decode cX11_expiredShare 12 = .ok (.ifCond .ne 13, 3) := by decide +kernel
theorem dX11_expiredShare_15 : decode cX11_expiredShare 15 = .ok (.new 225, 3) := by decide +kernel
theorem dX11_expiredShare_18 : decode cX11_expiredShare 18 = .ok (.dup, 1) := by decide +kernel
theorem dX11_expiredShare_19 : decode cX11_expiredShare 19 = .ok (.ldc 227, 2) := by decide +kernel
theorem dX11_expiredShare_21 : decode cX11_expiredShare 21 = .ok (.invokespecial 229, 3) := by decide +kernel
theorem dX11_expiredShare_24 : decode cX11_expiredShare 24 = .ok (.athrow, 1) := by decide +kernel
theorem dX11_expiredShare_25 : decode cX11_expiredShare 25 = .ok (.aload_n 0, 1) := by decide +kernel
theorem dX11_expiredShare_26 : decode cX11_expiredShare 26 = .ok (.getfield 10, 3) := by decide +kernel
theorem dX11_expiredShare_29 : decode cX11_expiredShare 29 = .ok (.invokevirtual 232, 3) := by decide +kernel
theorem dX11_expiredShare_32 : decode cX11_expiredShare 32 = .ok (.i2f, 1) := by decide +kernel
theorem dX11_expiredShare_33 : decode cX11_expiredShare 33 = .ok (.iload_n 1, 1) := by decide +kernel
theorem dX11_expiredShare_34 : decode cX11_expiredShare 34 = .ok (.i2f, 1) := by decide +kernel
theorem dX11_expiredShare_35 : decode cX11_expiredShare 35 = .ok (.fdiv, 1) := by decide +kernel
theorem dX11_expiredShare_36 : decode cX11_expiredShare 36 = .ok (.freturn, 1) := by decide +kernel
theorem dX11_feed_0 : decode cX11_feed 0 = .ok (.aload_n 0, 1) := by decide +kernel
theorem dX11_feed_1 : decode cX11_feed 1 = .ok (.getfield 53, 3) := by decide +kernel
theorem dX11_feed_4 : decode cX11_feed 4 = .ok (.getfield 235, 3) := by decide +kernel
theorem dX11_feed_7 : decode cX11_feed 7 = .ok (.bipush 60, 2) := by decide +kernel
theorem dX11_feed_9 : decode cX11_feed 9 = .ok (.if_icmp .lt 13, 3) := by decide +kernel
theorem dX11_feed_12 : decode cX11_feed 12 = .ok (.new 238, 3) := by decide +kernel
theorem dX11_feed_15 : decode cX11_feed 15 = .ok (.dup, 1) := by decide +kernel
theorem dX11_feed_16 : decode cX11_feed 16 = .ok (.ldc 240, 2) := by decide +kernel
theorem dX11_feed_18 : decode cX11_feed 18 = .ok (.invokespecial 242, 3) := by decide +kernel
theorem dX11_feed_21 : decode cX11_feed 21 = .ok (.athrow, 1) := by decide +kernel
theorem dX11_feed_22 : decode cX11_feed 22 = .ok (.aload_n 0, 1) := by decide +kernel
theorem dX11_feed_23 : decode cX11_feed 23 = .ok (.getfield 53, 3) := by decide +kernel
theorem dX11_feed_26 : decode cX11_feed 26 = .ok (.iload_n 1, 1) := by decide +kernel
theorem dX11_feed_27 : decode cX11_feed 27 = .ok (.invokevirtual 243, 3) := by decide +kernel
theorem dX11_feed_30 : decode cX11_feed 30 = .ok (.aload_n 0, 1) := by decide +kernel
theorem dX11_feed_31 : decode cX11_feed 31 = .ok (.getfield 53, 3) := by decide +kernel
theorem dX11_feed_34 : decode cX11_feed 34 = .ok (.getfield 235, 3) := by decide +kernel
theorem dX11_feed_37 : decode cX11_feed 37 = .ok (.ireturn, 1) := by decide +kernel
theorem dX11_execute_0 : decode cX11_execute 0 = .ok (.aload_n 0, 1) := by decide +kernel
theorem dX11_execute_1 : decode cX11_execute 1 = .ok (.getfield 53, 3) := by decide +kernel
theorem dX11_execute_4 : decode cX11_execute 4 = .ok (.invokevirtual 247, 3) := by decide +kernel
theorem dX11_execute_7 : decode cX11_execute 7 = .ok (.istore_n 1, 1) := by decide +kernel
theorem dX11_execute_8 : decode cX11_execute 8 = .ok (.iload_n 1, 1) := by decide +kernel
theorem dX11_execute_9 : decode cX11_execute 9 = .ok (.iconst (-1), 1) := by decide +kernel
theorem dX11_execute_10 : decode cX11_execute 10 = .ok (.if_icmp .ne 20, 3) := by decide +kernel
theorem dX11_execute_13 : decode cX11_execute 13 = .ok (.aload_n 0, 1) := by decide +kernel
theorem dX11_execute_14 : decode cX11_execute 14 = .ok (.getfield 53, 3) := by decide +kernel
theorem dX11_execute_17 : decode cX11_execute 17 = .ok (.invokevirtual 250, 3) := by decide +kernel
theorem dX11_execute_20 : decode cX11_execute 20 = .ok (.new 253, 3) := by decide +kernel
theorem dX11_execute_23 : decode cX11_execute 23 = .ok (.dup, 1) := by decide +kernel
theorem dX11_execute_24 : decode cX11_execute 24 = .ok (.ldc 255, 2) := by decide +kernel
theorem dX11_execute_26 : decode cX11_execute 26 = .ok (.invokespecial 257, 3) := by decide +kernel
theorem dX11_execute_29 : decode cX11_execute 29 = .ok (.athrow, 1) := by decide +kernel
theorem dX11_execute_30 : decode cX11_execute 30 = .ok (.aload_n 0, 1) := by decide +kernel
theorem dX11_execute_31 : decode cX11_execute 31 = .ok (.iload_n 1, 1) := by decide +kernel
theorem dX11_execute_32 : decode cX11_execute 32 = .ok (.invokevirtual 258, 3) := by decide +kernel
theorem dX11_execute_35 : decode cX11_execute 35 = .ok (.istore_n 2, 1) := by decide +kernel
theorem dX11_execute_36 : decode cX11_execute 36 = .ok (.aload_n 0, 1) := by decide +kernel
theorem dX11_execute_37 : decode cX11_execute 37 = .ok (.getfield 53, 3) := by decide +kernel
theorem dX11_execute_40 : decode cX11_execute 40 = .ok (.invokevirtual 250, 3) := by decide +kernel
theorem dX11_execute_43 : decode cX11_execute 43 = .ok (.iload_n 2, 1) := by decide +kernel
theorem dX11_execute_44 : decode cX11_execute 44 = .ok (.ifCond .ne 14, 3) := by decide +kernel
theorem dX11_execute_47 : decode cX11_execute 47 = .ok (.new 261, 3) := by decide +kernel
theorem dX11_execute_50 : decode cX11_execute 50 = .ok (.dup, 1) := by decide +kernel
theorem dX11_execute_51 : decode cX11_execute 51 = .ok (.ldc_w 263, 3) := by decide +kernel
theorem dX11_execute_54 : decode cX11_execute 54 = .ok (.invokespecial 265, 3) := by decide +kernel
theorem dX11_execute_57 : decode cX11_execute 57 = .ok (.athrow, 1) := by decide +kernel
theorem dX11_execute_58 : decode cX11_execute 58 = .ok (.aload_n 0, 1) := by decide +kernel
theorem dX11_execute_59 : decode cX11_execute 59 = .ok (.getfield 25, 3) := by decide +kernel
theorem dX11_execute_62 : decode cX11_execute 62 = .ok (.aload_n 0, 1) := by decide +kernel
theorem dX11_execute_63 : decode cX11_execute 63 = .ok (.getfield 10, 3) := by decide +kernel
theorem dX11_execute_66 : decode cX11_execute 66 = .ok (.invokevirtual 266, 3) := by decide +kernel
theorem dX11_execute_69 : decode cX11_execute 69 = .ok (.aload_n 0, 1) := by decide +kernel
theorem dX11_execute_70 : decode cX11_execute 70 = .ok (.getfield 10, 3) := by decide +kernel
theorem dX11_execute_73 : decode cX11_execute 73 = .ok (.aload_n 0, 1) := by decide +kernel
theorem dX11_execute_74 : decode cX11_execute 74 = .ok (.getfield 16, 3) := by decide +kernel
theorem dX11_execute_77 : decode cX11_execute 77 = .ok (.invokevirtual 270, 3) := by decide +kernel
theorem dX11_execute_80 : decode cX11_execute 80 = .ok (.iload_n 1, 1) := by decide +kernel
theorem dX11_execute_81 : decode cX11_execute 81 = .ok (.ireturn, 1) := by decide +kernel
theorem dX11_writeLot_0 : decode cX11_writeLot 0 = .ok (.aload_n 0, 1) := by decide +kernel
theorem dX11_writeLot_1 : decode cX11_writeLot 1 = .ok (.iload_n 1, 1) := by decide +kernel
theorem dX11_writeLot_2 : decode cX11_writeLot 2 = .ok (.invokevirtual 143, 3) := by decide +kernel
theorem dX11_writeLot_5 : decode cX11_writeLot 5 = .ok (.aload_n 0, 1) := by decide +kernel
theorem dX11_writeLot_6 : decode cX11_writeLot 6 = .ok (.getfield 60, 3) := by decide +kernel
theorem dX11_writeLot_9 : decode cX11_writeLot 9 = .ok (.iconst 0, 1) := by decide +kernel
theorem dX11_writeLot_10 : decode cX11_writeLot 10 = .ok (.invokevirtual 276, 3) := by decide +kernel
theorem dX11_writeLot_13 : decode cX11_writeLot 13 = .ok (.aload_n 0, 1) := by decide +kernel
theorem dX11_writeLot_14 : decode cX11_writeLot 14 = .ok (.getfield 60, 3) := by decide +kernel
theorem dX11_writeLot_17 : decode cX11_writeLot 17 = .ok (.iload_n 1, 1) := by decide +kernel
theorem dX11_writeLot_18 : decode cX11_writeLot 18 = .ok (.invokevirtual 279, 3) := by decide +kernel
theorem dX11_writeLot_21 : decode cX11_writeLot 21 = .ok (.pop, 1) := by decide +kernel
theorem dX11_writeLot_22 : decode cX11_writeLot 22 = .ok (.aload_n 0, 1) := by decide +kernel
theorem dX11_writeLot_23 : decode cX11_writeLot 23 = .ok (.getfield 60, 3) := by decide +kernel
theorem dX11_writeLot_26 : decode cX11_writeLot 26 = .ok (.bipush 107, 2) := by decide +kernel
theorem dX11_writeLot_28 : decode cX11_writeLot 28 = .ok (.invokevirtual 282, 3) := by decide +kernel
theorem dX11_writeLot_31 : decode cX11_writeLot 31 = .ok (.aload_n 0, 1) := by decide +kernel
theorem dX11_writeLot_32 : decode cX11_writeLot 32 = .ok (.getfield 10, 3) := by decide +kernel
theorem dX11_writeLot_35 : decode cX11_writeLot 35 = .ok (.getfield 109, 3) := by decide +kernel
theorem dX11_writeLot_38 : decode cX11_writeLot 38 = .ok (.getfield 285, 3) := by decide +kernel
theorem dX11_writeLot_41 : decode cX11_writeLot 41 = .ok (.iload_n 1, 1) := by decide +kernel
theorem dX11_writeLot_42 : decode cX11_writeLot 42 = .ok (.invokevirtual 99, 3) := by decide +kernel
theorem dX11_writeLot_45 : decode cX11_writeLot 45 = .ok (.invokevirtual 279, 3) := by decide +kernel
theorem dX11_writeLot_48 : decode cX11_writeLot 48 = .ok (.pop, 1) := by decide +kernel
theorem dX11_writeLot_49 : decode cX11_writeLot 49 = .ok (.aload_n 0, 1) := by decide +kernel
theorem dX11_writeLot_50 : decode cX11_writeLot 50 = .ok (.getfield 60, 3) := by decide +kernel
theorem dX11_writeLot_53 : decode cX11_writeLot 53 = .ok (.bipush 122, 2) := by decide +kernel
theorem dX11_writeLot_55 : decode cX11_writeLot 55 = .ok (.invokevirtual 282, 3) := by decide +kernel
theorem dX11_writeLot_58 : decode cX11_writeLot 58 = .ok (.aload_n 0, 1) := by decide +kernel
theorem dX11_writeLot_59 : decode cX11_writeLot 59 = .ok (.getfield 10, 3) := by decide +kernel
theorem dX11_writeLot_62 : decode cX11_writeLot 62 = .ok (.getfield 109, 3) := by decide +kernel
theorem dX11_writeLot_65 : decode cX11_writeLot 65 = .ok (.getfield 288, 3) := by decide +kernel
theorem dX11_writeLot_68 : decode cX11_writeLot 68 = .ok (.iload_n 1, 1) := by decide +kernel
theorem dX11_writeLot_69 : decode cX11_writeLot 69 = .ok (.invokevirtual 99, 3) := by decide +kernel
theorem dX11_writeLot_72 : decode cX11_writeLot 72 = .ok (.invokevirtual 279, 3) := by decide +kernel
theorem dX11_writeLot_75 : decode cX11_writeLot 75 = .ok (.pop, 1) := by decide +kernel
theorem dX11_writeLot_76 : decode cX11_writeLot 76 = .ok (.aload_n 0, 1) := by decide +kernel
theorem dX11_writeLot_77 : decode cX11_writeLot 77 = .ok (.getfield 60, 3) := by decide +kernel
theorem dX11_writeLot_80 : decode cX11_writeLot 80 = .ok (.bipush 118, 2) := by decide +kernel
theorem dX11_writeLot_82 : decode cX11_writeLot 82 = .ok (.invokevirtual 282, 3) := by decide +kernel
theorem dX11_writeLot_85 : decode cX11_writeLot 85 = .ok (.aload_n 0, 1) := by decide +kernel
theorem dX11_writeLot_86 : decode cX11_writeLot 86 = .ok (.getfield 10, 3) := by decide +kernel
theorem dX11_writeLot_89 : decode cX11_writeLot 89 = .ok (.getfield 109, 3) := by decide +kernel
theorem dX11_writeLot_92 : decode cX11_writeLot 92 = .ok (.getfield 153, 3) := by decide +kernel
theorem dX11_writeLot_95 : decode cX11_writeLot 95 = .ok (.iload_n 1, 1) := by decide +kernel
theorem dX11_writeLot_96 : decode cX11_writeLot 96 = .ok (.invokevirtual 99, 3) := by decide +kernel
theorem dX11_writeLot_99 : decode cX11_writeLot 99 = .ok (.invokevirtual 279, 3) := by decide +kernel
theorem dX11_writeLot_102 : decode cX11_writeLot 102 = .ok (.pop, 1) := by decide +kernel
theorem dX11_writeLot_103 : decode cX11_writeLot 103 = .ok (.aload_n 0, 1) := by decide +kernel
theorem dX11_writeLot_104 : decode cX11_writeLot 104 = .ok (.getfield 60, 3) := by decide +kernel
theorem dX11_writeLot_107 : decode cX11_writeLot 107 = .ok (.bipush 101, 2) := by decide +kernel
theorem dX11_writeLot_109 : decode cX11_writeLot 109 = .ok (.invokevirtual 282, 3) := by decide +kernel
theorem dX11_writeLot_112 : decode cX11_writeLot 112 = .ok (.aload_n 0, 1) := by decide +kernel
theorem dX11_writeLot_113 : decode cX11_writeLot 113 = .ok (.getfield 10, 3) := by decide +kernel
theorem dX11_writeLot_116 : decode cX11_writeLot 116 = .ok (.getfield 109, 3) := by decide +kernel
theorem dX11_writeLot_119 : decode cX11_writeLot 119 = .ok (.getfield 156, 3) := by decide +kernel
theorem dX11_writeLot_122 : decode cX11_writeLot 122 = .ok (.iload_n 1, 1) := by decide +kernel
theorem dX11_writeLot_123 : decode cX11_writeLot 123 = .ok (.invokevirtual 99, 3) := by decide +kernel
theorem dX11_writeLot_126 : decode cX11_writeLot 126 = .ok (.invokevirtual 279, 3) := by decide +kernel
theorem dX11_writeLot_129 : decode cX11_writeLot 129 = .ok (.pop, 1) := by decide +kernel
theorem dX11_writeLot_130 : decode cX11_writeLot 130 = .ok (.aload_n 0, 1) := by decide +kernel
theorem dX11_writeLot_131 : decode cX11_writeLot 131 = .ok (.getfield 10, 3) := by decide +kernel
theorem dX11_writeLot_134 : decode cX11_writeLot 134 = .ok (.iload_n 1, 1) := by decide +kernel
theorem dX11_writeLot_135 : decode cX11_writeLot 135 = .ok (.invokevirtual 159, 3) := by decide +kernel
theorem dX11_writeLot_138 : decode cX11_writeLot 138 = .ok (.ifCond .eq 13, 3) := by decide +kernel
theorem dX11_writeLot_141 : decode cX11_writeLot 141 = .ok (.aload_n 0, 1) := by decide +kernel
theorem dX11_writeLot_142 : decode cX11_writeLot 142 = .ok (.getfield 60, 3) := by decide +kernel
theorem dX11_writeLot_145 : decode cX11_writeLot 145 = .ok (.bipush 33, 2) := by decide +kernel
theorem dX11_writeLot_147 : decode cX11_writeLot 147 = .ok (.invokevirtual 282, 3) := by decide +kernel
theorem dX11_writeLot_150 : decode cX11_writeLot 150 = .ok (.pop, 1) := by decide +kernel
theorem dX11_writeLot_151 : decode cX11_writeLot 151 = .ok (.aload_n 0, 1) := by decide +kernel
theorem dX11_writeLot_152 : decode cX11_writeLot 152 = .ok (.aload_n 0, 1) := by decide +kernel
theorem dX11_writeLot_153 : decode cX11_writeLot 153 = .ok (.getfield 10, 3) := by decide +kernel
theorem dX11_writeLot_156 : decode cX11_writeLot 156 = .ok (.getfield 109, 3) := by decide +kernel
theorem dX11_writeLot_159 : decode cX11_writeLot 159 = .ok (.getfield 150, 3) := by decide +kernel
theorem dX11_writeLot_162 : decode cX11_writeLot 162 = .ok (.iload_n 1, 1) := by decide +kernel
theorem dX11_writeLot_163 : decode cX11_writeLot 163 = .ok (.invokevirtual 99, 3) := by decide +kernel
theorem dX11_writeLot_166 : decode cX11_writeLot 166 = .ok (.invokevirtual 289, 3) := by decide +kernel
theorem dX11_writeLot_169 : decode cX11_writeLot 169 = .ok (.aload_n 0, 1) := by decide +kernel
theorem dX11_writeLot_170 : decode cX11_writeLot 170 = .ok (.aload_n 0, 1) := by decide +kernel
theorem dX11_writeLot_171 : decode cX11_writeLot 171 = .ok (.getfield 10, 3) := by decide +kernel
theorem dX11_writeLot_174 : decode cX11_writeLot 174 = .ok (.getfield 109, 3) := by decide +kernel
theorem dX11_writeLot_177 : decode cX11_writeLot 177 = .ok (.getfield 292, 3) := by decide +kernel
theorem dX11_writeLot_180 : decode cX11_writeLot 180 = .ok (.iload_n 1, 1) := by decide +kernel
theorem dX11_writeLot_181 : decode cX11_writeLot 181 = .ok (.invokevirtual 99, 3) := by decide +kernel
theorem dX11_writeLot_184 : decode cX11_writeLot 184 = .ok (.invokevirtual 295, 3) := by decide +kernel
theorem dX11_writeLot_187 : decode cX11_writeLot 187 = .ok (.aload_n 0, 1) := by decide +kernel
theorem dX11_writeLot_188 : decode cX11_writeLot 188 = .ok (.aload_n 0, 1) := by decide +kernel
theorem dX11_writeLot_189 : decode cX11_writeLot 189 = .ok (.getfield 10, 3) := by decide +kernel
theorem dX11_writeLot_192 : decode cX11_writeLot 192 = .ok (.getfield 109, 3) := by decide +kernel
theorem dX11_writeLot_195 : decode cX11_writeLot 195 = .ok (.getfield 298, 3) := by decide +kernel
theorem dX11_writeLot_198 : decode cX11_writeLot 198 = .ok (.iload_n 1, 1) := by decide +kernel
theorem dX11_writeLot_199 : decode cX11_writeLot 199 = .ok (.invokevirtual 99, 3) := by decide +kernel
theorem dX11_writeLot_202 : decode cX11_writeLot 202 = .ok (.invokevirtual 295, 3) := by decide +kernel
theorem dX11_writeLot_205 : decode cX11_writeLot 205 = .ok (.aload_n 0, 1) := by decide +kernel
theorem dX11_writeLot_206 : decode cX11_writeLot 206 = .ok (.getfield 60, 3) := by decide +kernel
theorem dX11_writeLot_209 : decode cX11_writeLot 209 = .ok (.invokevirtual 301, 3) := by decide +kernel
theorem dX11_writeLot_212 : decode cX11_writeLot 212 = .ok (.ireturn, 1) := by decide +kernel
theorem dX11_denial_0 : decode cX11_denial 0 = .ok (.aload_n 0, 1) := by decide +kernel
theorem dX11_denial_1 : decode cX11_denial 1 = .ok (.getfield 68, 3) := by decide +kernel
theorem dX11_denial_4 : decode cX11_denial 4 = .ok (.invokestatic 126, 3) := by decide +kernel
theorem dX11_denial_7 : decode cX11_denial 7 = .ok (.ireturn, 1) := by decide +kernel
theorem dX11_denialCause_0 : decode cX11_denialCause 0 = .ok (.aload_n 0, 1) := by decide +kernel
theorem dX11_denialCause_1 : decode cX11_denialCause 1 = .ok (.getfield 75, 3) := by decide +kernel
theorem dX11_denialCause_4 : decode cX11_denialCause 4 = .ok (.invokestatic 126, 3) := by decide +kernel
theorem dX11_denialCause_7 : decode cX11_denialCause 7 = .ok (.ireturn, 1) := by decide +kernel
theorem dX11_undo_0 : decode cX11_undo 0 = .ok (.aload_n 0, 1) := by decide +kernel
theorem dX11_undo_1 : decode cX11_undo 1 = .ok (.getfield 25, 3) := by decide +kernel
theorem dX11_undo_4 : decode cX11_undo 4 = .ok (.getfield 312, 3) := by decide +kernel
theorem dX11_undo_7 : decode cX11_undo 7 = .ok (.ifCond .ne 14, 3) := by decide +kernel
theorem dX11_undo_10 : decode cX11_undo 10 = .ok (.new 238, 3) := by decide +kernel
theorem dX11_undo_13 : decode cX11_undo 13 = .ok (.dup, 1) := by decide +kernel
theorem dX11_undo_14 : decode cX11_undo 14 = .ok (.ldc_w 313, 3) := by decide +kernel
theorem dX11_undo_17 : decode cX11_undo 17 = .ok (.invokespecial 242, 3) := by decide +kernel
theorem dX11_undo_20 : decode cX11_undo 20 = .ok (.athrow, 1) := by decide +kernel
theorem dX11_undo_21 : decode cX11_undo 21 = .ok (.aload_n 0, 1) := by decide +kernel
theorem dX11_undo_22 : decode cX11_undo 22 = .ok (.getfield 25, 3) := by decide +kernel
theorem dX11_undo_25 : decode cX11_undo 25 = .ok (.aload_n 0, 1) := by decide +kernel
theorem dX11_undo_26 : decode cX11_undo 26 = .ok (.getfield 10, 3) := by decide +kernel
theorem dX11_undo_29 : decode cX11_undo 29 = .ok (.invokevirtual 315, 3) := by decide +kernel
theorem dX11_undo_32 : decode cX11_undo 32 = .ok (.aload_n 0, 1) := by decide +kernel
theorem dX11_undo_33 : decode cX11_undo 33 = .ok (.getfield 25, 3) := by decide +kernel
theorem dX11_undo_36 : decode cX11_undo 36 = .ok (.getfield 312, 3) := by decide +kernel
theorem dX11_undo_39 : decode cX11_undo 39 = .ok (.ireturn, 1) := by decide +kernel
theorem dX11_undoCount_0 : decode cX11_undoCount 0 = .ok (.aload_n 0, 1) := by decide +kernel
theorem dX11_undoCount_1 : decode cX11_undoCount 1 = .ok (.getfield 25, 3) := by decide +kernel
theorem dX11_undoCount_4 : decode cX11_undoCount 4 = .ok (.getfield 312, 3) := by decide +kernel
theorem dX11_undoCount_7 : decode cX11_undoCount 7 = .ok (.ireturn, 1) := by decide +kernel
theorem dX11_saveSnapshot_0 : decode cX11_saveSnapshot 0 = .ok (.aload_n 0, 1) := by decide +kernel
theorem dX11_saveSnapshot_1 : decode cX11_saveSnapshot 1 = .ok (.getfield 19, 3) := by decide +kernel
theorem dX11_saveSnapshot_4 : decode cX11_saveSnapshot 4 = .ok (.aload_n 0, 1) := by decide +kernel
theorem dX11_saveSnapshot_5 : decode cX11_saveSnapshot 5 = .ok (.getfield 10, 3) := by decide +kernel
theorem dX11_saveSnapshot_8 : decode cX11_saveSnapshot 8 = .ok (.invokevirtual 270, 3) := by decide +kernel
theorem dX11_saveSnapshot_11 : decode cX11_saveSnapshot 11 = .ok (.aload_n 0, 1) := by decide +kernel
theorem dX11_saveSnapshot_12 : decode cX11_saveSnapshot 12 = .ok (.iconst 1, 1) := by decide +kernel
theorem dX11_saveSnapshot_13 : decode cX11_saveSnapshot 13 = .ok (.putfield 64, 3) := by decide +kernel
theorem dX11_saveSnapshot_16 : decode cX11_saveSnapshot 16 = .ok (.aload_n 0, 1) := by decide +kernel
theorem dX11_saveSnapshot_17 : decode cX11_saveSnapshot 17 = .ok (.getfield 10, 3) := by decide +kernel
theorem dX11_saveSnapshot_20 : decode cX11_saveSnapshot 20 = .ok (.getfield 109, 3) := by decide +kernel
theorem dX11_saveSnapshot_23 : decode cX11_saveSnapshot 23 = .ok (.getfield 142, 3) := by decide +kernel
theorem dX11_saveSnapshot_26 : decode cX11_saveSnapshot 26 = .ok (.ireturn, 1) := by decide +kernel
theorem dX11_restoreSnapshot_0 : decode cX11_restoreSnapshot 0 = .ok (.aload_n 0, 1) := by decide +kernel
theorem dX11_restoreSnapshot_1 : decode cX11_restoreSnapshot 1 = .ok (.getfield 64, 3) := by decide +kernel
theorem dX11_restoreSnapshot_4 : decode cX11_restoreSnapshot 4 = .ok (.ifCond .ne 14, 3) := by decide +kernel
theorem dX11_restoreSnapshot_7 : decode cX11_restoreSnapshot 7 = .ok (.new 238, 3) := by decide +kernel
theorem dX11_restoreSnapshot_10 : decode cX11_restoreSnapshot 10 = .ok (.dup, 1) := by decide +kernel
theorem dX11_restoreSnapshot_11 : decode cX11_restoreSnapshot 11 = .ok (.ldc_w 318, 3) := by decide +kernel
theorem dX11_restoreSnapshot_14 : decode cX11_restoreSnapshot 14 = .ok (.invokespecial 242, 3) := by decide +kernel
theorem dX11_restoreSnapshot_17 : decode cX11_restoreSnapshot 17 = .ok (.athrow, 1) := by decide +kernel
theorem dX11_restoreSnapshot_18 : decode cX11_restoreSnapshot 18 = .ok (.aload_n 0, 1) := by decide +kernel
theorem dX11_restoreSnapshot_19 : decode cX11_restoreSnapshot 19 = .ok (.getfield 10, 3) := by decide +kernel
theorem dX11_restoreSnapshot_22 : decode cX11_restoreSnapshot 22 = .ok (.aload_n 0, 1) := by decide +kernel
theorem dX11_restoreSnapshot_23 : decode cX11_restoreSnapshot 23 = .ok (.getfield 19, 3) := by decide +kernel
theorem dX11_restoreSnapshot_26 : decode cX11_restoreSnapshot 26 = .ok (.invokevirtual 270, 3) := by decide +kernel
theorem dX11_restoreSnapshot_29 : decode cX11_restoreSnapshot 29 = .ok (.aload_n 0, 1) := by decide +kernel
theorem dX11_restoreSnapshot_30 : decode cX11_restoreSnapshot 30 = .ok (.getfield 25, 3) := by decide +kernel
theorem dX11_restoreSnapshot_33 : decode cX11_restoreSnapshot 33 = .ok (.invokevirtual 320, 3) := by decide +kernel
theorem dX11_restoreSnapshot_36 : decode cX11_restoreSnapshot 36 = .ok (.aload_n 0, 1) := by decide +kernel
theorem dX11_restoreSnapshot_37 : decode cX11_restoreSnapshot 37 = .ok (.getfield 10, 3) := by decide +kernel
theorem dX11_restoreSnapshot_40 : decode cX11_restoreSnapshot 40 = .ok (.getfield 109, 3) := by decide +kernel
theorem dX11_restoreSnapshot_43 : decode cX11_restoreSnapshot 43 = .ok (.getfield 142, 3) := by decide +kernel
theorem dX11_restoreSnapshot_46 : decode cX11_restoreSnapshot 46 = .ok (.ireturn, 1) := by decide +kernel
theorem dX11_change_0 : decode cX11_change 0 = .ok (.aload_n 0, 1) := by decide +kernel
theorem dX11_change_1 : decode cX11_change 1 = .ok (.getfield 32, 3) := by decide +kernel
theorem dX11_change_4 : decode cX11_change 4 = .ok (.aload_n 0, 1) := by decide +kernel
theorem dX11_change_5 : decode cX11_change 5 = .ok (.getfield 10, 3) := by decide +kernel
theorem dX11_change_8 : decode cX11_change 8 = .ok (.iload_n 1, 1) := by decide +kernel
theorem dX11_change_9 : decode cX11_change 9 = .ok (.iload_n 2, 1) := by decide +kernel
theorem dX11_change_10 : decode cX11_change 10 = .ok (.iload_n 3, 1) := by decide +kernel
theorem dX11_change_11 : decode cX11_change 11 = .ok (.iload 4, 2) := by decide +kernel
theorem dX11_change_13 : decode cX11_change 13 = .ok (.iload 5, 2) := by decide +kernel
theorem dX11_change_15 : decode cX11_change 15 = .ok (.invokevirtual 323, 3) := by decide +kernel
theorem dX11_change_18 : decode cX11_change 18 = .ok (.istore 6, 2) := by decide +kernel
theorem dX11_change_20 : decode cX11_change 20 = .ok (.iload 6, 2) := by decide +kernel
theorem dX11_change_22 : decode cX11_change 22 = .ok (.ifCond .eq 9, 3) := by decide +kernel
theorem dX11_change_25 : decode cX11_change 25 = .ok (.aload_n 0, 1) := by decide +kernel
theorem dX11_change_26 : decode cX11_change 26 = .ok (.iload 6, 2) := by decide +kernel
theorem dX11_change_28 : decode cX11_change 28 = .ok (.invokevirtual 327, 3) := by decide +kernel
theorem dX11_change_31 : decode cX11_change 31 = .ok (.aload_n 0, 1) := by decide +kernel
theorem dX11_change_32 : decode cX11_change 32 = .ok (.getfield 25, 3) := by decide +kernel
theorem dX11_change_35 : decode cX11_change 35 = .ok (.aload_n 0, 1) := by decide +kernel
theorem dX11_change_36 : decode cX11_change 36 = .ok (.getfield 10, 3) := by decide +kernel
theorem dX11_change_39 : decode cX11_change 39 = .ok (.invokevirtual 266, 3) := by decide +kernel
theorem dX11_change_42 : decode cX11_change 42 = .ok (.aload_n 0, 1) := by decide +kernel
theorem dX11_change_43 : decode cX11_change 43 = .ok (.getfield 10, 3) := by decide +kernel
theorem dX11_change_46 : decode cX11_change 46 = .ok (.iload_n 1, 1) := by decide +kernel
theorem dX11_change_47 : decode cX11_change 47 = .ok (.iload_n 2, 1) := by decide +kernel
theorem dX11_change_48 : decode cX11_change 48 = .ok (.iload_n 3, 1) := by decide +kernel
theorem dX11_change_49 : decode cX11_change 49 = .ok (.iload 4, 2) := by decide +kernel
theorem dX11_change_51 : decode cX11_change 51 = .ok (.iload 5, 2) := by decide +kernel
theorem dX11_change_53 : decode cX11_change 53 = .ok (.invokestatic 330, 3) := by decide +kernel
theorem dX11_change_56 : decode cX11_change 56 = .ok (.ireturn, 1) := by decide +kernel
theorem dX11_refuse_0 : decode cX11_refuse 0 = .ok (.iload_n 1, 1) := by decide +kernel
theorem dX11_refuse_1 : decode cX11_refuse 1 = .ok (.iconst (-1), 1) := by decide +kernel
theorem dX11_refuse_2 : decode cX11_refuse 2 = .ok (.if_icmp .ne 14, 3) := by decide +kernel
theorem dX11_refuse_5 : decode cX11_refuse 5 = .ok (.new 335, 3) := by decide +kernel
theorem dX11_refuse_8 : decode cX11_refuse 8 = .ok (.dup, 1) := by decide +kernel
theorem dX11_refuse_9 : decode cX11_refuse 9 = .ok (.ldc_w 337, 3) := by decide +kernel
theorem dX11_refuse_12 : decode cX11_refuse 12 = .ok (.invokespecial 339, 3) := by decide +kernel
theorem dX11_refuse_15 : decode cX11_refuse 15 = .ok (.athrow, 1) := by decide +kernel
theorem dX11_refuse_16 : decode cX11_refuse 16 = .ok (.iload_n 1, 1) := by decide +kernel
theorem dX11_refuse_17 : decode cX11_refuse 17 = .ok (.bipush (-2), 2) := by decide +kernel
theorem dX11_refuse_19 : decode cX11_refuse 19 = .ok (.if_icmp .ne 14, 3) := by decide +kernel
theorem dX11_refuse_22 : decode cX11_refuse 22 = .ok (.new 303, 3) := by decide +kernel
theorem dX11_refuse_25 : decode cX11_refuse 25 = .ok (.dup, 1) := by decide +kernel
theorem dX11_refuse_26 : decode cX11_refuse 26 = .ok (.ldc_w 340, 3) := by decide +kernel
theorem dX11_refuse_29 : decode cX11_refuse 29 = .ok (.invokespecial 307, 3) := by decide +kernel
theorem dX11_refuse_32 : decode cX11_refuse 32 = .ok (.athrow, 1) := by decide +kernel
theorem dX11_refuse_33 : decode cX11_refuse 33 = .ok (.iload_n 1, 1) := by decide +kernel
theorem dX11_refuse_34 : decode cX11_refuse 34 = .ok (.bipush (-3), 2) := by decide +kernel
theorem dX11_refuse_36 : decode cX11_refuse 36 = .ok (.if_icmp .ne 14, 3) := by decide +kernel
theorem dX11_refuse_39 : decode cX11_refuse 39 = .ok (.new 253, 3) := by decide +kernel
theorem dX11_refuse_42 : decode cX11_refuse 42 = .ok (.dup, 1) := by decide +kernel
theorem dX11_refuse_43 : decode cX11_refuse 43 = .ok (.ldc_w 342, 3) := by decide +kernel
theorem dX11_refuse_46 : decode cX11_refuse 46 = .ok (.invokespecial 257, 3) := by decide +kernel
theorem dX11_refuse_49 : decode cX11_refuse 49 = .ok (.athrow, 1) := by decide +kernel
theorem dX11_refuse_50 : decode cX11_refuse 50 = .ok (.aload_n 0, 1) := by decide +kernel
theorem dX11_refuse_51 : decode cX11_refuse 51 = .ok (.iload_n 1, 1) := by decide +kernel
theorem dX11_refuse_52 : decode cX11_refuse 52 = .ok (.aload_n 0, 1) := by decide +kernel
theorem dX11_refuse_53 : decode cX11_refuse 53 = .ok (.getfield 32, 3) := by decide +kernel
theorem dX11_refuse_56 : decode cX11_refuse 56 = .ok (.getfield 344, 3) := by decide +kernel
theorem dX11_refuse_59 : decode cX11_refuse 59 = .ok (.iconst (-1), 1) := by decide +kernel
theorem dX11_refuse_60 : decode cX11_refuse 60 = .ok (.invokevirtual 347, 3) := by decide +kernel
theorem dX11_refuse_63 : decode cX11_refuse 63 = .ok (.new 261, 3) := by decide +kernel
theorem dX11_refuse_66 : decode cX11_refuse 66 = .ok (.dup, 1) := by decide +kernel
theorem dX11_refuse_67 : decode cX11_refuse 67 = .ok (.ldc_w 350, 3) := by decide +kernel
theorem dX11_refuse_70 : decode cX11_refuse 70 = .ok (.invokespecial 265, 3) := by decide +kernel
theorem dX11_refuse_73 : decode cX11_refuse 73 = .ok (.athrow, 1) := by decide +kernel
theorem dX11_keepDenial_0 : decode cX11_keepDenial 0 = .ok (.aload_n 0, 1) := by decide +kernel
theorem dX11_keepDenial_1 : decode cX11_keepDenial 1 = .ok (.iload_n 1, 1) := by decide +kernel
theorem dX11_keepDenial_2 : decode cX11_keepDenial 2 = .ok (.putfield 68, 3) := by decide +kernel
theorem dX11_keepDenial_5 : decode cX11_keepDenial 5 = .ok (.aload_n 0, 1) := by decide +kernel
theorem dX11_keepDenial_6 : decode cX11_keepDenial 6 = .ok (.iload_n 2, 1) := by decide +kernel
theorem dX11_keepDenial_7 : decode cX11_keepDenial 7 = .ok (.putfield 72, 3) := by decide +kernel
theorem dX11_keepDenial_10 : decode cX11_keepDenial 10 = .ok (.aload_n 0, 1) := by decide +kernel
theorem dX11_keepDenial_11 : decode cX11_keepDenial 11 = .ok (.iload_n 3, 1) := by decide +kernel
theorem dX11_keepDenial_12 : decode cX11_keepDenial 12 = .ok (.putfield 75, 3) := by decide +kernel
theorem dX11_keepDenial_15 : decode cX11_keepDenial 15 = .ok (.return_, 1) := by decide +kernel
theorem dX11_runOnDraft_0 : decode cX11_runOnDraft 0 = .ok (.aload_n 0, 1) := by decide +kernel
theorem dX11_runOnDraft_1 : decode cX11_runOnDraft 1 = .ok (.getfield 16, 3) := by decide +kernel
theorem dX11_runOnDraft_4 : decode cX11_runOnDraft 4 = .ok (.aload_n 0, 1) := by decide +kernel
theorem dX11_runOnDraft_5 : decode cX11_runOnDraft 5 = .ok (.getfield 10, 3) := by decide +kernel
theorem dX11_runOnDraft_8 : decode cX11_runOnDraft 8 = .ok (.invokevirtual 270, 3) := by decide +kernel
theorem dX11_runOnDraft_11 : decode cX11_runOnDraft 11 = .ok (.iconst 0, 1) := by decide +kernel
theorem dX11_runOnDraft_12 : decode cX11_runOnDraft 12 = .ok (.istore_n 2, 1) := by decide +kernel
theorem dX11_runOnDraft_13 : decode cX11_runOnDraft 13 = .ok (.iconst 0, 1) := by decide +kernel
theorem dX11_runOnDraft_14 : decode cX11_runOnDraft 14 = .ok (.istore_n 3, 1) := by decide +kernel
theorem dX11_runOnDraft_15 : decode cX11_runOnDraft 15 = .ok (.iload_n 3, 1) := by decide +kernel
theorem dX11_runOnDraft_16 : decode cX11_runOnDraft 16 = .ok (.iload_n 1, 1) := by decide +kernel
theorem dX11_runOnDraft_17 : decode cX11_runOnDraft 17 = .ok (.if_icmp .ge 146, 3) := by decide +kernel
theorem dX11_runOnDraft_20 : decode cX11_runOnDraft 20 = .ok (.aload_n 0, 1) := by decide +kernel
theorem dX11_runOnDraft_21 : decode cX11_runOnDraft 21 = .ok (.getfield 53, 3) := by decide +kernel
theorem dX11_runOnDraft_24 : decode cX11_runOnDraft 24 = .ok (.iload_n 2, 1) := by decide +kernel
theorem dX11_runOnDraft_25 : decode cX11_runOnDraft 25 = .ok (.invokevirtual 352, 3) := by decide +kernel
theorem dX11_runOnDraft_28 : decode cX11_runOnDraft 28 = .ok (.pop, 1) := by decide +kernel
theorem dX11_runOnDraft_29 : decode cX11_runOnDraft 29 = .ok (.aload_n 0, 1) := by decide +kernel
theorem dX11_runOnDraft_30 : decode cX11_runOnDraft 30 = .ok (.getfield 53, 3) := by decide +kernel
theorem dX11_runOnDraft_33 : decode cX11_runOnDraft 33 = .ok (.getfield 355, 3) := by decide +kernel
theorem dX11_runOnDraft_36 : decode cX11_runOnDraft 36 = .ok (.astore 4, 2) := by decide +kernel
theorem dX11_runOnDraft_38 : decode cX11_runOnDraft 38 = .ok (.aload_n 0, 1) := by decide +kernel
theorem dX11_runOnDraft_39 : decode cX11_runOnDraft 39 = .ok (.getfield 32, 3) := by decide +kernel
theorem dX11_runOnDraft_42 : decode cX11_runOnDraft 42 = .ok (.aload_n 0, 1) := by decide +kernel
theorem dX11_runOnDraft_43 : decode cX11_runOnDraft 43 = .ok (.getfield 16, 3) := by decide +kernel
theorem dX11_runOnDraft_46 : decode cX11_runOnDraft 46 = .ok (.aload_n 0, 1) := by decide +kernel
theorem dX11_runOnDraft_47 : decode cX11_runOnDraft 47 = .ok (.getfield 53, 3) := by decide +kernel
theorem dX11_runOnDraft_50 : decode cX11_runOnDraft 50 = .ok (.getfield 358, 3) := by decide +kernel
theorem dX11_runOnDraft_53 : decode cX11_runOnDraft 53 = .ok (.aload 4, 2) := by decide +kernel
theorem dX11_runOnDraft_55 : decode cX11_runOnDraft 55 = .ok (.iconst 0, 1) := by decide +kernel
theorem dX11_runOnDraft_56 : decode cX11_runOnDraft 56 = .ok (.invokevirtual 99, 3) := by decide +kernel
theorem dX11_runOnDraft_59 : decode cX11_runOnDraft 59 = .ok (.aload 4, 2) := by decide +kernel
theorem dX11_runOnDraft_61 : decode cX11_runOnDraft 61 = .ok (.iconst 1, 1) := by decide +kernel
theorem dX11_runOnDraft_62 : decode cX11_runOnDraft 62 = .ok (.invokevirtual 99, 3) := by decide +kernel
theorem dX11_runOnDraft_65 : decode cX11_runOnDraft 65 = .ok (.aload 4, 2) := by decide +kernel
theorem dX11_runOnDraft_67 : decode cX11_runOnDraft 67 = .ok (.iconst 2, 1) := by decide +kernel
theorem dX11_runOnDraft_68 : decode cX11_runOnDraft 68 = .ok (.invokevirtual 99, 3) := by decide +kernel
theorem dX11_runOnDraft_71 : decode cX11_runOnDraft 71 = .ok (.aload 4, 2) := by decide +kernel
theorem dX11_runOnDraft_73 : decode cX11_runOnDraft 73 = .ok (.iconst 3, 1) := by decide +kernel
theorem dX11_runOnDraft_74 : decode cX11_runOnDraft 74 = .ok (.invokevirtual 99, 3) := by decide +kernel
theorem dX11_runOnDraft_77 : decode cX11_runOnDraft 77 = .ok (.invokevirtual 323, 3) := by decide +kernel
theorem dX11_runOnDraft_80 : decode cX11_runOnDraft 80 = .ok (.istore 5, 2) := by decide +kernel
theorem dX11_runOnDraft_82 : decode cX11_runOnDraft 82 = .ok (.iload 5, 2) := by decide +kernel
theorem dX11_runOnDraft_84 : decode cX11_runOnDraft 84 = .ok (.ifCond .eq 24, 3) := by decide +kernel
theorem dX11_runOnDraft_87 : decode cX11_runOnDraft 87 = .ok (.aload_n 0, 1) := by decide +kernel
theorem dX11_runOnDraft_88 : decode cX11_runOnDraft 88 = .ok (.bipush 8, 2) := by decide +kernel
theorem dX11_runOnDraft_90 : decode cX11_runOnDraft 90 = .ok (.iload_n 3, 1) := by decide +kernel
theorem dX11_runOnDraft_91 : decode cX11_runOnDraft 91 = .ok (.iload 5, 2) := by decide +kernel
theorem dX11_runOnDraft_93 : decode cX11_runOnDraft 93 = .ok (.ifCond .le 8, 3) := by decide +kernel
theorem dX11_runOnDraft_96 : decode cX11_runOnDraft 96 = .ok (.iload 5, 2) := by decide +kernel
theorem dX11_runOnDraft_98 : decode cX11_runOnDraft 98 = .ok (.goto 5, 3) := by decide +kernel
theorem dX11_runOnDraft_101 : decode cX11_runOnDraft 101 = .ok (.bipush 9, 2) := by decide +kernel
theorem dX11_runOnDraft_103 : decode cX11_runOnDraft 103 = .ok (.invokevirtual 347, 3) := by decide +kernel
theorem dX11_runOnDraft_106 : decode cX11_runOnDraft 106 = .ok (.iconst 0, 1) := by decide +kernel
theorem dX11_runOnDraft_107 : decode cX11_runOnDraft 107 = .ok (.ireturn, 1) := by decide +kernel
theorem dX11_runOnDraft_108 : decode cX11_runOnDraft 108 = .ok (.aload_n 0, 1) := by decide +kernel
theorem dX11_runOnDraft_109 : decode cX11_runOnDraft 109 = .ok (.getfield 16, 3) := by decide +kernel
theorem dX11_runOnDraft_112 : decode cX11_runOnDraft 112 = .ok (.aload_n 0, 1) := by decide +kernel
theorem dX11_runOnDraft_113 : decode cX11_runOnDraft 113 = .ok (.getfield 53, 3) := by decide +kernel
theorem dX11_runOnDraft_116 : decode cX11_runOnDraft 116 = .ok (.getfield 358, 3) := by decide +kernel
theorem dX11_runOnDraft_119 : decode cX11_runOnDraft 119 = .ok (.aload 4, 2) := by decide +kernel
theorem dX11_runOnDraft_121 : decode cX11_runOnDraft 121 = .ok (.iconst 0, 1) := by decide +kernel
theorem dX11_runOnDraft_122 : decode cX11_runOnDraft 122 = .ok (.invokevirtual 99, 3) := by decide +kernel
theorem dX11_runOnDraft_125 : decode cX11_runOnDraft 125 = .ok (.aload 4, 2) := by decide +kernel
theorem dX11_runOnDraft_127 : decode cX11_runOnDraft 127 = .ok (.iconst 1, 1) := by decide +kernel
theorem dX11_runOnDraft_128 : decode cX11_runOnDraft 128 = .ok (.invokevirtual 99, 3) := by decide +kernel
theorem dX11_runOnDraft_131 : decode cX11_runOnDraft 131 = .ok (.aload 4, 2) := by decide +kernel
theorem dX11_runOnDraft_133 : decode cX11_runOnDraft 133 = .ok (.iconst 2, 1) := by decide +kernel
theorem dX11_runOnDraft_134 : decode cX11_runOnDraft 134 = .ok (.invokevirtual 99, 3) := by decide +kernel
theorem dX11_runOnDraft_137 : decode cX11_runOnDraft 137 = .ok (.aload 4, 2) := by decide +kernel
theorem dX11_runOnDraft_139 : decode cX11_runOnDraft 139 = .ok (.iconst 3, 1) := by decide +kernel
theorem dX11_runOnDraft_140 : decode cX11_runOnDraft 140 = .ok (.invokevirtual 99, 3) := by decide +kernel
theorem dX11_runOnDraft_143 : decode cX11_runOnDraft 143 = .ok (.invokestatic 330, 3) := by decide +kernel
theorem dX11_runOnDraft_146 : decode cX11_runOnDraft 146 = .ok (.pop, 1) := by decide +kernel
theorem dX11_runOnDraft_147 : decode cX11_runOnDraft 147 = .ok (.aload_n 0, 1) := by decide +kernel
theorem dX11_runOnDraft_148 : decode cX11_runOnDraft 148 = .ok (.getfield 53, 3) := by decide +kernel
theorem dX11_runOnDraft_151 : decode cX11_runOnDraft 151 = .ok (.getfield 361, 3) := by decide +kernel
theorem dX11_runOnDraft_154 : decode cX11_runOnDraft 154 = .ok (.iconst 1, 1) := by decide +kernel
theorem dX11_runOnDraft_155 : decode cX11_runOnDraft 155 = .ok (.iadd, 1) := by decide +kernel
theorem dX11_runOnDraft_156 : decode cX11_runOnDraft 156 = .ok (.istore_n 2, 1) := by decide +kernel
theorem dX11_runOnDraft_157 : decode cX11_runOnDraft 157 = .ok (.iinc 3 1, 3) := by decide +kernel
theorem dX11_runOnDraft_160 : decode cX11_runOnDraft 160 = .ok (.goto (-145), 3) := by decide +kernel
theorem dX11_runOnDraft_163 : decode cX11_runOnDraft 163 = .ok (.iconst 1, 1) := by decide +kernel
theorem dX11_runOnDraft_164 : decode cX11_runOnDraft 164 = .ok (.ireturn, 1) := by decide +kernel
theorem dX11_appendPlace_0 : decode cX11_appendPlace 0 = .ok (.iload_n 1, 1) := by decide +kernel
theorem dX11_appendPlace_1 : decode cX11_appendPlace 1 = .ok (.bipush (-2), 2) := by decide +kernel
theorem dX11_appendPlace_3 : decode cX11_appendPlace 3 = .ok (.if_icmp .ne 16, 3) := by decide +kernel
theorem dX11_appendPlace_6 : decode cX11_appendPlace 6 = .ok (.aload_n 0, 1) := by decide +kernel
theorem dX11_appendPlace_7 : decode cX11_appendPlace 7 = .ok (.getfield 60, 3) := by decide +kernel
theorem dX11_appendPlace_10 : decode cX11_appendPlace 10 = .ok (.bipush 45, 2) := by decide +kernel
theorem dX11_appendPlace_12 : decode cX11_appendPlace 12 = .ok (.invokevirtual 282, 3) := by decide +kernel
theorem dX11_appendPlace_15 : decode cX11_appendPlace 15 = .ok (.pop, 1) := by decide +kernel
theorem dX11_appendPlace_16 : decode cX11_appendPlace 16 = .ok (.goto 35, 3) := by decide +kernel
theorem dX11_appendPlace_19 : decode cX11_appendPlace 19 = .ok (.iload_n 1, 1) := by decide +kernel
theorem dX11_appendPlace_20 : decode cX11_appendPlace 20 = .ok (.iconst (-1), 1) := by decide +kernel
theorem dX11_appendPlace_21 : decode cX11_appendPlace 21 = .ok (.if_icmp .ne 16, 3) := by decide +kernel
theorem dX11_appendPlace_24 : decode cX11_appendPlace 24 = .ok (.aload_n 0, 1) := by decide +kernel
theorem dX11_appendPlace_25 : decode cX11_appendPlace 25 = .ok (.getfield 60, 3) := by decide +kernel
theorem dX11_appendPlace_28 : decode cX11_appendPlace 28 = .ok (.bipush 104, 2) := by decide +kernel
theorem dX11_appendPlace_30 : decode cX11_appendPlace 30 = .ok (.invokevirtual 282, 3) := by decide +kernel
theorem dX11_appendPlace_33 : decode cX11_appendPlace 33 = .ok (.pop, 1) := by decide +kernel
theorem dX11_appendPlace_34 : decode cX11_appendPlace 34 = .ok (.goto 17, 3) := by decide +kernel
theorem dX11_appendPlace_37 : decode cX11_appendPlace 37 = .ok (.aload_n 0, 1) := by decide +kernel
theorem dX11_appendPlace_38 : decode cX11_appendPlace 38 = .ok (.getfield 60, 3) := by decide +kernel
theorem dX11_appendPlace_41 : decode cX11_appendPlace 41 = .ok (.bipush 64, 2) := by decide +kernel
theorem dX11_appendPlace_43 : decode cX11_appendPlace 43 = .ok (.invokevirtual 282, 3) := by decide +kernel
theorem dX11_appendPlace_46 : decode cX11_appendPlace 46 = .ok (.iload_n 1, 1) := by decide +kernel
theorem dX11_appendPlace_47 : decode cX11_appendPlace 47 = .ok (.invokevirtual 279, 3) := by decide +kernel
theorem dX11_appendPlace_50 : decode cX11_appendPlace 50 = .ok (.pop, 1) := by decide +kernel
theorem dX11_appendPlace_51 : decode cX11_appendPlace 51 = .ok (.return_, 1) := by decide +kernel
theorem dX11_appendParent_0 : decode cX11_appendParent 0 = .ok (.iload_n 1, 1) := by decide +kernel
theorem dX11_appendParent_1 : decode cX11_appendParent 1 = .ok (.iconst (-1), 1) := by decide +kernel
theorem dX11_appendParent_2 : decode cX11_appendParent 2 = .ok (.if_icmp .eq 17, 3) := by decide +kernel
theorem dX11_appendParent_5 : decode cX11_appendParent 5 = .ok (.aload_n 0, 1) := by decide +kernel
theorem dX11_appendParent_6 : decode cX11_appendParent 6 = .ok (.getfield 60, 3) := by decide +kernel
theorem dX11_appendParent_9 : decode cX11_appendParent 9 = .ok (.bipush 60, 2) := by decide +kernel
theorem dX11_appendParent_11 : decode cX11_appendParent 11 = .ok (.invokevirtual 282, 3) := by decide +kernel
theorem dX11_appendParent_14 : decode cX11_appendParent 14 = .ok (.iload_n 1, 1) := by decide +kernel
theorem dX11_appendParent_15 : decode cX11_appendParent 15 = .ok (.invokevirtual 279, 3) := by decide +kernel
theorem dX11_appendParent_18 : decode cX11_appendParent 18 = .ok (.pop, 1) := by decide +kernel
theorem dX11_appendParent_19 : decode cX11_appendParent 19 = .ok (.return_, 1) := by decide +kernel
theorem dX11_requireShelf_0 : decode cX11_requireShelf 0 = .ok (.aload_n 0, 1) := by decide +kernel
theorem dX11_requireShelf_1 : decode cX11_requireShelf 1 = .ok (.getfield 10, 3) := by decide +kernel
theorem dX11_requireShelf_4 : decode cX11_requireShelf 4 = .ok (.getfield 82, 3) := by decide +kernel
theorem dX11_requireShelf_7 : decode cX11_requireShelf 7 = .ok (.iload_n 1, 1) := by decide +kernel
theorem dX11_requireShelf_8 : decode cX11_requireShelf 8 = .ok (.invokevirtual 364, 3) := by decide +kernel
theorem dX11_requireShelf_11 : decode cX11_requireShelf 11 = .ok (.ifCond .ne 14, 3) := by decide +kernel
theorem dX11_requireShelf_14 : decode cX11_requireShelf 14 = .ok (.new 303, 3) := by decide +kernel
theorem dX11_requireShelf_17 : decode cX11_requireShelf 17 = .ok (.dup, 1) := by decide +kernel
theorem dX11_requireShelf_18 : decode cX11_requireShelf 18 = .ok (.ldc_w 340, 3) := by decide +kernel
theorem dX11_requireShelf_21 : decode cX11_requireShelf 21 = .ok (.invokespecial 307, 3) := by decide +kernel
theorem dX11_requireShelf_24 : decode cX11_requireShelf 24 = .ok (.athrow, 1) := by decide +kernel
theorem dX11_requireShelf_25 : decode cX11_requireShelf 25 = .ok (.return_, 1) := by decide +kernel
theorem dX11_requireLot_0 : decode cX11_requireLot 0 = .ok (.aload_n 0, 1) := by decide +kernel
theorem dX11_requireLot_1 : decode cX11_requireLot 1 = .ok (.getfield 10, 3) := by decide +kernel
theorem dX11_requireLot_4 : decode cX11_requireLot 4 = .ok (.getfield 109, 3) := by decide +kernel
theorem dX11_requireLot_7 : decode cX11_requireLot 7 = .ok (.iload_n 1, 1) := by decide +kernel
theorem dX11_requireLot_8 : decode cX11_requireLot 8 = .ok (.invokevirtual 367, 3) := by decide +kernel
theorem dX11_requireLot_11 : decode cX11_requireLot 11 = .ok (.ifCond .ne 14, 3) := by decide +kernel
theorem dX11_requireLot_14 : decode cX11_requireLot 14 = .ok (.new 335, 3) := by decide +kernel
theorem dX11_requireLot_17 : decode cX11_requireLot 17 = .ok (.dup, 1) := by decide +kernel
theorem dX11_requireLot_18 : decode cX11_requireLot 18 = .ok (.ldc_w 337, 3) := by decide +kernel
theorem dX11_requireLot_21 : decode cX11_requireLot 21 = .ok (.invokespecial 339, 3) := by decide +kernel
theorem dX11_requireLot_24 : decode cX11_requireLot 24 = .ok (.athrow, 1) := by decide +kernel
theorem dX11_requireLot_25 : decode cX11_requireLot 25 = .ok (.return_, 1) := by decide +kernel
theorem dX11_requireRange_0 : decode cX11_requireRange 0 = .ok (.iload_n 0, 1) := by decide +kernel
theorem dX11_requireRange_1 : decode cX11_requireRange 1 = .ok (.iload_n 1, 1) := by decide +kernel
theorem dX11_requireRange_2 : decode cX11_requireRange 2 = .ok (.if_icmp .lt 8, 3) := by decide +kernel
theorem dX11_requireRange_5 : decode cX11_requireRange 5 = .ok (.iload_n 0, 1) := by decide +kernel
theorem dX11_requireRange_6 : decode cX11_requireRange 6 = .ok (.iload_n 2, 1) := by decide +kernel
theorem dX11_requireRange_7 : decode cX11_requireRange 7 = .ok (.if_icmp .le 14, 3) := by decide +kernel
theorem dX11_requireRange_10 : decode cX11_requireRange 10 = .ok (.new 253, 3) := by decide +kernel
theorem dX11_requireRange_13 : decode cX11_requireRange 13 = .ok (.dup, 1) := by decide +kernel
theorem dX11_requireRange_14 : decode cX11_requireRange 14 = .ok (.ldc_w 342, 3) := by decide +kernel
theorem dX11_requireRange_17 : decode cX11_requireRange 17 = .ok (.invokespecial 257, 3) := by decide +kernel
theorem dX11_requireRange_20 : decode cX11_requireRange 20 = .ok (.athrow, 1) := by decide +kernel
theorem dX11_requireRange_21 : decode cX11_requireRange 21 = .ok (.return_, 1) := by decide +kernel
theorem dX11_requireFound_0 : decode cX11_requireFound 0 = .ok (.iload_n 0, 1) := by decide +kernel
theorem dX11_requireFound_1 : decode cX11_requireFound 1 = .ok (.ifCond .ge 14, 3) := by decide +kernel
theorem dX11_requireFound_4 : decode cX11_requireFound 4 = .ok (.new 335, 3) := by decide +kernel
theorem dX11_requireFound_7 : decode cX11_requireFound 7 = .ok (.dup, 1) := by decide +kernel
theorem dX11_requireFound_8 : decode cX11_requireFound 8 = .ok (.ldc_w 368, 3) := by decide +kernel
theorem dX11_requireFound_11 : decode cX11_requireFound 11 = .ok (.invokespecial 339, 3) := by decide +kernel
theorem dX11_requireFound_14 : decode cX11_requireFound 14 = .ok (.athrow, 1) := by decide +kernel
theorem dX11_requireFound_15 : decode cX11_requireFound 15 = .ok (.iload_n 0, 1) := by decide +kernel
theorem dX11_requireFound_16 : decode cX11_requireFound 16 = .ok (.ireturn, 1) := by decide +kernel
end
section
theorem dL_cell_0 : decode cL_cell 0 = .ok (.aload_n 0, 1) := by decide +kernel
theorem dL_cell_1 : decode cL_cell 1 = .ok (.arraylength, 1) := by decide +kernel
theorem dL_cell_2 : decode cL_cell 2 = .ok (.ifCond .ne 11, 3) := by decide +kernel
theorem dL_cell_5 : decode cL_cell 5 = .ok (.sipush 577, 3) := by decide +kernel
theorem dL_cell_8 : decode cL_cell 8 = .ok (.iload_n 1, 1) := by decide +kernel
theorem dL_cell_9 : decode cL_cell 9 = .ok (.imul, 1) := by decide +kernel
theorem dL_cell_10 : decode cL_cell 10 = .ok (.goto 12, 3) := by decide +kernel
theorem dL_cell_13 : decode cL_cell 13 = .ok (.aload_n 0, 1) := by decide +kernel
theorem dL_cell_14 : decode cL_cell 14 = .ok (.iload_n 1, 1) := by decide +kernel
theorem dL_cell_15 : decode cL_cell 15 = .ok (.ldc 7, 2) := by decide +kernel
theorem dL_cell_17 : decode cL_cell 17 = .ok (.iand, 1) := by decide +kernel
theorem dL_cell_18 : decode cL_cell 18 = .ok (.aload_n 0, 1) := by decide +kernel
theorem dL_cell_19 : decode cL_cell 19 = .ok (.arraylength, 1) := by decide +kernel
theorem dL_cell_20 : decode cL_cell 20 = .ok (.irem, 1) := by decide +kernel
theorem dL_cell_21 : decode cL_cell 21 = .ok (.iaload, 1) := by decide +kernel
theorem dL_cell_22 : decode cL_cell 22 = .ok (.ireturn, 1) := by decide +kernel
theorem dL_addShelf_0 : decode cL_addShelf 0 = .ok (.ldc 10, 2) := by decide +kernel
theorem dL_addShelf_2 : decode cL_addShelf 2 = .ok (.istore_n 3, 1) := by decide +kernel
theorem dL_addShelf_3 : decode cL_addShelf 3 = .ok (.aload_n 0, 1) := by decide +kernel
theorem dL_addShelf_4 : decode cL_addShelf 4 = .ok (.iload_n 1, 1) := by decide +kernel
theorem dL_addShelf_5 : decode cL_addShelf 5 = .ok (.iload_n 2, 1) := by decide +kernel
theorem dL_addShelf_6 : decode cL_addShelf 6 = .ok (.invokevirtual 11, 3) := by decide +kernel
theorem dL_addShelf_9 : decode cL_addShelf 9 = .ok (.istore_n 3, 1) := by decide +kernel
theorem dL_addShelf_10 : decode cL_addShelf 10 = .ok (.goto 13, 3) := by decide +kernel
theorem dL_addShelf_13 : decode cL_addShelf 13 = .ok (.astore 4, 2) := by decide +kernel
theorem dL_addShelf_15 : decode cL_addShelf 15 = .ok (.ldc 10, 2) := by decide +kernel
theorem dL_addShelf_17 : decode cL_addShelf 17 = .ok (.ireturn, 1) := by decide +kernel
theorem dL_addShelf_18 : decode cL_addShelf 18 = .ok (.astore 4, 2) := by decide +kernel
theorem dL_addShelf_20 : decode cL_addShelf 20 = .ok (.ldc 10, 2) := by decide +kernel
theorem dL_addShelf_22 : decode cL_addShelf 22 = .ok (.ireturn, 1) := by decide +kernel
theorem dL_addShelf_23 : decode cL_addShelf 23 = .ok (.iload_n 3, 1) := by decide +kernel
theorem dL_addShelf_24 : decode cL_addShelf 24 = .ok (.ireturn, 1) := by decide +kernel
theorem dL_count_0 : decode cL_count 0 = .ok (.ldc 10, 2) := by decide +kernel
theorem dL_count_2 : decode cL_count 2 = .ok (.istore_n 2, 1) := by decide +kernel
theorem dL_count_3 : decode cL_count 3 = .ok (.aload_n 0, 1) := by decide +kernel
theorem dL_count_4 : decode cL_count 4 = .ok (.iload_n 1, 1) := by decide +kernel
theorem dL_count_5 : decode cL_count 5 = .ok (.invokevirtual 21, 3) := by decide +kernel
theorem dL_count_8 : decode cL_count 8 = .ok (.istore_n 2, 1) := by decide +kernel
theorem dL_count_9 : decode cL_count 9 = .ok (.goto 7, 3) := by decide +kernel
theorem dL_count_12 : decode cL_count 12 = .ok (.astore_n 3, 1) := by decide +kernel
theorem dL_count_13 : decode cL_count 13 = .ok (.ldc 10, 2) := by decide +kernel
theorem dL_count_15 : decode cL_count 15 = .ok (.ireturn, 1) := by decide +kernel
theorem dL_count_16 : decode cL_count 16 = .ok (.iload_n 2, 1) := by decide +kernel
theorem dL_count_17 : decode cL_count 17 = .ok (.ireturn, 1) := by decide +kernel
theorem dL_shelfFor_0 : decode cL_shelfFor 0 = .ok (.sipush (-1000), 3) := by decide +kernel
theorem dL_shelfFor_3 : decode cL_shelfFor 3 = .ok (.istore_n 3, 1) := by decide +kernel
theorem dL_shelfFor_4 : decode cL_shelfFor 4 = .ok (.aload_n 0, 1) := by decide +kernel
theorem dL_shelfFor_5 : decode cL_shelfFor 5 = .ok (.iload_n 1, 1) := by decide +kernel
theorem dL_shelfFor_6 : decode cL_shelfFor 6 = .ok (.iload_n 2, 1) := by decide +kernel
theorem dL_shelfFor_7 : decode cL_shelfFor 7 = .ok (.invokevirtual 27, 3) := by decide +kernel
theorem dL_shelfFor_10 : decode cL_shelfFor 10 = .ok (.istore_n 3, 1) := by decide +kernel
theorem dL_shelfFor_11 : decode cL_shelfFor 11 = .ok (.goto 15, 3) := by decide +kernel
theorem dL_shelfFor_14 : decode cL_shelfFor 14 = .ok (.astore 4, 2) := by decide +kernel
theorem dL_shelfFor_16 : decode cL_shelfFor 16 = .ok (.sipush (-1000), 3) := by decide +kernel
theorem dL_shelfFor_19 : decode cL_shelfFor 19 = .ok (.ireturn, 1) := by decide +kernel
theorem dL_shelfFor_20 : decode cL_shelfFor 20 = .ok (.astore 4, 2) := by decide +kernel
theorem dL_shelfFor_22 : decode cL_shelfFor 22 = .ok (.sipush (-1000), 3) := by decide +kernel
theorem dL_shelfFor_25 : decode cL_shelfFor 25 = .ok (.ireturn, 1) := by decide +kernel
theorem dL_shelfFor_26 : decode cL_shelfFor 26 = .ok (.iload_n 3, 1) := by decide +kernel
theorem dL_shelfFor_27 : decode cL_shelfFor 27 = .ok (.ireturn, 1) := by decide +kernel
theorem dL_countedDay_0 : decode cL_countedDay 0 = .ok (.sipush (-1000), 3) := by decide +kernel
theorem dL_countedDay_3 : decode cL_countedDay 3 = .ok (.istore_n 2, 1) := by decide +kernel
theorem dL_countedDay_4 : decode cL_countedDay 4 = .ok (.aload_n 0, 1) := by decide +kernel
theorem dL_countedDay_5 : decode cL_countedDay 5 = .ok (.iload_n 1, 1) := by decide +kernel
theorem dL_countedDay_6 : decode cL_countedDay 6 = .ok (.invokevirtual 32, 3) := by decide +kernel
theorem dL_countedDay_9 : decode cL_countedDay 9 = .ok (.istore_n 2, 1) := by decide +kernel
theorem dL_countedDay_10 : decode cL_countedDay 10 = .ok (.goto 13, 3) := by decide +kernel
theorem dL_countedDay_13 : decode cL_countedDay 13 = .ok (.astore_n 3, 1) := by decide +kernel
theorem dL_countedDay_14 : decode cL_countedDay 14 = .ok (.sipush (-1000), 3) := by decide +kernel
theorem dL_countedDay_17 : decode cL_countedDay 17 = .ok (.ireturn, 1) := by decide +kernel
theorem dL_countedDay_18 : decode cL_countedDay 18 = .ok (.astore_n 3, 1) := by decide +kernel
theorem dL_countedDay_19 : decode cL_countedDay 19 = .ok (.sipush (-1000), 3) := by decide +kernel
theorem dL_countedDay_22 : decode cL_countedDay 22 = .ok (.ireturn, 1) := by decide +kernel
theorem dL_countedDay_23 : decode cL_countedDay 23 = .ok (.iload_n 2, 1) := by decide +kernel
theorem dL_countedDay_24 : decode cL_countedDay 24 = .ok (.ireturn, 1) := by decide +kernel
theorem dL_shelfToCount_0 : decode cL_shelfToCount 0 = .ok (.sipush (-1000), 3) := by decide +kernel
theorem dL_shelfToCount_3 : decode cL_shelfToCount 3 = .ok (.istore_n 2, 1) := by decide +kernel
theorem dL_shelfToCount_4 : decode cL_shelfToCount 4 = .ok (.aload_n 0, 1) := by decide +kernel
theorem dL_shelfToCount_5 : decode cL_shelfToCount 5 = .ok (.iload_n 1, 1) := by decide +kernel
theorem dL_shelfToCount_6 : decode cL_shelfToCount 6 = .ok (.invokevirtual 35, 3) := by decide +kernel
theorem dL_shelfToCount_9 : decode cL_shelfToCount 9 = .ok (.istore_n 2, 1) := by decide +kernel
theorem dL_shelfToCount_10 : decode cL_shelfToCount 10 = .ok (.goto 8, 3) := by decide +kernel
theorem dL_shelfToCount_13 : decode cL_shelfToCount 13 = .ok (.astore_n 3, 1) := by decide +kernel
theorem dL_shelfToCount_14 : decode cL_shelfToCount 14 = .ok (.sipush (-1000), 3) := by decide +kernel
theorem dL_shelfToCount_17 : decode cL_shelfToCount 17 = .ok (.ireturn, 1) := by decide +kernel
theorem dL_shelfToCount_18 : decode cL_shelfToCount 18 = .ok (.iload_n 2, 1) := by decide +kernel
theorem dL_shelfToCount_19 : decode cL_shelfToCount 19 = .ok (.ireturn, 1) := by decide +kernel
theorem dL_receive_0 : decode cL_receive 0 = .ok (.ldc 10, 2) := by decide +kernel
theorem dL_receive_2 : decode cL_receive 2 = .ok (.istore 5, 2) := by decide +kernel
theorem dL_receive_4 : decode cL_receive 4 = .ok (.aload_n 0, 1) := by decide +kernel
theorem dL_receive_5 : decode cL_receive 5 = .ok (.iload_n 1, 1) := by decide +kernel
theorem dL_receive_6 : decode cL_receive 6 = .ok (.iload_n 2, 1) := by decide +kernel
theorem dL_receive_7 : decode cL_receive 7 = .ok (.iload_n 3, 1) := by decide +kernel
theorem dL_receive_8 : decode cL_receive 8 = .ok (.iload 4, 2) := by decide +kernel
theorem dL_receive_10 : decode cL_receive 10 = .ok (.invokevirtual 38, 3) := by decide +kernel
theorem dL_receive_13 : decode cL_receive 13 = .ok (.istore 5, 2) := by decide +kernel
theorem dL_receive_15 : decode cL_receive 15 = .ok (.goto 13, 3) := by decide +kernel
theorem dL_receive_18 : decode cL_receive 18 = .ok (.astore 6, 2) := by decide +kernel
theorem dL_receive_20 : decode cL_receive 20 = .ok (.ldc 10, 2) := by decide +kernel
theorem dL_receive_22 : decode cL_receive 22 = .ok (.ireturn, 1) := by decide +kernel
theorem dL_receive_23 : decode cL_receive 23 = .ok (.astore 6, 2) := by decide +kernel
theorem dL_receive_25 : decode cL_receive 25 = .ok (.ldc 10, 2) := by decide +kernel
theorem dL_receive_27 : decode cL_receive 27 = .ok (.ireturn, 1) := by decide +kernel
theorem dL_receive_28 : decode cL_receive 28 = .ok (.iload 5, 2) := by decide +kernel
theorem dL_receive_30 : decode cL_receive 30 = .ok (.ireturn, 1) := by decide +kernel
theorem dL_split_0 : decode cL_split 0 = .ok (.ldc 10, 2) := by decide +kernel
theorem dL_split_2 : decode cL_split 2 = .ok (.istore_n 3, 1) := by decide +kernel
theorem dL_split_3 : decode cL_split 3 = .ok (.aload_n 0, 1) := by decide +kernel
theorem dL_split_4 : decode cL_split 4 = .ok (.iload_n 1, 1) := by decide +kernel
theorem dL_split_5 : decode cL_split 5 = .ok (.iload_n 2, 1) := by decide +kernel
theorem dL_split_6 : decode cL_split 6 = .ok (.invokevirtual 42, 3) := by decide +kernel
theorem dL_split_9 : decode cL_split 9 = .ok (.istore_n 3, 1) := by decide +kernel
theorem dL_split_10 : decode cL_split 10 = .ok (.goto 18, 3) := by decide +kernel
theorem dL_split_13 : decode cL_split 13 = .ok (.astore 4, 2) := by decide +kernel
theorem dL_split_15 : decode cL_split 15 = .ok (.ldc 10, 2) := by decide +kernel
theorem dL_split_17 : decode cL_split 17 = .ok (.ireturn, 1) := by decide +kernel
theorem dL_split_18 : decode cL_split 18 = .ok (.astore 4, 2) := by decide +kernel
theorem dL_split_20 : decode cL_split 20 = .ok (.ldc 10, 2) := by decide +kernel
theorem dL_split_22 : decode cL_split 22 = .ok (.ireturn, 1) := by decide +kernel
theorem dL_split_23 : decode cL_split 23 = .ok (.astore 4, 2) := by decide +kernel
theorem dL_split_25 : decode cL_split 25 = .ok (.ldc 10, 2) := by decide +kernel
theorem dL_split_27 : decode cL_split 27 = .ok (.ireturn, 1) := by decide +kernel
theorem dL_split_28 : decode cL_split 28 = .ok (.iload_n 3, 1) := by decide +kernel
theorem dL_split_29 : decode cL_split 29 = .ok (.ireturn, 1) := by decide +kernel
theorem dL_mix_0 : decode cL_mix 0 = .ok (.ldc 10, 2) := by decide +kernel
theorem dL_mix_2 : decode cL_mix 2 = .ok (.istore_n 3, 1) := by decide +kernel
theorem dL_mix_3 : decode cL_mix 3 = .ok (.aload_n 0, 1) := by decide +kernel
theorem dL_mix_4 : decode cL_mix 4 = .ok (.iload_n 1, 1) := by decide +kernel
theorem dL_mix_5 : decode cL_mix 5 = .ok (.iload_n 2, 1) := by decide +kernel
theorem dL_mix_6 : decode cL_mix 6 = .ok (.invokevirtual 45, 3) := by decide +kernel
theorem dL_mix_9 : decode cL_mix 9 = .ok (.istore_n 3, 1) := by decide +kernel
theorem dL_mix_10 : decode cL_mix 10 = .ok (.goto 18, 3) := by decide +kernel
theorem dL_mix_13 : decode cL_mix 13 = .ok (.astore 4, 2) := by decide +kernel
theorem dL_mix_15 : decode cL_mix 15 = .ok (.ldc 10, 2) := by decide +kernel
theorem dL_mix_17 : decode cL_mix 17 = .ok (.ireturn, 1) := by decide +kernel
theorem dL_mix_18 : decode cL_mix 18 = .ok (.astore 4, 2) := by decide +kernel
theorem dL_mix_20 : decode cL_mix 20 = .ok (.ldc 10, 2) := by decide +kernel
theorem dL_mix_22 : decode cL_mix 22 = .ok (.ireturn, 1) := by decide +kernel
theorem dL_mix_23 : decode cL_mix 23 = .ok (.astore 4, 2) := by decide +kernel
theorem dL_mix_25 : decode cL_mix 25 = .ok (.ldc 10, 2) := by decide +kernel
theorem dL_mix_27 : decode cL_mix 27 = .ok (.ireturn, 1) := by decide +kernel
theorem dL_mix_28 : decode cL_mix 28 = .ok (.iload_n 3, 1) := by decide +kernel
theorem dL_mix_29 : decode cL_mix 29 = .ok (.ireturn, 1) := by decide +kernel
theorem dL_move_0 : decode cL_move 0 = .ok (.ldc 10, 2) := by decide +kernel
theorem dL_move_2 : decode cL_move 2 = .ok (.istore_n 3, 1) := by decide +kernel
theorem dL_move_3 : decode cL_move 3 = .ok (.aload_n 0, 1) := by decide +kernel
theorem dL_move_4 : decode cL_move 4 = .ok (.iload_n 1, 1) := by decide +kernel
theorem dL_move_5 : decode cL_move 5 = .ok (.iload_n 2, 1) := by decide +kernel
theorem dL_move_6 : decode cL_move 6 = .ok (.invokevirtual 48, 3) := by decide +kernel
theorem dL_move_9 : decode cL_move 9 = .ok (.istore_n 3, 1) := by decide +kernel
theorem dL_move_10 : decode cL_move 10 = .ok (.goto 18, 3) := by decide +kernel
theorem dL_move_13 : decode cL_move 13 = .ok (.astore 4, 2) := by decide +kernel
theorem dL_move_15 : decode cL_move 15 = .ok (.ldc 10, 2) := by decide +kernel
theorem dL_move_17 : decode cL_move 17 = .ok (.ireturn, 1) := by decide +kernel
theorem dL_move_18 : decode cL_move 18 = .ok (.astore 4, 2) := by decide +kernel
theorem dL_move_20 : decode cL_move 20 = .ok (.ldc 10, 2) := by decide +kernel
theorem dL_move_22 : decode cL_move 22 = .ok (.ireturn, 1) := by decide +kernel
theorem dL_move_23 : decode cL_move 23 = .ok (.astore 4, 2) := by decide +kernel
theorem dL_move_25 : decode cL_move 25 = .ok (.ldc 10, 2) := by decide +kernel
theorem dL_move_27 : decode cL_move 27 = .ok (.ireturn, 1) := by decide +kernel
theorem dL_move_28 : decode cL_move 28 = .ok (.iload_n 3, 1) := by decide +kernel
theorem dL_move_29 : decode cL_move 29 = .ok (.ireturn, 1) := by decide +kernel
theorem dL_ship_0 : decode cL_ship 0 = .ok (.ldc 10, 2) := by decide +kernel
theorem dL_ship_2 : decode cL_ship 2 = .ok (.istore_n 3, 1) := by decide +kernel
theorem dL_ship_3 : decode cL_ship 3 = .ok (.aload_n 0, 1) := by decide +kernel
theorem dL_ship_4 : decode cL_ship 4 = .ok (.iload_n 1, 1) := by decide +kernel
theorem dL_ship_5 : decode cL_ship 5 = .ok (.iload_n 2, 1) := by decide +kernel
theorem dL_ship_6 : decode cL_ship 6 = .ok (.invokevirtual 51, 3) := by decide +kernel
theorem dL_ship_9 : decode cL_ship 9 = .ok (.istore_n 3, 1) := by decide +kernel
theorem dL_ship_10 : decode cL_ship 10 = .ok (.goto 13, 3) := by decide +kernel
theorem dL_ship_13 : decode cL_ship 13 = .ok (.astore 4, 2) := by decide +kernel
theorem dL_ship_15 : decode cL_ship 15 = .ok (.ldc 10, 2) := by decide +kernel
theorem dL_ship_17 : decode cL_ship 17 = .ok (.ireturn, 1) := by decide +kernel
theorem dL_ship_18 : decode cL_ship 18 = .ok (.astore 4, 2) := by decide +kernel
theorem dL_ship_20 : decode cL_ship 20 = .ok (.ldc 10, 2) := by decide +kernel
theorem dL_ship_22 : decode cL_ship 22 = .ok (.ireturn, 1) := by decide +kernel
theorem dL_ship_23 : decode cL_ship 23 = .ok (.iload_n 3, 1) := by decide +kernel
theorem dL_ship_24 : decode cL_ship 24 = .ok (.ireturn, 1) := by decide +kernel
theorem dL_recall_0 : decode cL_recall 0 = .ok (.ldc 10, 2) := by decide +kernel
theorem dL_recall_2 : decode cL_recall 2 = .ok (.istore_n 2, 1) := by decide +kernel
theorem dL_recall_3 : decode cL_recall 3 = .ok (.aload_n 0, 1) := by decide +kernel
theorem dL_recall_4 : decode cL_recall 4 = .ok (.iload_n 1, 1) := by decide +kernel
theorem dL_recall_5 : decode cL_recall 5 = .ok (.invokevirtual 54, 3) := by decide +kernel
theorem dL_recall_8 : decode cL_recall 8 = .ok (.istore_n 2, 1) := by decide +kernel
theorem dL_recall_9 : decode cL_recall 9 = .ok (.goto 7, 3) := by decide +kernel
theorem dL_recall_12 : decode cL_recall 12 = .ok (.astore_n 3, 1) := by decide +kernel
theorem dL_recall_13 : decode cL_recall 13 = .ok (.ldc 10, 2) := by decide +kernel
theorem dL_recall_15 : decode cL_recall 15 = .ok (.ireturn, 1) := by decide +kernel
theorem dL_recall_16 : decode cL_recall 16 = .ok (.iload_n 2, 1) := by decide +kernel
theorem dL_recall_17 : decode cL_recall 17 = .ok (.ireturn, 1) := by decide +kernel
theorem dL_shelfOf_0 : decode cL_shelfOf 0 = .ok (.sipush (-1000), 3) := by decide +kernel
theorem dL_shelfOf_3 : decode cL_shelfOf 3 = .ok (.istore_n 2, 1) := by decide +kernel
theorem dL_shelfOf_4 : decode cL_shelfOf 4 = .ok (.aload_n 0, 1) := by decide +kernel
theorem dL_shelfOf_5 : decode cL_shelfOf 5 = .ok (.iload_n 1, 1) := by decide +kernel
theorem dL_shelfOf_6 : decode cL_shelfOf 6 = .ok (.invokevirtual 57, 3) := by decide +kernel
theorem dL_shelfOf_9 : decode cL_shelfOf 9 = .ok (.istore_n 2, 1) := by decide +kernel
theorem dL_shelfOf_10 : decode cL_shelfOf 10 = .ok (.goto 8, 3) := by decide +kernel
theorem dL_shelfOf_13 : decode cL_shelfOf 13 = .ok (.astore_n 3, 1) := by decide +kernel
theorem dL_shelfOf_14 : decode cL_shelfOf 14 = .ok (.sipush (-1000), 3) := by decide +kernel
theorem dL_shelfOf_17 : decode cL_shelfOf 17 = .ok (.ireturn, 1) := by decide +kernel
theorem dL_shelfOf_18 : decode cL_shelfOf 18 = .ok (.iload_n 2, 1) := by decide +kernel
theorem dL_shelfOf_19 : decode cL_shelfOf 19 = .ok (.ireturn, 1) := by decide +kernel
theorem dL_firstToShip_0 : decode cL_firstToShip 0 = .ok (.sipush (-1000), 3) := by decide +kernel
theorem dL_firstToShip_3 : decode cL_firstToShip 3 = .ok (.istore_n 2, 1) := by decide +kernel
theorem dL_firstToShip_4 : decode cL_firstToShip 4 = .ok (.aload_n 0, 1) := by decide +kernel
theorem dL_firstToShip_5 : decode cL_firstToShip 5 = .ok (.iload_n 1, 1) := by decide +kernel
theorem dL_firstToShip_6 : decode cL_firstToShip 6 = .ok (.invokevirtual 60, 3) := by decide +kernel
theorem dL_firstToShip_9 : decode cL_firstToShip 9 = .ok (.istore_n 2, 1) := by decide +kernel
theorem dL_firstToShip_10 : decode cL_firstToShip 10 = .ok (.goto 13, 3) := by decide +kernel
theorem dL_firstToShip_13 : decode cL_firstToShip 13 = .ok (.astore_n 3, 1) := by decide +kernel
theorem dL_firstToShip_14 : decode cL_firstToShip 14 = .ok (.sipush (-1000), 3) := by decide +kernel
theorem dL_firstToShip_17 : decode cL_firstToShip 17 = .ok (.ireturn, 1) := by decide +kernel
theorem dL_firstToShip_18 : decode cL_firstToShip 18 = .ok (.astore_n 3, 1) := by decide +kernel
theorem dL_firstToShip_19 : decode cL_firstToShip 19 = .ok (.sipush (-1000), 3) := by decide +kernel
theorem dL_firstToShip_22 : decode cL_firstToShip 22 = .ok (.ireturn, 1) := by decide +kernel
theorem dL_firstToShip_23 : decode cL_firstToShip 23 = .ok (.iload_n 2, 1) := by decide +kernel
theorem dL_firstToShip_24 : decode cL_firstToShip 24 = .ok (.ireturn, 1) := by decide +kernel
theorem dL_lotByExpiry_0 : decode cL_lotByExpiry 0 = .ok (.sipush (-1000), 3) := by decide +kernel
theorem dL_lotByExpiry_3 : decode cL_lotByExpiry 3 = .ok (.istore_n 2, 1) := by decide +kernel
theorem dL_lotByExpiry_4 : decode cL_lotByExpiry 4 = .ok (.aload_n 0, 1) := by decide +kernel
theorem dL_lotByExpiry_5 : decode cL_lotByExpiry 5 = .ok (.iload_n 1, 1) := by decide +kernel
theorem dL_lotByExpiry_6 : decode cL_lotByExpiry 6 = .ok (.invokevirtual 63, 3) := by decide +kernel
theorem dL_lotByExpiry_9 : decode cL_lotByExpiry 9 = .ok (.istore_n 2, 1) := by decide +kernel
theorem dL_lotByExpiry_10 : decode cL_lotByExpiry 10 = .ok (.goto 8, 3) := by decide +kernel
theorem dL_lotByExpiry_13 : decode cL_lotByExpiry 13 = .ok (.astore_n 3, 1) := by decide +kernel
theorem dL_lotByExpiry_14 : decode cL_lotByExpiry 14 = .ok (.sipush (-1000), 3) := by decide +kernel
theorem dL_lotByExpiry_17 : decode cL_lotByExpiry 17 = .ok (.ireturn, 1) := by decide +kernel
theorem dL_lotByExpiry_18 : decode cL_lotByExpiry 18 = .ok (.iload_n 2, 1) := by decide +kernel
theorem dL_lotByExpiry_19 : decode cL_lotByExpiry 19 = .ok (.ireturn, 1) := by decide +kernel
theorem dL_compost_0 : decode cL_compost 0 = .ok (.ldc 10, 2) := by decide +kernel
theorem dL_compost_2 : decode cL_compost 2 = .ok (.istore_n 1, 1) := by decide +kernel
theorem dL_compost_3 : decode cL_compost 3 = .ok (.aload_n 0, 1) := by decide +kernel
theorem dL_compost_4 : decode cL_compost 4 = .ok (.invokevirtual 66, 3) := by decide +kernel
theorem dL_compost_7 : decode cL_compost 7 = .ok (.istore_n 1, 1) := by decide +kernel
theorem dL_compost_8 : decode cL_compost 8 = .ok (.goto 7, 3) := by decide +kernel
theorem dL_compost_11 : decode cL_compost 11 = .ok (.astore_n 2, 1) := by decide +kernel
theorem dL_compost_12 : decode cL_compost 12 = .ok (.ldc 10, 2) := by decide +kernel
theorem dL_compost_14 : decode cL_compost 14 = .ok (.ireturn, 1) := by decide +kernel
theorem dL_compost_15 : decode cL_compost 15 = .ok (.iload_n 1, 1) := by decide +kernel
theorem dL_compost_16 : decode cL_compost 16 = .ok (.ireturn, 1) := by decide +kernel
theorem dL_nextCompost_0 : decode cL_nextCompost 0 = .ok (.sipush (-1000), 3) := by decide +kernel
theorem dL_nextCompost_3 : decode cL_nextCompost 3 = .ok (.istore_n 1, 1) := by decide +kernel
theorem dL_nextCompost_4 : decode cL_nextCompost 4 = .ok (.aload_n 0, 1) := by decide +kernel
theorem dL_nextCompost_5 : decode cL_nextCompost 5 = .ok (.invokevirtual 70, 3) := by decide +kernel
theorem dL_nextCompost_8 : decode cL_nextCompost 8 = .ok (.istore_n 1, 1) := by decide +kernel
theorem dL_nextCompost_9 : decode cL_nextCompost 9 = .ok (.goto 8, 3) := by decide +kernel
theorem dL_nextCompost_12 : decode cL_nextCompost 12 = .ok (.astore_n 2, 1) := by decide +kernel
theorem dL_nextCompost_13 : decode cL_nextCompost 13 = .ok (.sipush (-1000), 3) := by decide +kernel
theorem dL_nextCompost_16 : decode cL_nextCompost 16 = .ok (.ireturn, 1) := by decide +kernel
theorem dL_nextCompost_17 : decode cL_nextCompost 17 = .ok (.iload_n 1, 1) := by decide +kernel
theorem dL_nextCompost_18 : decode cL_nextCompost 18 = .ok (.ireturn, 1) := by decide +kernel
theorem dL_nextCompostByScan_0 : decode cL_nextCompostByScan 0 = .ok (.sipush (-1000), 3) := by decide +kernel
theorem dL_nextCompostByScan_3 : decode cL_nextCompostByScan 3 = .ok (.istore_n 1, 1) := by decide +kernel
theorem dL_nextCompostByScan_4 : decode cL_nextCompostByScan 4 = .ok (.aload_n 0, 1) := by decide +kernel
theorem dL_nextCompostByScan_5 : decode cL_nextCompostByScan 5 = .ok (.invokevirtual 73, 3) := by decide +kernel
theorem dL_nextCompostByScan_8 : decode cL_nextCompostByScan 8 = .ok (.istore_n 1, 1) := by decide +kernel
theorem dL_nextCompostByScan_9 : decode cL_nextCompostByScan 9 = .ok (.goto 8, 3) := by decide +kernel
theorem dL_nextCompostByScan_12 : decode cL_nextCompostByScan 12 = .ok (.astore_n 2, 1) := by decide +kernel
theorem dL_nextCompostByScan_13 : decode cL_nextCompostByScan 13 = .ok (.sipush (-1000), 3) := by decide +kernel
theorem dL_nextCompostByScan_16 : decode cL_nextCompostByScan 16 = .ok (.ireturn, 1) := by decide +kernel
theorem dL_nextCompostByScan_17 : decode cL_nextCompostByScan 17 = .ok (.iload_n 1, 1) := by decide +kernel
theorem dL_nextCompostByScan_18 : decode cL_nextCompostByScan 18 = .ok (.ireturn, 1) := by decide +kernel
theorem dL_pass_0 : decode cL_pass 0 = .ok (.ldc 10, 2) := by decide +kernel
theorem dL_pass_2 : decode cL_pass 2 = .ok (.istore_n 2, 1) := by decide +kernel
theorem dL_pass_3 : decode cL_pass 3 = .ok (.aload_n 0, 1) := by decide +kernel
theorem dL_pass_4 : decode cL_pass 4 = .ok (.iload_n 1, 1) := by decide +kernel
theorem dL_pass_5 : decode cL_pass 5 = .ok (.invokevirtual 76, 3) := by decide +kernel
theorem dL_pass_8 : decode cL_pass 8 = .ok (.istore_n 2, 1) := by decide +kernel
theorem dL_pass_9 : decode cL_pass 9 = .ok (.goto 7, 3) := by decide +kernel
theorem dL_pass_12 : decode cL_pass 12 = .ok (.astore_n 3, 1) := by decide +kernel
theorem dL_pass_13 : decode cL_pass 13 = .ok (.ldc 10, 2) := by decide +kernel
theorem dL_pass_15 : decode cL_pass 15 = .ok (.ireturn, 1) := by decide +kernel
theorem dL_pass_16 : decode cL_pass 16 = .ok (.iload_n 2, 1) := by decide +kernel
theorem dL_pass_17 : decode cL_pass 17 = .ok (.ireturn, 1) := by decide +kernel
theorem dL_meanVolume_0 : decode cL_meanVolume 0 = .ok (.ldc2_w 79, 3) := by decide +kernel
theorem dL_meanVolume_3 : decode cL_meanVolume 3 = .ok (.dstore_n 1, 1) := by decide +kernel
theorem dL_meanVolume_4 : decode cL_meanVolume 4 = .ok (.aload_n 0, 1) := by decide +kernel
theorem dL_meanVolume_5 : decode cL_meanVolume 5 = .ok (.invokevirtual 81, 3) := by decide +kernel
theorem dL_meanVolume_8 : decode cL_meanVolume 8 = .ok (.dstore_n 1, 1) := by decide +kernel
theorem dL_meanVolume_9 : decode cL_meanVolume 9 = .ok (.goto 8, 3) := by decide +kernel
theorem dL_meanVolume_12 : decode cL_meanVolume 12 = .ok (.astore_n 3, 1) := by decide +kernel
theorem dL_meanVolume_13 : decode cL_meanVolume 13 = .ok (.ldc2_w 79, 3) := by decide +kernel
theorem dL_meanVolume_16 : decode cL_meanVolume 16 = .ok (.dreturn, 1) := by decide +kernel
theorem dL_meanVolume_17 : decode cL_meanVolume 17 = .ok (.dload_n 1, 1) := by decide +kernel
theorem dL_meanVolume_18 : decode cL_meanVolume 18 = .ok (.dreturn, 1) := by decide +kernel
theorem dL_expiredShare_0 : decode cL_expiredShare 0 = .ok (.ldc 87, 2) := by decide +kernel
theorem dL_expiredShare_2 : decode cL_expiredShare 2 = .ok (.fstore_n 1, 1) := by decide +kernel
theorem dL_expiredShare_3 : decode cL_expiredShare 3 = .ok (.aload_n 0, 1) := by decide +kernel
theorem dL_expiredShare_4 : decode cL_expiredShare 4 = .ok (.invokevirtual 88, 3) := by decide +kernel
theorem dL_expiredShare_7 : decode cL_expiredShare 7 = .ok (.fstore_n 1, 1) := by decide +kernel
theorem dL_expiredShare_8 : decode cL_expiredShare 8 = .ok (.goto 7, 3) := by decide +kernel
theorem dL_expiredShare_11 : decode cL_expiredShare 11 = .ok (.astore_n 2, 1) := by decide +kernel
theorem dL_expiredShare_12 : decode cL_expiredShare 12 = .ok (.ldc 87, 2) := by decide +kernel
theorem dL_expiredShare_14 : decode cL_expiredShare 14 = .ok (.freturn, 1) := by decide +kernel
theorem dL_expiredShare_15 : decode cL_expiredShare 15 = .ok (.fload_n 1, 1) := by decide +kernel
theorem dL_expiredShare_16 : decode cL_expiredShare 16 = .ok (.freturn, 1) := by decide +kernel
theorem dL_execute_0 : decode cL_execute 0 = .ok (.ldc 10, 2) := by decide +kernel
theorem dL_execute_2 : decode cL_execute 2 = .ok (.istore_n 1, 1) := by decide +kernel
theorem dL_execute_3 : decode cL_execute 3 = .ok (.aload_n 0, 1) := by decide +kernel
theorem dL_execute_4 : decode cL_execute 4 = .ok (.invokevirtual 92, 3) := by decide +kernel
theorem dL_execute_7 : decode cL_execute 7 = .ok (.istore_n 1, 1) := by decide +kernel
theorem dL_execute_8 : decode cL_execute 8 = .ok (.goto 11, 3) := by decide +kernel
theorem dL_execute_11 : decode cL_execute 11 = .ok (.astore_n 2, 1) := by decide +kernel
theorem dL_execute_12 : decode cL_execute 12 = .ok (.ldc 10, 2) := by decide +kernel
theorem dL_execute_14 : decode cL_execute 14 = .ok (.ireturn, 1) := by decide +kernel
theorem dL_execute_15 : decode cL_execute 15 = .ok (.astore_n 2, 1) := by decide +kernel
theorem dL_execute_16 : decode cL_execute 16 = .ok (.ldc 10, 2) := by decide +kernel
theorem dL_execute_18 : decode cL_execute 18 = .ok (.ireturn, 1) := by decide +kernel
theorem dL_execute_19 : decode cL_execute 19 = .ok (.iload_n 1, 1) := by decide +kernel
theorem dL_execute_20 : decode cL_execute 20 = .ok (.ireturn, 1) := by decide +kernel
theorem dL_denial_0 : decode cL_denial 0 = .ok (.sipush (-1000), 3) := by decide +kernel
theorem dL_denial_3 : decode cL_denial 3 = .ok (.istore_n 1, 1) := by decide +kernel
theorem dL_denial_4 : decode cL_denial 4 = .ok (.aload_n 0, 1) := by decide +kernel
theorem dL_denial_5 : decode cL_denial 5 = .ok (.invokevirtual 95, 3) := by decide +kernel
theorem dL_denial_8 : decode cL_denial 8 = .ok (.istore_n 1, 1) := by decide +kernel
theorem dL_denial_9 : decode cL_denial 9 = .ok (.goto 8, 3) := by decide +kernel
theorem dL_denial_12 : decode cL_denial 12 = .ok (.astore_n 2, 1) := by decide +kernel
theorem dL_denial_13 : decode cL_denial 13 = .ok (.sipush (-1000), 3) := by decide +kernel
theorem dL_denial_16 : decode cL_denial 16 = .ok (.ireturn, 1) := by decide +kernel
theorem dL_denial_17 : decode cL_denial 17 = .ok (.iload_n 1, 1) := by decide +kernel
theorem dL_denial_18 : decode cL_denial 18 = .ok (.ireturn, 1) := by decide +kernel
theorem dL_denialCause_0 : decode cL_denialCause 0 = .ok (.sipush (-1000), 3) := by decide +kernel
theorem dL_denialCause_3 : decode cL_denialCause 3 = .ok (.istore_n 1, 1) := by decide +kernel
theorem dL_denialCause_4 : decode cL_denialCause 4 = .ok (.aload_n 0, 1) := by decide +kernel
theorem dL_denialCause_5 : decode cL_denialCause 5 = .ok (.invokevirtual 98, 3) := by decide +kernel
theorem dL_denialCause_8 : decode cL_denialCause 8 = .ok (.istore_n 1, 1) := by decide +kernel
theorem dL_denialCause_9 : decode cL_denialCause 9 = .ok (.goto 8, 3) := by decide +kernel
theorem dL_denialCause_12 : decode cL_denialCause 12 = .ok (.astore_n 2, 1) := by decide +kernel
theorem dL_denialCause_13 : decode cL_denialCause 13 = .ok (.sipush (-1000), 3) := by decide +kernel
theorem dL_denialCause_16 : decode cL_denialCause 16 = .ok (.ireturn, 1) := by decide +kernel
theorem dL_denialCause_17 : decode cL_denialCause 17 = .ok (.iload_n 1, 1) := by decide +kernel
theorem dL_denialCause_18 : decode cL_denialCause 18 = .ok (.ireturn, 1) := by decide +kernel
theorem dL_undo_0 : decode cL_undo 0 = .ok (.ldc 10, 2) := by decide +kernel
theorem dL_undo_2 : decode cL_undo 2 = .ok (.istore_n 1, 1) := by decide +kernel
theorem dL_undo_3 : decode cL_undo 3 = .ok (.aload_n 0, 1) := by decide +kernel
theorem dL_undo_4 : decode cL_undo 4 = .ok (.invokevirtual 101, 3) := by decide +kernel
theorem dL_undo_7 : decode cL_undo 7 = .ok (.istore_n 1, 1) := by decide +kernel
theorem dL_undo_8 : decode cL_undo 8 = .ok (.goto 7, 3) := by decide +kernel
theorem dL_undo_11 : decode cL_undo 11 = .ok (.astore_n 2, 1) := by decide +kernel
theorem dL_undo_12 : decode cL_undo 12 = .ok (.ldc 10, 2) := by decide +kernel
theorem dL_undo_14 : decode cL_undo 14 = .ok (.ireturn, 1) := by decide +kernel
theorem dL_undo_15 : decode cL_undo 15 = .ok (.iload_n 1, 1) := by decide +kernel
theorem dL_undo_16 : decode cL_undo 16 = .ok (.ireturn, 1) := by decide +kernel
theorem dL_restore_0 : decode cL_restore 0 = .ok (.ldc 10, 2) := by decide +kernel
theorem dL_restore_2 : decode cL_restore 2 = .ok (.istore_n 1, 1) := by decide +kernel
theorem dL_restore_3 : decode cL_restore 3 = .ok (.aload_n 0, 1) := by decide +kernel
theorem dL_restore_4 : decode cL_restore 4 = .ok (.invokevirtual 106, 3) := by decide +kernel
theorem dL_restore_7 : decode cL_restore 7 = .ok (.istore_n 1, 1) := by decide +kernel
theorem dL_restore_8 : decode cL_restore 8 = .ok (.goto 7, 3) := by decide +kernel
theorem dL_restore_11 : decode cL_restore 11 = .ok (.astore_n 2, 1) := by decide +kernel
theorem dL_restore_12 : decode cL_restore 12 = .ok (.ldc 10, 2) := by decide +kernel
theorem dL_restore_14 : decode cL_restore 14 = .ok (.ireturn, 1) := by decide +kernel
theorem dL_restore_15 : decode cL_restore 15 = .ok (.iload_n 1, 1) := by decide +kernel
theorem dL_restore_16 : decode cL_restore 16 = .ok (.ireturn, 1) := by decide +kernel
theorem dL_put_0 : decode cL_put 0 = .ok (.aload_n 0, 1) := by decide +kernel
theorem dL_put_1 : decode cL_put 1 = .ok (.iload_n 1, 1) := by decide +kernel
theorem dL_put_2 : decode cL_put 2 = .ok (.invokevirtual 109, 3) := by decide +kernel
theorem dL_put_5 : decode cL_put 5 = .ok (.pop, 1) := by decide +kernel
theorem dL_put_6 : decode cL_put 6 = .ok (.goto 6, 3) := by decide +kernel
theorem dL_put_9 : decode cL_put 9 = .ok (.astore_n 2, 1) := by decide +kernel
theorem dL_put_10 : decode cL_put 10 = .ok (.iconst 0, 1) := by decide +kernel
theorem dL_put_11 : decode cL_put 11 = .ok (.ireturn, 1) := by decide +kernel
theorem dL_put_12 : decode cL_put 12 = .ok (.iconst 1, 1) := by decide +kernel
theorem dL_put_13 : decode cL_put 13 = .ok (.ireturn, 1) := by decide +kernel
theorem dL_typed_0 : decode cL_typed 0 = .ok (.iconst 0, 1) := by decide +kernel
theorem dL_typed_1 : decode cL_typed 1 = .ok (.istore_n 2, 1) := by decide +kernel
theorem dL_typed_2 : decode cL_typed 2 = .ok (.iload_n 2, 1) := by decide +kernel
theorem dL_typed_3 : decode cL_typed 3 = .ok (.aload_n 1, 1) := by decide +kernel
theorem dL_typed_4 : decode cL_typed 4 = .ok (.invokevirtual 113, 3) := by decide +kernel
theorem dL_typed_7 : decode cL_typed 7 = .ok (.if_icmp .ge 19, 3) := by decide +kernel
theorem dL_typed_10 : decode cL_typed 10 = .ok (.aload_n 0, 1) := by decide +kernel
theorem dL_typed_11 : decode cL_typed 11 = .ok (.aload_n 1, 1) := by decide +kernel
theorem dL_typed_12 : decode cL_typed 12 = .ok (.iload_n 2, 1) := by decide +kernel
theorem dL_typed_13 : decode cL_typed 13 = .ok (.invokevirtual 118, 3) := by decide +kernel
theorem dL_typed_16 : decode cL_typed 16 = .ok (.invokestatic 122, 3) := by decide +kernel
theorem dL_typed_19 : decode cL_typed 19 = .ok (.pop, 1) := by decide +kernel
theorem dL_typed_20 : decode cL_typed 20 = .ok (.iinc 2 1, 3) := by decide +kernel
theorem dL_typed_23 : decode cL_typed 23 = .ok (.goto (-21), 3) := by decide +kernel
theorem dL_typed_26 : decode cL_typed 26 = .ok (.aload_n 0, 1) := by decide +kernel
theorem dL_typed_27 : decode cL_typed 27 = .ok (.areturn, 1) := by decide +kernel
theorem dL_act_0 : decode cL_act 0 = .ok (.iload_n 1, 1) := by decide +kernel
theorem dL_act_1 : decode cL_act 1 = .ok (.iconst 4, 1) := by decide +kernel
theorem dL_act_2 : decode cL_act 2 = .ok (.ishr, 1) := by decide +kernel
theorem dL_act_3 : decode cL_act 3 = .ok (.ldc 7, 2) := by decide +kernel
theorem dL_act_5 : decode cL_act 5 = .ok (.iand, 1) := by decide +kernel
theorem dL_act_6 : decode cL_act 6 = .ok (.istore_n 2, 1) := by decide +kernel
theorem dL_act_7 : decode cL_act 7 = .ok (.iload_n 2, 1) := by decide +kernel
theorem dL_act_8 : decode cL_act 8 = .ok (.bipush 12, 2) := by decide +kernel
theorem dL_act_10 : decode cL_act 10 = .ok (.irem, 1) := by decide +kernel
theorem dL_act_11 : decode cL_act 11 = .ok (.istore_n 3, 1) := by decide +kernel
theorem dL_act_12 : decode cL_act 12 = .ok (.iload_n 2, 1) := by decide +kernel
theorem dL_act_13 : decode cL_act 13 = .ok (.iconst 4, 1) := by decide +kernel
theorem dL_act_14 : decode cL_act 14 = .ok (.ishr, 1) := by decide +kernel
theorem dL_act_15 : decode cL_act 15 = .ok (.bipush 12, 2) := by decide +kernel
theorem dL_act_17 : decode cL_act 17 = .ok (.irem, 1) := by decide +kernel
theorem dL_act_18 : decode cL_act 18 = .ok (.istore 4, 2) := by decide +kernel
theorem dL_act_20 : decode cL_act 20 = .ok (.iload_n 1, 1) := by decide +kernel
theorem dL_act_21 : decode cL_act 21 = .ok (.bipush 15, 2) := by decide +kernel
theorem dL_act_23 : decode cL_act 23 = .ok (.iand, 1) := by decide +kernel
theorem dL_act_24 : decode cL_act 24 = .ok (.tableswitch 229 0 14 #[76, 108, 108, 108, 134, 134, 146, 146, 154, 166, 180, 200, 211, 211, 211], 76) := by decide +kernel
theorem dL_act_100 : decode cL_act 100 = .ok (.iload_n 2, 1) := by decide +kernel
theorem dL_act_101 : decode cL_act 101 = .ok (.bipush 64, 2) := by decide +kernel
theorem dL_act_103 : decode cL_act 103 = .ok (.iand, 1) := by decide +kernel
theorem dL_act_104 : decode cL_act 104 = .ok (.ifCond .ne 19, 3) := by decide +kernel
theorem dL_act_107 : decode cL_act 107 = .ok (.aload_n 0, 1) := by decide +kernel
theorem dL_act_108 : decode cL_act 108 = .ok (.iload_n 2, 1) := by decide +kernel
theorem dL_act_109 : decode cL_act 109 = .ok (.iconst 4, 1) := by decide +kernel
theorem dL_act_110 : decode cL_act 110 = .ok (.irem, 1) := by decide +kernel
theorem dL_act_111 : decode cL_act 111 = .ok (.iload_n 2, 1) := by decide +kernel
theorem dL_act_112 : decode cL_act 112 = .ok (.iconst 2, 1) := by decide +kernel
theorem dL_act_113 : decode cL_act 113 = .ok (.ishr, 1) := by decide +kernel
theorem dL_act_114 : decode cL_act 114 = .ok (.bipush 42, 2) := by decide +kernel
theorem dL_act_116 : decode cL_act 116 = .ok (.irem, 1) := by decide +kernel
theorem dL_act_117 : decode cL_act 117 = .ok (.invokestatic 126, 3) := by decide +kernel
theorem dL_act_120 : decode cL_act 120 = .ok (.goto 11, 3) := by decide +kernel
theorem dL_act_123 : decode cL_act 123 = .ok (.aload_n 0, 1) := by decide +kernel
theorem dL_act_124 : decode cL_act 124 = .ok (.iload_n 2, 1) := by decide +kernel
theorem dL_act_125 : decode cL_act 125 = .ok (.bipush 9, 2) := by decide +kernel
theorem dL_act_127 : decode cL_act 127 = .ok (.irem, 1) := by decide +kernel
theorem dL_act_128 : decode cL_act 128 = .ok (.invokestatic 129, 3) := by decide +kernel
theorem dL_act_131 : decode cL_act 131 = .ok (.ireturn, 1) := by decide +kernel
theorem dL_act_132 : decode cL_act 132 = .ok (.aload_n 0, 1) := by decide +kernel
theorem dL_act_133 : decode cL_act 133 = .ok (.iload_n 2, 1) := by decide +kernel
theorem dL_act_134 : decode cL_act 134 = .ok (.iconst 4, 1) := by decide +kernel
theorem dL_act_135 : decode cL_act 135 = .ok (.irem, 1) := by decide +kernel
theorem dL_act_136 : decode cL_act 136 = .ok (.iload_n 2, 1) := by decide +kernel
theorem dL_act_137 : decode cL_act 137 = .ok (.iconst 2, 1) := by decide +kernel
theorem dL_act_138 : decode cL_act 138 = .ok (.ishr, 1) := by decide +kernel
theorem dL_act_139 : decode cL_act 139 = .ok (.bipush 15, 2) := by decide +kernel
theorem dL_act_141 : decode cL_act 141 = .ok (.irem, 1) := by decide +kernel
theorem dL_act_142 : decode cL_act 142 = .ok (.iload_n 2, 1) := by decide +kernel
theorem dL_act_143 : decode cL_act 143 = .ok (.iconst 5, 1) := by decide +kernel
theorem dL_act_144 : decode cL_act 144 = .ok (.ishr, 1) := by decide +kernel
theorem dL_act_145 : decode cL_act 145 = .ok (.iconst 3, 1) := by decide +kernel
theorem dL_act_146 : decode cL_act 146 = .ok (.irem, 1) := by decide +kernel
theorem dL_act_147 : decode cL_act 147 = .ok (.iload_n 2, 1) := by decide +kernel
theorem dL_act_148 : decode cL_act 148 = .ok (.bipush 6, 2) := by decide +kernel
theorem dL_act_150 : decode cL_act 150 = .ok (.ishr, 1) := by decide +kernel
theorem dL_act_151 : decode cL_act 151 = .ok (.bipush 12, 2) := by decide +kernel
theorem dL_act_153 : decode cL_act 153 = .ok (.irem, 1) := by decide +kernel
theorem dL_act_154 : decode cL_act 154 = .ok (.invokestatic 132, 3) := by decide +kernel
theorem dL_act_157 : decode cL_act 157 = .ok (.ireturn, 1) := by decide +kernel
theorem dL_act_158 : decode cL_act 158 = .ok (.aload_n 0, 1) := by decide +kernel
theorem dL_act_159 : decode cL_act 159 = .ok (.iload_n 3, 1) := by decide +kernel
theorem dL_act_160 : decode cL_act 160 = .ok (.iload_n 2, 1) := by decide +kernel
theorem dL_act_161 : decode cL_act 161 = .ok (.iconst 4, 1) := by decide +kernel
theorem dL_act_162 : decode cL_act 162 = .ok (.ishr, 1) := by decide +kernel
theorem dL_act_163 : decode cL_act 163 = .ok (.bipush 8, 2) := by decide +kernel
theorem dL_act_165 : decode cL_act 165 = .ok (.irem, 1) := by decide +kernel
theorem dL_act_166 : decode cL_act 166 = .ok (.invokestatic 135, 3) := by decide +kernel
theorem dL_act_169 : decode cL_act 169 = .ok (.ireturn, 1) := by decide +kernel
theorem dL_act_170 : decode cL_act 170 = .ok (.aload_n 0, 1) := by decide +kernel
theorem dL_act_171 : decode cL_act 171 = .ok (.iload_n 3, 1) := by decide +kernel
theorem dL_act_172 : decode cL_act 172 = .ok (.iload 4, 2) := by decide +kernel
theorem dL_act_174 : decode cL_act 174 = .ok (.invokestatic 137, 3) := by decide +kernel
theorem dL_act_177 : decode cL_act 177 = .ok (.ireturn, 1) := by decide +kernel
theorem dL_act_178 : decode cL_act 178 = .ok (.aload_n 0, 1) := by decide +kernel
theorem dL_act_179 : decode cL_act 179 = .ok (.iload_n 3, 1) := by decide +kernel
theorem dL_act_180 : decode cL_act 180 = .ok (.iload_n 2, 1) := by decide +kernel
theorem dL_act_181 : decode cL_act 181 = .ok (.iconst 4, 1) := by decide +kernel
theorem dL_act_182 : decode cL_act 182 = .ok (.ishr, 1) := by decide +kernel
theorem dL_act_183 : decode cL_act 183 = .ok (.bipush 7, 2) := by decide +kernel
theorem dL_act_185 : decode cL_act 185 = .ok (.irem, 1) := by decide +kernel
theorem dL_act_186 : decode cL_act 186 = .ok (.invokestatic 139, 3) := by decide +kernel
theorem dL_act_189 : decode cL_act 189 = .ok (.ireturn, 1) := by decide +kernel
theorem dL_act_190 : decode cL_act 190 = .ok (.aload_n 0, 1) := by decide +kernel
theorem dL_act_191 : decode cL_act 191 = .ok (.iload_n 2, 1) := by decide +kernel
theorem dL_act_192 : decode cL_act 192 = .ok (.iconst 4, 1) := by decide +kernel
theorem dL_act_193 : decode cL_act 193 = .ok (.irem, 1) := by decide +kernel
theorem dL_act_194 : decode cL_act 194 = .ok (.iload_n 2, 1) := by decide +kernel
theorem dL_act_195 : decode cL_act 195 = .ok (.iconst 3, 1) := by decide +kernel
theorem dL_act_196 : decode cL_act 196 = .ok (.ishr, 1) := by decide +kernel
theorem dL_act_197 : decode cL_act 197 = .ok (.bipush 20, 2) := by decide +kernel
theorem dL_act_199 : decode cL_act 199 = .ok (.irem, 1) := by decide +kernel
theorem dL_act_200 : decode cL_act 200 = .ok (.invokestatic 141, 3) := by decide +kernel
theorem dL_act_203 : decode cL_act 203 = .ok (.ireturn, 1) := by decide +kernel
theorem dL_act_204 : decode cL_act 204 = .ok (.iload_n 2, 1) := by decide +kernel
theorem dL_act_205 : decode cL_act 205 = .ok (.bipush 64, 2) := by decide +kernel
theorem dL_act_207 : decode cL_act 207 = .ok (.iand, 1) := by decide +kernel
theorem dL_act_208 : decode cL_act 208 = .ok (.ifCond .ne 11, 3) := by decide +kernel
theorem dL_act_211 : decode cL_act 211 = .ok (.aload_n 0, 1) := by decide +kernel
theorem dL_act_212 : decode cL_act 212 = .ok (.iload_n 3, 1) := by decide +kernel
theorem dL_act_213 : decode cL_act 213 = .ok (.invokestatic 143, 3) := by decide +kernel
theorem dL_act_216 : decode cL_act 216 = .ok (.goto 7, 3) := by decide +kernel
theorem dL_act_219 : decode cL_act 219 = .ok (.aload_n 0, 1) := by decide +kernel
theorem dL_act_220 : decode cL_act 220 = .ok (.invokestatic 145, 3) := by decide +kernel
theorem dL_act_223 : decode cL_act 223 = .ok (.ireturn, 1) := by decide +kernel
theorem dL_act_224 : decode cL_act 224 = .ok (.aload_n 0, 1) := by decide +kernel
theorem dL_act_225 : decode cL_act 225 = .ok (.iload_n 2, 1) := by decide +kernel
theorem dL_act_226 : decode cL_act 226 = .ok (.iconst 3, 1) := by decide +kernel
theorem dL_act_227 : decode cL_act 227 = .ok (.ishr, 1) := by decide +kernel
theorem dL_act_228 : decode cL_act 228 = .ok (.bipush 6, 2) := by decide +kernel
theorem dL_act_230 : decode cL_act 230 = .ok (.irem, 1) := by decide +kernel
theorem dL_act_231 : decode cL_act 231 = .ok (.invokestatic 148, 3) := by decide +kernel
theorem dL_act_234 : decode cL_act 234 = .ok (.ireturn, 1) := by decide +kernel
theorem dL_act_235 : decode cL_act 235 = .ok (.aload_n 0, 1) := by decide +kernel
theorem dL_act_236 : decode cL_act 236 = .ok (.getstatic 150, 3) := by decide +kernel
theorem dL_act_239 : decode cL_act 239 = .ok (.iload_n 2, 1) := by decide +kernel
theorem dL_act_240 : decode cL_act 240 = .ok (.getstatic 150, 3) := by decide +kernel
theorem dL_act_243 : decode cL_act 243 = .ok (.arraylength, 1) := by decide +kernel
theorem dL_act_244 : decode cL_act 244 = .ok (.irem, 1) := by decide +kernel
theorem dL_act_245 : decode cL_act 245 = .ok (.aaload, 1) := by decide +kernel
theorem dL_act_246 : decode cL_act 246 = .ok (.invokestatic 154, 3) := by decide +kernel
theorem dL_act_249 : decode cL_act 249 = .ok (.invokestatic 158, 3) := by decide +kernel
theorem dL_act_252 : decode cL_act 252 = .ok (.ireturn, 1) := by decide +kernel
theorem dL_act_253 : decode cL_act 253 = .ok (.iload_n 2, 1) := by decide +kernel
theorem dL_act_254 : decode cL_act 254 = .ok (.iconst 3, 1) := by decide +kernel
theorem dL_act_255 : decode cL_act 255 = .ok (.iand, 1) := by decide +kernel
theorem dL_act_256 : decode cL_act 256 = .ok (.ifCond .ne 10, 3) := by decide +kernel
theorem dL_act_259 : decode cL_act 259 = .ok (.aload_n 0, 1) := by decide +kernel
theorem dL_act_260 : decode cL_act 260 = .ok (.invokevirtual 160, 3) := by decide +kernel
theorem dL_act_263 : decode cL_act 263 = .ok (.goto 21, 3) := by decide +kernel
theorem dL_act_266 : decode cL_act 266 = .ok (.iload_n 2, 1) := by decide +kernel
theorem dL_act_267 : decode cL_act 267 = .ok (.iconst 3, 1) := by decide +kernel
theorem dL_act_268 : decode cL_act 268 = .ok (.iand, 1) := by decide +kernel
theorem dL_act_269 : decode cL_act 269 = .ok (.iconst 1, 1) := by decide +kernel
theorem dL_act_270 : decode cL_act 270 = .ok (.if_icmp .ne 10, 3) := by decide +kernel
theorem dL_act_273 : decode cL_act 273 = .ok (.aload_n 0, 1) := by decide +kernel
theorem dL_act_274 : decode cL_act 274 = .ok (.invokestatic 163, 3) := by decide +kernel
theorem dL_act_277 : decode cL_act 277 = .ok (.goto 7, 3) := by decide +kernel
theorem dL_act_280 : decode cL_act 280 = .ok (.aload_n 0, 1) := by decide +kernel
theorem dL_act_281 : decode cL_act 281 = .ok (.invokestatic 166, 3) := by decide +kernel
theorem dL_act_284 : decode cL_act 284 = .ok (.ireturn, 1) := by decide +kernel
theorem dL_digest_0 : decode cL_digest 0 = .ok (.ldc2_w 168, 3) := by decide +kernel
theorem dL_digest_3 : decode cL_digest 3 = .ok (.aload_n 0, 1) := by decide +kernel
theorem dL_digest_4 : decode cL_digest 4 = .ok (.invokevirtual 170, 3) := by decide +kernel
theorem dL_digest_7 : decode cL_digest 7 = .ok (.i2l, 1) := by decide +kernel
theorem dL_digest_8 : decode cL_digest 8 = .ok (.lmul, 1) := by decide +kernel
theorem dL_digest_9 : decode cL_digest 9 = .ok (.ldc2_w 173, 3) := by decide +kernel
theorem dL_digest_12 : decode cL_digest 12 = .ok (.aload_n 0, 1) := by decide +kernel
theorem dL_digest_13 : decode cL_digest 13 = .ok (.invokevirtual 175, 3) := by decide +kernel
theorem dL_digest_16 : decode cL_digest 16 = .ok (.i2l, 1) := by decide +kernel
theorem dL_digest_17 : decode cL_digest 17 = .ok (.lmul, 1) := by decide +kernel
theorem dL_digest_18 : decode cL_digest 18 = .ok (.ladd, 1) := by decide +kernel
theorem dL_digest_19 : decode cL_digest 19 = .ok (.ldc2_w 178, 3) := by decide +kernel
theorem dL_digest_22 : decode cL_digest 22 = .ok (.aload_n 0, 1) := by decide +kernel
theorem dL_digest_23 : decode cL_digest 23 = .ok (.invokevirtual 180, 3) := by decide +kernel
theorem dL_digest_26 : decode cL_digest 26 = .ok (.i2l, 1) := by decide +kernel
theorem dL_digest_27 : decode cL_digest 27 = .ok (.lmul, 1) := by decide +kernel
theorem dL_digest_28 : decode cL_digest 28 = .ok (.ladd, 1) := by decide +kernel
theorem dL_digest_29 : decode cL_digest 29 = .ok (.ldc2_w 183, 3) := by decide +kernel
theorem dL_digest_32 : decode cL_digest 32 = .ok (.aload_n 0, 1) := by decide +kernel
theorem dL_digest_33 : decode cL_digest 33 = .ok (.invokevirtual 185, 3) := by decide +kernel
theorem dL_digest_36 : decode cL_digest 36 = .ok (.i2l, 1) := by decide +kernel
theorem dL_digest_37 : decode cL_digest 37 = .ok (.lmul, 1) := by decide +kernel
theorem dL_digest_38 : decode cL_digest 38 = .ok (.ladd, 1) := by decide +kernel
theorem dL_digest_39 : decode cL_digest 39 = .ok (.ldc2_w 188, 3) := by decide +kernel
theorem dL_digest_42 : decode cL_digest 42 = .ok (.aload_n 0, 1) := by decide +kernel
theorem dL_digest_43 : decode cL_digest 43 = .ok (.invokevirtual 190, 3) := by decide +kernel
theorem dL_digest_46 : decode cL_digest 46 = .ok (.i2l, 1) := by decide +kernel
theorem dL_digest_47 : decode cL_digest 47 = .ok (.lmul, 1) := by decide +kernel
theorem dL_digest_48 : decode cL_digest 48 = .ok (.ladd, 1) := by decide +kernel
theorem dL_digest_49 : decode cL_digest 49 = .ok (.aload_n 0, 1) := by decide +kernel
theorem dL_digest_50 : decode cL_digest 50 = .ok (.invokevirtual 193, 3) := by decide +kernel
theorem dL_digest_53 : decode cL_digest 53 = .ok (.i2l, 1) := by decide +kernel
theorem dL_digest_54 : decode cL_digest 54 = .ok (.ladd, 1) := by decide +kernel
theorem dL_digest_55 : decode cL_digest 55 = .ok (.lstore_n 1, 1) := by decide +kernel
theorem dL_digest_56 : decode cL_digest 56 = .ok (.iconst 0, 1) := by decide +kernel
theorem dL_digest_57 : decode cL_digest 57 = .ok (.istore_n 3, 1) := by decide +kernel
theorem dL_digest_58 : decode cL_digest 58 = .ok (.iload_n 3, 1) := by decide +kernel
theorem dL_digest_59 : decode cL_digest 59 = .ok (.aload_n 0, 1) := by decide +kernel
theorem dL_digest_60 : decode cL_digest 60 = .ok (.invokevirtual 193, 3) := by decide +kernel
theorem dL_digest_63 : decode cL_digest 63 = .ok (.if_icmp .ge 44, 3) := by decide +kernel
theorem dL_digest_66 : decode cL_digest 66 = .ok (.ldc2_w 196, 3) := by decide +kernel
theorem dL_digest_69 : decode cL_digest 69 = .ok (.ldc2_w 196, 3) := by decide +kernel
theorem dL_digest_72 : decode cL_digest 72 = .ok (.ldc2_w 196, 3) := by decide +kernel
theorem dL_digest_75 : decode cL_digest 75 = .ok (.lload_n 1, 1) := by decide +kernel
theorem dL_digest_76 : decode cL_digest 76 = .ok (.lmul, 1) := by decide +kernel
theorem dL_digest_77 : decode cL_digest 77 = .ok (.aload_n 0, 1) := by decide +kernel
theorem dL_digest_78 : decode cL_digest 78 = .ok (.iload_n 3, 1) := by decide +kernel
theorem dL_digest_79 : decode cL_digest 79 = .ok (.invokevirtual 198, 3) := by decide +kernel
theorem dL_digest_82 : decode cL_digest 82 = .ok (.i2l, 1) := by decide +kernel
theorem dL_digest_83 : decode cL_digest 83 = .ok (.ladd, 1) := by decide +kernel
theorem dL_digest_84 : decode cL_digest 84 = .ok (.lmul, 1) := by decide +kernel
theorem dL_digest_85 : decode cL_digest 85 = .ok (.aload_n 0, 1) := by decide +kernel
theorem dL_digest_86 : decode cL_digest 86 = .ok (.iload_n 3, 1) := by decide +kernel
theorem dL_digest_87 : decode cL_digest 87 = .ok (.invokevirtual 201, 3) := by decide +kernel
theorem dL_digest_90 : decode cL_digest 90 = .ok (.i2l, 1) := by decide +kernel
theorem dL_digest_91 : decode cL_digest 91 = .ok (.ladd, 1) := by decide +kernel
theorem dL_digest_92 : decode cL_digest 92 = .ok (.lmul, 1) := by decide +kernel
theorem dL_digest_93 : decode cL_digest 93 = .ok (.aload_n 0, 1) := by decide +kernel
theorem dL_digest_94 : decode cL_digest 94 = .ok (.iload_n 3, 1) := by decide +kernel
theorem dL_digest_95 : decode cL_digest 95 = .ok (.invokestatic 204, 3) := by decide +kernel
theorem dL_digest_98 : decode cL_digest 98 = .ok (.i2l, 1) := by decide +kernel
theorem dL_digest_99 : decode cL_digest 99 = .ok (.ladd, 1) := by decide +kernel
theorem dL_digest_100 : decode cL_digest 100 = .ok (.lstore_n 1, 1) := by decide +kernel
theorem dL_digest_101 : decode cL_digest 101 = .ok (.iinc 3 1, 3) := by decide +kernel
theorem dL_digest_104 : decode cL_digest 104 = .ok (.goto (-46), 3) := by decide +kernel
theorem dL_digest_107 : decode cL_digest 107 = .ok (.iconst 0, 1) := by decide +kernel
theorem dL_digest_108 : decode cL_digest 108 = .ok (.istore_n 3, 1) := by decide +kernel
theorem dL_digest_109 : decode cL_digest 109 = .ok (.iload_n 3, 1) := by decide +kernel
theorem dL_digest_110 : decode cL_digest 110 = .ok (.aload_n 0, 1) := by decide +kernel
theorem dL_digest_111 : decode cL_digest 111 = .ok (.invokevirtual 190, 3) := by decide +kernel
theorem dL_digest_114 : decode cL_digest 114 = .ok (.if_icmp .ge 64, 3) := by decide +kernel
theorem dL_digest_117 : decode cL_digest 117 = .ok (.ldc2_w 196, 3) := by decide +kernel
theorem dL_digest_120 : decode cL_digest 120 = .ok (.ldc2_w 196, 3) := by decide +kernel
theorem dL_digest_123 : decode cL_digest 123 = .ok (.ldc2_w 196, 3) := by decide +kernel
theorem dL_digest_126 : decode cL_digest 126 = .ok (.lload_n 1, 1) := by decide +kernel
theorem dL_digest_127 : decode cL_digest 127 = .ok (.lmul, 1) := by decide +kernel
theorem dL_digest_128 : decode cL_digest 128 = .ok (.aload_n 0, 1) := by decide +kernel
theorem dL_digest_129 : decode cL_digest 129 = .ok (.iload_n 3, 1) := by decide +kernel
theorem dL_digest_130 : decode cL_digest 130 = .ok (.invokevirtual 206, 3) := by decide +kernel
theorem dL_digest_133 : decode cL_digest 133 = .ok (.i2l, 1) := by decide +kernel
theorem dL_digest_134 : decode cL_digest 134 = .ok (.ladd, 1) := by decide +kernel
theorem dL_digest_135 : decode cL_digest 135 = .ok (.lmul, 1) := by decide +kernel
theorem dL_digest_136 : decode cL_digest 136 = .ok (.aload_n 0, 1) := by decide +kernel
theorem dL_digest_137 : decode cL_digest 137 = .ok (.iload_n 3, 1) := by decide +kernel
theorem dL_digest_138 : decode cL_digest 138 = .ok (.invokevirtual 209, 3) := by decide +kernel
theorem dL_digest_141 : decode cL_digest 141 = .ok (.i2l, 1) := by decide +kernel
theorem dL_digest_142 : decode cL_digest 142 = .ok (.ladd, 1) := by decide +kernel
theorem dL_digest_143 : decode cL_digest 143 = .ok (.lmul, 1) := by decide +kernel
theorem dL_digest_144 : decode cL_digest 144 = .ok (.aload_n 0, 1) := by decide +kernel
theorem dL_digest_145 : decode cL_digest 145 = .ok (.iload_n 3, 1) := by decide +kernel
theorem dL_digest_146 : decode cL_digest 146 = .ok (.invokestatic 212, 3) := by decide +kernel
theorem dL_digest_149 : decode cL_digest 149 = .ok (.i2l, 1) := by decide +kernel
theorem dL_digest_150 : decode cL_digest 150 = .ok (.ladd, 1) := by decide +kernel
theorem dL_digest_151 : decode cL_digest 151 = .ok (.lstore_n 1, 1) := by decide +kernel
theorem dL_digest_152 : decode cL_digest 152 = .ok (.ldc2_w 196, 3) := by decide +kernel
theorem dL_digest_155 : decode cL_digest 155 = .ok (.lload_n 1, 1) := by decide +kernel
theorem dL_digest_156 : decode cL_digest 156 = .ok (.lmul, 1) := by decide +kernel
theorem dL_digest_157 : decode cL_digest 157 = .ok (.aload_n 0, 1) := by decide +kernel
theorem dL_digest_158 : decode cL_digest 158 = .ok (.iload_n 3, 1) := by decide +kernel
theorem dL_digest_159 : decode cL_digest 159 = .ok (.invokevirtual 214, 3) := by decide +kernel
theorem dL_digest_162 : decode cL_digest 162 = .ok (.i2l, 1) := by decide +kernel
theorem dL_digest_163 : decode cL_digest 163 = .ok (.ladd, 1) := by decide +kernel
theorem dL_digest_164 : decode cL_digest 164 = .ok (.aload_n 0, 1) := by decide +kernel
theorem dL_digest_165 : decode cL_digest 165 = .ok (.iload_n 3, 1) := by decide +kernel
theorem dL_digest_166 : decode cL_digest 166 = .ok (.invokevirtual 217, 3) := by decide +kernel
theorem dL_digest_169 : decode cL_digest 169 = .ok (.i2l, 1) := by decide +kernel
theorem dL_digest_170 : decode cL_digest 170 = .ok (.ladd, 1) := by decide +kernel
theorem dL_digest_171 : decode cL_digest 171 = .ok (.lstore_n 1, 1) := by decide +kernel
theorem dL_digest_172 : decode cL_digest 172 = .ok (.iinc 3 1, 3) := by decide +kernel
theorem dL_digest_175 : decode cL_digest 175 = .ok (.goto (-66), 3) := by decide +kernel
theorem dL_digest_178 : decode cL_digest 178 = .ok (.lload_n 1, 1) := by decide +kernel
theorem dL_digest_179 : decode cL_digest 179 = .ok (.lreturn, 1) := by decide +kernel
theorem dL_areShelves_0 : decode cL_areShelves 0 = .ok (.iconst 0, 1) := by decide +kernel
theorem dL_areShelves_1 : decode cL_areShelves 1 = .ok (.istore_n 1, 1) := by decide +kernel
theorem dL_areShelves_2 : decode cL_areShelves 2 = .ok (.aload_n 0, 1) := by decide +kernel
theorem dL_areShelves_3 : decode cL_areShelves 3 = .ok (.aload_n 0, 1) := by decide +kernel
theorem dL_areShelves_4 : decode cL_areShelves 4 = .ok (.invokevirtual 193, 3) := by decide +kernel
theorem dL_areShelves_7 : decode cL_areShelves 7 = .ok (.invokestatic 220, 3) := by decide +kernel
theorem dL_areShelves_10 : decode cL_areShelves 10 = .ok (.sipush (-1000), 3) := by decide +kernel
theorem dL_areShelves_13 : decode cL_areShelves 13 = .ok (.if_icmp .ne 18, 3) := by decide +kernel
theorem dL_areShelves_16 : decode cL_areShelves 16 = .ok (.aload_n 0, 1) := by decide +kernel
theorem dL_areShelves_17 : decode cL_areShelves 17 = .ok (.iconst (-1), 1) := by decide +kernel
theorem dL_areShelves_18 : decode cL_areShelves 18 = .ok (.invokestatic 220, 3) := by decide +kernel
theorem dL_areShelves_21 : decode cL_areShelves 21 = .ok (.sipush (-1000), 3) := by decide +kernel
theorem dL_areShelves_24 : decode cL_areShelves 24 = .ok (.if_icmp .ne 7, 3) := by decide +kernel
theorem dL_areShelves_27 : decode cL_areShelves 27 = .ok (.iconst 1, 1) := by decide +kernel
theorem dL_areShelves_28 : decode cL_areShelves 28 = .ok (.goto 4, 3) := by decide +kernel
theorem dL_areShelves_31 : decode cL_areShelves 31 = .ok (.iconst 0, 1) := by decide +kernel
theorem dL_areShelves_32 : decode cL_areShelves 32 = .ok (.istore_n 2, 1) := by decide +kernel
theorem dL_areShelves_33 : decode cL_areShelves 33 = .ok (.iconst 0, 1) := by decide +kernel
theorem dL_areShelves_34 : decode cL_areShelves 34 = .ok (.istore_n 3, 1) := by decide +kernel
theorem dL_areShelves_35 : decode cL_areShelves 35 = .ok (.iload_n 2, 1) := by decide +kernel
theorem dL_areShelves_36 : decode cL_areShelves 36 = .ok (.ifCond .eq 147, 3) := by decide +kernel
theorem dL_areShelves_39 : decode cL_areShelves 39 = .ok (.iload_n 3, 1) := by decide +kernel
theorem dL_areShelves_40 : decode cL_areShelves 40 = .ok (.aload_n 0, 1) := by decide +kernel
theorem dL_areShelves_41 : decode cL_areShelves 41 = .ok (.invokevirtual 193, 3) := by decide +kernel
theorem dL_areShelves_44 : decode cL_areShelves 44 = .ok (.if_icmp .ge 139, 3) := by decide +kernel
theorem dL_areShelves_47 : decode cL_areShelves 47 = .ok (.iconst 0, 1) := by decide +kernel
theorem dL_areShelves_48 : decode cL_areShelves 48 = .ok (.istore 4, 2) := by decide +kernel
theorem dL_areShelves_50 : decode cL_areShelves 50 = .ok (.iconst 0, 1) := by decide +kernel
theorem dL_areShelves_51 : decode cL_areShelves 51 = .ok (.istore 5, 2) := by decide +kernel
theorem dL_areShelves_53 : decode cL_areShelves 53 = .ok (.iconst 0, 1) := by decide +kernel
theorem dL_areShelves_54 : decode cL_areShelves 54 = .ok (.istore 6, 2) := by decide +kernel
theorem dL_areShelves_56 : decode cL_areShelves 56 = .ok (.iload 6, 2) := by decide +kernel
theorem dL_areShelves_58 : decode cL_areShelves 58 = .ok (.aload_n 0, 1) := by decide +kernel
theorem dL_areShelves_59 : decode cL_areShelves 59 = .ok (.invokevirtual 190, 3) := by decide +kernel
theorem dL_areShelves_62 : decode cL_areShelves 62 = .ok (.if_icmp .ge 61, 3) := by decide +kernel
theorem dL_areShelves_65 : decode cL_areShelves 65 = .ok (.aload_n 0, 1) := by decide +kernel
theorem dL_areShelves_66 : decode cL_areShelves 66 = .ok (.iload 6, 2) := by decide +kernel
theorem dL_areShelves_68 : decode cL_areShelves 68 = .ok (.invokestatic 212, 3) := by decide +kernel
theorem dL_areShelves_71 : decode cL_areShelves 71 = .ok (.iload_n 3, 1) := by decide +kernel
theorem dL_areShelves_72 : decode cL_areShelves 72 = .ok (.if_icmp .ne 7, 3) := by decide +kernel
theorem dL_areShelves_75 : decode cL_areShelves 75 = .ok (.iconst 1, 1) := by decide +kernel
theorem dL_areShelves_76 : decode cL_areShelves 76 = .ok (.goto 4, 3) := by decide +kernel
theorem dL_areShelves_79 : decode cL_areShelves 79 = .ok (.iconst 0, 1) := by decide +kernel
theorem dL_areShelves_80 : decode cL_areShelves 80 = .ok (.istore 7, 2) := by decide +kernel
theorem dL_areShelves_82 : decode cL_areShelves 82 = .ok (.iload 4, 2) := by decide +kernel
theorem dL_areShelves_84 : decode cL_areShelves 84 = .ok (.iload 7, 2) := by decide +kernel
theorem dL_areShelves_86 : decode cL_areShelves 86 = .ok (.ifCond .eq 7, 3) := by decide +kernel
theorem dL_areShelves_89 : decode cL_areShelves 89 = .ok (.iconst 1, 1) := by decide +kernel
theorem dL_areShelves_90 : decode cL_areShelves 90 = .ok (.goto 4, 3) := by decide +kernel
theorem dL_areShelves_93 : decode cL_areShelves 93 = .ok (.iconst 0, 1) := by decide +kernel
theorem dL_areShelves_94 : decode cL_areShelves 94 = .ok (.iadd, 1) := by decide +kernel
theorem dL_areShelves_95 : decode cL_areShelves 95 = .ok (.istore 4, 2) := by decide +kernel
theorem dL_areShelves_97 : decode cL_areShelves 97 = .ok (.iload 5, 2) := by decide +kernel
theorem dL_areShelves_99 : decode cL_areShelves 99 = .ok (.iload 7, 2) := by decide +kernel
theorem dL_areShelves_101 : decode cL_areShelves 101 = .ok (.ifCond .eq 12, 3) := by decide +kernel
theorem dL_areShelves_104 : decode cL_areShelves 104 = .ok (.aload_n 0, 1) := by decide +kernel
theorem dL_areShelves_105 : decode cL_areShelves 105 = .ok (.iload 6, 2) := by decide +kernel
theorem dL_areShelves_107 : decode cL_areShelves 107 = .ok (.invokevirtual 206, 3) := by decide +kernel
theorem dL_areShelves_110 : decode cL_areShelves 110 = .ok (.goto 4, 3) := by decide +kernel
theorem dL_areShelves_113 : decode cL_areShelves 113 = .ok (.iconst 0, 1) := by decide +kernel
theorem dL_areShelves_114 : decode cL_areShelves 114 = .ok (.iadd, 1) := by decide +kernel
theorem dL_areShelves_115 : decode cL_areShelves 115 = .ok (.istore 5, 2) := by decide +kernel
theorem dL_areShelves_117 : decode cL_areShelves 117 = .ok (.iinc 6 1, 3) := by decide +kernel
theorem dL_areShelves_120 : decode cL_areShelves 120 = .ok (.goto (-64), 3) := by decide +kernel
theorem dL_areShelves_123 : decode cL_areShelves 123 = .ok (.iload_n 1, 1) := by decide +kernel
theorem dL_areShelves_124 : decode cL_areShelves 124 = .ok (.iload 4, 2) := by decide +kernel
theorem dL_areShelves_126 : decode cL_areShelves 126 = .ok (.iadd, 1) := by decide +kernel
theorem dL_areShelves_127 : decode cL_areShelves 127 = .ok (.istore_n 1, 1) := by decide +kernel
theorem dL_areShelves_128 : decode cL_areShelves 128 = .ok (.aload_n 0, 1) := by decide +kernel
theorem dL_areShelves_129 : decode cL_areShelves 129 = .ok (.iload_n 3, 1) := by decide +kernel
theorem dL_areShelves_130 : decode cL_areShelves 130 = .ok (.invokevirtual 222, 3) := by decide +kernel
theorem dL_areShelves_133 : decode cL_areShelves 133 = .ok (.iload 4, 2) := by decide +kernel
theorem dL_areShelves_135 : decode cL_areShelves 135 = .ok (.if_icmp .ne 40, 3) := by decide +kernel
theorem dL_areShelves_138 : decode cL_areShelves 138 = .ok (.aload_n 0, 1) := by decide +kernel
theorem dL_areShelves_139 : decode cL_areShelves 139 = .ok (.iload_n 3, 1) := by decide +kernel
theorem dL_areShelves_140 : decode cL_areShelves 140 = .ok (.invokevirtual 201, 3) := by decide +kernel
theorem dL_areShelves_143 : decode cL_areShelves 143 = .ok (.ifCond .lt 32, 3) := by decide +kernel
theorem dL_areShelves_146 : decode cL_areShelves 146 = .ok (.aload_n 0, 1) := by decide +kernel
theorem dL_areShelves_147 : decode cL_areShelves 147 = .ok (.iload_n 3, 1) := by decide +kernel
theorem dL_areShelves_148 : decode cL_areShelves 148 = .ok (.invokevirtual 201, 3) := by decide +kernel
theorem dL_areShelves_151 : decode cL_areShelves 151 = .ok (.iload 5, 2) := by decide +kernel
theorem dL_areShelves_153 : decode cL_areShelves 153 = .ok (.iadd, 1) := by decide +kernel
theorem dL_areShelves_154 : decode cL_areShelves 154 = .ok (.bipush 40, 2) := by decide +kernel
theorem dL_areShelves_156 : decode cL_areShelves 156 = .ok (.if_icmp .gt 19, 3) := by decide +kernel
theorem dL_areShelves_159 : decode cL_areShelves 159 = .ok (.aload_n 0, 1) := by decide +kernel
theorem dL_areShelves_160 : decode cL_areShelves 160 = .ok (.iload_n 3, 1) := by decide +kernel
theorem dL_areShelves_161 : decode cL_areShelves 161 = .ok (.invokestatic 204, 3) := by decide +kernel
theorem dL_areShelves_164 : decode cL_areShelves 164 = .ok (.aload_n 0, 1) := by decide +kernel
theorem dL_areShelves_165 : decode cL_areShelves 165 = .ok (.invokevirtual 170, 3) := by decide +kernel
theorem dL_areShelves_168 : decode cL_areShelves 168 = .ok (.if_icmp .gt 7, 3) := by decide +kernel
theorem dL_areShelves_171 : decode cL_areShelves 171 = .ok (.iconst 1, 1) := by decide +kernel
theorem dL_areShelves_172 : decode cL_areShelves 172 = .ok (.goto 4, 3) := by decide +kernel
theorem dL_areShelves_175 : decode cL_areShelves 175 = .ok (.iconst 0, 1) := by decide +kernel
theorem dL_areShelves_176 : decode cL_areShelves 176 = .ok (.istore_n 2, 1) := by decide +kernel
theorem dL_areShelves_177 : decode cL_areShelves 177 = .ok (.iinc 3 1, 3) := by decide +kernel
theorem dL_areShelves_180 : decode cL_areShelves 180 = .ok (.goto (-145), 3) := by decide +kernel
theorem dL_areShelves_183 : decode cL_areShelves 183 = .ok (.iconst 1, 1) := by decide +kernel
theorem dL_areShelves_184 : decode cL_areShelves 184 = .ok (.istore_n 3, 1) := by decide +kernel
theorem dL_areShelves_185 : decode cL_areShelves 185 = .ok (.iload_n 2, 1) := by decide +kernel
theorem dL_areShelves_186 : decode cL_areShelves 186 = .ok (.ifCond .eq 96, 3) := by decide +kernel
theorem dL_areShelves_189 : decode cL_areShelves 189 = .ok (.iload_n 3, 1) := by decide +kernel
theorem dL_areShelves_190 : decode cL_areShelves 190 = .ok (.aload_n 0, 1) := by decide +kernel
theorem dL_areShelves_191 : decode cL_areShelves 191 = .ok (.invokevirtual 193, 3) := by decide +kernel
theorem dL_areShelves_194 : decode cL_areShelves 194 = .ok (.if_icmp .ge 88, 3) := by decide +kernel
theorem dL_areShelves_197 : decode cL_areShelves 197 = .ok (.aload_n 0, 1) := by decide +kernel
theorem dL_areShelves_198 : decode cL_areShelves 198 = .ok (.iload_n 3, 1) := by decide +kernel
theorem dL_areShelves_199 : decode cL_areShelves 199 = .ok (.iconst 1, 1) := by decide +kernel
theorem dL_areShelves_200 : decode cL_areShelves 200 = .ok (.isub, 1) := by decide +kernel
theorem dL_areShelves_201 : decode cL_areShelves 201 = .ok (.invokestatic 220, 3) := by decide +kernel
theorem dL_areShelves_204 : decode cL_areShelves 204 = .ok (.istore 4, 2) := by decide +kernel
theorem dL_areShelves_206 : decode cL_areShelves 206 = .ok (.aload_n 0, 1) := by decide +kernel
theorem dL_areShelves_207 : decode cL_areShelves 207 = .ok (.iload_n 3, 1) := by decide +kernel
theorem dL_areShelves_208 : decode cL_areShelves 208 = .ok (.invokestatic 220, 3) := by decide +kernel
theorem dL_areShelves_211 : decode cL_areShelves 211 = .ok (.istore 5, 2) := by decide +kernel
theorem dL_areShelves_213 : decode cL_areShelves 213 = .ok (.aload_n 0, 1) := by decide +kernel
theorem dL_areShelves_214 : decode cL_areShelves 214 = .ok (.iload 5, 2) := by decide +kernel
theorem dL_areShelves_216 : decode cL_areShelves 216 = .ok (.invokestatic 204, 3) := by decide +kernel
theorem dL_areShelves_219 : decode cL_areShelves 219 = .ok (.aload_n 0, 1) := by decide +kernel
theorem dL_areShelves_220 : decode cL_areShelves 220 = .ok (.iload 4, 2) := by decide +kernel
theorem dL_areShelves_222 : decode cL_areShelves 222 = .ok (.invokestatic 204, 3) := by decide +kernel
theorem dL_areShelves_225 : decode cL_areShelves 225 = .ok (.isub, 1) := by decide +kernel
theorem dL_areShelves_226 : decode cL_areShelves 226 = .ok (.istore 6, 2) := by decide +kernel
theorem dL_areShelves_228 : decode cL_areShelves 228 = .ok (.aload_n 0, 1) := by decide +kernel
theorem dL_areShelves_229 : decode cL_areShelves 229 = .ok (.iload 4, 2) := by decide +kernel
theorem dL_areShelves_231 : decode cL_areShelves 231 = .ok (.invokevirtual 222, 3) := by decide +kernel
theorem dL_areShelves_234 : decode cL_areShelves 234 = .ok (.aload_n 0, 1) := by decide +kernel
theorem dL_areShelves_235 : decode cL_areShelves 235 = .ok (.iload 5, 2) := by decide +kernel
theorem dL_areShelves_237 : decode cL_areShelves 237 = .ok (.invokevirtual 222, 3) := by decide +kernel
theorem dL_areShelves_240 : decode cL_areShelves 240 = .ok (.isub, 1) := by decide +kernel
theorem dL_areShelves_241 : decode cL_areShelves 241 = .ok (.istore 7, 2) := by decide +kernel
theorem dL_areShelves_243 : decode cL_areShelves 243 = .ok (.iload 6, 2) := by decide +kernel
theorem dL_areShelves_245 : decode cL_areShelves 245 = .ok (.ifCond .gt 25, 3) := by decide +kernel
theorem dL_areShelves_248 : decode cL_areShelves 248 = .ok (.iload 6, 2) := by decide +kernel
theorem dL_areShelves_250 : decode cL_areShelves 250 = .ok (.ifCond .ne 24, 3) := by decide +kernel
theorem dL_areShelves_253 : decode cL_areShelves 253 = .ok (.iload 7, 2) := by decide +kernel
theorem dL_areShelves_255 : decode cL_areShelves 255 = .ok (.ifCond .gt 15, 3) := by decide +kernel
theorem dL_areShelves_258 : decode cL_areShelves 258 = .ok (.iload 7, 2) := by decide +kernel
theorem dL_areShelves_260 : decode cL_areShelves 260 = .ok (.ifCond .ne 14, 3) := by decide +kernel
theorem dL_areShelves_263 : decode cL_areShelves 263 = .ok (.iload 4, 2) := by decide +kernel
theorem dL_areShelves_265 : decode cL_areShelves 265 = .ok (.iload 5, 2) := by decide +kernel
theorem dL_areShelves_267 : decode cL_areShelves 267 = .ok (.if_icmp .ge 7, 3) := by decide +kernel
theorem dL_areShelves_270 : decode cL_areShelves 270 = .ok (.iconst 1, 1) := by decide +kernel
theorem dL_areShelves_271 : decode cL_areShelves 271 = .ok (.goto 4, 3) := by decide +kernel
theorem dL_areShelves_274 : decode cL_areShelves 274 = .ok (.iconst 0, 1) := by decide +kernel
theorem dL_areShelves_275 : decode cL_areShelves 275 = .ok (.istore_n 2, 1) := by decide +kernel
theorem dL_areShelves_276 : decode cL_areShelves 276 = .ok (.iinc 3 1, 3) := by decide +kernel
theorem dL_areShelves_279 : decode cL_areShelves 279 = .ok (.goto (-94), 3) := by decide +kernel
theorem dL_areShelves_282 : decode cL_areShelves 282 = .ok (.iconst 0, 1) := by decide +kernel
theorem dL_areShelves_283 : decode cL_areShelves 283 = .ok (.istore_n 3, 1) := by decide +kernel
theorem dL_areShelves_284 : decode cL_areShelves 284 = .ok (.iload_n 2, 1) := by decide +kernel
theorem dL_areShelves_285 : decode cL_areShelves 285 = .ok (.ifCond .eq 127, 3) := by decide +kernel
theorem dL_areShelves_288 : decode cL_areShelves 288 = .ok (.iload_n 3, 1) := by decide +kernel
theorem dL_areShelves_289 : decode cL_areShelves 289 = .ok (.iconst 3, 1) := by decide +kernel
theorem dL_areShelves_290 : decode cL_areShelves 290 = .ok (.if_icmp .ge 122, 3) := by decide +kernel
theorem dL_areShelves_293 : decode cL_areShelves 293 = .ok (.iconst 0, 1) := by decide +kernel
theorem dL_areShelves_294 : decode cL_areShelves 294 = .ok (.istore 4, 2) := by decide +kernel
theorem dL_areShelves_296 : decode cL_areShelves 296 = .ok (.iconst 0, 1) := by decide +kernel
theorem dL_areShelves_297 : decode cL_areShelves 297 = .ok (.istore 5, 2) := by decide +kernel
theorem dL_areShelves_299 : decode cL_areShelves 299 = .ok (.iload 5, 2) := by decide +kernel
theorem dL_areShelves_301 : decode cL_areShelves 301 = .ok (.aload_n 0, 1) := by decide +kernel
theorem dL_areShelves_302 : decode cL_areShelves 302 = .ok (.invokevirtual 193, 3) := by decide +kernel
theorem dL_areShelves_305 : decode cL_areShelves 305 = .ok (.if_icmp .ge 38, 3) := by decide +kernel
theorem dL_areShelves_308 : decode cL_areShelves 308 = .ok (.iload 4, 2) := by decide +kernel
theorem dL_areShelves_310 : decode cL_areShelves 310 = .ok (.aload_n 0, 1) := by decide +kernel
theorem dL_areShelves_311 : decode cL_areShelves 311 = .ok (.iload 5, 2) := by decide +kernel
theorem dL_areShelves_313 : decode cL_areShelves 313 = .ok (.invokevirtual 198, 3) := by decide +kernel
theorem dL_areShelves_316 : decode cL_areShelves 316 = .ok (.iload_n 3, 1) := by decide +kernel
theorem dL_areShelves_317 : decode cL_areShelves 317 = .ok (.if_icmp .ne 16, 3) := by decide +kernel
theorem dL_areShelves_320 : decode cL_areShelves 320 = .ok (.aload_n 0, 1) := by decide +kernel
theorem dL_areShelves_321 : decode cL_areShelves 321 = .ok (.iload 5, 2) := by decide +kernel
theorem dL_areShelves_323 : decode cL_areShelves 323 = .ok (.invokevirtual 222, 3) := by decide +kernel
theorem dL_areShelves_326 : decode cL_areShelves 326 = .ok (.ifCond .le 7, 3) := by decide +kernel
theorem dL_areShelves_329 : decode cL_areShelves 329 = .ok (.iconst 1, 1) := by decide +kernel
theorem dL_areShelves_330 : decode cL_areShelves 330 = .ok (.goto 4, 3) := by decide +kernel
theorem dL_areShelves_333 : decode cL_areShelves 333 = .ok (.iconst 0, 1) := by decide +kernel
theorem dL_areShelves_334 : decode cL_areShelves 334 = .ok (.iadd, 1) := by decide +kernel
theorem dL_areShelves_335 : decode cL_areShelves 335 = .ok (.istore 4, 2) := by decide +kernel
theorem dL_areShelves_337 : decode cL_areShelves 337 = .ok (.iinc 5 1, 3) := by decide +kernel
theorem dL_areShelves_340 : decode cL_areShelves 340 = .ok (.goto (-41), 3) := by decide +kernel
theorem dL_areShelves_343 : decode cL_areShelves 343 = .ok (.aload_n 0, 1) := by decide +kernel
theorem dL_areShelves_344 : decode cL_areShelves 344 = .ok (.iload_n 3, 1) := by decide +kernel
theorem dL_areShelves_345 : decode cL_areShelves 345 = .ok (.invokevirtual 225, 3) := by decide +kernel
theorem dL_areShelves_348 : decode cL_areShelves 348 = .ok (.istore 5, 2) := by decide +kernel
theorem dL_areShelves_350 : decode cL_areShelves 350 = .ok (.aload_n 0, 1) := by decide +kernel
theorem dL_areShelves_351 : decode cL_areShelves 351 = .ok (.iload_n 3, 1) := by decide +kernel
theorem dL_areShelves_352 : decode cL_areShelves 352 = .ok (.invokevirtual 228, 3) := by decide +kernel
theorem dL_areShelves_355 : decode cL_areShelves 355 = .ok (.iload 5, 2) := by decide +kernel
theorem dL_areShelves_357 : decode cL_areShelves 357 = .ok (.if_icmp .ne 47, 3) := by decide +kernel
theorem dL_areShelves_360 : decode cL_areShelves 360 = .ok (.iload 5, 2) := by decide +kernel
theorem dL_areShelves_362 : decode cL_areShelves 362 = .ok (.iload 4, 2) := by decide +kernel
theorem dL_areShelves_364 : decode cL_areShelves 364 = .ok (.if_icmp .gt 40, 3) := by decide +kernel
theorem dL_areShelves_367 : decode cL_areShelves 367 = .ok (.iload 5, 2) := by decide +kernel
theorem dL_areShelves_369 : decode cL_areShelves 369 = .ok (.ifCond .le 7, 3) := by decide +kernel
theorem dL_areShelves_372 : decode cL_areShelves 372 = .ok (.iconst 1, 1) := by decide +kernel
theorem dL_areShelves_373 : decode cL_areShelves 373 = .ok (.goto 4, 3) := by decide +kernel
theorem dL_areShelves_376 : decode cL_areShelves 376 = .ok (.iconst 0, 1) := by decide +kernel
theorem dL_areShelves_377 : decode cL_areShelves 377 = .ok (.iload 4, 2) := by decide +kernel
theorem dL_areShelves_379 : decode cL_areShelves 379 = .ok (.ifCond .le 7, 3) := by decide +kernel
theorem dL_areShelves_382 : decode cL_areShelves 382 = .ok (.iconst 1, 1) := by decide +kernel
theorem dL_areShelves_383 : decode cL_areShelves 383 = .ok (.goto 4, 3) := by decide +kernel
theorem dL_areShelves_386 : decode cL_areShelves 386 = .ok (.iconst 0, 1) := by decide +kernel
theorem dL_areShelves_387 : decode cL_areShelves 387 = .ok (.if_icmp .ne 17, 3) := by decide +kernel
theorem dL_areShelves_390 : decode cL_areShelves 390 = .ok (.aload_n 0, 1) := by decide +kernel
theorem dL_areShelves_391 : decode cL_areShelves 391 = .ok (.iload_n 3, 1) := by decide +kernel
theorem dL_areShelves_392 : decode cL_areShelves 392 = .ok (.bipush 7, 2) := by decide +kernel
theorem dL_areShelves_394 : decode cL_areShelves 394 = .ok (.invokestatic 231, 3) := by decide +kernel
theorem dL_areShelves_397 : decode cL_areShelves 397 = .ok (.ifCond .eq 7, 3) := by decide +kernel
theorem dL_areShelves_400 : decode cL_areShelves 400 = .ok (.iconst 1, 1) := by decide +kernel
theorem dL_areShelves_401 : decode cL_areShelves 401 = .ok (.goto 4, 3) := by decide +kernel
theorem dL_areShelves_404 : decode cL_areShelves 404 = .ok (.iconst 0, 1) := by decide +kernel
theorem dL_areShelves_405 : decode cL_areShelves 405 = .ok (.istore_n 2, 1) := by decide +kernel
theorem dL_areShelves_406 : decode cL_areShelves 406 = .ok (.iinc 3 1, 3) := by decide +kernel
theorem dL_areShelves_409 : decode cL_areShelves 409 = .ok (.goto (-125), 3) := by decide +kernel
theorem dL_areShelves_412 : decode cL_areShelves 412 = .ok (.iload_n 2, 1) := by decide +kernel
theorem dL_areShelves_413 : decode cL_areShelves 413 = .ok (.ifCond .eq 13, 3) := by decide +kernel
theorem dL_areShelves_416 : decode cL_areShelves 416 = .ok (.iload_n 1, 1) := by decide +kernel
theorem dL_areShelves_417 : decode cL_areShelves 417 = .ok (.bipush 8, 2) := by decide +kernel
theorem dL_areShelves_419 : decode cL_areShelves 419 = .ok (.if_icmp .gt 7, 3) := by decide +kernel
theorem dL_areShelves_422 : decode cL_areShelves 422 = .ok (.iconst 1, 1) := by decide +kernel
theorem dL_areShelves_423 : decode cL_areShelves 423 = .ok (.goto 4, 3) := by decide +kernel
theorem dL_areShelves_426 : decode cL_areShelves 426 = .ok (.iconst 0, 1) := by decide +kernel
theorem dL_areShelves_427 : decode cL_areShelves 427 = .ok (.ireturn, 1) := by decide +kernel
theorem dL_isPlace_0 : decode cL_isPlace 0 = .ok (.aload_n 0, 1) := by decide +kernel
theorem dL_isPlace_1 : decode cL_isPlace 1 = .ok (.iload_n 1, 1) := by decide +kernel
theorem dL_isPlace_2 : decode cL_isPlace 2 = .ok (.iload_n 2, 1) := by decide +kernel
theorem dL_isPlace_3 : decode cL_isPlace 3 = .ok (.invokestatic 235, 3) := by decide +kernel
theorem dL_isPlace_6 : decode cL_isPlace 6 = .ok (.istore_n 3, 1) := by decide +kernel
theorem dL_isPlace_7 : decode cL_isPlace 7 = .ok (.iload_n 3, 1) := by decide +kernel
theorem dL_isPlace_8 : decode cL_isPlace 8 = .ok (.sipush (-1000), 3) := by decide +kernel
theorem dL_isPlace_11 : decode cL_isPlace 11 = .ok (.if_icmp .eq 21, 3) := by decide +kernel
theorem dL_isPlace_14 : decode cL_isPlace 14 = .ok (.aload_n 0, 1) := by decide +kernel
theorem dL_isPlace_15 : decode cL_isPlace 15 = .ok (.iload_n 3, 1) := by decide +kernel
theorem dL_isPlace_16 : decode cL_isPlace 16 = .ok (.invokevirtual 198, 3) := by decide +kernel
theorem dL_isPlace_19 : decode cL_isPlace 19 = .ok (.iload_n 1, 1) := by decide +kernel
theorem dL_isPlace_20 : decode cL_isPlace 20 = .ok (.if_icmp .ne 16, 3) := by decide +kernel
theorem dL_isPlace_23 : decode cL_isPlace 23 = .ok (.aload_n 0, 1) := by decide +kernel
theorem dL_isPlace_24 : decode cL_isPlace 24 = .ok (.iload_n 3, 1) := by decide +kernel
theorem dL_isPlace_25 : decode cL_isPlace 25 = .ok (.invokevirtual 201, 3) := by decide +kernel
theorem dL_isPlace_28 : decode cL_isPlace 28 = .ok (.iload_n 2, 1) := by decide +kernel
theorem dL_isPlace_29 : decode cL_isPlace 29 = .ok (.if_icmp .lt 7, 3) := by decide +kernel
theorem dL_isPlace_32 : decode cL_isPlace 32 = .ok (.iconst 1, 1) := by decide +kernel
theorem dL_isPlace_33 : decode cL_isPlace 33 = .ok (.goto 4, 3) := by decide +kernel
theorem dL_isPlace_36 : decode cL_isPlace 36 = .ok (.iconst 0, 1) := by decide +kernel
theorem dL_isPlace_37 : decode cL_isPlace 37 = .ok (.istore 4, 2) := by decide +kernel
theorem dL_isPlace_39 : decode cL_isPlace 39 = .ok (.iconst 0, 1) := by decide +kernel
theorem dL_isPlace_40 : decode cL_isPlace 40 = .ok (.istore 5, 2) := by decide +kernel
theorem dL_isPlace_42 : decode cL_isPlace 42 = .ok (.iload 4, 2) := by decide +kernel
theorem dL_isPlace_44 : decode cL_isPlace 44 = .ok (.ifCond .eq 98, 3) := by decide +kernel
theorem dL_isPlace_47 : decode cL_isPlace 47 = .ok (.iload 5, 2) := by decide +kernel
theorem dL_isPlace_49 : decode cL_isPlace 49 = .ok (.aload_n 0, 1) := by decide +kernel
theorem dL_isPlace_50 : decode cL_isPlace 50 = .ok (.invokevirtual 193, 3) := by decide +kernel
theorem dL_isPlace_53 : decode cL_isPlace 53 = .ok (.if_icmp .ge 89, 3) := by decide +kernel
theorem dL_isPlace_56 : decode cL_isPlace 56 = .ok (.aload_n 0, 1) := by decide +kernel
theorem dL_isPlace_57 : decode cL_isPlace 57 = .ok (.iload 5, 2) := by decide +kernel
theorem dL_isPlace_59 : decode cL_isPlace 59 = .ok (.invokevirtual 198, 3) := by decide +kernel
theorem dL_isPlace_62 : decode cL_isPlace 62 = .ok (.iload_n 1, 1) := by decide +kernel
theorem dL_isPlace_63 : decode cL_isPlace 63 = .ok (.if_icmp .ne 17, 3) := by decide +kernel
theorem dL_isPlace_66 : decode cL_isPlace 66 = .ok (.aload_n 0, 1) := by decide +kernel
theorem dL_isPlace_67 : decode cL_isPlace 67 = .ok (.iload 5, 2) := by decide +kernel
theorem dL_isPlace_69 : decode cL_isPlace 69 = .ok (.invokevirtual 201, 3) := by decide +kernel
theorem dL_isPlace_72 : decode cL_isPlace 72 = .ok (.iload_n 2, 1) := by decide +kernel
theorem dL_isPlace_73 : decode cL_isPlace 73 = .ok (.if_icmp .lt 7, 3) := by decide +kernel
theorem dL_isPlace_76 : decode cL_isPlace 76 = .ok (.iconst 1, 1) := by decide +kernel
theorem dL_isPlace_77 : decode cL_isPlace 77 = .ok (.goto 4, 3) := by decide +kernel
theorem dL_isPlace_80 : decode cL_isPlace 80 = .ok (.iconst 0, 1) := by decide +kernel
theorem dL_isPlace_81 : decode cL_isPlace 81 = .ok (.istore 6, 2) := by decide +kernel
theorem dL_isPlace_83 : decode cL_isPlace 83 = .ok (.iload 6, 2) := by decide +kernel
theorem dL_isPlace_85 : decode cL_isPlace 85 = .ok (.ifCond .eq 44, 3) := by decide +kernel
theorem dL_isPlace_88 : decode cL_isPlace 88 = .ok (.iload_n 3, 1) := by decide +kernel
theorem dL_isPlace_89 : decode cL_isPlace 89 = .ok (.sipush (-1000), 3) := by decide +kernel
theorem dL_isPlace_92 : decode cL_isPlace 92 = .ok (.if_icmp .eq 41, 3) := by decide +kernel
theorem dL_isPlace_95 : decode cL_isPlace 95 = .ok (.aload_n 0, 1) := by decide +kernel
theorem dL_isPlace_96 : decode cL_isPlace 96 = .ok (.iload 5, 2) := by decide +kernel
theorem dL_isPlace_98 : decode cL_isPlace 98 = .ok (.invokevirtual 201, 3) := by decide +kernel
theorem dL_isPlace_101 : decode cL_isPlace 101 = .ok (.aload_n 0, 1) := by decide +kernel
theorem dL_isPlace_102 : decode cL_isPlace 102 = .ok (.iload_n 3, 1) := by decide +kernel
theorem dL_isPlace_103 : decode cL_isPlace 103 = .ok (.invokevirtual 201, 3) := by decide +kernel
theorem dL_isPlace_106 : decode cL_isPlace 106 = .ok (.if_icmp .gt 23, 3) := by decide +kernel
theorem dL_isPlace_109 : decode cL_isPlace 109 = .ok (.aload_n 0, 1) := by decide +kernel
theorem dL_isPlace_110 : decode cL_isPlace 110 = .ok (.iload 5, 2) := by decide +kernel
theorem dL_isPlace_112 : decode cL_isPlace 112 = .ok (.invokevirtual 201, 3) := by decide +kernel
theorem dL_isPlace_115 : decode cL_isPlace 115 = .ok (.aload_n 0, 1) := by decide +kernel
theorem dL_isPlace_116 : decode cL_isPlace 116 = .ok (.iload_n 3, 1) := by decide +kernel
theorem dL_isPlace_117 : decode cL_isPlace 117 = .ok (.invokevirtual 201, 3) := by decide +kernel
theorem dL_isPlace_120 : decode cL_isPlace 120 = .ok (.if_icmp .ne 13, 3) := by decide +kernel
theorem dL_isPlace_123 : decode cL_isPlace 123 = .ok (.iload 5, 2) := by decide +kernel
theorem dL_isPlace_125 : decode cL_isPlace 125 = .ok (.iload_n 3, 1) := by decide +kernel
theorem dL_isPlace_126 : decode cL_isPlace 126 = .ok (.if_icmp .lt 7, 3) := by decide +kernel
theorem dL_isPlace_129 : decode cL_isPlace 129 = .ok (.iconst 1, 1) := by decide +kernel
theorem dL_isPlace_130 : decode cL_isPlace 130 = .ok (.goto 4, 3) := by decide +kernel
theorem dL_isPlace_133 : decode cL_isPlace 133 = .ok (.iconst 0, 1) := by decide +kernel
theorem dL_isPlace_134 : decode cL_isPlace 134 = .ok (.istore 4, 2) := by decide +kernel
theorem dL_isPlace_136 : decode cL_isPlace 136 = .ok (.iinc 5 1, 3) := by decide +kernel
theorem dL_isPlace_139 : decode cL_isPlace 139 = .ok (.goto (-97), 3) := by decide +kernel
theorem dL_isPlace_142 : decode cL_isPlace 142 = .ok (.iload 4, 2) := by decide +kernel
theorem dL_isPlace_144 : decode cL_isPlace 144 = .ok (.ireturn, 1) := by decide +kernel
theorem dL_areLots_0 : decode cL_areLots 0 = .ok (.iconst 0, 1) := by decide +kernel
theorem dL_areLots_1 : decode cL_areLots 1 = .ok (.istore_n 1, 1) := by decide +kernel
theorem dL_areLots_2 : decode cL_areLots 2 = .ok (.iconst 0, 1) := by decide +kernel
theorem dL_areLots_3 : decode cL_areLots 3 = .ok (.istore_n 2, 1) := by decide +kernel
theorem dL_areLots_4 : decode cL_areLots 4 = .ok (.iconst 0, 1) := by decide +kernel
theorem dL_areLots_5 : decode cL_areLots 5 = .ok (.istore_n 3, 1) := by decide +kernel
theorem dL_areLots_6 : decode cL_areLots 6 = .ok (.aload_n 0, 1) := by decide +kernel
theorem dL_areLots_7 : decode cL_areLots 7 = .ok (.invokevirtual 190, 3) := by decide +kernel
theorem dL_areLots_10 : decode cL_areLots 10 = .ok (.istore 4, 2) := by decide +kernel
theorem dL_areLots_12 : decode cL_areLots 12 = .ok (.aload_n 0, 1) := by decide +kernel
theorem dL_areLots_13 : decode cL_areLots 13 = .ok (.invokevirtual 175, 3) := by decide +kernel
theorem dL_areLots_16 : decode cL_areLots 16 = .ok (.aload_n 0, 1) := by decide +kernel
theorem dL_areLots_17 : decode cL_areLots 17 = .ok (.invokevirtual 237, 3) := by decide +kernel
theorem dL_areLots_20 : decode cL_areLots 20 = .ok (.aload_n 0, 1) := by decide +kernel
theorem dL_areLots_21 : decode cL_areLots 21 = .ok (.invokevirtual 240, 3) := by decide +kernel
theorem dL_areLots_24 : decode cL_areLots 24 = .ok (.iadd, 1) := by decide +kernel
theorem dL_areLots_25 : decode cL_areLots 25 = .ok (.aload_n 0, 1) := by decide +kernel
theorem dL_areLots_26 : decode cL_areLots 26 = .ok (.invokevirtual 180, 3) := by decide +kernel
theorem dL_areLots_29 : decode cL_areLots 29 = .ok (.iadd, 1) := by decide +kernel
theorem dL_areLots_30 : decode cL_areLots 30 = .ok (.aload_n 0, 1) := by decide +kernel
theorem dL_areLots_31 : decode cL_areLots 31 = .ok (.invokevirtual 185, 3) := by decide +kernel
theorem dL_areLots_34 : decode cL_areLots 34 = .ok (.iadd, 1) := by decide +kernel
theorem dL_areLots_35 : decode cL_areLots 35 = .ok (.if_icmp .ne 48, 3) := by decide +kernel
theorem dL_areLots_38 : decode cL_areLots 38 = .ok (.aload_n 0, 1) := by decide +kernel
theorem dL_areLots_39 : decode cL_areLots 39 = .ok (.invokestatic 243, 3) := by decide +kernel
theorem dL_areLots_42 : decode cL_areLots 42 = .ok (.aload_n 0, 1) := by decide +kernel
theorem dL_areLots_43 : decode cL_areLots 43 = .ok (.invokestatic 245, 3) := by decide +kernel
theorem dL_areLots_46 : decode cL_areLots 46 = .ok (.if_icmp .ne 37, 3) := by decide +kernel
theorem dL_areLots_49 : decode cL_areLots 49 = .ok (.aload_n 0, 1) := by decide +kernel
theorem dL_areLots_50 : decode cL_areLots 50 = .ok (.invokestatic 243, 3) := by decide +kernel
theorem dL_areLots_53 : decode cL_areLots 53 = .ok (.sipush (-1000), 3) := by decide +kernel
theorem dL_areLots_56 : decode cL_areLots 56 = .ok (.if_icmp .ne 7, 3) := by decide +kernel
theorem dL_areLots_59 : decode cL_areLots 59 = .ok (.iconst 1, 1) := by decide +kernel
theorem dL_areLots_60 : decode cL_areLots 60 = .ok (.goto 4, 3) := by decide +kernel
theorem dL_areLots_63 : decode cL_areLots 63 = .ok (.iconst 0, 1) := by decide +kernel
theorem dL_areLots_64 : decode cL_areLots 64 = .ok (.aload_n 0, 1) := by decide +kernel
theorem dL_areLots_65 : decode cL_areLots 65 = .ok (.invokevirtual 247, 3) := by decide +kernel
theorem dL_areLots_68 : decode cL_areLots 68 = .ok (.ifCond .ne 7, 3) := by decide +kernel
theorem dL_areLots_71 : decode cL_areLots 71 = .ok (.iconst 1, 1) := by decide +kernel
theorem dL_areLots_72 : decode cL_areLots 72 = .ok (.goto 4, 3) := by decide +kernel
theorem dL_areLots_75 : decode cL_areLots 75 = .ok (.iconst 0, 1) := by decide +kernel
theorem dL_areLots_76 : decode cL_areLots 76 = .ok (.if_icmp .ne 7, 3) := by decide +kernel
theorem dL_areLots_79 : decode cL_areLots 79 = .ok (.iconst 1, 1) := by decide +kernel
theorem dL_areLots_80 : decode cL_areLots 80 = .ok (.goto 4, 3) := by decide +kernel
theorem dL_areLots_83 : decode cL_areLots 83 = .ok (.iconst 0, 1) := by decide +kernel
theorem dL_areLots_84 : decode cL_areLots 84 = .ok (.istore 5, 2) := by decide +kernel
theorem dL_areLots_86 : decode cL_areLots 86 = .ok (.iconst 0, 1) := by decide +kernel
theorem dL_areLots_87 : decode cL_areLots 87 = .ok (.istore 6, 2) := by decide +kernel
theorem dL_areLots_89 : decode cL_areLots 89 = .ok (.iload 5, 2) := by decide +kernel
theorem dL_areLots_91 : decode cL_areLots 91 = .ok (.ifCond .eq 277, 3) := by decide +kernel
theorem dL_areLots_94 : decode cL_areLots 94 = .ok (.iload 6, 2) := by decide +kernel
theorem dL_areLots_96 : decode cL_areLots 96 = .ok (.iload 4, 2) := by decide +kernel
theorem dL_areLots_98 : decode cL_areLots 98 = .ok (.if_icmp .ge 270, 3) := by decide +kernel
theorem dL_areLots_101 : decode cL_areLots 101 = .ok (.iconst 0, 1) := by decide +kernel
theorem dL_areLots_102 : decode cL_areLots 102 = .ok (.istore 7, 2) := by decide +kernel
theorem dL_areLots_104 : decode cL_areLots 104 = .ok (.iconst 0, 1) := by decide +kernel
theorem dL_areLots_105 : decode cL_areLots 105 = .ok (.istore 8, 2) := by decide +kernel
theorem dL_areLots_107 : decode cL_areLots 107 = .ok (.iload 8, 2) := by decide +kernel
theorem dL_areLots_109 : decode cL_areLots 109 = .ok (.iload 4, 2) := by decide +kernel
theorem dL_areLots_111 : decode cL_areLots 111 = .ok (.if_icmp .ge 80, 3) := by decide +kernel
theorem dL_areLots_114 : decode cL_areLots 114 = .ok (.aload_n 0, 1) := by decide +kernel
theorem dL_areLots_115 : decode cL_areLots 115 = .ok (.iload 8, 2) := by decide +kernel
theorem dL_areLots_117 : decode cL_areLots 117 = .ok (.iload 6, 2) := by decide +kernel
theorem dL_areLots_119 : decode cL_areLots 119 = .ok (.invokevirtual 250, 3) := by decide +kernel
theorem dL_areLots_122 : decode cL_areLots 122 = .ok (.istore 9, 2) := by decide +kernel
theorem dL_areLots_124 : decode cL_areLots 124 = .ok (.iload 7, 2) := by decide +kernel
theorem dL_areLots_126 : decode cL_areLots 126 = .ok (.iload 9, 2) := by decide +kernel
theorem dL_areLots_128 : decode cL_areLots 128 = .ok (.ifCond .eq 7, 3) := by decide +kernel
theorem dL_areLots_131 : decode cL_areLots 131 = .ok (.iconst 1, 1) := by decide +kernel
theorem dL_areLots_132 : decode cL_areLots 132 = .ok (.goto 4, 3) := by decide +kernel
theorem dL_areLots_135 : decode cL_areLots 135 = .ok (.iconst 0, 1) := by decide +kernel
theorem dL_areLots_136 : decode cL_areLots 136 = .ok (.iadd, 1) := by decide +kernel
theorem dL_areLots_137 : decode cL_areLots 137 = .ok (.istore 7, 2) := by decide +kernel
theorem dL_areLots_139 : decode cL_areLots 139 = .ok (.iload 5, 2) := by decide +kernel
theorem dL_areLots_141 : decode cL_areLots 141 = .ok (.iload 9, 2) := by decide +kernel
theorem dL_areLots_143 : decode cL_areLots 143 = .ok (.ifCond .eq 34, 3) := by decide +kernel
theorem dL_areLots_146 : decode cL_areLots 146 = .ok (.iload 8, 2) := by decide +kernel
theorem dL_areLots_148 : decode cL_areLots 148 = .ok (.iload 6, 2) := by decide +kernel
theorem dL_areLots_150 : decode cL_areLots 150 = .ok (.if_icmp .le 31, 3) := by decide +kernel
theorem dL_areLots_153 : decode cL_areLots 153 = .ok (.aload_n 0, 1) := by decide +kernel
theorem dL_areLots_154 : decode cL_areLots 154 = .ok (.iload 8, 2) := by decide +kernel
theorem dL_areLots_156 : decode cL_areLots 156 = .ok (.invokevirtual 209, 3) := by decide +kernel
theorem dL_areLots_159 : decode cL_areLots 159 = .ok (.aload_n 0, 1) := by decide +kernel
theorem dL_areLots_160 : decode cL_areLots 160 = .ok (.iload 6, 2) := by decide +kernel
theorem dL_areLots_162 : decode cL_areLots 162 = .ok (.invokevirtual 209, 3) := by decide +kernel
theorem dL_areLots_165 : decode cL_areLots 165 = .ok (.if_icmp .gt 16, 3) := by decide +kernel
theorem dL_areLots_168 : decode cL_areLots 168 = .ok (.aload_n 0, 1) := by decide +kernel
theorem dL_areLots_169 : decode cL_areLots 169 = .ok (.iload 8, 2) := by decide +kernel
theorem dL_areLots_171 : decode cL_areLots 171 = .ok (.invokevirtual 217, 3) := by decide +kernel
theorem dL_areLots_174 : decode cL_areLots 174 = .ok (.ifCond .le 7, 3) := by decide +kernel
theorem dL_areLots_177 : decode cL_areLots 177 = .ok (.iconst 1, 1) := by decide +kernel
theorem dL_areLots_178 : decode cL_areLots 178 = .ok (.goto 4, 3) := by decide +kernel
theorem dL_areLots_181 : decode cL_areLots 181 = .ok (.iconst 0, 1) := by decide +kernel
theorem dL_areLots_182 : decode cL_areLots 182 = .ok (.iand, 1) := by decide +kernel
theorem dL_areLots_183 : decode cL_areLots 183 = .ok (.istore 5, 2) := by decide +kernel
theorem dL_areLots_185 : decode cL_areLots 185 = .ok (.iinc 8 1, 3) := by decide +kernel
theorem dL_areLots_188 : decode cL_areLots 188 = .ok (.goto (-81), 3) := by decide +kernel
theorem dL_areLots_191 : decode cL_areLots 191 = .ok (.aload_n 0, 1) := by decide +kernel
theorem dL_areLots_192 : decode cL_areLots 192 = .ok (.iload 6, 2) := by decide +kernel
theorem dL_areLots_194 : decode cL_areLots 194 = .ok (.invokevirtual 254, 3) := by decide +kernel
theorem dL_areLots_197 : decode cL_areLots 197 = .ok (.istore 8, 2) := by decide +kernel
theorem dL_areLots_199 : decode cL_areLots 199 = .ok (.iload_n 1, 1) := by decide +kernel
theorem dL_areLots_200 : decode cL_areLots 200 = .ok (.iload 8, 2) := by decide +kernel
theorem dL_areLots_202 : decode cL_areLots 202 = .ok (.ifCond .eq 12, 3) := by decide +kernel
theorem dL_areLots_205 : decode cL_areLots 205 = .ok (.aload_n 0, 1) := by decide +kernel
theorem dL_areLots_206 : decode cL_areLots 206 = .ok (.iload 6, 2) := by decide +kernel
theorem dL_areLots_208 : decode cL_areLots 208 = .ok (.invokevirtual 206, 3) := by decide +kernel
theorem dL_areLots_211 : decode cL_areLots 211 = .ok (.goto 4, 3) := by decide +kernel
theorem dL_areLots_214 : decode cL_areLots 214 = .ok (.iconst 0, 1) := by decide +kernel
theorem dL_areLots_215 : decode cL_areLots 215 = .ok (.iadd, 1) := by decide +kernel
theorem dL_areLots_216 : decode cL_areLots 216 = .ok (.istore_n 1, 1) := by decide +kernel
theorem dL_areLots_217 : decode cL_areLots 217 = .ok (.iload_n 2, 1) := by decide +kernel
theorem dL_areLots_218 : decode cL_areLots 218 = .ok (.iload 8, 2) := by decide +kernel
theorem dL_areLots_220 : decode cL_areLots 220 = .ok (.ifCond .eq 7, 3) := by decide +kernel
theorem dL_areLots_223 : decode cL_areLots 223 = .ok (.iconst 1, 1) := by decide +kernel
theorem dL_areLots_224 : decode cL_areLots 224 = .ok (.goto 4, 3) := by decide +kernel
theorem dL_areLots_227 : decode cL_areLots 227 = .ok (.iconst 0, 1) := by decide +kernel
theorem dL_areLots_228 : decode cL_areLots 228 = .ok (.iadd, 1) := by decide +kernel
theorem dL_areLots_229 : decode cL_areLots 229 = .ok (.istore_n 2, 1) := by decide +kernel
theorem dL_areLots_230 : decode cL_areLots 230 = .ok (.iload_n 3, 1) := by decide +kernel
theorem dL_areLots_231 : decode cL_areLots 231 = .ok (.iload 8, 2) := by decide +kernel
theorem dL_areLots_233 : decode cL_areLots 233 = .ok (.ifCond .eq 16, 3) := by decide +kernel
theorem dL_areLots_236 : decode cL_areLots 236 = .ok (.aload_n 0, 1) := by decide +kernel
theorem dL_areLots_237 : decode cL_areLots 237 = .ok (.iload 6, 2) := by decide +kernel
theorem dL_areLots_239 : decode cL_areLots 239 = .ok (.invokevirtual 258, 3) := by decide +kernel
theorem dL_areLots_242 : decode cL_areLots 242 = .ok (.ifCond .eq 7, 3) := by decide +kernel
theorem dL_areLots_245 : decode cL_areLots 245 = .ok (.iconst 1, 1) := by decide +kernel
theorem dL_areLots_246 : decode cL_areLots 246 = .ok (.goto 4, 3) := by decide +kernel
theorem dL_areLots_249 : decode cL_areLots 249 = .ok (.iconst 0, 1) := by decide +kernel
theorem dL_areLots_250 : decode cL_areLots 250 = .ok (.iadd, 1) := by decide +kernel
theorem dL_areLots_251 : decode cL_areLots 251 = .ok (.istore_n 3, 1) := by decide +kernel
theorem dL_areLots_252 : decode cL_areLots 252 = .ok (.iload 5, 2) := by decide +kernel
theorem dL_areLots_254 : decode cL_areLots 254 = .ok (.ifCond .eq 105, 3) := by decide +kernel
theorem dL_areLots_257 : decode cL_areLots 257 = .ok (.aload_n 0, 1) := by decide +kernel
theorem dL_areLots_258 : decode cL_areLots 258 = .ok (.iload 6, 2) := by decide +kernel
theorem dL_areLots_260 : decode cL_areLots 260 = .ok (.invokevirtual 261, 3) := by decide +kernel
theorem dL_areLots_263 : decode cL_areLots 263 = .ok (.iload 7, 2) := by decide +kernel
theorem dL_areLots_265 : decode cL_areLots 265 = .ok (.if_icmp .ne 94, 3) := by decide +kernel
theorem dL_areLots_268 : decode cL_areLots 268 = .ok (.aload_n 0, 1) := by decide +kernel
theorem dL_areLots_269 : decode cL_areLots 269 = .ok (.iload 6, 2) := by decide +kernel
theorem dL_areLots_271 : decode cL_areLots 271 = .ok (.invokevirtual 264, 3) := by decide +kernel
theorem dL_areLots_274 : decode cL_areLots 274 = .ok (.iload 7, 2) := by decide +kernel
theorem dL_areLots_276 : decode cL_areLots 276 = .ok (.if_icmp .ne 83, 3) := by decide +kernel
theorem dL_areLots_279 : decode cL_areLots 279 = .ok (.iload 8, 2) := by decide +kernel
theorem dL_areLots_281 : decode cL_areLots 281 = .ok (.aload_n 0, 1) := by decide +kernel
theorem dL_areLots_282 : decode cL_areLots 282 = .ok (.iload 6, 2) := by decide +kernel
theorem dL_areLots_284 : decode cL_areLots 284 = .ok (.invokestatic 212, 3) := by decide +kernel
theorem dL_areLots_287 : decode cL_areLots 287 = .ok (.sipush (-1000), 3) := by decide +kernel
theorem dL_areLots_290 : decode cL_areLots 290 = .ok (.if_icmp .eq 7, 3) := by decide +kernel
theorem dL_areLots_293 : decode cL_areLots 293 = .ok (.iconst 1, 1) := by decide +kernel
theorem dL_areLots_294 : decode cL_areLots 294 = .ok (.goto 4, 3) := by decide +kernel
theorem dL_areLots_297 : decode cL_areLots 297 = .ok (.iconst 0, 1) := by decide +kernel
theorem dL_areLots_298 : decode cL_areLots 298 = .ok (.if_icmp .ne 61, 3) := by decide +kernel
theorem dL_areLots_301 : decode cL_areLots 301 = .ok (.aload_n 0, 1) := by decide +kernel
theorem dL_areLots_302 : decode cL_areLots 302 = .ok (.iload 6, 2) := by decide +kernel
theorem dL_areLots_304 : decode cL_areLots 304 = .ok (.invokevirtual 258, 3) := by decide +kernel
theorem dL_areLots_307 : decode cL_areLots 307 = .ok (.aload_n 0, 1) := by decide +kernel
theorem dL_areLots_308 : decode cL_areLots 308 = .ok (.invokevirtual 170, 3) := by decide +kernel
theorem dL_areLots_311 : decode cL_areLots 311 = .ok (.aload_n 0, 1) := by decide +kernel
theorem dL_areLots_312 : decode cL_areLots 312 = .ok (.iload 6, 2) := by decide +kernel
theorem dL_areLots_314 : decode cL_areLots 314 = .ok (.invokevirtual 209, 3) := by decide +kernel
theorem dL_areLots_317 : decode cL_areLots 317 = .ok (.if_icmp .le 7, 3) := by decide +kernel
theorem dL_areLots_320 : decode cL_areLots 320 = .ok (.iconst 1, 1) := by decide +kernel
theorem dL_areLots_321 : decode cL_areLots 321 = .ok (.goto 4, 3) := by decide +kernel
theorem dL_areLots_324 : decode cL_areLots 324 = .ok (.iconst 0, 1) := by decide +kernel
theorem dL_areLots_325 : decode cL_areLots 325 = .ok (.if_icmp .ne 34, 3) := by decide +kernel
theorem dL_areLots_328 : decode cL_areLots 328 = .ok (.iload 8, 2) := by decide +kernel
theorem dL_areLots_330 : decode cL_areLots 330 = .ok (.ifCond .eq 12, 3) := by decide +kernel
theorem dL_areLots_333 : decode cL_areLots 333 = .ok (.aload_n 0, 1) := by decide +kernel
theorem dL_areLots_334 : decode cL_areLots 334 = .ok (.iload 6, 2) := by decide +kernel
theorem dL_areLots_336 : decode cL_areLots 336 = .ok (.invokevirtual 206, 3) := by decide +kernel
theorem dL_areLots_339 : decode cL_areLots 339 = .ok (.ifCond .le 20, 3) := by decide +kernel
theorem dL_areLots_342 : decode cL_areLots 342 = .ok (.aload_n 0, 1) := by decide +kernel
theorem dL_areLots_343 : decode cL_areLots 343 = .ok (.iload 6, 2) := by decide +kernel
theorem dL_areLots_345 : decode cL_areLots 345 = .ok (.invokevirtual 267, 3) := by decide +kernel
theorem dL_areLots_348 : decode cL_areLots 348 = .ok (.iload 7, 2) := by decide +kernel
theorem dL_areLots_350 : decode cL_areLots 350 = .ok (.iconst 1, 1) := by decide +kernel
theorem dL_areLots_351 : decode cL_areLots 351 = .ok (.iadd, 1) := by decide +kernel
theorem dL_areLots_352 : decode cL_areLots 352 = .ok (.if_icmp .gt 7, 3) := by decide +kernel
theorem dL_areLots_355 : decode cL_areLots 355 = .ok (.iconst 1, 1) := by decide +kernel
theorem dL_areLots_356 : decode cL_areLots 356 = .ok (.goto 4, 3) := by decide +kernel
theorem dL_areLots_359 : decode cL_areLots 359 = .ok (.iconst 0, 1) := by decide +kernel
theorem dL_areLots_360 : decode cL_areLots 360 = .ok (.istore 5, 2) := by decide +kernel
theorem dL_areLots_362 : decode cL_areLots 362 = .ok (.iinc 6 1, 3) := by decide +kernel
theorem dL_areLots_365 : decode cL_areLots 365 = .ok (.goto (-276), 3) := by decide +kernel
theorem dL_areLots_368 : decode cL_areLots 368 = .ok (.iconst 1, 1) := by decide +kernel
theorem dL_areLots_369 : decode cL_areLots 369 = .ok (.istore 6, 2) := by decide +kernel
theorem dL_areLots_371 : decode cL_areLots 371 = .ok (.iload 5, 2) := by decide +kernel
theorem dL_areLots_373 : decode cL_areLots 373 = .ok (.ifCond .eq 72, 3) := by decide +kernel
theorem dL_areLots_376 : decode cL_areLots 376 = .ok (.iload 6, 2) := by decide +kernel
theorem dL_areLots_378 : decode cL_areLots 378 = .ok (.iload_n 2, 1) := by decide +kernel
theorem dL_areLots_379 : decode cL_areLots 379 = .ok (.if_icmp .ge 66, 3) := by decide +kernel
theorem dL_areLots_382 : decode cL_areLots 382 = .ok (.aload_n 0, 1) := by decide +kernel
theorem dL_areLots_383 : decode cL_areLots 383 = .ok (.iload 6, 2) := by decide +kernel
theorem dL_areLots_385 : decode cL_areLots 385 = .ok (.iconst 1, 1) := by decide +kernel
theorem dL_areLots_386 : decode cL_areLots 386 = .ok (.isub, 1) := by decide +kernel
theorem dL_areLots_387 : decode cL_areLots 387 = .ok (.invokestatic 270, 3) := by decide +kernel
theorem dL_areLots_390 : decode cL_areLots 390 = .ok (.istore 7, 2) := by decide +kernel
theorem dL_areLots_392 : decode cL_areLots 392 = .ok (.aload_n 0, 1) := by decide +kernel
theorem dL_areLots_393 : decode cL_areLots 393 = .ok (.iload 6, 2) := by decide +kernel
theorem dL_areLots_395 : decode cL_areLots 395 = .ok (.invokestatic 270, 3) := by decide +kernel
theorem dL_areLots_398 : decode cL_areLots 398 = .ok (.istore 8, 2) := by decide +kernel
theorem dL_areLots_400 : decode cL_areLots 400 = .ok (.aload_n 0, 1) := by decide +kernel
theorem dL_areLots_401 : decode cL_areLots 401 = .ok (.iload 8, 2) := by decide +kernel
theorem dL_areLots_403 : decode cL_areLots 403 = .ok (.invokevirtual 209, 3) := by decide +kernel
theorem dL_areLots_406 : decode cL_areLots 406 = .ok (.aload_n 0, 1) := by decide +kernel
theorem dL_areLots_407 : decode cL_areLots 407 = .ok (.iload 7, 2) := by decide +kernel
theorem dL_areLots_409 : decode cL_areLots 409 = .ok (.invokevirtual 209, 3) := by decide +kernel
theorem dL_areLots_412 : decode cL_areLots 412 = .ok (.isub, 1) := by decide +kernel
theorem dL_areLots_413 : decode cL_areLots 413 = .ok (.istore 9, 2) := by decide +kernel
theorem dL_areLots_415 : decode cL_areLots 415 = .ok (.iload 9, 2) := by decide +kernel
theorem dL_areLots_417 : decode cL_areLots 417 = .ok (.ifCond .gt 15, 3) := by decide +kernel
theorem dL_areLots_420 : decode cL_areLots 420 = .ok (.iload 9, 2) := by decide +kernel
theorem dL_areLots_422 : decode cL_areLots 422 = .ok (.ifCond .ne 14, 3) := by decide +kernel
theorem dL_areLots_425 : decode cL_areLots 425 = .ok (.iload 7, 2) := by decide +kernel
theorem dL_areLots_427 : decode cL_areLots 427 = .ok (.iload 8, 2) := by decide +kernel
theorem dL_areLots_429 : decode cL_areLots 429 = .ok (.if_icmp .ge 7, 3) := by decide +kernel
theorem dL_areLots_432 : decode cL_areLots 432 = .ok (.iconst 1, 1) := by decide +kernel
theorem dL_areLots_433 : decode cL_areLots 433 = .ok (.goto 4, 3) := by decide +kernel
theorem dL_areLots_436 : decode cL_areLots 436 = .ok (.iconst 0, 1) := by decide +kernel
theorem dL_areLots_437 : decode cL_areLots 437 = .ok (.istore 5, 2) := by decide +kernel
theorem dL_areLots_439 : decode cL_areLots 439 = .ok (.iinc 6 1, 3) := by decide +kernel
theorem dL_areLots_442 : decode cL_areLots 442 = .ok (.goto (-71), 3) := by decide +kernel
theorem dL_areLots_445 : decode cL_areLots 445 = .ok (.iload 5, 2) := by decide +kernel
theorem dL_areLots_447 : decode cL_areLots 447 = .ok (.ifCond .eq 71, 3) := by decide +kernel
theorem dL_areLots_450 : decode cL_areLots 450 = .ok (.aload_n 0, 1) := by decide +kernel
theorem dL_areLots_451 : decode cL_areLots 451 = .ok (.invokevirtual 237, 3) := by decide +kernel
theorem dL_areLots_454 : decode cL_areLots 454 = .ok (.iload_n 1, 1) := by decide +kernel
theorem dL_areLots_455 : decode cL_areLots 455 = .ok (.if_icmp .ne 63, 3) := by decide +kernel
theorem dL_areLots_458 : decode cL_areLots 458 = .ok (.aload_n 0, 1) := by decide +kernel
theorem dL_areLots_459 : decode cL_areLots 459 = .ok (.iload_n 2, 1) := by decide +kernel
theorem dL_areLots_460 : decode cL_areLots 460 = .ok (.invokestatic 270, 3) := by decide +kernel
theorem dL_areLots_463 : decode cL_areLots 463 = .ok (.sipush (-1000), 3) := by decide +kernel
theorem dL_areLots_466 : decode cL_areLots 466 = .ok (.if_icmp .ne 52, 3) := by decide +kernel
theorem dL_areLots_469 : decode cL_areLots 469 = .ok (.aload_n 0, 1) := by decide +kernel
theorem dL_areLots_470 : decode cL_areLots 470 = .ok (.invokestatic 272, 3) := by decide +kernel
theorem dL_areLots_473 : decode cL_areLots 473 = .ok (.iload_n 2, 1) := by decide +kernel
theorem dL_areLots_474 : decode cL_areLots 474 = .ok (.ifCond .ne 9, 3) := by decide +kernel
theorem dL_areLots_477 : decode cL_areLots 477 = .ok (.ldc2_w 79, 3) := by decide +kernel
theorem dL_areLots_480 : decode cL_areLots 480 = .ok (.goto 8, 3) := by decide +kernel
theorem dL_areLots_483 : decode cL_areLots 483 = .ok (.iload_n 1, 1) := by decide +kernel
theorem dL_areLots_484 : decode cL_areLots 484 = .ok (.i2d, 1) := by decide +kernel
theorem dL_areLots_485 : decode cL_areLots 485 = .ok (.iload_n 2, 1) := by decide +kernel
theorem dL_areLots_486 : decode cL_areLots 486 = .ok (.i2d, 1) := by decide +kernel
theorem dL_areLots_487 : decode cL_areLots 487 = .ok (.ddiv, 1) := by decide +kernel
theorem dL_areLots_488 : decode cL_areLots 488 = .ok (.dcmp .l, 1) := by decide +kernel
theorem dL_areLots_489 : decode cL_areLots 489 = .ok (.ifCond .ne 29, 3) := by decide +kernel
theorem dL_areLots_492 : decode cL_areLots 492 = .ok (.aload_n 0, 1) := by decide +kernel
theorem dL_areLots_493 : decode cL_areLots 493 = .ok (.invokestatic 275, 3) := by decide +kernel
theorem dL_areLots_496 : decode cL_areLots 496 = .ok (.iload_n 2, 1) := by decide +kernel
theorem dL_areLots_497 : decode cL_areLots 497 = .ok (.ifCond .ne 8, 3) := by decide +kernel
theorem dL_areLots_500 : decode cL_areLots 500 = .ok (.ldc 87, 2) := by decide +kernel
theorem dL_areLots_502 : decode cL_areLots 502 = .ok (.goto 8, 3) := by decide +kernel
theorem dL_areLots_505 : decode cL_areLots 505 = .ok (.iload_n 3, 1) := by decide +kernel
theorem dL_areLots_506 : decode cL_areLots 506 = .ok (.i2f, 1) := by decide +kernel
theorem dL_areLots_507 : decode cL_areLots 507 = .ok (.iload_n 2, 1) := by decide +kernel
theorem dL_areLots_508 : decode cL_areLots 508 = .ok (.i2f, 1) := by decide +kernel
theorem dL_areLots_509 : decode cL_areLots 509 = .ok (.fdiv, 1) := by decide +kernel
theorem dL_areLots_510 : decode cL_areLots 510 = .ok (.fcmp .l, 1) := by decide +kernel
theorem dL_areLots_511 : decode cL_areLots 511 = .ok (.ifCond .ne 7, 3) := by decide +kernel
theorem dL_areLots_514 : decode cL_areLots 514 = .ok (.iconst 1, 1) := by decide +kernel
theorem dL_areLots_515 : decode cL_areLots 515 = .ok (.goto 4, 3) := by decide +kernel
theorem dL_areLots_518 : decode cL_areLots 518 = .ok (.iconst 0, 1) := by decide +kernel
theorem dL_areLots_519 : decode cL_areLots 519 = .ok (.ireturn, 1) := by decide +kernel
theorem dL_isRecalled_0 : decode cL_isRecalled 0 = .ok (.aload_n 0, 1) := by decide +kernel
theorem dL_isRecalled_1 : decode cL_isRecalled 1 = .ok (.invokestatic 278, 3) := by decide +kernel
theorem dL_isRecalled_4 : decode cL_isRecalled 4 = .ok (.lstore_n 2, 1) := by decide +kernel
theorem dL_isRecalled_5 : decode cL_isRecalled 5 = .ok (.aload_n 0, 1) := by decide +kernel
theorem dL_isRecalled_6 : decode cL_isRecalled 6 = .ok (.iload_n 1, 1) := by decide +kernel
theorem dL_isRecalled_7 : decode cL_isRecalled 7 = .ok (.invokevirtual 267, 3) := by decide +kernel
theorem dL_isRecalled_10 : decode cL_isRecalled 10 = .ok (.istore 4, 2) := by decide +kernel
theorem dL_isRecalled_12 : decode cL_isRecalled 12 = .ok (.aload_n 0, 1) := by decide +kernel
theorem dL_isRecalled_13 : decode cL_isRecalled 13 = .ok (.invokevirtual 247, 3) := by decide +kernel
theorem dL_isRecalled_16 : decode cL_isRecalled 16 = .ok (.istore 5, 2) := by decide +kernel
theorem dL_isRecalled_18 : decode cL_isRecalled 18 = .ok (.aload_n 0, 1) := by decide +kernel
theorem dL_isRecalled_19 : decode cL_isRecalled 19 = .ok (.invokestatic 278, 3) := by decide +kernel
theorem dL_isRecalled_22 : decode cL_isRecalled 22 = .ok (.lload_n 2, 1) := by decide +kernel
theorem dL_isRecalled_23 : decode cL_isRecalled 23 = .ok (.lcmp, 1) := by decide +kernel
theorem dL_isRecalled_24 : decode cL_isRecalled 24 = .ok (.ifCond .ne 52, 3) := by decide +kernel
theorem dL_isRecalled_27 : decode cL_isRecalled 27 = .ok (.aload_n 0, 1) := by decide +kernel
theorem dL_isRecalled_28 : decode cL_isRecalled 28 = .ok (.iload_n 1, 1) := by decide +kernel
theorem dL_isRecalled_29 : decode cL_isRecalled 29 = .ok (.invokestatic 143, 3) := by decide +kernel
theorem dL_isRecalled_32 : decode cL_isRecalled 32 = .ok (.iload 4, 2) := by decide +kernel
theorem dL_isRecalled_34 : decode cL_isRecalled 34 = .ok (.if_icmp .ne 42, 3) := by decide +kernel
theorem dL_isRecalled_37 : decode cL_isRecalled 37 = .ok (.aload_n 0, 1) := by decide +kernel
theorem dL_isRecalled_38 : decode cL_isRecalled 38 = .ok (.invokevirtual 247, 3) := by decide +kernel
theorem dL_isRecalled_41 : decode cL_isRecalled 41 = .ok (.iload 5, 2) := by decide +kernel
theorem dL_isRecalled_43 : decode cL_isRecalled 43 = .ok (.iload 4, 2) := by decide +kernel
theorem dL_isRecalled_45 : decode cL_isRecalled 45 = .ok (.iadd, 1) := by decide +kernel
theorem dL_isRecalled_46 : decode cL_isRecalled 46 = .ok (.if_icmp .ne 30, 3) := by decide +kernel
theorem dL_isRecalled_49 : decode cL_isRecalled 49 = .ok (.aload_n 0, 1) := by decide +kernel
theorem dL_isRecalled_50 : decode cL_isRecalled 50 = .ok (.iload_n 1, 1) := by decide +kernel
theorem dL_isRecalled_51 : decode cL_isRecalled 51 = .ok (.invokevirtual 254, 3) := by decide +kernel
theorem dL_isRecalled_54 : decode cL_isRecalled 54 = .ok (.ifCond .ne 22, 3) := by decide +kernel
theorem dL_isRecalled_57 : decode cL_isRecalled 57 = .ok (.aload_n 0, 1) := by decide +kernel
theorem dL_isRecalled_58 : decode cL_isRecalled 58 = .ok (.iload_n 1, 1) := by decide +kernel
theorem dL_isRecalled_59 : decode cL_isRecalled 59 = .ok (.invokevirtual 267, 3) := by decide +kernel
theorem dL_isRecalled_62 : decode cL_isRecalled 62 = .ok (.ifCond .ne 14, 3) := by decide +kernel
theorem dL_isRecalled_65 : decode cL_isRecalled 65 = .ok (.aload_n 0, 1) := by decide +kernel
theorem dL_isRecalled_66 : decode cL_isRecalled 66 = .ok (.invokestatic 282, 3) := by decide +kernel
theorem dL_isRecalled_69 : decode cL_isRecalled 69 = .ok (.ifCond .eq 7, 3) := by decide +kernel
theorem dL_isRecalled_72 : decode cL_isRecalled 72 = .ok (.iconst 1, 1) := by decide +kernel
theorem dL_isRecalled_73 : decode cL_isRecalled 73 = .ok (.goto 4, 3) := by decide +kernel
theorem dL_isRecalled_76 : decode cL_isRecalled 76 = .ok (.iconst 0, 1) := by decide +kernel
theorem dL_isRecalled_77 : decode cL_isRecalled 77 = .ok (.istore 6, 2) := by decide +kernel
theorem dL_isRecalled_79 : decode cL_isRecalled 79 = .ok (.aload_n 0, 1) := by decide +kernel
theorem dL_isRecalled_80 : decode cL_isRecalled 80 = .ok (.invokevirtual 247, 3) := by decide +kernel
theorem dL_isRecalled_83 : decode cL_isRecalled 83 = .ok (.ifCond .le 64, 3) := by decide +kernel
theorem dL_isRecalled_86 : decode cL_isRecalled 86 = .ok (.aload_n 0, 1) := by decide +kernel
theorem dL_isRecalled_87 : decode cL_isRecalled 87 = .ok (.invokestatic 243, 3) := by decide +kernel
theorem dL_isRecalled_90 : decode cL_isRecalled 90 = .ok (.istore 7, 2) := by decide +kernel
theorem dL_isRecalled_92 : decode cL_isRecalled 92 = .ok (.aload_n 0, 1) := by decide +kernel
theorem dL_isRecalled_93 : decode cL_isRecalled 93 = .ok (.iload 7, 2) := by decide +kernel
theorem dL_isRecalled_95 : decode cL_isRecalled 95 = .ok (.invokevirtual 206, 3) := by decide +kernel
theorem dL_isRecalled_98 : decode cL_isRecalled 98 = .ok (.istore 8, 2) := by decide +kernel
theorem dL_isRecalled_100 : decode cL_isRecalled 100 = .ok (.iload 6, 2) := by decide +kernel
theorem dL_isRecalled_102 : decode cL_isRecalled 102 = .ok (.ifCond .eq 39, 3) := by decide +kernel
theorem dL_isRecalled_105 : decode cL_isRecalled 105 = .ok (.aload_n 0, 1) := by decide +kernel
theorem dL_isRecalled_106 : decode cL_isRecalled 106 = .ok (.invokestatic 145, 3) := by decide +kernel
theorem dL_isRecalled_109 : decode cL_isRecalled 109 = .ok (.iload 8, 2) := by decide +kernel
theorem dL_isRecalled_111 : decode cL_isRecalled 111 = .ok (.if_icmp .ne 30, 3) := by decide +kernel
theorem dL_isRecalled_114 : decode cL_isRecalled 114 = .ok (.aload_n 0, 1) := by decide +kernel
theorem dL_isRecalled_115 : decode cL_isRecalled 115 = .ok (.iload 7, 2) := by decide +kernel
theorem dL_isRecalled_117 : decode cL_isRecalled 117 = .ok (.invokevirtual 206, 3) := by decide +kernel
theorem dL_isRecalled_120 : decode cL_isRecalled 120 = .ok (.ifCond .ne 21, 3) := by decide +kernel
theorem dL_isRecalled_123 : decode cL_isRecalled 123 = .ok (.aload_n 0, 1) := by decide +kernel
theorem dL_isRecalled_124 : decode cL_isRecalled 124 = .ok (.invokestatic 282, 3) := by decide +kernel
theorem dL_isRecalled_127 : decode cL_isRecalled 127 = .ok (.ifCond .eq 14, 3) := by decide +kernel
theorem dL_isRecalled_130 : decode cL_isRecalled 130 = .ok (.aload_n 0, 1) := by decide +kernel
theorem dL_isRecalled_131 : decode cL_isRecalled 131 = .ok (.invokestatic 166, 3) := by decide +kernel
theorem dL_isRecalled_134 : decode cL_isRecalled 134 = .ok (.ifCond .lt 7, 3) := by decide +kernel
theorem dL_isRecalled_137 : decode cL_isRecalled 137 = .ok (.iconst 1, 1) := by decide +kernel
theorem dL_isRecalled_138 : decode cL_isRecalled 138 = .ok (.goto 4, 3) := by decide +kernel
theorem dL_isRecalled_141 : decode cL_isRecalled 141 = .ok (.iconst 0, 1) := by decide +kernel
theorem dL_isRecalled_142 : decode cL_isRecalled 142 = .ok (.istore 6, 2) := by decide +kernel
theorem dL_isRecalled_144 : decode cL_isRecalled 144 = .ok (.goto 24, 3) := by decide +kernel
theorem dL_isRecalled_147 : decode cL_isRecalled 147 = .ok (.iload 6, 2) := by decide +kernel
theorem dL_isRecalled_149 : decode cL_isRecalled 149 = .ok (.ifCond .eq 16, 3) := by decide +kernel
theorem dL_isRecalled_152 : decode cL_isRecalled 152 = .ok (.aload_n 0, 1) := by decide +kernel
theorem dL_isRecalled_153 : decode cL_isRecalled 153 = .ok (.invokestatic 145, 3) := by decide +kernel
theorem dL_isRecalled_156 : decode cL_isRecalled 156 = .ok (.ldc 10, 2) := by decide +kernel
theorem dL_isRecalled_158 : decode cL_isRecalled 158 = .ok (.if_icmp .ne 7, 3) := by decide +kernel
theorem dL_isRecalled_161 : decode cL_isRecalled 161 = .ok (.iconst 1, 1) := by decide +kernel
theorem dL_isRecalled_162 : decode cL_isRecalled 162 = .ok (.goto 4, 3) := by decide +kernel
theorem dL_isRecalled_165 : decode cL_isRecalled 165 = .ok (.iconst 0, 1) := by decide +kernel
theorem dL_isRecalled_166 : decode cL_isRecalled 166 = .ok (.istore 6, 2) := by decide +kernel
theorem dL_isRecalled_168 : decode cL_isRecalled 168 = .ok (.iload 6, 2) := by decide +kernel
theorem dL_isRecalled_170 : decode cL_isRecalled 170 = .ok (.ifCond .eq 23, 3) := by decide +kernel
theorem dL_isRecalled_173 : decode cL_isRecalled 173 = .ok (.aload_n 0, 1) := by decide +kernel
theorem dL_isRecalled_174 : decode cL_isRecalled 174 = .ok (.invokestatic 166, 3) := by decide +kernel
theorem dL_isRecalled_177 : decode cL_isRecalled 177 = .ok (.ifCond .lt 16, 3) := by decide +kernel
theorem dL_isRecalled_180 : decode cL_isRecalled 180 = .ok (.aload_n 0, 1) := by decide +kernel
theorem dL_isRecalled_181 : decode cL_isRecalled 181 = .ok (.invokestatic 278, 3) := by decide +kernel
theorem dL_isRecalled_184 : decode cL_isRecalled 184 = .ok (.lload_n 2, 1) := by decide +kernel
theorem dL_isRecalled_185 : decode cL_isRecalled 185 = .ok (.lcmp, 1) := by decide +kernel
theorem dL_isRecalled_186 : decode cL_isRecalled 186 = .ok (.ifCond .ne 7, 3) := by decide +kernel
theorem dL_isRecalled_189 : decode cL_isRecalled 189 = .ok (.iconst 1, 1) := by decide +kernel
theorem dL_isRecalled_190 : decode cL_isRecalled 190 = .ok (.goto 4, 3) := by decide +kernel
theorem dL_isRecalled_193 : decode cL_isRecalled 193 = .ok (.iconst 0, 1) := by decide +kernel
theorem dL_isRecalled_194 : decode cL_isRecalled 194 = .ok (.ireturn, 1) := by decide +kernel
theorem dL_isShipped_0 : decode cL_isShipped 0 = .ok (.aload_n 0, 1) := by decide +kernel
theorem dL_isShipped_1 : decode cL_isShipped 1 = .ok (.invokestatic 278, 3) := by decide +kernel
theorem dL_isShipped_4 : decode cL_isShipped 4 = .ok (.lstore_n 2, 1) := by decide +kernel
theorem dL_isShipped_5 : decode cL_isShipped 5 = .ok (.aload_n 0, 1) := by decide +kernel
theorem dL_isShipped_6 : decode cL_isShipped 6 = .ok (.iload_n 1, 1) := by decide +kernel
theorem dL_isShipped_7 : decode cL_isShipped 7 = .ok (.invokevirtual 286, 3) := by decide +kernel
theorem dL_isShipped_10 : decode cL_isShipped 10 = .ok (.istore 4, 2) := by decide +kernel
theorem dL_isShipped_12 : decode cL_isShipped 12 = .ok (.aload_n 0, 1) := by decide +kernel
theorem dL_isShipped_13 : decode cL_isShipped 13 = .ok (.iload_n 1, 1) := by decide +kernel
theorem dL_isShipped_14 : decode cL_isShipped 14 = .ok (.invokestatic 289, 3) := by decide +kernel
theorem dL_isShipped_17 : decode cL_isShipped 17 = .ok (.istore 5, 2) := by decide +kernel
theorem dL_isShipped_19 : decode cL_isShipped 19 = .ok (.aload_n 0, 1) := by decide +kernel
theorem dL_isShipped_20 : decode cL_isShipped 20 = .ok (.invokevirtual 180, 3) := by decide +kernel
theorem dL_isShipped_23 : decode cL_isShipped 23 = .ok (.istore 6, 2) := by decide +kernel
theorem dL_isShipped_25 : decode cL_isShipped 25 = .ok (.iload 4, 2) := by decide +kernel
theorem dL_isShipped_27 : decode cL_isShipped 27 = .ok (.ifCond .ne 37, 3) := by decide +kernel
theorem dL_isShipped_30 : decode cL_isShipped 30 = .ok (.iload 5, 2) := by decide +kernel
theorem dL_isShipped_32 : decode cL_isShipped 32 = .ok (.sipush (-1000), 3) := by decide +kernel
theorem dL_isShipped_35 : decode cL_isShipped 35 = .ok (.if_icmp .ne 27, 3) := by decide +kernel
theorem dL_isShipped_38 : decode cL_isShipped 38 = .ok (.aload_n 0, 1) := by decide +kernel
theorem dL_isShipped_39 : decode cL_isShipped 39 = .ok (.iload_n 1, 1) := by decide +kernel
theorem dL_isShipped_40 : decode cL_isShipped 40 = .ok (.iconst 1, 1) := by decide +kernel
theorem dL_isShipped_41 : decode cL_isShipped 41 = .ok (.invokestatic 141, 3) := by decide +kernel
theorem dL_isShipped_44 : decode cL_isShipped 44 = .ok (.ldc 10, 2) := by decide +kernel
theorem dL_isShipped_46 : decode cL_isShipped 46 = .ok (.if_icmp .ne 16, 3) := by decide +kernel
theorem dL_isShipped_49 : decode cL_isShipped 49 = .ok (.aload_n 0, 1) := by decide +kernel
theorem dL_isShipped_50 : decode cL_isShipped 50 = .ok (.invokestatic 278, 3) := by decide +kernel
theorem dL_isShipped_53 : decode cL_isShipped 53 = .ok (.lload_n 2, 1) := by decide +kernel
theorem dL_isShipped_54 : decode cL_isShipped 54 = .ok (.lcmp, 1) := by decide +kernel
theorem dL_isShipped_55 : decode cL_isShipped 55 = .ok (.ifCond .ne 7, 3) := by decide +kernel
theorem dL_isShipped_58 : decode cL_isShipped 58 = .ok (.iconst 1, 1) := by decide +kernel
theorem dL_isShipped_59 : decode cL_isShipped 59 = .ok (.goto 4, 3) := by decide +kernel
theorem dL_isShipped_62 : decode cL_isShipped 62 = .ok (.iconst 0, 1) := by decide +kernel
theorem dL_isShipped_63 : decode cL_isShipped 63 = .ok (.ireturn, 1) := by decide +kernel
theorem dL_isShipped_64 : decode cL_isShipped 64 = .ok (.aload_n 0, 1) := by decide +kernel
theorem dL_isShipped_65 : decode cL_isShipped 65 = .ok (.iload 5, 2) := by decide +kernel
theorem dL_isShipped_67 : decode cL_isShipped 67 = .ok (.invokevirtual 206, 3) := by decide +kernel
theorem dL_isShipped_70 : decode cL_isShipped 70 = .ok (.istore 7, 2) := by decide +kernel
theorem dL_isShipped_72 : decode cL_isShipped 72 = .ok (.aload_n 0, 1) := by decide +kernel
theorem dL_isShipped_73 : decode cL_isShipped 73 = .ok (.iload 5, 2) := by decide +kernel
theorem dL_isShipped_75 : decode cL_isShipped 75 = .ok (.invokevirtual 258, 3) := by decide +kernel
theorem dL_isShipped_78 : decode cL_isShipped 78 = .ok (.ifCond .ne 49, 3) := by decide +kernel
theorem dL_isShipped_81 : decode cL_isShipped 81 = .ok (.aload_n 0, 1) := by decide +kernel
theorem dL_isShipped_82 : decode cL_isShipped 82 = .ok (.iload_n 1, 1) := by decide +kernel
theorem dL_isShipped_83 : decode cL_isShipped 83 = .ok (.iconst 1, 1) := by decide +kernel
theorem dL_isShipped_84 : decode cL_isShipped 84 = .ok (.invokestatic 141, 3) := by decide +kernel
theorem dL_isShipped_87 : decode cL_isShipped 87 = .ok (.iconst 1, 1) := by decide +kernel
theorem dL_isShipped_88 : decode cL_isShipped 88 = .ok (.if_icmp .ne 39, 3) := by decide +kernel
theorem dL_isShipped_91 : decode cL_isShipped 91 = .ok (.aload_n 0, 1) := by decide +kernel
theorem dL_isShipped_92 : decode cL_isShipped 92 = .ok (.iload 5, 2) := by decide +kernel
theorem dL_isShipped_94 : decode cL_isShipped 94 = .ok (.invokevirtual 206, 3) := by decide +kernel
theorem dL_isShipped_97 : decode cL_isShipped 97 = .ok (.iload 7, 2) := by decide +kernel
theorem dL_isShipped_99 : decode cL_isShipped 99 = .ok (.iconst 1, 1) := by decide +kernel
theorem dL_isShipped_100 : decode cL_isShipped 100 = .ok (.isub, 1) := by decide +kernel
theorem dL_isShipped_101 : decode cL_isShipped 101 = .ok (.if_icmp .ne 26, 3) := by decide +kernel
theorem dL_isShipped_104 : decode cL_isShipped 104 = .ok (.aload_n 0, 1) := by decide +kernel
theorem dL_isShipped_105 : decode cL_isShipped 105 = .ok (.iload_n 1, 1) := by decide +kernel
theorem dL_isShipped_106 : decode cL_isShipped 106 = .ok (.invokevirtual 286, 3) := by decide +kernel
theorem dL_isShipped_109 : decode cL_isShipped 109 = .ok (.iload 4, 2) := by decide +kernel
theorem dL_isShipped_111 : decode cL_isShipped 111 = .ok (.iconst 1, 1) := by decide +kernel
theorem dL_isShipped_112 : decode cL_isShipped 112 = .ok (.isub, 1) := by decide +kernel
theorem dL_isShipped_113 : decode cL_isShipped 113 = .ok (.if_icmp .ne 14, 3) := by decide +kernel
theorem dL_isShipped_116 : decode cL_isShipped 116 = .ok (.aload_n 0, 1) := by decide +kernel
theorem dL_isShipped_117 : decode cL_isShipped 117 = .ok (.invokestatic 166, 3) := by decide +kernel
theorem dL_isShipped_120 : decode cL_isShipped 120 = .ok (.ifCond .lt 7, 3) := by decide +kernel
theorem dL_isShipped_123 : decode cL_isShipped 123 = .ok (.iconst 1, 1) := by decide +kernel
theorem dL_isShipped_124 : decode cL_isShipped 124 = .ok (.goto 4, 3) := by decide +kernel
theorem dL_isShipped_127 : decode cL_isShipped 127 = .ok (.iconst 0, 1) := by decide +kernel
theorem dL_isShipped_128 : decode cL_isShipped 128 = .ok (.istore 8, 2) := by decide +kernel
theorem dL_isShipped_130 : decode cL_isShipped 130 = .ok (.iload 4, 2) := by decide +kernel
theorem dL_isShipped_132 : decode cL_isShipped 132 = .ok (.bipush 99, 2) := by decide +kernel
theorem dL_isShipped_134 : decode cL_isShipped 134 = .ok (.if_icmp .ge 81, 3) := by decide +kernel
theorem dL_isShipped_137 : decode cL_isShipped 137 = .ok (.iload 8, 2) := by decide +kernel
theorem dL_isShipped_139 : decode cL_isShipped 139 = .ok (.ifCond .eq 73, 3) := by decide +kernel
theorem dL_isShipped_142 : decode cL_isShipped 142 = .ok (.aload_n 0, 1) := by decide +kernel
theorem dL_isShipped_143 : decode cL_isShipped 143 = .ok (.iload_n 1, 1) := by decide +kernel
theorem dL_isShipped_144 : decode cL_isShipped 144 = .ok (.iload 4, 2) := by decide +kernel
theorem dL_isShipped_146 : decode cL_isShipped 146 = .ok (.iconst 1, 1) := by decide +kernel
theorem dL_isShipped_147 : decode cL_isShipped 147 = .ok (.iadd, 1) := by decide +kernel
theorem dL_isShipped_148 : decode cL_isShipped 148 = .ok (.invokestatic 141, 3) := by decide +kernel
theorem dL_isShipped_151 : decode cL_isShipped 151 = .ok (.ldc 10, 2) := by decide +kernel
theorem dL_isShipped_153 : decode cL_isShipped 153 = .ok (.if_icmp .ne 59, 3) := by decide +kernel
theorem dL_isShipped_156 : decode cL_isShipped 156 = .ok (.aload_n 0, 1) := by decide +kernel
theorem dL_isShipped_157 : decode cL_isShipped 157 = .ok (.iload_n 1, 1) := by decide +kernel
theorem dL_isShipped_158 : decode cL_isShipped 158 = .ok (.iload 4, 2) := by decide +kernel
theorem dL_isShipped_160 : decode cL_isShipped 160 = .ok (.invokestatic 141, 3) := by decide +kernel
theorem dL_isShipped_163 : decode cL_isShipped 163 = .ok (.iconst 1, 1) := by decide +kernel
theorem dL_isShipped_164 : decode cL_isShipped 164 = .ok (.if_icmp .lt 48, 3) := by decide +kernel
theorem dL_isShipped_167 : decode cL_isShipped 167 = .ok (.aload_n 0, 1) := by decide +kernel
theorem dL_isShipped_168 : decode cL_isShipped 168 = .ok (.iload_n 1, 1) := by decide +kernel
theorem dL_isShipped_169 : decode cL_isShipped 169 = .ok (.invokevirtual 286, 3) := by decide +kernel
theorem dL_isShipped_172 : decode cL_isShipped 172 = .ok (.ifCond .ne 40, 3) := by decide +kernel
theorem dL_isShipped_175 : decode cL_isShipped 175 = .ok (.aload_n 0, 1) := by decide +kernel
theorem dL_isShipped_176 : decode cL_isShipped 176 = .ok (.invokevirtual 180, 3) := by decide +kernel
theorem dL_isShipped_179 : decode cL_isShipped 179 = .ok (.iload 6, 2) := by decide +kernel
theorem dL_isShipped_181 : decode cL_isShipped 181 = .ok (.iload 4, 2) := by decide +kernel
theorem dL_isShipped_183 : decode cL_isShipped 183 = .ok (.iadd, 1) := by decide +kernel
theorem dL_isShipped_184 : decode cL_isShipped 184 = .ok (.if_icmp .ne 28, 3) := by decide +kernel
theorem dL_isShipped_187 : decode cL_isShipped 187 = .ok (.aload_n 0, 1) := by decide +kernel
theorem dL_isShipped_188 : decode cL_isShipped 188 = .ok (.invokestatic 282, 3) := by decide +kernel
theorem dL_isShipped_191 : decode cL_isShipped 191 = .ok (.ifCond .eq 21, 3) := by decide +kernel
theorem dL_isShipped_194 : decode cL_isShipped 194 = .ok (.aload_n 0, 1) := by decide +kernel
theorem dL_isShipped_195 : decode cL_isShipped 195 = .ok (.invokestatic 291, 3) := by decide +kernel
theorem dL_isShipped_198 : decode cL_isShipped 198 = .ok (.ifCond .eq 14, 3) := by decide +kernel
theorem dL_isShipped_201 : decode cL_isShipped 201 = .ok (.aload_n 0, 1) := by decide +kernel
theorem dL_isShipped_202 : decode cL_isShipped 202 = .ok (.invokestatic 166, 3) := by decide +kernel
theorem dL_isShipped_205 : decode cL_isShipped 205 = .ok (.ifCond .lt 7, 3) := by decide +kernel
theorem dL_isShipped_208 : decode cL_isShipped 208 = .ok (.iconst 1, 1) := by decide +kernel
theorem dL_isShipped_209 : decode cL_isShipped 209 = .ok (.goto 4, 3) := by decide +kernel
theorem dL_isShipped_212 : decode cL_isShipped 212 = .ok (.iconst 0, 1) := by decide +kernel
theorem dL_isShipped_213 : decode cL_isShipped 213 = .ok (.istore 8, 2) := by decide +kernel
theorem dL_isShipped_215 : decode cL_isShipped 215 = .ok (.iload 8, 2) := by decide +kernel
theorem dL_isShipped_217 : decode cL_isShipped 217 = .ok (.ifCond .eq 16, 3) := by decide +kernel
theorem dL_isShipped_220 : decode cL_isShipped 220 = .ok (.aload_n 0, 1) := by decide +kernel
theorem dL_isShipped_221 : decode cL_isShipped 221 = .ok (.invokestatic 278, 3) := by decide +kernel
theorem dL_isShipped_224 : decode cL_isShipped 224 = .ok (.lload_n 2, 1) := by decide +kernel
theorem dL_isShipped_225 : decode cL_isShipped 225 = .ok (.lcmp, 1) := by decide +kernel
theorem dL_isShipped_226 : decode cL_isShipped 226 = .ok (.ifCond .ne 7, 3) := by decide +kernel
theorem dL_isShipped_229 : decode cL_isShipped 229 = .ok (.iconst 1, 1) := by decide +kernel
theorem dL_isShipped_230 : decode cL_isShipped 230 = .ok (.goto 4, 3) := by decide +kernel
theorem dL_isShipped_233 : decode cL_isShipped 233 = .ok (.iconst 0, 1) := by decide +kernel
theorem dL_isShipped_234 : decode cL_isShipped 234 = .ok (.ireturn, 1) := by decide +kernel
theorem dL_isSplit_0 : decode cL_isSplit 0 = .ok (.aload_n 0, 1) := by decide +kernel
theorem dL_isSplit_1 : decode cL_isSplit 1 = .ok (.invokestatic 278, 3) := by decide +kernel
theorem dL_isSplit_4 : decode cL_isSplit 4 = .ok (.lstore_n 2, 1) := by decide +kernel
theorem dL_isSplit_5 : decode cL_isSplit 5 = .ok (.aload_n 0, 1) := by decide +kernel
theorem dL_isSplit_6 : decode cL_isSplit 6 = .ok (.iload_n 1, 1) := by decide +kernel
theorem dL_isSplit_7 : decode cL_isSplit 7 = .ok (.invokevirtual 206, 3) := by decide +kernel
theorem dL_isSplit_10 : decode cL_isSplit 10 = .ok (.istore 4, 2) := by decide +kernel
theorem dL_isSplit_12 : decode cL_isSplit 12 = .ok (.aload_n 0, 1) := by decide +kernel
theorem dL_isSplit_13 : decode cL_isSplit 13 = .ok (.invokevirtual 190, 3) := by decide +kernel
theorem dL_isSplit_16 : decode cL_isSplit 16 = .ok (.istore 5, 2) := by decide +kernel
theorem dL_isSplit_18 : decode cL_isSplit 18 = .ok (.aload_n 0, 1) := by decide +kernel
theorem dL_isSplit_19 : decode cL_isSplit 19 = .ok (.iload_n 1, 1) := by decide +kernel
theorem dL_isSplit_20 : decode cL_isSplit 20 = .ok (.iconst 1, 1) := by decide +kernel
theorem dL_isSplit_21 : decode cL_isSplit 21 = .ok (.invokestatic 135, 3) := by decide +kernel
theorem dL_isSplit_24 : decode cL_isSplit 24 = .ok (.istore 6, 2) := by decide +kernel
theorem dL_isSplit_26 : decode cL_isSplit 26 = .ok (.iload 6, 2) := by decide +kernel
theorem dL_isSplit_28 : decode cL_isSplit 28 = .ok (.ldc 10, 2) := by decide +kernel
theorem dL_isSplit_30 : decode cL_isSplit 30 = .ok (.if_icmp .ne 55, 3) := by decide +kernel
theorem dL_isSplit_33 : decode cL_isSplit 33 = .ok (.aload_n 0, 1) := by decide +kernel
theorem dL_isSplit_34 : decode cL_isSplit 34 = .ok (.invokestatic 278, 3) := by decide +kernel
theorem dL_isSplit_37 : decode cL_isSplit 37 = .ok (.lload_n 2, 1) := by decide +kernel
theorem dL_isSplit_38 : decode cL_isSplit 38 = .ok (.lcmp, 1) := by decide +kernel
theorem dL_isSplit_39 : decode cL_isSplit 39 = .ok (.ifCond .ne 44, 3) := by decide +kernel
theorem dL_isSplit_42 : decode cL_isSplit 42 = .ok (.aload_n 0, 1) := by decide +kernel
theorem dL_isSplit_43 : decode cL_isSplit 43 = .ok (.iload_n 1, 1) := by decide +kernel
theorem dL_isSplit_44 : decode cL_isSplit 44 = .ok (.invokevirtual 254, 3) := by decide +kernel
theorem dL_isSplit_47 : decode cL_isSplit 47 = .ok (.ifCond .eq 32, 3) := by decide +kernel
theorem dL_isSplit_50 : decode cL_isSplit 50 = .ok (.aload_n 0, 1) := by decide +kernel
theorem dL_isSplit_51 : decode cL_isSplit 51 = .ok (.iload_n 1, 1) := by decide +kernel
theorem dL_isSplit_52 : decode cL_isSplit 52 = .ok (.invokevirtual 258, 3) := by decide +kernel
theorem dL_isSplit_55 : decode cL_isSplit 55 = .ok (.ifCond .ne 24, 3) := by decide +kernel
theorem dL_isSplit_58 : decode cL_isSplit 58 = .ok (.iload 4, 2) := by decide +kernel
theorem dL_isSplit_60 : decode cL_isSplit 60 = .ok (.iconst 2, 1) := by decide +kernel
theorem dL_isSplit_61 : decode cL_isSplit 61 = .ok (.if_icmp .lt 18, 3) := by decide +kernel
theorem dL_isSplit_64 : decode cL_isSplit 64 = .ok (.iload 5, 2) := by decide +kernel
theorem dL_isSplit_66 : decode cL_isSplit 66 = .ok (.bipush 20, 2) := by decide +kernel
theorem dL_isSplit_68 : decode cL_isSplit 68 = .ok (.if_icmp .eq 11, 3) := by decide +kernel
theorem dL_isSplit_71 : decode cL_isSplit 71 = .ok (.aload_n 0, 1) := by decide +kernel
theorem dL_isSplit_72 : decode cL_isSplit 72 = .ok (.invokestatic 294, 3) := by decide +kernel
theorem dL_isSplit_75 : decode cL_isSplit 75 = .ok (.iconst 1, 1) := by decide +kernel
theorem dL_isSplit_76 : decode cL_isSplit 76 = .ok (.if_icmp .ne 7, 3) := by decide +kernel
theorem dL_isSplit_79 : decode cL_isSplit 79 = .ok (.iconst 1, 1) := by decide +kernel
theorem dL_isSplit_80 : decode cL_isSplit 80 = .ok (.goto 4, 3) := by decide +kernel
theorem dL_isSplit_83 : decode cL_isSplit 83 = .ok (.iconst 0, 1) := by decide +kernel
theorem dL_isSplit_84 : decode cL_isSplit 84 = .ok (.ireturn, 1) := by decide +kernel
theorem dL_isSplit_85 : decode cL_isSplit 85 = .ok (.iload 6, 2) := by decide +kernel
theorem dL_isSplit_87 : decode cL_isSplit 87 = .ok (.iload 5, 2) := by decide +kernel
theorem dL_isSplit_89 : decode cL_isSplit 89 = .ok (.if_icmp .ne 70, 3) := by decide +kernel
theorem dL_isSplit_92 : decode cL_isSplit 92 = .ok (.aload_n 0, 1) := by decide +kernel
theorem dL_isSplit_93 : decode cL_isSplit 93 = .ok (.iload 6, 2) := by decide +kernel
theorem dL_isSplit_95 : decode cL_isSplit 95 = .ok (.invokevirtual 206, 3) := by decide +kernel
theorem dL_isSplit_98 : decode cL_isSplit 98 = .ok (.iconst 1, 1) := by decide +kernel
theorem dL_isSplit_99 : decode cL_isSplit 99 = .ok (.if_icmp .ne 60, 3) := by decide +kernel
theorem dL_isSplit_102 : decode cL_isSplit 102 = .ok (.aload_n 0, 1) := by decide +kernel
theorem dL_isSplit_103 : decode cL_isSplit 103 = .ok (.iload_n 1, 1) := by decide +kernel
theorem dL_isSplit_104 : decode cL_isSplit 104 = .ok (.invokevirtual 206, 3) := by decide +kernel
theorem dL_isSplit_107 : decode cL_isSplit 107 = .ok (.iload 4, 2) := by decide +kernel
theorem dL_isSplit_109 : decode cL_isSplit 109 = .ok (.iconst 1, 1) := by decide +kernel
theorem dL_isSplit_110 : decode cL_isSplit 110 = .ok (.isub, 1) := by decide +kernel
theorem dL_isSplit_111 : decode cL_isSplit 111 = .ok (.if_icmp .ne 48, 3) := by decide +kernel
theorem dL_isSplit_114 : decode cL_isSplit 114 = .ok (.aload_n 0, 1) := by decide +kernel
theorem dL_isSplit_115 : decode cL_isSplit 115 = .ok (.iload 6, 2) := by decide +kernel
theorem dL_isSplit_117 : decode cL_isSplit 117 = .ok (.invokevirtual 57, 3) := by decide +kernel
theorem dL_isSplit_120 : decode cL_isSplit 120 = .ok (.aload_n 0, 1) := by decide +kernel
theorem dL_isSplit_121 : decode cL_isSplit 121 = .ok (.iload_n 1, 1) := by decide +kernel
theorem dL_isSplit_122 : decode cL_isSplit 122 = .ok (.invokevirtual 57, 3) := by decide +kernel
theorem dL_isSplit_125 : decode cL_isSplit 125 = .ok (.if_icmp .ne 34, 3) := by decide +kernel
theorem dL_isSplit_128 : decode cL_isSplit 128 = .ok (.aload_n 0, 1) := by decide +kernel
theorem dL_isSplit_129 : decode cL_isSplit 129 = .ok (.iload 6, 2) := by decide +kernel
theorem dL_isSplit_131 : decode cL_isSplit 131 = .ok (.iload_n 1, 1) := by decide +kernel
theorem dL_isSplit_132 : decode cL_isSplit 132 = .ok (.invokevirtual 250, 3) := by decide +kernel
theorem dL_isSplit_135 : decode cL_isSplit 135 = .ok (.ifCond .eq 24, 3) := by decide +kernel
theorem dL_isSplit_138 : decode cL_isSplit 138 = .ok (.aload_n 0, 1) := by decide +kernel
theorem dL_isSplit_139 : decode cL_isSplit 139 = .ok (.iload 6, 2) := by decide +kernel
theorem dL_isSplit_141 : decode cL_isSplit 141 = .ok (.invokevirtual 217, 3) := by decide +kernel
theorem dL_isSplit_144 : decode cL_isSplit 144 = .ok (.iconst 1, 1) := by decide +kernel
theorem dL_isSplit_145 : decode cL_isSplit 145 = .ok (.if_icmp .ne 14, 3) := by decide +kernel
theorem dL_isSplit_148 : decode cL_isSplit 148 = .ok (.aload_n 0, 1) := by decide +kernel
theorem dL_isSplit_149 : decode cL_isSplit 149 = .ok (.invokestatic 282, 3) := by decide +kernel
theorem dL_isSplit_152 : decode cL_isSplit 152 = .ok (.ifCond .eq 7, 3) := by decide +kernel
theorem dL_isSplit_155 : decode cL_isSplit 155 = .ok (.iconst 1, 1) := by decide +kernel
theorem dL_isSplit_156 : decode cL_isSplit 156 = .ok (.goto 4, 3) := by decide +kernel
theorem dL_isSplit_159 : decode cL_isSplit 159 = .ok (.iconst 0, 1) := by decide +kernel
theorem dL_isSplit_160 : decode cL_isSplit 160 = .ok (.istore 7, 2) := by decide +kernel
theorem dL_isSplit_162 : decode cL_isSplit 162 = .ok (.iload 7, 2) := by decide +kernel
theorem dL_isSplit_164 : decode cL_isSplit 164 = .ok (.ifCond .eq 109, 3) := by decide +kernel
theorem dL_isSplit_167 : decode cL_isSplit 167 = .ok (.iload 5, 2) := by decide +kernel
theorem dL_isSplit_169 : decode cL_isSplit 169 = .ok (.bipush 19, 2) := by decide +kernel
theorem dL_isSplit_171 : decode cL_isSplit 171 = .ok (.if_icmp .ge 102, 3) := by decide +kernel
theorem dL_isSplit_174 : decode cL_isSplit 174 = .ok (.aload_n 0, 1) := by decide +kernel
theorem dL_isSplit_175 : decode cL_isSplit 175 = .ok (.iload_n 1, 1) := by decide +kernel
theorem dL_isSplit_176 : decode cL_isSplit 176 = .ok (.iload 6, 2) := by decide +kernel
theorem dL_isSplit_178 : decode cL_isSplit 178 = .ok (.invokestatic 137, 3) := by decide +kernel
theorem dL_isSplit_181 : decode cL_isSplit 181 = .ok (.istore 8, 2) := by decide +kernel
theorem dL_isSplit_183 : decode cL_isSplit 183 = .ok (.iload 8, 2) := by decide +kernel
theorem dL_isSplit_185 : decode cL_isSplit 185 = .ok (.iload 5, 2) := by decide +kernel
theorem dL_isSplit_187 : decode cL_isSplit 187 = .ok (.iconst 1, 1) := by decide +kernel
theorem dL_isSplit_188 : decode cL_isSplit 188 = .ok (.iadd, 1) := by decide +kernel
theorem dL_isSplit_189 : decode cL_isSplit 189 = .ok (.if_icmp .ne 81, 3) := by decide +kernel
theorem dL_isSplit_192 : decode cL_isSplit 192 = .ok (.aload_n 0, 1) := by decide +kernel
theorem dL_isSplit_193 : decode cL_isSplit 193 = .ok (.iload 8, 2) := by decide +kernel
theorem dL_isSplit_195 : decode cL_isSplit 195 = .ok (.invokevirtual 206, 3) := by decide +kernel
theorem dL_isSplit_198 : decode cL_isSplit 198 = .ok (.iload 4, 2) := by decide +kernel
theorem dL_isSplit_200 : decode cL_isSplit 200 = .ok (.if_icmp .ne 70, 3) := by decide +kernel
theorem dL_isSplit_203 : decode cL_isSplit 203 = .ok (.aload_n 0, 1) := by decide +kernel
theorem dL_isSplit_204 : decode cL_isSplit 204 = .ok (.iload 8, 2) := by decide +kernel
theorem dL_isSplit_206 : decode cL_isSplit 206 = .ok (.invokevirtual 209, 3) := by decide +kernel
theorem dL_isSplit_209 : decode cL_isSplit 209 = .ok (.aload_n 0, 1) := by decide +kernel
theorem dL_isSplit_210 : decode cL_isSplit 210 = .ok (.iload_n 1, 1) := by decide +kernel
theorem dL_isSplit_211 : decode cL_isSplit 211 = .ok (.invokevirtual 209, 3) := by decide +kernel
theorem dL_isSplit_214 : decode cL_isSplit 214 = .ok (.if_icmp .ne 56, 3) := by decide +kernel
theorem dL_isSplit_217 : decode cL_isSplit 217 = .ok (.aload_n 0, 1) := by decide +kernel
theorem dL_isSplit_218 : decode cL_isSplit 218 = .ok (.iload_n 1, 1) := by decide +kernel
theorem dL_isSplit_219 : decode cL_isSplit 219 = .ok (.invokevirtual 206, 3) := by decide +kernel
theorem dL_isSplit_222 : decode cL_isSplit 222 = .ok (.ifCond .ne 48, 3) := by decide +kernel
theorem dL_isSplit_225 : decode cL_isSplit 225 = .ok (.aload_n 0, 1) := by decide +kernel
theorem dL_isSplit_226 : decode cL_isSplit 226 = .ok (.iload 8, 2) := by decide +kernel
theorem dL_isSplit_228 : decode cL_isSplit 228 = .ok (.invokevirtual 217, 3) := by decide +kernel
theorem dL_isSplit_231 : decode cL_isSplit 231 = .ok (.iconst 2, 1) := by decide +kernel
theorem dL_isSplit_232 : decode cL_isSplit 232 = .ok (.if_icmp .ne 38, 3) := by decide +kernel
theorem dL_isSplit_235 : decode cL_isSplit 235 = .ok (.aload_n 0, 1) := by decide +kernel
theorem dL_isSplit_236 : decode cL_isSplit 236 = .ok (.iload 8, 2) := by decide +kernel
theorem dL_isSplit_238 : decode cL_isSplit 238 = .ok (.iload_n 1, 1) := by decide +kernel
theorem dL_isSplit_239 : decode cL_isSplit 239 = .ok (.invokevirtual 250, 3) := by decide +kernel
theorem dL_isSplit_242 : decode cL_isSplit 242 = .ok (.ifCond .eq 28, 3) := by decide +kernel
theorem dL_isSplit_245 : decode cL_isSplit 245 = .ok (.aload_n 0, 1) := by decide +kernel
theorem dL_isSplit_246 : decode cL_isSplit 246 = .ok (.invokestatic 282, 3) := by decide +kernel
theorem dL_isSplit_249 : decode cL_isSplit 249 = .ok (.ifCond .eq 21, 3) := by decide +kernel
theorem dL_isSplit_252 : decode cL_isSplit 252 = .ok (.aload_n 0, 1) := by decide +kernel
theorem dL_isSplit_253 : decode cL_isSplit 253 = .ok (.invokestatic 291, 3) := by decide +kernel
theorem dL_isSplit_256 : decode cL_isSplit 256 = .ok (.ifCond .eq 14, 3) := by decide +kernel
theorem dL_isSplit_259 : decode cL_isSplit 259 = .ok (.aload_n 0, 1) := by decide +kernel
theorem dL_isSplit_260 : decode cL_isSplit 260 = .ok (.invokestatic 166, 3) := by decide +kernel
theorem dL_isSplit_263 : decode cL_isSplit 263 = .ok (.ifCond .lt 7, 3) := by decide +kernel
theorem dL_isSplit_266 : decode cL_isSplit 266 = .ok (.iconst 1, 1) := by decide +kernel
theorem dL_isSplit_267 : decode cL_isSplit 267 = .ok (.goto 4, 3) := by decide +kernel
theorem dL_isSplit_270 : decode cL_isSplit 270 = .ok (.iconst 0, 1) := by decide +kernel
theorem dL_isSplit_271 : decode cL_isSplit 271 = .ok (.istore 7, 2) := by decide +kernel
theorem dL_isSplit_273 : decode cL_isSplit 273 = .ok (.iload 7, 2) := by decide +kernel
theorem dL_isSplit_275 : decode cL_isSplit 275 = .ok (.ifCond .eq 23, 3) := by decide +kernel
theorem dL_isSplit_278 : decode cL_isSplit 278 = .ok (.aload_n 0, 1) := by decide +kernel
theorem dL_isSplit_279 : decode cL_isSplit 279 = .ok (.invokestatic 166, 3) := by decide +kernel
theorem dL_isSplit_282 : decode cL_isSplit 282 = .ok (.ifCond .lt 16, 3) := by decide +kernel
theorem dL_isSplit_285 : decode cL_isSplit 285 = .ok (.aload_n 0, 1) := by decide +kernel
theorem dL_isSplit_286 : decode cL_isSplit 286 = .ok (.invokestatic 278, 3) := by decide +kernel
theorem dL_isSplit_289 : decode cL_isSplit 289 = .ok (.lload_n 2, 1) := by decide +kernel
theorem dL_isSplit_290 : decode cL_isSplit 290 = .ok (.lcmp, 1) := by decide +kernel
theorem dL_isSplit_291 : decode cL_isSplit 291 = .ok (.ifCond .ne 7, 3) := by decide +kernel
theorem dL_isSplit_294 : decode cL_isSplit 294 = .ok (.iconst 1, 1) := by decide +kernel
theorem dL_isSplit_295 : decode cL_isSplit 295 = .ok (.goto 4, 3) := by decide +kernel
theorem dL_isSplit_298 : decode cL_isSplit 298 = .ok (.iconst 0, 1) := by decide +kernel
theorem dL_isSplit_299 : decode cL_isSplit 299 = .ok (.ireturn, 1) := by decide +kernel
theorem dL_isFit_0 : decode cL_isFit 0 = .ok (.aload_n 0, 1) := by decide +kernel
theorem dL_isFit_1 : decode cL_isFit 1 = .ok (.invokestatic 291, 3) := by decide +kernel
theorem dL_isFit_4 : decode cL_isFit 4 = .ok (.ifCond .eq 14, 3) := by decide +kernel
theorem dL_isFit_7 : decode cL_isFit 7 = .ok (.aload_n 0, 1) := by decide +kernel
theorem dL_isFit_8 : decode cL_isFit 8 = .ok (.invokestatic 282, 3) := by decide +kernel
theorem dL_isFit_11 : decode cL_isFit 11 = .ok (.ifCond .eq 7, 3) := by decide +kernel
theorem dL_isFit_14 : decode cL_isFit 14 = .ok (.iconst 1, 1) := by decide +kernel
theorem dL_isFit_15 : decode cL_isFit 15 = .ok (.goto 4, 3) := by decide +kernel
theorem dL_isFit_18 : decode cL_isFit 18 = .ok (.iconst 0, 1) := by decide +kernel
theorem dL_isFit_19 : decode cL_isFit 19 = .ok (.istore_n 1, 1) := by decide +kernel
theorem dL_isFit_20 : decode cL_isFit 20 = .ok (.iconst 0, 1) := by decide +kernel
theorem dL_isFit_21 : decode cL_isFit 21 = .ok (.istore_n 2, 1) := by decide +kernel
theorem dL_isFit_22 : decode cL_isFit 22 = .ok (.iload_n 1, 1) := by decide +kernel
theorem dL_isFit_23 : decode cL_isFit 23 = .ok (.ifCond .eq 39, 3) := by decide +kernel
theorem dL_isFit_26 : decode cL_isFit 26 = .ok (.iload_n 2, 1) := by decide +kernel
theorem dL_isFit_27 : decode cL_isFit 27 = .ok (.aload_n 0, 1) := by decide +kernel
theorem dL_isFit_28 : decode cL_isFit 28 = .ok (.invokevirtual 190, 3) := by decide +kernel
theorem dL_isFit_31 : decode cL_isFit 31 = .ok (.if_icmp .ge 31, 3) := by decide +kernel
theorem dL_isFit_34 : decode cL_isFit 34 = .ok (.aload_n 0, 1) := by decide +kernel
theorem dL_isFit_35 : decode cL_isFit 35 = .ok (.iload_n 2, 1) := by decide +kernel
theorem dL_isFit_36 : decode cL_isFit 36 = .ok (.invokestatic 296, 3) := by decide +kernel
theorem dL_isFit_39 : decode cL_isFit 39 = .ok (.ifCond .eq 15, 3) := by decide +kernel
theorem dL_isFit_42 : decode cL_isFit 42 = .ok (.aload_n 0, 1) := by decide +kernel
theorem dL_isFit_43 : decode cL_isFit 43 = .ok (.iload_n 2, 1) := by decide +kernel
theorem dL_isFit_44 : decode cL_isFit 44 = .ok (.invokestatic 300, 3) := by decide +kernel
theorem dL_isFit_47 : decode cL_isFit 47 = .ok (.ifCond .eq 7, 3) := by decide +kernel
theorem dL_isFit_50 : decode cL_isFit 50 = .ok (.iconst 1, 1) := by decide +kernel
theorem dL_isFit_51 : decode cL_isFit 51 = .ok (.goto 4, 3) := by decide +kernel
theorem dL_isFit_54 : decode cL_isFit 54 = .ok (.iconst 0, 1) := by decide +kernel
theorem dL_isFit_55 : decode cL_isFit 55 = .ok (.istore_n 1, 1) := by decide +kernel
theorem dL_isFit_56 : decode cL_isFit 56 = .ok (.iinc 2 1, 3) := by decide +kernel
theorem dL_isFit_59 : decode cL_isFit 59 = .ok (.goto (-37), 3) := by decide +kernel
theorem dL_isFit_62 : decode cL_isFit 62 = .ok (.iconst 0, 1) := by decide +kernel
theorem dL_isFit_63 : decode cL_isFit 63 = .ok (.istore_n 2, 1) := by decide +kernel
theorem dL_isFit_64 : decode cL_isFit 64 = .ok (.iload_n 1, 1) := by decide +kernel
theorem dL_isFit_65 : decode cL_isFit 65 = .ok (.ifCond .eq 21, 3) := by decide +kernel
theorem dL_isFit_68 : decode cL_isFit 68 = .ok (.iload_n 2, 1) := by decide +kernel
theorem dL_isFit_69 : decode cL_isFit 69 = .ok (.bipush 6, 2) := by decide +kernel
theorem dL_isFit_71 : decode cL_isFit 71 = .ok (.if_icmp .ge 15, 3) := by decide +kernel
theorem dL_isFit_74 : decode cL_isFit 74 = .ok (.aload_n 0, 1) := by decide +kernel
theorem dL_isFit_75 : decode cL_isFit 75 = .ok (.iload_n 2, 1) := by decide +kernel
theorem dL_isFit_76 : decode cL_isFit 76 = .ok (.invokestatic 303, 3) := by decide +kernel
theorem dL_isFit_79 : decode cL_isFit 79 = .ok (.istore_n 1, 1) := by decide +kernel
theorem dL_isFit_80 : decode cL_isFit 80 = .ok (.iinc 2 1, 3) := by decide +kernel
theorem dL_isFit_83 : decode cL_isFit 83 = .ok (.goto (-19), 3) := by decide +kernel
theorem dL_isFit_86 : decode cL_isFit 86 = .ok (.iload_n 1, 1) := by decide +kernel
theorem dL_isFit_87 : decode cL_isFit 87 = .ok (.ireturn, 1) := by decide +kernel
theorem dL_law_0 : decode cL_law 0 = .ok (.new 12, 3) := by decide +kernel
theorem dL_law_3 : decode cL_law 3 = .ok (.dup, 1) := by decide +kernel
theorem dL_law_4 : decode cL_law 4 = .ok (.invokespecial 306, 3) := by decide +kernel
theorem dL_law_7 : decode cL_law 7 = .ok (.astore_n 1, 1) := by decide +kernel
theorem dL_law_8 : decode cL_law 8 = .ok (.iconst 0, 1) := by decide +kernel
theorem dL_law_9 : decode cL_law 9 = .ok (.istore_n 2, 1) := by decide +kernel
theorem dL_law_10 : decode cL_law 10 = .ok (.iload_n 2, 1) := by decide +kernel
theorem dL_law_11 : decode cL_law 11 = .ok (.iconst 4, 1) := by decide +kernel
theorem dL_law_12 : decode cL_law 12 = .ok (.if_icmp .ge 75, 3) := by decide +kernel
theorem dL_law_15 : decode cL_law 15 = .ok (.aload_n 1, 1) := by decide +kernel
theorem dL_law_16 : decode cL_law 16 = .ok (.iload_n 2, 1) := by decide +kernel
theorem dL_law_17 : decode cL_law 17 = .ok (.iconst 1, 1) := by decide +kernel
theorem dL_law_18 : decode cL_law 18 = .ok (.iand, 1) := by decide +kernel
theorem dL_law_19 : decode cL_law 19 = .ok (.bipush 10, 2) := by decide +kernel
theorem dL_law_21 : decode cL_law 21 = .ok (.aload_n 0, 1) := by decide +kernel
theorem dL_law_22 : decode cL_law 22 = .ok (.iload_n 2, 1) := by decide +kernel
theorem dL_law_23 : decode cL_law 23 = .ok (.invokestatic 307, 3) := by decide +kernel
theorem dL_law_26 : decode cL_law 26 = .ok (.iconst 4, 1) := by decide +kernel
theorem dL_law_27 : decode cL_law 27 = .ok (.ishr, 1) := by decide +kernel
theorem dL_law_28 : decode cL_law 28 = .ok (.bipush 15, 2) := by decide +kernel
theorem dL_law_30 : decode cL_law 30 = .ok (.iand, 1) := by decide +kernel
theorem dL_law_31 : decode cL_law 31 = .ok (.iadd, 1) := by decide +kernel
theorem dL_law_32 : decode cL_law 32 = .ok (.invokestatic 126, 3) := by decide +kernel
theorem dL_law_35 : decode cL_law 35 = .ok (.pop, 1) := by decide +kernel
theorem dL_law_36 : decode cL_law 36 = .ok (.aload_n 1, 1) := by decide +kernel
theorem dL_law_37 : decode cL_law 37 = .ok (.aload_n 0, 1) := by decide +kernel
theorem dL_law_38 : decode cL_law 38 = .ok (.iload_n 2, 1) := by decide +kernel
theorem dL_law_39 : decode cL_law 39 = .ok (.invokestatic 307, 3) := by decide +kernel
theorem dL_law_42 : decode cL_law 42 = .ok (.iconst 5, 1) := by decide +kernel
theorem dL_law_43 : decode cL_law 43 = .ok (.ishr, 1) := by decide +kernel
theorem dL_law_44 : decode cL_law 44 = .ok (.bipush 63, 2) := by decide +kernel
theorem dL_law_46 : decode cL_law 46 = .ok (.iand, 1) := by decide +kernel
theorem dL_law_47 : decode cL_law 47 = .ok (.iconst 2, 1) := by decide +kernel
theorem dL_law_48 : decode cL_law 48 = .ok (.irem, 1) := by decide +kernel
theorem dL_law_49 : decode cL_law 49 = .ok (.iconst 2, 1) := by decide +kernel
theorem dL_law_50 : decode cL_law 50 = .ok (.aload_n 0, 1) := by decide +kernel
theorem dL_law_51 : decode cL_law 51 = .ok (.iload_n 2, 1) := by decide +kernel
theorem dL_law_52 : decode cL_law 52 = .ok (.invokestatic 307, 3) := by decide +kernel
theorem dL_law_55 : decode cL_law 55 = .ok (.bipush 6, 2) := by decide +kernel
theorem dL_law_57 : decode cL_law 57 = .ok (.ishr, 1) := by decide +kernel
theorem dL_law_58 : decode cL_law 58 = .ok (.bipush 7, 2) := by decide +kernel
theorem dL_law_60 : decode cL_law 60 = .ok (.iand, 1) := by decide +kernel
theorem dL_law_61 : decode cL_law 61 = .ok (.iadd, 1) := by decide +kernel
theorem dL_law_62 : decode cL_law 62 = .ok (.iload_n 2, 1) := by decide +kernel
theorem dL_law_63 : decode cL_law 63 = .ok (.iconst 1, 1) := by decide +kernel
theorem dL_law_64 : decode cL_law 64 = .ok (.iand, 1) := by decide +kernel
theorem dL_law_65 : decode cL_law 65 = .ok (.iconst 1, 1) := by decide +kernel
theorem dL_law_66 : decode cL_law 66 = .ok (.aload_n 0, 1) := by decide +kernel
theorem dL_law_67 : decode cL_law 67 = .ok (.iload_n 2, 1) := by decide +kernel
theorem dL_law_68 : decode cL_law 68 = .ok (.invokestatic 307, 3) := by decide +kernel
theorem dL_law_71 : decode cL_law 71 = .ok (.iconst 3, 1) := by decide +kernel
theorem dL_law_72 : decode cL_law 72 = .ok (.ishr, 1) := by decide +kernel
theorem dL_law_73 : decode cL_law 73 = .ok (.bipush 7, 2) := by decide +kernel
theorem dL_law_75 : decode cL_law 75 = .ok (.iand, 1) := by decide +kernel
theorem dL_law_76 : decode cL_law 76 = .ok (.iadd, 1) := by decide +kernel
theorem dL_law_77 : decode cL_law 77 = .ok (.invokestatic 132, 3) := by decide +kernel
theorem dL_law_80 : decode cL_law 80 = .ok (.pop, 1) := by decide +kernel
theorem dL_law_81 : decode cL_law 81 = .ok (.iinc 2 1, 3) := by decide +kernel
theorem dL_law_84 : decode cL_law 84 = .ok (.goto (-74), 3) := by decide +kernel
theorem dL_law_87 : decode cL_law 87 = .ok (.aload_n 0, 1) := by decide +kernel
theorem dL_law_88 : decode cL_law 88 = .ok (.arraylength, 1) := by decide +kernel
theorem dL_law_89 : decode cL_law 89 = .ok (.bipush 30, 2) := by decide +kernel
theorem dL_law_91 : decode cL_law 91 = .ok (.if_icmp .ge 8, 3) := by decide +kernel
theorem dL_law_94 : decode cL_law 94 = .ok (.aload_n 0, 1) := by decide +kernel
theorem dL_law_95 : decode cL_law 95 = .ok (.arraylength, 1) := by decide +kernel
theorem dL_law_96 : decode cL_law 96 = .ok (.goto 5, 3) := by decide +kernel
theorem dL_law_99 : decode cL_law 99 = .ok (.bipush 30, 2) := by decide +kernel
theorem dL_law_101 : decode cL_law 101 = .ok (.istore_n 2, 1) := by decide +kernel
theorem dL_law_102 : decode cL_law 102 = .ok (.iconst 0, 1) := by decide +kernel
theorem dL_law_103 : decode cL_law 103 = .ok (.istore_n 3, 1) := by decide +kernel
theorem dL_law_104 : decode cL_law 104 = .ok (.iload_n 3, 1) := by decide +kernel
theorem dL_law_105 : decode cL_law 105 = .ok (.iload_n 2, 1) := by decide +kernel
theorem dL_law_106 : decode cL_law 106 = .ok (.if_icmp .ge 41, 3) := by decide +kernel
theorem dL_law_109 : decode cL_law 109 = .ok (.aload_n 1, 1) := by decide +kernel
theorem dL_law_110 : decode cL_law 110 = .ok (.invokestatic 278, 3) := by decide +kernel
theorem dL_law_113 : decode cL_law 113 = .ok (.lstore 4, 2) := by decide +kernel
theorem dL_law_115 : decode cL_law 115 = .ok (.aload_n 1, 1) := by decide +kernel
theorem dL_law_116 : decode cL_law 116 = .ok (.aload_n 0, 1) := by decide +kernel
theorem dL_law_117 : decode cL_law 117 = .ok (.iload_n 3, 1) := by decide +kernel
theorem dL_law_118 : decode cL_law 118 = .ok (.invokestatic 307, 3) := by decide +kernel
theorem dL_law_121 : decode cL_law 121 = .ok (.invokestatic 311, 3) := by decide +kernel
theorem dL_law_124 : decode cL_law 124 = .ok (.ldc 10, 2) := by decide +kernel
theorem dL_law_126 : decode cL_law 126 = .ok (.if_icmp .ne 15, 3) := by decide +kernel
theorem dL_law_129 : decode cL_law 129 = .ok (.aload_n 1, 1) := by decide +kernel
theorem dL_law_130 : decode cL_law 130 = .ok (.invokestatic 278, 3) := by decide +kernel
theorem dL_law_133 : decode cL_law 133 = .ok (.lload 4, 2) := by decide +kernel
theorem dL_law_135 : decode cL_law 135 = .ok (.lcmp, 1) := by decide +kernel
theorem dL_law_136 : decode cL_law 136 = .ok (.ifCond .eq 5, 3) := by decide +kernel
theorem dL_law_139 : decode cL_law 139 = .ok (.iconst 0, 1) := by decide +kernel
theorem dL_law_140 : decode cL_law 140 = .ok (.ireturn, 1) := by decide +kernel
theorem dL_law_141 : decode cL_law 141 = .ok (.iinc 3 1, 3) := by decide +kernel
theorem dL_law_144 : decode cL_law 144 = .ok (.goto (-40), 3) := by decide +kernel
theorem dL_law_147 : decode cL_law 147 = .ok (.aload_n 1, 1) := by decide +kernel
theorem dL_law_148 : decode cL_law 148 = .ok (.invokestatic 314, 3) := by decide +kernel
theorem dL_law_151 : decode cL_law 151 = .ok (.istore_n 3, 1) := by decide +kernel
theorem dL_law_152 : decode cL_law 152 = .ok (.aload_n 1, 1) := by decide +kernel
theorem dL_law_153 : decode cL_law 153 = .ok (.invokestatic 158, 3) := by decide +kernel
theorem dL_law_156 : decode cL_law 156 = .ok (.pop, 1) := by decide +kernel
theorem dL_law_157 : decode cL_law 157 = .ok (.aload_n 1, 1) := by decide +kernel
theorem dL_law_158 : decode cL_law 158 = .ok (.invokestatic 278, 3) := by decide +kernel
theorem dL_law_161 : decode cL_law 161 = .ok (.lstore 4, 2) := by decide +kernel
theorem dL_law_163 : decode cL_law 163 = .ok (.aload_n 1, 1) := by decide +kernel
theorem dL_law_164 : decode cL_law 164 = .ok (.invokevirtual 160, 3) := by decide +kernel
theorem dL_law_167 : decode cL_law 167 = .ok (.istore 6, 2) := by decide +kernel
theorem dL_law_169 : decode cL_law 169 = .ok (.iconst 0, 1) := by decide +kernel
theorem dL_law_170 : decode cL_law 170 = .ok (.istore 7, 2) := by decide +kernel
theorem dL_law_172 : decode cL_law 172 = .ok (.iload_n 3, 1) := by decide +kernel
theorem dL_law_173 : decode cL_law 173 = .ok (.ifCond .eq 82, 3) := by decide +kernel
theorem dL_law_176 : decode cL_law 176 = .ok (.iload 7, 2) := by decide +kernel
theorem dL_law_178 : decode cL_law 178 = .ok (.getstatic 150, 3) := by decide +kernel
theorem dL_law_181 : decode cL_law 181 = .ok (.arraylength, 1) := by decide +kernel
theorem dL_law_182 : decode cL_law 182 = .ok (.if_icmp .ge 73, 3) := by decide +kernel
theorem dL_law_185 : decode cL_law 185 = .ok (.aload_n 1, 1) := by decide +kernel
theorem dL_law_186 : decode cL_law 186 = .ok (.getstatic 150, 3) := by decide +kernel
theorem dL_law_189 : decode cL_law 189 = .ok (.iload 7, 2) := by decide +kernel
theorem dL_law_191 : decode cL_law 191 = .ok (.aaload, 1) := by decide +kernel
theorem dL_law_192 : decode cL_law 192 = .ok (.invokestatic 154, 3) := by decide +kernel
theorem dL_law_195 : decode cL_law 195 = .ok (.invokestatic 158, 3) := by decide +kernel
theorem dL_law_198 : decode cL_law 198 = .ok (.istore 8, 2) := by decide +kernel
theorem dL_law_200 : decode cL_law 200 = .ok (.iload 8, 2) := by decide +kernel
theorem dL_law_202 : decode cL_law 202 = .ok (.ldc 10, 2) := by decide +kernel
theorem dL_law_204 : decode cL_law 204 = .ok (.if_icmp .ne 22, 3) := by decide +kernel
theorem dL_law_207 : decode cL_law 207 = .ok (.aload_n 1, 1) := by decide +kernel
theorem dL_law_208 : decode cL_law 208 = .ok (.invokestatic 294, 3) := by decide +kernel
theorem dL_law_211 : decode cL_law 211 = .ok (.bipush 8, 2) := by decide +kernel
theorem dL_law_213 : decode cL_law 213 = .ok (.if_icmp .ne 34, 3) := by decide +kernel
theorem dL_law_216 : decode cL_law 216 = .ok (.aload_n 1, 1) := by decide +kernel
theorem dL_law_217 : decode cL_law 217 = .ok (.invokestatic 317, 3) := by decide +kernel
theorem dL_law_220 : decode cL_law 220 = .ok (.ifCond .le 27, 3) := by decide +kernel
theorem dL_law_223 : decode cL_law 223 = .ok (.goto 10, 3) := by decide +kernel
theorem dL_law_226 : decode cL_law 226 = .ok (.aload_n 1, 1) := by decide +kernel
theorem dL_law_227 : decode cL_law 227 = .ok (.invokestatic 166, 3) := by decide +kernel
theorem dL_law_230 : decode cL_law 230 = .ok (.ifCond .lt 17, 3) := by decide +kernel
theorem dL_law_233 : decode cL_law 233 = .ok (.aload_n 1, 1) := by decide +kernel
theorem dL_law_234 : decode cL_law 234 = .ok (.invokestatic 278, 3) := by decide +kernel
theorem dL_law_237 : decode cL_law 237 = .ok (.lload 4, 2) := by decide +kernel
theorem dL_law_239 : decode cL_law 239 = .ok (.lcmp, 1) := by decide +kernel
theorem dL_law_240 : decode cL_law 240 = .ok (.ifCond .ne 7, 3) := by decide +kernel
theorem dL_law_243 : decode cL_law 243 = .ok (.iconst 1, 1) := by decide +kernel
theorem dL_law_244 : decode cL_law 244 = .ok (.goto 4, 3) := by decide +kernel
theorem dL_law_247 : decode cL_law 247 = .ok (.iconst 0, 1) := by decide +kernel
theorem dL_law_248 : decode cL_law 248 = .ok (.istore_n 3, 1) := by decide +kernel
theorem dL_law_249 : decode cL_law 249 = .ok (.iinc 7 1, 3) := by decide +kernel
theorem dL_law_252 : decode cL_law 252 = .ok (.goto (-80), 3) := by decide +kernel
theorem dL_law_255 : decode cL_law 255 = .ok (.aload_n 1, 1) := by decide +kernel
theorem dL_law_256 : decode cL_law 256 = .ok (.iconst 2, 1) := by decide +kernel
theorem dL_law_257 : decode cL_law 257 = .ok (.bipush 30, 2) := by decide +kernel
theorem dL_law_259 : decode cL_law 259 = .ok (.invokestatic 126, 3) := by decide +kernel
theorem dL_law_262 : decode cL_law 262 = .ok (.pop, 1) := by decide +kernel
theorem dL_law_263 : decode cL_law 263 = .ok (.aload_n 1, 1) := by decide +kernel
theorem dL_law_264 : decode cL_law 264 = .ok (.iconst 3, 1) := by decide +kernel
theorem dL_law_265 : decode cL_law 265 = .ok (.bipush 9, 2) := by decide +kernel
theorem dL_law_267 : decode cL_law 267 = .ok (.iconst 2, 1) := by decide +kernel
theorem dL_law_268 : decode cL_law 268 = .ok (.iconst 5, 1) := by decide +kernel
theorem dL_law_269 : decode cL_law 269 = .ok (.invokestatic 132, 3) := by decide +kernel
theorem dL_law_272 : decode cL_law 272 = .ok (.pop, 1) := by decide +kernel
theorem dL_law_273 : decode cL_law 273 = .ok (.aload_n 1, 1) := by decide +kernel
theorem dL_law_274 : decode cL_law 274 = .ok (.iconst 2, 1) := by decide +kernel
theorem dL_law_275 : decode cL_law 275 = .ok (.invokestatic 148, 3) := by decide +kernel
theorem dL_law_278 : decode cL_law 278 = .ok (.pop, 1) := by decide +kernel
theorem dL_law_279 : decode cL_law 279 = .ok (.iload_n 3, 1) := by decide +kernel
theorem dL_law_280 : decode cL_law 280 = .ok (.ifCond .eq 14, 3) := by decide +kernel
theorem dL_law_283 : decode cL_law 283 = .ok (.aload_n 1, 1) := by decide +kernel
theorem dL_law_284 : decode cL_law 284 = .ok (.invokestatic 314, 3) := by decide +kernel
theorem dL_law_287 : decode cL_law 287 = .ok (.ifCond .eq 7, 3) := by decide +kernel
theorem dL_law_290 : decode cL_law 290 = .ok (.iconst 1, 1) := by decide +kernel
theorem dL_law_291 : decode cL_law 291 = .ok (.goto 4, 3) := by decide +kernel
theorem dL_law_294 : decode cL_law 294 = .ok (.iconst 0, 1) := by decide +kernel
theorem dL_law_295 : decode cL_law 295 = .ok (.istore_n 3, 1) := by decide +kernel
theorem dL_law_296 : decode cL_law 296 = .ok (.iload_n 3, 1) := by decide +kernel
theorem dL_law_297 : decode cL_law 297 = .ok (.ifCond .eq 42, 3) := by decide +kernel
theorem dL_law_300 : decode cL_law 300 = .ok (.aload_n 1, 1) := by decide +kernel
theorem dL_law_301 : decode cL_law 301 = .ok (.invokestatic 163, 3) := by decide +kernel
theorem dL_law_304 : decode cL_law 304 = .ok (.iload 6, 2) := by decide +kernel
theorem dL_law_306 : decode cL_law 306 = .ok (.if_icmp .ne 33, 3) := by decide +kernel
theorem dL_law_309 : decode cL_law 309 = .ok (.aload_n 1, 1) := by decide +kernel
theorem dL_law_310 : decode cL_law 310 = .ok (.invokestatic 278, 3) := by decide +kernel
theorem dL_law_313 : decode cL_law 313 = .ok (.lload 4, 2) := by decide +kernel
theorem dL_law_315 : decode cL_law 315 = .ok (.lcmp, 1) := by decide +kernel
theorem dL_law_316 : decode cL_law 316 = .ok (.ifCond .ne 23, 3) := by decide +kernel
theorem dL_law_319 : decode cL_law 319 = .ok (.aload_n 1, 1) := by decide +kernel
theorem dL_law_320 : decode cL_law 320 = .ok (.invokestatic 166, 3) := by decide +kernel
theorem dL_law_323 : decode cL_law 323 = .ok (.ldc 10, 2) := by decide +kernel
theorem dL_law_325 : decode cL_law 325 = .ok (.if_icmp .ne 14, 3) := by decide +kernel
theorem dL_law_328 : decode cL_law 328 = .ok (.aload_n 1, 1) := by decide +kernel
theorem dL_law_329 : decode cL_law 329 = .ok (.invokevirtual 319, 3) := by decide +kernel
theorem dL_law_332 : decode cL_law 332 = .ok (.ifCond .ne 7, 3) := by decide +kernel
theorem dL_law_335 : decode cL_law 335 = .ok (.iconst 1, 1) := by decide +kernel
theorem dL_law_336 : decode cL_law 336 = .ok (.goto 4, 3) := by decide +kernel
theorem dL_law_339 : decode cL_law 339 = .ok (.iconst 0, 1) := by decide +kernel
theorem dL_law_340 : decode cL_law 340 = .ok (.ireturn, 1) := by decide +kernel
end
section
theorem dJ5_init_d00df_0 : decode cJ5_init_d00df 0 = .ok (.aload_n 0, 1) := by decide +kernel
theorem dJ5_init_d00df_1 : decode cJ5_init_d00df 1 = .ok (.invokespecial 3, 3) := by decide +kernel
theorem dJ5_init_d00df_4 : decode cJ5_init_d00df 4 = .ok (.getstatic 18, 3) := by decide +kernel
theorem dJ5_init_d00df_7 : decode cJ5_init_d00df 7 = .ok (.ifCond .eq 18, 3) := by decide +kernel
theorem dJ5_init_d00df_10 : decode cJ5_init_d00df 10 = .ok (.aload_n 0, 1) := by decide +kernel
theorem dJ5_init_d00df_11 : decode cJ5_init_d00df 11 = .ok (.iload_n 1, 1) := by decide +kernel
theorem dJ5_init_d00df_12 : decode cJ5_init_d00df 12 = .ok (.newarray .byte, 2) := by decide +kernel
theorem dJ5_init_d00df_14 : decode cJ5_init_d00df 14 = .ok (.putfield 15, 3) := by decide +kernel
theorem dJ5_init_d00df_17 : decode cJ5_init_d00df 17 = .ok (.aload_n 0, 1) := by decide +kernel
theorem dJ5_init_d00df_18 : decode cJ5_init_d00df 18 = .ok (.iconst 0, 1) := by decide +kernel
theorem dJ5_init_d00df_19 : decode cJ5_init_d00df 19 = .ok (.putfield 22, 3) := by decide +kernel
theorem dJ5_init_d00df_22 : decode cJ5_init_d00df 22 = .ok (.goto 16, 3) := by decide +kernel
theorem dJ5_init_d00df_25 : decode cJ5_init_d00df 25 = .ok (.aload_n 0, 1) := by decide +kernel
theorem dJ5_init_d00df_26 : decode cJ5_init_d00df 26 = .ok (.iload_n 1, 1) := by decide +kernel
theorem dJ5_init_d00df_27 : decode cJ5_init_d00df 27 = .ok (.invokestatic 26, 3) := by decide +kernel
theorem dJ5_init_d00df_30 : decode cJ5_init_d00df 30 = .ok (.putfield 15, 3) := by decide +kernel
theorem dJ5_init_d00df_33 : decode cJ5_init_d00df 33 = .ok (.aload_n 0, 1) := by decide +kernel
theorem dJ5_init_d00df_34 : decode cJ5_init_d00df 34 = .ok (.iconst 1, 1) := by decide +kernel
theorem dJ5_init_d00df_35 : decode cJ5_init_d00df 35 = .ok (.putfield 22, 3) := by decide +kernel
theorem dJ5_init_d00df_38 : decode cJ5_init_d00df 38 = .ok (.return_, 1) := by decide +kernel
theorem dJ5_length_8abf5_0 : decode cJ5_length_8abf5 0 = .ok (.aload_n 0, 1) := by decide +kernel
theorem dJ5_length_8abf5_1 : decode cJ5_length_8abf5 1 = .ok (.getfield 79, 3) := by decide +kernel
theorem dJ5_length_8abf5_4 : decode cJ5_length_8abf5 4 = .ok (.ireturn, 1) := by decide +kernel
theorem dJ5_ensureCapacityInternal_d00df_0 : decode cJ5_ensureCapacityInternal_d00df 0 = .ok (.aload_n 0, 1) := by decide +kernel
theorem dJ5_ensureCapacityInternal_d00df_1 : decode cJ5_ensureCapacityInternal_d00df 1 = .ok (.getfield 15, 3) := by decide +kernel
theorem dJ5_ensureCapacityInternal_d00df_4 : decode cJ5_ensureCapacityInternal_d00df 4 = .ok (.arraylength, 1) := by decide +kernel
theorem dJ5_ensureCapacityInternal_d00df_5 : decode cJ5_ensureCapacityInternal_d00df 5 = .ok (.aload_n 0, 1) := by decide +kernel
theorem dJ5_ensureCapacityInternal_d00df_6 : decode cJ5_ensureCapacityInternal_d00df 6 = .ok (.getfield 22, 3) := by decide +kernel
theorem dJ5_ensureCapacityInternal_d00df_9 : decode cJ5_ensureCapacityInternal_d00df 9 = .ok (.ishr, 1) := by decide +kernel
theorem dJ5_ensureCapacityInternal_d00df_10 : decode cJ5_ensureCapacityInternal_d00df 10 = .ok (.istore_n 2, 1) := by decide +kernel
theorem dJ5_ensureCapacityInternal_d00df_11 : decode cJ5_ensureCapacityInternal_d00df 11 = .ok (.iload_n 1, 1) := by decide +kernel
theorem dJ5_ensureCapacityInternal_d00df_12 : decode cJ5_ensureCapacityInternal_d00df 12 = .ok (.iload_n 2, 1) := by decide +kernel
theorem dJ5_ensureCapacityInternal_d00df_13 : decode cJ5_ensureCapacityInternal_d00df 13 = .ok (.isub, 1) := by decide +kernel
theorem dJ5_ensureCapacityInternal_d00df_14 : decode cJ5_ensureCapacityInternal_d00df 14 = .ok (.ifCond .le 24, 3) := by decide +kernel
theorem dJ5_ensureCapacityInternal_d00df_17 : decode cJ5_ensureCapacityInternal_d00df 17 = .ok (.aload_n 0, 1) := by decide +kernel
theorem dJ5_ensureCapacityInternal_d00df_18 : decode cJ5_ensureCapacityInternal_d00df 18 = .ok (.aload_n 0, 1) := by decide +kernel
theorem dJ5_ensureCapacityInternal_d00df_19 : decode cJ5_ensureCapacityInternal_d00df 19 = .ok (.getfield 15, 3) := by decide +kernel
theorem dJ5_ensureCapacityInternal_d00df_22 : decode cJ5_ensureCapacityInternal_d00df 22 = .ok (.aload_n 0, 1) := by decide +kernel
theorem dJ5_ensureCapacityInternal_d00df_23 : decode cJ5_ensureCapacityInternal_d00df 23 = .ok (.iload_n 1, 1) := by decide +kernel
theorem dJ5_ensureCapacityInternal_d00df_24 : decode cJ5_ensureCapacityInternal_d00df 24 = .ok (.invokevirtual 104, 3) := by decide +kernel
theorem dJ5_ensureCapacityInternal_d00df_27 : decode cJ5_ensureCapacityInternal_d00df 27 = .ok (.aload_n 0, 1) := by decide +kernel
theorem dJ5_ensureCapacityInternal_d00df_28 : decode cJ5_ensureCapacityInternal_d00df 28 = .ok (.getfield 22, 3) := by decide +kernel
theorem dJ5_ensureCapacityInternal_d00df_31 : decode cJ5_ensureCapacityInternal_d00df 31 = .ok (.ishl, 1) := by decide +kernel
theorem dJ5_ensureCapacityInternal_d00df_32 : decode cJ5_ensureCapacityInternal_d00df 32 = .ok (.invokestatic 108, 3) := by decide +kernel
theorem dJ5_ensureCapacityInternal_d00df_35 : decode cJ5_ensureCapacityInternal_d00df 35 = .ok (.putfield 15, 3) := by decide +kernel
theorem dJ5_ensureCapacityInternal_d00df_38 : decode cJ5_ensureCapacityInternal_d00df 38 = .ok (.return_, 1) := by decide +kernel
theorem dJ5_newCapacity_0f7a4_0 : decode cJ5_newCapacity_0f7a4 0 = .ok (.aload_n 0, 1) := by decide +kernel
theorem dJ5_newCapacity_0f7a4_1 : decode cJ5_newCapacity_0f7a4 1 = .ok (.getfield 15, 3) := by decide +kernel
theorem dJ5_newCapacity_0f7a4_4 : decode cJ5_newCapacity_0f7a4 4 = .ok (.arraylength, 1) := by decide +kernel
theorem dJ5_newCapacity_0f7a4_5 : decode cJ5_newCapacity_0f7a4 5 = .ok (.istore_n 2, 1) := by decide +kernel
theorem dJ5_newCapacity_0f7a4_6 : decode cJ5_newCapacity_0f7a4 6 = .ok (.iload_n 1, 1) := by decide +kernel
theorem dJ5_newCapacity_0f7a4_7 : decode cJ5_newCapacity_0f7a4 7 = .ok (.aload_n 0, 1) := by decide +kernel
theorem dJ5_newCapacity_0f7a4_8 : decode cJ5_newCapacity_0f7a4 8 = .ok (.getfield 22, 3) := by decide +kernel
theorem dJ5_newCapacity_0f7a4_11 : decode cJ5_newCapacity_0f7a4 11 = .ok (.ishl, 1) := by decide +kernel
theorem dJ5_newCapacity_0f7a4_12 : decode cJ5_newCapacity_0f7a4 12 = .ok (.istore_n 3, 1) := by decide +kernel
theorem dJ5_newCapacity_0f7a4_13 : decode cJ5_newCapacity_0f7a4 13 = .ok (.iload_n 3, 1) := by decide +kernel
theorem dJ5_newCapacity_0f7a4_14 : decode cJ5_newCapacity_0f7a4 14 = .ok (.iload_n 2, 1) := by decide +kernel
theorem dJ5_newCapacity_0f7a4_15 : decode cJ5_newCapacity_0f7a4 15 = .ok (.isub, 1) := by decide +kernel
theorem dJ5_newCapacity_0f7a4_16 : decode cJ5_newCapacity_0f7a4 16 = .ok (.istore 4, 2) := by decide +kernel
theorem dJ5_newCapacity_0f7a4_18 : decode cJ5_newCapacity_0f7a4 18 = .ok (.iload_n 2, 1) := by decide +kernel
theorem dJ5_newCapacity_0f7a4_19 : decode cJ5_newCapacity_0f7a4 19 = .ok (.iload 4, 2) := by decide +kernel
theorem dJ5_newCapacity_0f7a4_21 : decode cJ5_newCapacity_0f7a4 21 = .ok (.iload_n 2, 1) := by decide +kernel
theorem dJ5_newCapacity_0f7a4_22 : decode cJ5_newCapacity_0f7a4 22 = .ok (.iconst 2, 1) := by decide +kernel
theorem dJ5_newCapacity_0f7a4_23 : decode cJ5_newCapacity_0f7a4 23 = .ok (.aload_n 0, 1) := by decide +kernel
theorem dJ5_newCapacity_0f7a4_24 : decode cJ5_newCapacity_0f7a4 24 = .ok (.getfield 22, 3) := by decide +kernel
theorem dJ5_newCapacity_0f7a4_27 : decode cJ5_newCapacity_0f7a4 27 = .ok (.ishl, 1) := by decide +kernel
theorem dJ5_newCapacity_0f7a4_28 : decode cJ5_newCapacity_0f7a4 28 = .ok (.iadd, 1) := by decide +kernel
theorem dJ5_newCapacity_0f7a4_29 : decode cJ5_newCapacity_0f7a4 29 = .ok (.invokestatic 114, 3) := by decide +kernel
theorem dJ5_newCapacity_0f7a4_32 : decode cJ5_newCapacity_0f7a4 32 = .ok (.istore 5, 2) := by decide +kernel
theorem dJ5_newCapacity_0f7a4_34 : decode cJ5_newCapacity_0f7a4 34 = .ok (.iload 5, 2) := by decide +kernel
theorem dJ5_newCapacity_0f7a4_36 : decode cJ5_newCapacity_0f7a4 36 = .ok (.ldc 39, 2) := by decide +kernel
theorem dJ5_newCapacity_0f7a4_38 : decode cJ5_newCapacity_0f7a4 38 = .ok (.if_icmp .ne 13, 3) := by decide +kernel
theorem dJ5_newCapacity_0f7a4_41 : decode cJ5_newCapacity_0f7a4 41 = .ok (.new 120, 3) := by decide +kernel
theorem dJ5_newCapacity_0f7a4_44 : decode cJ5_newCapacity_0f7a4 44 = .ok (.dup, 1) := by decide +kernel
theorem dJ5_newCapacity_0f7a4_45 : decode cJ5_newCapacity_0f7a4 45 = .ok (.ldc 122, 2) := by decide +kernel
theorem dJ5_newCapacity_0f7a4_47 : decode cJ5_newCapacity_0f7a4 47 = .ok (.invokespecial 124, 3) := by decide +kernel
theorem dJ5_newCapacity_0f7a4_50 : decode cJ5_newCapacity_0f7a4 50 = .ok (.athrow, 1) := by decide +kernel
theorem dJ5_newCapacity_0f7a4_51 : decode cJ5_newCapacity_0f7a4 51 = .ok (.iload 5, 2) := by decide +kernel
theorem dJ5_newCapacity_0f7a4_53 : decode cJ5_newCapacity_0f7a4 53 = .ok (.aload_n 0, 1) := by decide +kernel
theorem dJ5_newCapacity_0f7a4_54 : decode cJ5_newCapacity_0f7a4 54 = .ok (.getfield 22, 3) := by decide +kernel
theorem dJ5_newCapacity_0f7a4_57 : decode cJ5_newCapacity_0f7a4 57 = .ok (.ishr, 1) := by decide +kernel
theorem dJ5_newCapacity_0f7a4_58 : decode cJ5_newCapacity_0f7a4 58 = .ok (.ireturn, 1) := by decide +kernel
theorem dJ5_inflate_da8c8_0 : decode cJ5_inflate_da8c8 0 = .ok (.aload_n 0, 1) := by decide +kernel
theorem dJ5_inflate_da8c8_1 : decode cJ5_inflate_da8c8 1 = .ok (.invokevirtual 83, 3) := by decide +kernel
theorem dJ5_inflate_da8c8_4 : decode cJ5_inflate_da8c8 4 = .ok (.ifCond .ne 4, 3) := by decide +kernel
theorem dJ5_inflate_da8c8_7 : decode cJ5_inflate_da8c8 7 = .ok (.return_, 1) := by decide +kernel
theorem dJ5_inflate_da8c8_8 : decode cJ5_inflate_da8c8 8 = .ok (.aload_n 0, 1) := by decide +kernel
theorem dJ5_inflate_da8c8_9 : decode cJ5_inflate_da8c8 9 = .ok (.getfield 15, 3) := by decide +kernel
theorem dJ5_inflate_da8c8_12 : decode cJ5_inflate_da8c8 12 = .ok (.arraylength, 1) := by decide +kernel
theorem dJ5_inflate_da8c8_13 : decode cJ5_inflate_da8c8 13 = .ok (.invokestatic 26, 3) := by decide +kernel
theorem dJ5_inflate_da8c8_16 : decode cJ5_inflate_da8c8 16 = .ok (.astore_n 1, 1) := by decide +kernel
theorem dJ5_inflate_da8c8_17 : decode cJ5_inflate_da8c8 17 = .ok (.aload_n 0, 1) := by decide +kernel
theorem dJ5_inflate_da8c8_18 : decode cJ5_inflate_da8c8 18 = .ok (.getfield 15, 3) := by decide +kernel
theorem dJ5_inflate_da8c8_21 : decode cJ5_inflate_da8c8 21 = .ok (.iconst 0, 1) := by decide +kernel
theorem dJ5_inflate_da8c8_22 : decode cJ5_inflate_da8c8 22 = .ok (.aload_n 1, 1) := by decide +kernel
theorem dJ5_inflate_da8c8_23 : decode cJ5_inflate_da8c8 23 = .ok (.iconst 0, 1) := by decide +kernel
theorem dJ5_inflate_da8c8_24 : decode cJ5_inflate_da8c8 24 = .ok (.aload_n 0, 1) := by decide +kernel
theorem dJ5_inflate_da8c8_25 : decode cJ5_inflate_da8c8 25 = .ok (.getfield 79, 3) := by decide +kernel
theorem dJ5_inflate_da8c8_28 : decode cJ5_inflate_da8c8 28 = .ok (.invokestatic 125, 3) := by decide +kernel
theorem dJ5_inflate_da8c8_31 : decode cJ5_inflate_da8c8 31 = .ok (.aload_n 0, 1) := by decide +kernel
theorem dJ5_inflate_da8c8_32 : decode cJ5_inflate_da8c8 32 = .ok (.aload_n 1, 1) := by decide +kernel
theorem dJ5_inflate_da8c8_33 : decode cJ5_inflate_da8c8 33 = .ok (.putfield 15, 3) := by decide +kernel
theorem dJ5_inflate_da8c8_36 : decode cJ5_inflate_da8c8 36 = .ok (.aload_n 0, 1) := by decide +kernel
theorem dJ5_inflate_da8c8_37 : decode cJ5_inflate_da8c8 37 = .ok (.iconst 1, 1) := by decide +kernel
theorem dJ5_inflate_da8c8_38 : decode cJ5_inflate_da8c8 38 = .ok (.putfield 22, 3) := by decide +kernel
theorem dJ5_inflate_da8c8_41 : decode cJ5_inflate_da8c8 41 = .ok (.return_, 1) := by decide +kernel
theorem dJ5_setLength_d00df_0 : decode cJ5_setLength_d00df 0 = .ok (.iload_n 1, 1) := by decide +kernel
theorem dJ5_setLength_d00df_1 : decode cJ5_setLength_d00df 1 = .ok (.ifCond .ge 12, 3) := by decide +kernel
theorem dJ5_setLength_d00df_4 : decode cJ5_setLength_d00df 4 = .ok (.new 129, 3) := by decide +kernel
theorem dJ5_setLength_d00df_7 : decode cJ5_setLength_d00df 7 = .ok (.dup, 1) := by decide +kernel
theorem dJ5_setLength_d00df_8 : decode cJ5_setLength_d00df 8 = .ok (.iload_n 1, 1) := by decide +kernel
theorem dJ5_setLength_d00df_9 : decode cJ5_setLength_d00df 9 = .ok (.invokespecial 131, 3) := by decide +kernel
theorem dJ5_setLength_d00df_12 : decode cJ5_setLength_d00df 12 = .ok (.athrow, 1) := by decide +kernel
theorem dJ5_setLength_d00df_13 : decode cJ5_setLength_d00df 13 = .ok (.aload_n 0, 1) := by decide +kernel
theorem dJ5_setLength_d00df_14 : decode cJ5_setLength_d00df 14 = .ok (.iload_n 1, 1) := by decide +kernel
theorem dJ5_setLength_d00df_15 : decode cJ5_setLength_d00df 15 = .ok (.invokevirtual 100, 3) := by decide +kernel
theorem dJ5_setLength_d00df_18 : decode cJ5_setLength_d00df 18 = .ok (.aload_n 0, 1) := by decide +kernel
theorem dJ5_setLength_d00df_19 : decode cJ5_setLength_d00df 19 = .ok (.getfield 79, 3) := by decide +kernel
theorem dJ5_setLength_d00df_22 : decode cJ5_setLength_d00df 22 = .ok (.iload_n 1, 1) := by decide +kernel
theorem dJ5_setLength_d00df_23 : decode cJ5_setLength_d00df 23 = .ok (.if_icmp .ge 40, 3) := by decide +kernel
theorem dJ5_setLength_d00df_26 : decode cJ5_setLength_d00df 26 = .ok (.aload_n 0, 1) := by decide +kernel
theorem dJ5_setLength_d00df_27 : decode cJ5_setLength_d00df 27 = .ok (.invokevirtual 83, 3) := by decide +kernel
theorem dJ5_setLength_d00df_30 : decode cJ5_setLength_d00df 30 = .ok (.ifCond .eq 18, 3) := by decide +kernel
theorem dJ5_setLength_d00df_33 : decode cJ5_setLength_d00df 33 = .ok (.aload_n 0, 1) := by decide +kernel
theorem dJ5_setLength_d00df_34 : decode cJ5_setLength_d00df 34 = .ok (.getfield 15, 3) := by decide +kernel
theorem dJ5_setLength_d00df_37 : decode cJ5_setLength_d00df 37 = .ok (.aload_n 0, 1) := by decide +kernel
theorem dJ5_setLength_d00df_38 : decode cJ5_setLength_d00df 38 = .ok (.getfield 79, 3) := by decide +kernel
theorem dJ5_setLength_d00df_41 : decode cJ5_setLength_d00df 41 = .ok (.iload_n 1, 1) := by decide +kernel
theorem dJ5_setLength_d00df_42 : decode cJ5_setLength_d00df 42 = .ok (.invokestatic 133, 3) := by decide +kernel
theorem dJ5_setLength_d00df_45 : decode cJ5_setLength_d00df 45 = .ok (.goto 31, 3) := by decide +kernel
theorem dJ5_setLength_d00df_48 : decode cJ5_setLength_d00df 48 = .ok (.aload_n 0, 1) := by decide +kernel
theorem dJ5_setLength_d00df_49 : decode cJ5_setLength_d00df 49 = .ok (.getfield 15, 3) := by decide +kernel
theorem dJ5_setLength_d00df_52 : decode cJ5_setLength_d00df 52 = .ok (.aload_n 0, 1) := by decide +kernel
theorem dJ5_setLength_d00df_53 : decode cJ5_setLength_d00df 53 = .ok (.getfield 79, 3) := by decide +kernel
theorem dJ5_setLength_d00df_56 : decode cJ5_setLength_d00df 56 = .ok (.iload_n 1, 1) := by decide +kernel
theorem dJ5_setLength_d00df_57 : decode cJ5_setLength_d00df 57 = .ok (.invokestatic 137, 3) := by decide +kernel
theorem dJ5_setLength_d00df_60 : decode cJ5_setLength_d00df 60 = .ok (.goto 16, 3) := by decide +kernel
theorem dJ5_setLength_d00df_63 : decode cJ5_setLength_d00df 63 = .ok (.aload_n 0, 1) := by decide +kernel
theorem dJ5_setLength_d00df_64 : decode cJ5_setLength_d00df 64 = .ok (.getfield 79, 3) := by decide +kernel
theorem dJ5_setLength_d00df_67 : decode cJ5_setLength_d00df 67 = .ok (.iload_n 1, 1) := by decide +kernel
theorem dJ5_setLength_d00df_68 : decode cJ5_setLength_d00df 68 = .ok (.if_icmp .le 8, 3) := by decide +kernel
theorem dJ5_setLength_d00df_71 : decode cJ5_setLength_d00df 71 = .ok (.aload_n 0, 1) := by decide +kernel
theorem dJ5_setLength_d00df_72 : decode cJ5_setLength_d00df 72 = .ok (.iconst 1, 1) := by decide +kernel
theorem dJ5_setLength_d00df_73 : decode cJ5_setLength_d00df 73 = .ok (.putfield 73, 3) := by decide +kernel
theorem dJ5_setLength_d00df_76 : decode cJ5_setLength_d00df 76 = .ok (.aload_n 0, 1) := by decide +kernel
theorem dJ5_setLength_d00df_77 : decode cJ5_setLength_d00df 77 = .ok (.iload_n 1, 1) := by decide +kernel
theorem dJ5_setLength_d00df_78 : decode cJ5_setLength_d00df 78 = .ok (.putfield 79, 3) := by decide +kernel
theorem dJ5_setLength_d00df_81 : decode cJ5_setLength_d00df 81 = .ok (.return_, 1) := by decide +kernel
theorem dJ5_append_cf1ce_0 : decode cJ5_append_cf1ce 0 = .ok (.aload_n 1, 1) := by decide +kernel
theorem dJ5_append_cf1ce_1 : decode cJ5_append_cf1ce 1 = .ok (.ifnonnull 8, 3) := by decide +kernel
theorem dJ5_append_cf1ce_4 : decode cJ5_append_cf1ce 4 = .ok (.aload_n 0, 1) := by decide +kernel
theorem dJ5_append_cf1ce_5 : decode cJ5_append_cf1ce 5 = .ok (.invokevirtual 204, 3) := by decide +kernel
theorem dJ5_append_cf1ce_8 : decode cJ5_append_cf1ce 8 = .ok (.areturn, 1) := by decide +kernel
theorem dJ5_append_cf1ce_9 : decode cJ5_append_cf1ce 9 = .ok (.aload_n 1, 1) := by decide +kernel
theorem dJ5_append_cf1ce_10 : decode cJ5_append_cf1ce 10 = .ok (.invokevirtual 32, 3) := by decide +kernel
theorem dJ5_append_cf1ce_13 : decode cJ5_append_cf1ce 13 = .ok (.istore_n 2, 1) := by decide +kernel
theorem dJ5_append_cf1ce_14 : decode cJ5_append_cf1ce 14 = .ok (.aload_n 0, 1) := by decide +kernel
theorem dJ5_append_cf1ce_15 : decode cJ5_append_cf1ce 15 = .ok (.aload_n 0, 1) := by decide +kernel
theorem dJ5_append_cf1ce_16 : decode cJ5_append_cf1ce 16 = .ok (.getfield 79, 3) := by decide +kernel
theorem dJ5_append_cf1ce_19 : decode cJ5_append_cf1ce 19 = .ok (.iload_n 2, 1) := by decide +kernel
theorem dJ5_append_cf1ce_20 : decode cJ5_append_cf1ce 20 = .ok (.iadd, 1) := by decide +kernel
theorem dJ5_append_cf1ce_21 : decode cJ5_append_cf1ce 21 = .ok (.invokevirtual 100, 3) := by decide +kernel
theorem dJ5_append_cf1ce_24 : decode cJ5_append_cf1ce 24 = .ok (.aload_n 0, 1) := by decide +kernel
theorem dJ5_append_cf1ce_25 : decode cJ5_append_cf1ce 25 = .ok (.aload_n 0, 1) := by decide +kernel
theorem dJ5_append_cf1ce_26 : decode cJ5_append_cf1ce 26 = .ok (.getfield 79, 3) := by decide +kernel
theorem dJ5_append_cf1ce_29 : decode cJ5_append_cf1ce 29 = .ok (.aload_n 1, 1) := by decide +kernel
theorem dJ5_append_cf1ce_30 : decode cJ5_append_cf1ce 30 = .ok (.invokevirtual 208, 3) := by decide +kernel
theorem dJ5_append_cf1ce_33 : decode cJ5_append_cf1ce 33 = .ok (.aload_n 0, 1) := by decide +kernel
theorem dJ5_append_cf1ce_34 : decode cJ5_append_cf1ce 34 = .ok (.dup, 1) := by decide +kernel
theorem dJ5_append_cf1ce_35 : decode cJ5_append_cf1ce 35 = .ok (.getfield 79, 3) := by decide +kernel
theorem dJ5_append_cf1ce_38 : decode cJ5_append_cf1ce 38 = .ok (.iload_n 2, 1) := by decide +kernel
theorem dJ5_append_cf1ce_39 : decode cJ5_append_cf1ce 39 = .ok (.iadd, 1) := by decide +kernel
theorem dJ5_append_cf1ce_40 : decode cJ5_append_cf1ce 40 = .ok (.putfield 79, 3) := by decide +kernel
theorem dJ5_append_cf1ce_43 : decode cJ5_append_cf1ce 43 = .ok (.aload_n 0, 1) := by decide +kernel
theorem dJ5_append_cf1ce_44 : decode cJ5_append_cf1ce 44 = .ok (.areturn, 1) := by decide +kernel
theorem dJ5_appendNull_278bc_0 : decode cJ5_appendNull_278bc 0 = .ok (.aload_n 0, 1) := by decide +kernel
theorem dJ5_appendNull_278bc_1 : decode cJ5_appendNull_278bc 1 = .ok (.aload_n 0, 1) := by decide +kernel
theorem dJ5_appendNull_278bc_2 : decode cJ5_appendNull_278bc 2 = .ok (.getfield 79, 3) := by decide +kernel
theorem dJ5_appendNull_278bc_5 : decode cJ5_appendNull_278bc 5 = .ok (.iconst 4, 1) := by decide +kernel
theorem dJ5_appendNull_278bc_6 : decode cJ5_appendNull_278bc 6 = .ok (.iadd, 1) := by decide +kernel
theorem dJ5_appendNull_278bc_7 : decode cJ5_appendNull_278bc 7 = .ok (.invokevirtual 100, 3) := by decide +kernel
theorem dJ5_appendNull_278bc_10 : decode cJ5_appendNull_278bc 10 = .ok (.aload_n 0, 1) := by decide +kernel
theorem dJ5_appendNull_278bc_11 : decode cJ5_appendNull_278bc 11 = .ok (.getfield 79, 3) := by decide +kernel
theorem dJ5_appendNull_278bc_14 : decode cJ5_appendNull_278bc 14 = .ok (.istore_n 1, 1) := by decide +kernel
theorem dJ5_appendNull_278bc_15 : decode cJ5_appendNull_278bc 15 = .ok (.aload_n 0, 1) := by decide +kernel
theorem dJ5_appendNull_278bc_16 : decode cJ5_appendNull_278bc 16 = .ok (.getfield 15, 3) := by decide +kernel
theorem dJ5_appendNull_278bc_19 : decode cJ5_appendNull_278bc 19 = .ok (.astore_n 2, 1) := by decide +kernel
theorem dJ5_appendNull_278bc_20 : decode cJ5_appendNull_278bc 20 = .ok (.aload_n 0, 1) := by decide +kernel
theorem dJ5_appendNull_278bc_21 : decode cJ5_appendNull_278bc 21 = .ok (.invokevirtual 83, 3) := by decide +kernel
theorem dJ5_appendNull_278bc_24 : decode cJ5_appendNull_278bc 24 = .ok (.ifCond .eq 38, 3) := by decide +kernel
theorem dJ5_appendNull_278bc_27 : decode cJ5_appendNull_278bc 27 = .ok (.aload_n 2, 1) := by decide +kernel
theorem dJ5_appendNull_278bc_28 : decode cJ5_appendNull_278bc 28 = .ok (.iload_n 1, 1) := by decide +kernel
theorem dJ5_appendNull_278bc_29 : decode cJ5_appendNull_278bc 29 = .ok (.iinc 1 1, 3) := by decide +kernel
theorem dJ5_appendNull_278bc_32 : decode cJ5_appendNull_278bc 32 = .ok (.bipush 110, 2) := by decide +kernel
theorem dJ5_appendNull_278bc_34 : decode cJ5_appendNull_278bc 34 = .ok (.bastore, 1) := by decide +kernel
theorem dJ5_appendNull_278bc_35 : decode cJ5_appendNull_278bc 35 = .ok (.aload_n 2, 1) := by decide +kernel
theorem dJ5_appendNull_278bc_36 : decode cJ5_appendNull_278bc 36 = .ok (.iload_n 1, 1) := by decide +kernel
theorem dJ5_appendNull_278bc_37 : decode cJ5_appendNull_278bc 37 = .ok (.iinc 1 1, 3) := by decide +kernel
theorem dJ5_appendNull_278bc_40 : decode cJ5_appendNull_278bc 40 = .ok (.bipush 117, 2) := by decide +kernel
theorem dJ5_appendNull_278bc_42 : decode cJ5_appendNull_278bc 42 = .ok (.bastore, 1) := by decide +kernel
theorem dJ5_appendNull_278bc_43 : decode cJ5_appendNull_278bc 43 = .ok (.aload_n 2, 1) := by decide +kernel
theorem dJ5_appendNull_278bc_44 : decode cJ5_appendNull_278bc 44 = .ok (.iload_n 1, 1) := by decide +kernel
theorem dJ5_appendNull_278bc_45 : decode cJ5_appendNull_278bc 45 = .ok (.iinc 1 1, 3) := by decide +kernel
theorem dJ5_appendNull_278bc_48 : decode cJ5_appendNull_278bc 48 = .ok (.bipush 108, 2) := by decide +kernel
theorem dJ5_appendNull_278bc_50 : decode cJ5_appendNull_278bc 50 = .ok (.bastore, 1) := by decide +kernel
theorem dJ5_appendNull_278bc_51 : decode cJ5_appendNull_278bc 51 = .ok (.aload_n 2, 1) := by decide +kernel
theorem dJ5_appendNull_278bc_52 : decode cJ5_appendNull_278bc 52 = .ok (.iload_n 1, 1) := by decide +kernel
theorem dJ5_appendNull_278bc_53 : decode cJ5_appendNull_278bc 53 = .ok (.iinc 1 1, 3) := by decide +kernel
theorem dJ5_appendNull_278bc_56 : decode cJ5_appendNull_278bc 56 = .ok (.bipush 108, 2) := by decide +kernel
theorem dJ5_appendNull_278bc_58 : decode cJ5_appendNull_278bc 58 = .ok (.bastore, 1) := by decide +kernel
theorem dJ5_appendNull_278bc_59 : decode cJ5_appendNull_278bc 59 = .ok (.goto 17, 3) := by decide +kernel
theorem dJ5_appendNull_278bc_62 : decode cJ5_appendNull_278bc 62 = .ok (.aload_n 2, 1) := by decide +kernel
theorem dJ5_appendNull_278bc_63 : decode cJ5_appendNull_278bc 63 = .ok (.iload_n 1, 1) := by decide +kernel
theorem dJ5_appendNull_278bc_64 : decode cJ5_appendNull_278bc 64 = .ok (.bipush 110, 2) := by decide +kernel
theorem dJ5_appendNull_278bc_66 : decode cJ5_appendNull_278bc 66 = .ok (.bipush 117, 2) := by decide +kernel
theorem dJ5_appendNull_278bc_68 : decode cJ5_appendNull_278bc 68 = .ok (.bipush 108, 2) := by decide +kernel
theorem dJ5_appendNull_278bc_70 : decode cJ5_appendNull_278bc 70 = .ok (.bipush 108, 2) := by decide +kernel
theorem dJ5_appendNull_278bc_72 : decode cJ5_appendNull_278bc 72 = .ok (.invokestatic 226, 3) := by decide +kernel
theorem dJ5_appendNull_278bc_75 : decode cJ5_appendNull_278bc 75 = .ok (.istore_n 1, 1) := by decide +kernel
theorem dJ5_appendNull_278bc_76 : decode cJ5_appendNull_278bc 76 = .ok (.aload_n 0, 1) := by decide +kernel
theorem dJ5_appendNull_278bc_77 : decode cJ5_appendNull_278bc 77 = .ok (.iload_n 1, 1) := by decide +kernel
theorem dJ5_appendNull_278bc_78 : decode cJ5_appendNull_278bc 78 = .ok (.putfield 79, 3) := by decide +kernel
theorem dJ5_appendNull_278bc_81 : decode cJ5_appendNull_278bc 81 = .ok (.aload_n 0, 1) := by decide +kernel
theorem dJ5_appendNull_278bc_82 : decode cJ5_appendNull_278bc 82 = .ok (.areturn, 1) := by decide +kernel
theorem dJ5_append_3fe6f_0 : decode cJ5_append_3fe6f 0 = .ok (.aload_n 0, 1) := by decide +kernel
theorem dJ5_append_3fe6f_1 : decode cJ5_append_3fe6f 1 = .ok (.aload_n 0, 1) := by decide +kernel
theorem dJ5_append_3fe6f_2 : decode cJ5_append_3fe6f 2 = .ok (.getfield 79, 3) := by decide +kernel
theorem dJ5_append_3fe6f_5 : decode cJ5_append_3fe6f 5 = .ok (.iconst 1, 1) := by decide +kernel
theorem dJ5_append_3fe6f_6 : decode cJ5_append_3fe6f 6 = .ok (.iadd, 1) := by decide +kernel
theorem dJ5_append_3fe6f_7 : decode cJ5_append_3fe6f 7 = .ok (.invokevirtual 100, 3) := by decide +kernel
theorem dJ5_append_3fe6f_10 : decode cJ5_append_3fe6f 10 = .ok (.aload_n 0, 1) := by decide +kernel
theorem dJ5_append_3fe6f_11 : decode cJ5_append_3fe6f 11 = .ok (.invokevirtual 83, 3) := by decide +kernel
theorem dJ5_append_3fe6f_14 : decode cJ5_append_3fe6f 14 = .ok (.ifCond .eq 31, 3) := by decide +kernel
theorem dJ5_append_3fe6f_17 : decode cJ5_append_3fe6f 17 = .ok (.iload_n 1, 1) := by decide +kernel
theorem dJ5_append_3fe6f_18 : decode cJ5_append_3fe6f 18 = .ok (.invokestatic 191, 3) := by decide +kernel
theorem dJ5_append_3fe6f_21 : decode cJ5_append_3fe6f 21 = .ok (.ifCond .eq 24, 3) := by decide +kernel
theorem dJ5_append_3fe6f_24 : decode cJ5_append_3fe6f 24 = .ok (.aload_n 0, 1) := by decide +kernel
theorem dJ5_append_3fe6f_25 : decode cJ5_append_3fe6f 25 = .ok (.getfield 15, 3) := by decide +kernel
theorem dJ5_append_3fe6f_28 : decode cJ5_append_3fe6f 28 = .ok (.aload_n 0, 1) := by decide +kernel
theorem dJ5_append_3fe6f_29 : decode cJ5_append_3fe6f 29 = .ok (.dup, 1) := by decide +kernel
theorem dJ5_append_3fe6f_30 : decode cJ5_append_3fe6f 30 = .ok (.getfield 79, 3) := by decide +kernel
theorem dJ5_append_3fe6f_33 : decode cJ5_append_3fe6f 33 = .ok (.dup_x1, 1) := by decide +kernel
theorem dJ5_append_3fe6f_34 : decode cJ5_append_3fe6f 34 = .ok (.iconst 1, 1) := by decide +kernel
theorem dJ5_append_3fe6f_35 : decode cJ5_append_3fe6f 35 = .ok (.iadd, 1) := by decide +kernel
theorem dJ5_append_3fe6f_36 : decode cJ5_append_3fe6f 36 = .ok (.putfield 79, 3) := by decide +kernel
theorem dJ5_append_3fe6f_39 : decode cJ5_append_3fe6f 39 = .ok (.iload_n 1, 1) := by decide +kernel
theorem dJ5_append_3fe6f_40 : decode cJ5_append_3fe6f 40 = .ok (.i2b, 1) := by decide +kernel
theorem dJ5_append_3fe6f_41 : decode cJ5_append_3fe6f 41 = .ok (.bastore, 1) := by decide +kernel
theorem dJ5_append_3fe6f_42 : decode cJ5_append_3fe6f 42 = .ok (.goto 33, 3) := by decide +kernel
theorem dJ5_append_3fe6f_45 : decode cJ5_append_3fe6f 45 = .ok (.aload_n 0, 1) := by decide +kernel
theorem dJ5_append_3fe6f_46 : decode cJ5_append_3fe6f 46 = .ok (.invokevirtual 83, 3) := by decide +kernel
theorem dJ5_append_3fe6f_49 : decode cJ5_append_3fe6f 49 = .ok (.ifCond .eq 7, 3) := by decide +kernel
theorem dJ5_append_3fe6f_52 : decode cJ5_append_3fe6f 52 = .ok (.aload_n 0, 1) := by decide +kernel
theorem dJ5_append_3fe6f_53 : decode cJ5_append_3fe6f 53 = .ok (.invokevirtual 195, 3) := by decide +kernel
theorem dJ5_append_3fe6f_56 : decode cJ5_append_3fe6f 56 = .ok (.aload_n 0, 1) := by decide +kernel
theorem dJ5_append_3fe6f_57 : decode cJ5_append_3fe6f 57 = .ok (.getfield 15, 3) := by decide +kernel
theorem dJ5_append_3fe6f_60 : decode cJ5_append_3fe6f 60 = .ok (.aload_n 0, 1) := by decide +kernel
theorem dJ5_append_3fe6f_61 : decode cJ5_append_3fe6f 61 = .ok (.dup, 1) := by decide +kernel
theorem dJ5_append_3fe6f_62 : decode cJ5_append_3fe6f 62 = .ok (.getfield 79, 3) := by decide +kernel
theorem dJ5_append_3fe6f_65 : decode cJ5_append_3fe6f 65 = .ok (.dup_x1, 1) := by decide +kernel
theorem dJ5_append_3fe6f_66 : decode cJ5_append_3fe6f 66 = .ok (.iconst 1, 1) := by decide +kernel
theorem dJ5_append_3fe6f_67 : decode cJ5_append_3fe6f 67 = .ok (.iadd, 1) := by decide +kernel
theorem dJ5_append_3fe6f_68 : decode cJ5_append_3fe6f 68 = .ok (.putfield 79, 3) := by decide +kernel
theorem dJ5_append_3fe6f_71 : decode cJ5_append_3fe6f 71 = .ok (.iload_n 1, 1) := by decide +kernel
theorem dJ5_append_3fe6f_72 : decode cJ5_append_3fe6f 72 = .ok (.invokestatic 197, 3) := by decide +kernel
theorem dJ5_append_3fe6f_75 : decode cJ5_append_3fe6f 75 = .ok (.aload_n 0, 1) := by decide +kernel
theorem dJ5_append_3fe6f_76 : decode cJ5_append_3fe6f 76 = .ok (.areturn, 1) := by decide +kernel
theorem dJ5_append_c97b9_0 : decode cJ5_append_c97b9 0 = .ok (.aload_n 0, 1) := by decide +kernel
theorem dJ5_append_c97b9_1 : decode cJ5_append_c97b9 1 = .ok (.getfield 79, 3) := by decide +kernel
theorem dJ5_append_c97b9_4 : decode cJ5_append_c97b9 4 = .ok (.istore_n 2, 1) := by decide +kernel
theorem dJ5_append_c97b9_5 : decode cJ5_append_c97b9 5 = .ok (.iload_n 2, 1) := by decide +kernel
theorem dJ5_append_c97b9_6 : decode cJ5_append_c97b9 6 = .ok (.iload_n 1, 1) := by decide +kernel
theorem dJ5_append_c97b9_7 : decode cJ5_append_c97b9 7 = .ok (.invokestatic 245, 3) := by decide +kernel
theorem dJ5_append_c97b9_10 : decode cJ5_append_c97b9 10 = .ok (.iadd, 1) := by decide +kernel
theorem dJ5_append_c97b9_11 : decode cJ5_append_c97b9 11 = .ok (.istore_n 3, 1) := by decide +kernel
theorem dJ5_append_c97b9_12 : decode cJ5_append_c97b9 12 = .ok (.aload_n 0, 1) := by decide +kernel
theorem dJ5_append_c97b9_13 : decode cJ5_append_c97b9 13 = .ok (.iload_n 3, 1) := by decide +kernel
theorem dJ5_append_c97b9_14 : decode cJ5_append_c97b9 14 = .ok (.invokevirtual 100, 3) := by decide +kernel
theorem dJ5_append_c97b9_17 : decode cJ5_append_c97b9 17 = .ok (.aload_n 0, 1) := by decide +kernel
theorem dJ5_append_c97b9_18 : decode cJ5_append_c97b9 18 = .ok (.invokevirtual 83, 3) := by decide +kernel
theorem dJ5_append_c97b9_21 : decode cJ5_append_c97b9 21 = .ok (.ifCond .eq 16, 3) := by decide +kernel
theorem dJ5_append_c97b9_24 : decode cJ5_append_c97b9 24 = .ok (.iload_n 1, 1) := by decide +kernel
theorem dJ5_append_c97b9_25 : decode cJ5_append_c97b9 25 = .ok (.iload_n 3, 1) := by decide +kernel
theorem dJ5_append_c97b9_26 : decode cJ5_append_c97b9 26 = .ok (.aload_n 0, 1) := by decide +kernel
theorem dJ5_append_c97b9_27 : decode cJ5_append_c97b9 27 = .ok (.getfield 15, 3) := by decide +kernel
theorem dJ5_append_c97b9_30 : decode cJ5_append_c97b9 30 = .ok (.invokestatic 248, 3) := by decide +kernel
theorem dJ5_append_c97b9_33 : decode cJ5_append_c97b9 33 = .ok (.pop, 1) := by decide +kernel
theorem dJ5_append_c97b9_34 : decode cJ5_append_c97b9 34 = .ok (.goto 14, 3) := by decide +kernel
theorem dJ5_append_c97b9_37 : decode cJ5_append_c97b9 37 = .ok (.iload_n 1, 1) := by decide +kernel
theorem dJ5_append_c97b9_38 : decode cJ5_append_c97b9 38 = .ok (.iload_n 2, 1) := by decide +kernel
theorem dJ5_append_c97b9_39 : decode cJ5_append_c97b9 39 = .ok (.iload_n 3, 1) := by decide +kernel
theorem dJ5_append_c97b9_40 : decode cJ5_append_c97b9 40 = .ok (.aload_n 0, 1) := by decide +kernel
theorem dJ5_append_c97b9_41 : decode cJ5_append_c97b9 41 = .ok (.getfield 15, 3) := by decide +kernel
theorem dJ5_append_c97b9_44 : decode cJ5_append_c97b9 44 = .ok (.invokestatic 251, 3) := by decide +kernel
theorem dJ5_append_c97b9_47 : decode cJ5_append_c97b9 47 = .ok (.pop, 1) := by decide +kernel
theorem dJ5_append_c97b9_48 : decode cJ5_append_c97b9 48 = .ok (.aload_n 0, 1) := by decide +kernel
theorem dJ5_append_c97b9_49 : decode cJ5_append_c97b9 49 = .ok (.iload_n 3, 1) := by decide +kernel
theorem dJ5_append_c97b9_50 : decode cJ5_append_c97b9 50 = .ok (.putfield 79, 3) := by decide +kernel
theorem dJ5_append_c97b9_53 : decode cJ5_append_c97b9 53 = .ok (.aload_n 0, 1) := by decide +kernel
theorem dJ5_append_c97b9_54 : decode cJ5_append_c97b9 54 = .ok (.areturn, 1) := by decide +kernel
theorem dJ5_getValue_6d5f1_0 : decode cJ5_getValue_6d5f1 0 = .ok (.aload_n 0, 1) := by decide +kernel
theorem dJ5_getValue_6d5f1_1 : decode cJ5_getValue_6d5f1 1 = .ok (.getfield 15, 3) := by decide +kernel
theorem dJ5_getValue_6d5f1_4 : decode cJ5_getValue_6d5f1 4 = .ok (.areturn, 1) := by decide +kernel
theorem dJ5_isLatin1_aae02_0 : decode cJ5_isLatin1_aae02 0 = .ok (.getstatic 18, 3) := by decide +kernel
theorem dJ5_isLatin1_aae02_3 : decode cJ5_isLatin1_aae02 3 = .ok (.ifCond .eq 14, 3) := by decide +kernel
theorem dJ5_isLatin1_aae02_6 : decode cJ5_isLatin1_aae02 6 = .ok (.aload_n 0, 1) := by decide +kernel
theorem dJ5_isLatin1_aae02_7 : decode cJ5_isLatin1_aae02 7 = .ok (.getfield 22, 3) := by decide +kernel
theorem dJ5_isLatin1_aae02_10 : decode cJ5_isLatin1_aae02 10 = .ok (.ifCond .ne 7, 3) := by decide +kernel
theorem dJ5_isLatin1_aae02_13 : decode cJ5_isLatin1_aae02 13 = .ok (.iconst 1, 1) := by decide +kernel
theorem dJ5_isLatin1_aae02_14 : decode cJ5_isLatin1_aae02 14 = .ok (.goto 4, 3) := by decide +kernel
theorem dJ5_isLatin1_aae02_17 : decode cJ5_isLatin1_aae02 17 = .ok (.iconst 0, 1) := by decide +kernel
theorem dJ5_isLatin1_aae02_18 : decode cJ5_isLatin1_aae02 18 = .ok (.ireturn, 1) := by decide +kernel
theorem dJ5_inflateIfNeededFor_a7421_0 : decode cJ5_inflateIfNeededFor_a7421 0 = .ok (.getstatic 18, 3) := by decide +kernel
theorem dJ5_inflateIfNeededFor_a7421_3 : decode cJ5_inflateIfNeededFor_a7421 3 = .ok (.ifCond .eq 18, 3) := by decide +kernel
theorem dJ5_inflateIfNeededFor_a7421_6 : decode cJ5_inflateIfNeededFor_a7421 6 = .ok (.aload_n 0, 1) := by decide +kernel
theorem dJ5_inflateIfNeededFor_a7421_7 : decode cJ5_inflateIfNeededFor_a7421 7 = .ok (.getfield 22, 3) := by decide +kernel
theorem dJ5_inflateIfNeededFor_a7421_10 : decode cJ5_inflateIfNeededFor_a7421 10 = .ok (.aload_n 1, 1) := by decide +kernel
theorem dJ5_inflateIfNeededFor_a7421_11 : decode cJ5_inflateIfNeededFor_a7421 11 = .ok (.invokevirtual 40, 3) := by decide +kernel
theorem dJ5_inflateIfNeededFor_a7421_14 : decode cJ5_inflateIfNeededFor_a7421 14 = .ok (.if_icmp .eq 7, 3) := by decide +kernel
theorem dJ5_inflateIfNeededFor_a7421_17 : decode cJ5_inflateIfNeededFor_a7421 17 = .ok (.aload_n 0, 1) := by decide +kernel
theorem dJ5_inflateIfNeededFor_a7421_18 : decode cJ5_inflateIfNeededFor_a7421 18 = .ok (.invokevirtual 195, 3) := by decide +kernel
theorem dJ5_inflateIfNeededFor_a7421_21 : decode cJ5_inflateIfNeededFor_a7421 21 = .ok (.return_, 1) := by decide +kernel
theorem dJ5_putStringAt_47b60_0 : decode cJ5_putStringAt_47b60 0 = .ok (.aload_n 0, 1) := by decide +kernel
theorem dJ5_putStringAt_47b60_1 : decode cJ5_putStringAt_47b60 1 = .ok (.aload_n 2, 1) := by decide +kernel
theorem dJ5_putStringAt_47b60_2 : decode cJ5_putStringAt_47b60 2 = .ok (.invokevirtual 397, 3) := by decide +kernel
theorem dJ5_putStringAt_47b60_5 : decode cJ5_putStringAt_47b60 5 = .ok (.aload_n 2, 1) := by decide +kernel
theorem dJ5_putStringAt_47b60_6 : decode cJ5_putStringAt_47b60 6 = .ok (.aload_n 0, 1) := by decide +kernel
theorem dJ5_putStringAt_47b60_7 : decode cJ5_putStringAt_47b60 7 = .ok (.getfield 15, 3) := by decide +kernel
theorem dJ5_putStringAt_47b60_10 : decode cJ5_putStringAt_47b60 10 = .ok (.iload_n 1, 1) := by decide +kernel
theorem dJ5_putStringAt_47b60_11 : decode cJ5_putStringAt_47b60 11 = .ok (.aload_n 0, 1) := by decide +kernel
theorem dJ5_putStringAt_47b60_12 : decode cJ5_putStringAt_47b60 12 = .ok (.getfield 22, 3) := by decide +kernel
theorem dJ5_putStringAt_47b60_15 : decode cJ5_putStringAt_47b60 15 = .ok (.invokevirtual 399, 3) := by decide +kernel
theorem dJ5_putStringAt_47b60_18 : decode cJ5_putStringAt_47b60 18 = .ok (.return_, 1) := by decide +kernel
theorem dJx00060_init_a7421_0 : decode cJx00060_init_a7421 0 = .ok (.aload_n 0, 1) := by decide +kernel
theorem dJx00060_init_a7421_1 : decode cJx00060_init_a7421 1 = .ok (.aload_n 1, 1) := by decide +kernel
theorem dJx00060_init_a7421_2 : decode cJx00060_init_a7421 2 = .ok (.invokespecial 7, 3) := by decide +kernel
theorem dJx00060_init_a7421_5 : decode cJx00060_init_a7421 5 = .ok (.return_, 1) := by decide +kernel
theorem dJx00060_init_d00df_0 : decode cJx00060_init_d00df 0 = .ok (.aload_n 0, 1) := by decide +kernel
theorem dJx00060_init_d00df_1 : decode cJx00060_init_d00df 1 = .ok (.new 10, 3) := by decide +kernel
theorem dJx00060_init_d00df_4 : decode cJx00060_init_d00df 4 = .ok (.dup, 1) := by decide +kernel
theorem dJx00060_init_d00df_5 : decode cJx00060_init_d00df 5 = .ok (.invokespecial 12, 3) := by decide +kernel
theorem dJx00060_init_d00df_8 : decode cJx00060_init_d00df 8 = .ok (.ldc 13, 2) := by decide +kernel
theorem dJx00060_init_d00df_10 : decode cJx00060_init_d00df 10 = .ok (.invokevirtual 15, 3) := by decide +kernel
theorem dJx00060_init_d00df_13 : decode cJx00060_init_d00df 13 = .ok (.iload_n 1, 1) := by decide +kernel
theorem dJx00060_init_d00df_14 : decode cJx00060_init_d00df 14 = .ok (.invokevirtual 19, 3) := by decide +kernel
theorem dJx00060_init_d00df_17 : decode cJx00060_init_d00df 17 = .ok (.invokevirtual 22, 3) := by decide +kernel
theorem dJx00060_init_d00df_20 : decode cJx00060_init_d00df 20 = .ok (.invokespecial 7, 3) := by decide +kernel
theorem dJx00060_init_d00df_23 : decode cJx00060_init_d00df 23 = .ok (.return_, 1) := by decide +kernel
theorem dJ6_getChars_ba4f3_0 : decode cJ6_getChars_ba4f3 0 = .ok (.iload_n 1, 1) := by decide +kernel
theorem dJ6_getChars_ba4f3_1 : decode cJ6_getChars_ba4f3 1 = .ok (.istore 5, 2) := by decide +kernel
theorem dJ6_getChars_ba4f3_3 : decode cJ6_getChars_ba4f3 3 = .ok (.iload_n 0, 1) := by decide +kernel
theorem dJ6_getChars_ba4f3_4 : decode cJ6_getChars_ba4f3 4 = .ok (.ifCond .ge 7, 3) := by decide +kernel
theorem dJ6_getChars_ba4f3_7 : decode cJ6_getChars_ba4f3 7 = .ok (.iconst 1, 1) := by decide +kernel
theorem dJ6_getChars_ba4f3_8 : decode cJ6_getChars_ba4f3 8 = .ok (.goto 4, 3) := by decide +kernel
theorem dJ6_getChars_ba4f3_11 : decode cJ6_getChars_ba4f3 11 = .ok (.iconst 0, 1) := by decide +kernel
theorem dJ6_getChars_ba4f3_12 : decode cJ6_getChars_ba4f3 12 = .ok (.istore 6, 2) := by decide +kernel
theorem dJ6_getChars_ba4f3_14 : decode cJ6_getChars_ba4f3 14 = .ok (.iload 6, 2) := by decide +kernel
theorem dJ6_getChars_ba4f3_16 : decode cJ6_getChars_ba4f3 16 = .ok (.ifCond .ne 6, 3) := by decide +kernel
theorem dJ6_getChars_ba4f3_19 : decode cJ6_getChars_ba4f3 19 = .ok (.iload_n 0, 1) := by decide +kernel
theorem dJ6_getChars_ba4f3_20 : decode cJ6_getChars_ba4f3 20 = .ok (.ineg, 1) := by decide +kernel
theorem dJ6_getChars_ba4f3_21 : decode cJ6_getChars_ba4f3 21 = .ok (.istore_n 0, 1) := by decide +kernel
theorem dJ6_getChars_ba4f3_22 : decode cJ6_getChars_ba4f3 22 = .ok (.iload_n 0, 1) := by decide +kernel
theorem dJ6_getChars_ba4f3_23 : decode cJ6_getChars_ba4f3 23 = .ok (.bipush (-100), 2) := by decide +kernel
theorem dJ6_getChars_ba4f3_25 : decode cJ6_getChars_ba4f3 25 = .ok (.if_icmp .gt 47, 3) := by decide +kernel
theorem dJ6_getChars_ba4f3_28 : decode cJ6_getChars_ba4f3 28 = .ok (.iload_n 0, 1) := by decide +kernel
theorem dJ6_getChars_ba4f3_29 : decode cJ6_getChars_ba4f3 29 = .ok (.bipush 100, 2) := by decide +kernel
theorem dJ6_getChars_ba4f3_31 : decode cJ6_getChars_ba4f3 31 = .ok (.idiv, 1) := by decide +kernel
theorem dJ6_getChars_ba4f3_32 : decode cJ6_getChars_ba4f3 32 = .ok (.istore_n 3, 1) := by decide +kernel
theorem dJ6_getChars_ba4f3_33 : decode cJ6_getChars_ba4f3 33 = .ok (.iload_n 3, 1) := by decide +kernel
theorem dJ6_getChars_ba4f3_34 : decode cJ6_getChars_ba4f3 34 = .ok (.bipush 100, 2) := by decide +kernel
theorem dJ6_getChars_ba4f3_36 : decode cJ6_getChars_ba4f3 36 = .ok (.imul, 1) := by decide +kernel
theorem dJ6_getChars_ba4f3_37 : decode cJ6_getChars_ba4f3 37 = .ok (.iload_n 0, 1) := by decide +kernel
theorem dJ6_getChars_ba4f3_38 : decode cJ6_getChars_ba4f3 38 = .ok (.isub, 1) := by decide +kernel
theorem dJ6_getChars_ba4f3_39 : decode cJ6_getChars_ba4f3 39 = .ok (.istore 4, 2) := by decide +kernel
theorem dJ6_getChars_ba4f3_41 : decode cJ6_getChars_ba4f3 41 = .ok (.iload_n 3, 1) := by decide +kernel
theorem dJ6_getChars_ba4f3_42 : decode cJ6_getChars_ba4f3 42 = .ok (.istore_n 0, 1) := by decide +kernel
theorem dJ6_getChars_ba4f3_43 : decode cJ6_getChars_ba4f3 43 = .ok (.aload_n 2, 1) := by decide +kernel
theorem dJ6_getChars_ba4f3_44 : decode cJ6_getChars_ba4f3 44 = .ok (.iinc 5 (-1), 3) := by decide +kernel
theorem dJ6_getChars_ba4f3_47 : decode cJ6_getChars_ba4f3 47 = .ok (.iload 5, 2) := by decide +kernel
theorem dJ6_getChars_ba4f3_49 : decode cJ6_getChars_ba4f3 49 = .ok (.getstatic 83, 3) := by decide +kernel
theorem dJ6_getChars_ba4f3_52 : decode cJ6_getChars_ba4f3 52 = .ok (.iload 4, 2) := by decide +kernel
theorem dJ6_getChars_ba4f3_54 : decode cJ6_getChars_ba4f3 54 = .ok (.baload, 1) := by decide +kernel
theorem dJ6_getChars_ba4f3_55 : decode cJ6_getChars_ba4f3 55 = .ok (.bastore, 1) := by decide +kernel
theorem dJ6_getChars_ba4f3_56 : decode cJ6_getChars_ba4f3 56 = .ok (.aload_n 2, 1) := by decide +kernel
theorem dJ6_getChars_ba4f3_57 : decode cJ6_getChars_ba4f3 57 = .ok (.iinc 5 (-1), 3) := by decide +kernel
theorem dJ6_getChars_ba4f3_60 : decode cJ6_getChars_ba4f3 60 = .ok (.iload 5, 2) := by decide +kernel
theorem dJ6_getChars_ba4f3_62 : decode cJ6_getChars_ba4f3 62 = .ok (.getstatic 87, 3) := by decide +kernel
theorem dJ6_getChars_ba4f3_65 : decode cJ6_getChars_ba4f3 65 = .ok (.iload 4, 2) := by decide +kernel
theorem dJ6_getChars_ba4f3_67 : decode cJ6_getChars_ba4f3 67 = .ok (.baload, 1) := by decide +kernel
theorem dJ6_getChars_ba4f3_68 : decode cJ6_getChars_ba4f3 68 = .ok (.bastore, 1) := by decide +kernel
theorem dJ6_getChars_ba4f3_69 : decode cJ6_getChars_ba4f3 69 = .ok (.goto (-47), 3) := by decide +kernel
theorem dJ6_getChars_ba4f3_72 : decode cJ6_getChars_ba4f3 72 = .ok (.aload_n 2, 1) := by decide +kernel
theorem dJ6_getChars_ba4f3_73 : decode cJ6_getChars_ba4f3 73 = .ok (.iinc 5 (-1), 3) := by decide +kernel
theorem dJ6_getChars_ba4f3_76 : decode cJ6_getChars_ba4f3 76 = .ok (.iload 5, 2) := by decide +kernel
theorem dJ6_getChars_ba4f3_78 : decode cJ6_getChars_ba4f3 78 = .ok (.getstatic 83, 3) := by decide +kernel
theorem dJ6_getChars_ba4f3_81 : decode cJ6_getChars_ba4f3 81 = .ok (.iload_n 0, 1) := by decide +kernel
theorem dJ6_getChars_ba4f3_82 : decode cJ6_getChars_ba4f3 82 = .ok (.ineg, 1) := by decide +kernel
theorem dJ6_getChars_ba4f3_83 : decode cJ6_getChars_ba4f3 83 = .ok (.baload, 1) := by decide +kernel
theorem dJ6_getChars_ba4f3_84 : decode cJ6_getChars_ba4f3 84 = .ok (.bastore, 1) := by decide +kernel
theorem dJ6_getChars_ba4f3_85 : decode cJ6_getChars_ba4f3 85 = .ok (.iload_n 0, 1) := by decide +kernel
theorem dJ6_getChars_ba4f3_86 : decode cJ6_getChars_ba4f3 86 = .ok (.bipush (-9), 2) := by decide +kernel
theorem dJ6_getChars_ba4f3_88 : decode cJ6_getChars_ba4f3 88 = .ok (.if_icmp .ge 16, 3) := by decide +kernel
theorem dJ6_getChars_ba4f3_91 : decode cJ6_getChars_ba4f3 91 = .ok (.aload_n 2, 1) := by decide +kernel
theorem dJ6_getChars_ba4f3_92 : decode cJ6_getChars_ba4f3 92 = .ok (.iinc 5 (-1), 3) := by decide +kernel
theorem dJ6_getChars_ba4f3_95 : decode cJ6_getChars_ba4f3 95 = .ok (.iload 5, 2) := by decide +kernel
theorem dJ6_getChars_ba4f3_97 : decode cJ6_getChars_ba4f3 97 = .ok (.getstatic 87, 3) := by decide +kernel
theorem dJ6_getChars_ba4f3_100 : decode cJ6_getChars_ba4f3 100 = .ok (.iload_n 0, 1) := by decide +kernel
theorem dJ6_getChars_ba4f3_101 : decode cJ6_getChars_ba4f3 101 = .ok (.ineg, 1) := by decide +kernel
theorem dJ6_getChars_ba4f3_102 : decode cJ6_getChars_ba4f3 102 = .ok (.baload, 1) := by decide +kernel
theorem dJ6_getChars_ba4f3_103 : decode cJ6_getChars_ba4f3 103 = .ok (.bastore, 1) := by decide +kernel
theorem dJ6_getChars_ba4f3_104 : decode cJ6_getChars_ba4f3 104 = .ok (.iload 6, 2) := by decide +kernel
theorem dJ6_getChars_ba4f3_106 : decode cJ6_getChars_ba4f3 106 = .ok (.ifCond .eq 12, 3) := by decide +kernel
theorem dJ6_getChars_ba4f3_109 : decode cJ6_getChars_ba4f3 109 = .ok (.aload_n 2, 1) := by decide +kernel
theorem dJ6_getChars_ba4f3_110 : decode cJ6_getChars_ba4f3 110 = .ok (.iinc 5 (-1), 3) := by decide +kernel
theorem dJ6_getChars_ba4f3_113 : decode cJ6_getChars_ba4f3 113 = .ok (.iload 5, 2) := by decide +kernel
theorem dJ6_getChars_ba4f3_115 : decode cJ6_getChars_ba4f3 115 = .ok (.bipush 45, 2) := by decide +kernel
theorem dJ6_getChars_ba4f3_117 : decode cJ6_getChars_ba4f3 117 = .ok (.bastore, 1) := by decide +kernel
theorem dJ6_getChars_ba4f3_118 : decode cJ6_getChars_ba4f3 118 = .ok (.iload 5, 2) := by decide +kernel
theorem dJ6_getChars_ba4f3_120 : decode cJ6_getChars_ba4f3 120 = .ok (.ireturn, 1) := by decide +kernel
theorem dJ6_stringSize_0f7a4_0 : decode cJ6_stringSize_0f7a4 0 = .ok (.iconst 1, 1) := by decide +kernel
theorem dJ6_stringSize_0f7a4_1 : decode cJ6_stringSize_0f7a4 1 = .ok (.istore_n 1, 1) := by decide +kernel
theorem dJ6_stringSize_0f7a4_2 : decode cJ6_stringSize_0f7a4 2 = .ok (.iload_n 0, 1) := by decide +kernel
theorem dJ6_stringSize_0f7a4_3 : decode cJ6_stringSize_0f7a4 3 = .ok (.ifCond .lt 8, 3) := by decide +kernel
theorem dJ6_stringSize_0f7a4_6 : decode cJ6_stringSize_0f7a4 6 = .ok (.iconst 0, 1) := by decide +kernel
theorem dJ6_stringSize_0f7a4_7 : decode cJ6_stringSize_0f7a4 7 = .ok (.istore_n 1, 1) := by decide +kernel
theorem dJ6_stringSize_0f7a4_8 : decode cJ6_stringSize_0f7a4 8 = .ok (.iload_n 0, 1) := by decide +kernel
theorem dJ6_stringSize_0f7a4_9 : decode cJ6_stringSize_0f7a4 9 = .ok (.ineg, 1) := by decide +kernel
theorem dJ6_stringSize_0f7a4_10 : decode cJ6_stringSize_0f7a4 10 = .ok (.istore_n 0, 1) := by decide +kernel
theorem dJ6_stringSize_0f7a4_11 : decode cJ6_stringSize_0f7a4 11 = .ok (.bipush (-10), 2) := by decide +kernel
theorem dJ6_stringSize_0f7a4_13 : decode cJ6_stringSize_0f7a4 13 = .ok (.istore_n 2, 1) := by decide +kernel
theorem dJ6_stringSize_0f7a4_14 : decode cJ6_stringSize_0f7a4 14 = .ok (.iconst 1, 1) := by decide +kernel
theorem dJ6_stringSize_0f7a4_15 : decode cJ6_stringSize_0f7a4 15 = .ok (.istore_n 3, 1) := by decide +kernel
theorem dJ6_stringSize_0f7a4_16 : decode cJ6_stringSize_0f7a4 16 = .ok (.iload_n 3, 1) := by decide +kernel
theorem dJ6_stringSize_0f7a4_17 : decode cJ6_stringSize_0f7a4 17 = .ok (.bipush 10, 2) := by decide +kernel
theorem dJ6_stringSize_0f7a4_19 : decode cJ6_stringSize_0f7a4 19 = .ok (.if_icmp .ge 23, 3) := by decide +kernel
theorem dJ6_stringSize_0f7a4_22 : decode cJ6_stringSize_0f7a4 22 = .ok (.iload_n 0, 1) := by decide +kernel
theorem dJ6_stringSize_0f7a4_23 : decode cJ6_stringSize_0f7a4 23 = .ok (.iload_n 2, 1) := by decide +kernel
theorem dJ6_stringSize_0f7a4_24 : decode cJ6_stringSize_0f7a4 24 = .ok (.if_icmp .le 7, 3) := by decide +kernel
theorem dJ6_stringSize_0f7a4_27 : decode cJ6_stringSize_0f7a4 27 = .ok (.iload_n 3, 1) := by decide +kernel
theorem dJ6_stringSize_0f7a4_28 : decode cJ6_stringSize_0f7a4 28 = .ok (.iload_n 1, 1) := by decide +kernel
theorem dJ6_stringSize_0f7a4_29 : decode cJ6_stringSize_0f7a4 29 = .ok (.iadd, 1) := by decide +kernel
theorem dJ6_stringSize_0f7a4_30 : decode cJ6_stringSize_0f7a4 30 = .ok (.ireturn, 1) := by decide +kernel
theorem dJ6_stringSize_0f7a4_31 : decode cJ6_stringSize_0f7a4 31 = .ok (.bipush 10, 2) := by decide +kernel
theorem dJ6_stringSize_0f7a4_33 : decode cJ6_stringSize_0f7a4 33 = .ok (.iload_n 2, 1) := by decide +kernel
theorem dJ6_stringSize_0f7a4_34 : decode cJ6_stringSize_0f7a4 34 = .ok (.imul, 1) := by decide +kernel
theorem dJ6_stringSize_0f7a4_35 : decode cJ6_stringSize_0f7a4 35 = .ok (.istore_n 2, 1) := by decide +kernel
theorem dJ6_stringSize_0f7a4_36 : decode cJ6_stringSize_0f7a4 36 = .ok (.iinc 3 1, 3) := by decide +kernel
theorem dJ6_stringSize_0f7a4_39 : decode cJ6_stringSize_0f7a4 39 = .ok (.goto (-23), 3) := by decide +kernel
theorem dJ6_stringSize_0f7a4_42 : decode cJ6_stringSize_0f7a4 42 = .ok (.bipush 10, 2) := by decide +kernel
theorem dJ6_stringSize_0f7a4_44 : decode cJ6_stringSize_0f7a4 44 = .ok (.iload_n 1, 1) := by decide +kernel
theorem dJ6_stringSize_0f7a4_45 : decode cJ6_stringSize_0f7a4 45 = .ok (.iadd, 1) := by decide +kernel
theorem dJ6_stringSize_0f7a4_46 : decode cJ6_stringSize_0f7a4 46 = .ok (.ireturn, 1) := by decide +kernel
theorem dJ6_bitCount_0f7a4_0 : decode cJ6_bitCount_0f7a4 0 = .ok (.iload_n 0, 1) := by decide +kernel
theorem dJ6_bitCount_0f7a4_1 : decode cJ6_bitCount_0f7a4 1 = .ok (.iload_n 0, 1) := by decide +kernel
theorem dJ6_bitCount_0f7a4_2 : decode cJ6_bitCount_0f7a4 2 = .ok (.iconst 1, 1) := by decide +kernel
theorem dJ6_bitCount_0f7a4_3 : decode cJ6_bitCount_0f7a4 3 = .ok (.iushr, 1) := by decide +kernel
theorem dJ6_bitCount_0f7a4_4 : decode cJ6_bitCount_0f7a4 4 = .ok (.ldc_w 265, 3) := by decide +kernel
theorem dJ6_bitCount_0f7a4_7 : decode cJ6_bitCount_0f7a4 7 = .ok (.iand, 1) := by decide +kernel
theorem dJ6_bitCount_0f7a4_8 : decode cJ6_bitCount_0f7a4 8 = .ok (.isub, 1) := by decide +kernel
theorem dJ6_bitCount_0f7a4_9 : decode cJ6_bitCount_0f7a4 9 = .ok (.istore_n 0, 1) := by decide +kernel
theorem dJ6_bitCount_0f7a4_10 : decode cJ6_bitCount_0f7a4 10 = .ok (.iload_n 0, 1) := by decide +kernel
theorem dJ6_bitCount_0f7a4_11 : decode cJ6_bitCount_0f7a4 11 = .ok (.ldc_w 266, 3) := by decide +kernel
theorem dJ6_bitCount_0f7a4_14 : decode cJ6_bitCount_0f7a4 14 = .ok (.iand, 1) := by decide +kernel
theorem dJ6_bitCount_0f7a4_15 : decode cJ6_bitCount_0f7a4 15 = .ok (.iload_n 0, 1) := by decide +kernel
theorem dJ6_bitCount_0f7a4_16 : decode cJ6_bitCount_0f7a4 16 = .ok (.iconst 2, 1) := by decide +kernel
theorem dJ6_bitCount_0f7a4_17 : decode cJ6_bitCount_0f7a4 17 = .ok (.iushr, 1) := by decide +kernel
theorem dJ6_bitCount_0f7a4_18 : decode cJ6_bitCount_0f7a4 18 = .ok (.ldc_w 266, 3) := by decide +kernel
theorem dJ6_bitCount_0f7a4_21 : decode cJ6_bitCount_0f7a4 21 = .ok (.iand, 1) := by decide +kernel
theorem dJ6_bitCount_0f7a4_22 : decode cJ6_bitCount_0f7a4 22 = .ok (.iadd, 1) := by decide +kernel
theorem dJ6_bitCount_0f7a4_23 : decode cJ6_bitCount_0f7a4 23 = .ok (.istore_n 0, 1) := by decide +kernel
theorem dJ6_bitCount_0f7a4_24 : decode cJ6_bitCount_0f7a4 24 = .ok (.iload_n 0, 1) := by decide +kernel
theorem dJ6_bitCount_0f7a4_25 : decode cJ6_bitCount_0f7a4 25 = .ok (.iload_n 0, 1) := by decide +kernel
theorem dJ6_bitCount_0f7a4_26 : decode cJ6_bitCount_0f7a4 26 = .ok (.iconst 4, 1) := by decide +kernel
theorem dJ6_bitCount_0f7a4_27 : decode cJ6_bitCount_0f7a4 27 = .ok (.iushr, 1) := by decide +kernel
theorem dJ6_bitCount_0f7a4_28 : decode cJ6_bitCount_0f7a4 28 = .ok (.iadd, 1) := by decide +kernel
theorem dJ6_bitCount_0f7a4_29 : decode cJ6_bitCount_0f7a4 29 = .ok (.ldc_w 267, 3) := by decide +kernel
theorem dJ6_bitCount_0f7a4_32 : decode cJ6_bitCount_0f7a4 32 = .ok (.iand, 1) := by decide +kernel
theorem dJ6_bitCount_0f7a4_33 : decode cJ6_bitCount_0f7a4 33 = .ok (.istore_n 0, 1) := by decide +kernel
theorem dJ6_bitCount_0f7a4_34 : decode cJ6_bitCount_0f7a4 34 = .ok (.iload_n 0, 1) := by decide +kernel
theorem dJ6_bitCount_0f7a4_35 : decode cJ6_bitCount_0f7a4 35 = .ok (.iload_n 0, 1) := by decide +kernel
theorem dJ6_bitCount_0f7a4_36 : decode cJ6_bitCount_0f7a4 36 = .ok (.bipush 8, 2) := by decide +kernel
theorem dJ6_bitCount_0f7a4_38 : decode cJ6_bitCount_0f7a4 38 = .ok (.iushr, 1) := by decide +kernel
theorem dJ6_bitCount_0f7a4_39 : decode cJ6_bitCount_0f7a4 39 = .ok (.iadd, 1) := by decide +kernel
theorem dJ6_bitCount_0f7a4_40 : decode cJ6_bitCount_0f7a4 40 = .ok (.istore_n 0, 1) := by decide +kernel
theorem dJ6_bitCount_0f7a4_41 : decode cJ6_bitCount_0f7a4 41 = .ok (.iload_n 0, 1) := by decide +kernel
theorem dJ6_bitCount_0f7a4_42 : decode cJ6_bitCount_0f7a4 42 = .ok (.iload_n 0, 1) := by decide +kernel
theorem dJ6_bitCount_0f7a4_43 : decode cJ6_bitCount_0f7a4 43 = .ok (.bipush 16, 2) := by decide +kernel
theorem dJ6_bitCount_0f7a4_45 : decode cJ6_bitCount_0f7a4 45 = .ok (.iushr, 1) := by decide +kernel
theorem dJ6_bitCount_0f7a4_46 : decode cJ6_bitCount_0f7a4 46 = .ok (.iadd, 1) := by decide +kernel
theorem dJ6_bitCount_0f7a4_47 : decode cJ6_bitCount_0f7a4 47 = .ok (.istore_n 0, 1) := by decide +kernel
theorem dJ6_bitCount_0f7a4_48 : decode cJ6_bitCount_0f7a4 48 = .ok (.iload_n 0, 1) := by decide +kernel
theorem dJ6_bitCount_0f7a4_49 : decode cJ6_bitCount_0f7a4 49 = .ok (.bipush 63, 2) := by decide +kernel
theorem dJ6_bitCount_0f7a4_51 : decode cJ6_bitCount_0f7a4 51 = .ok (.iand, 1) := by decide +kernel
theorem dJ6_bitCount_0f7a4_52 : decode cJ6_bitCount_0f7a4 52 = .ok (.ireturn, 1) := by decide +kernel
theorem dJ9_max_7cf53_0 : decode cJ9_max_7cf53 0 = .ok (.iload_n 0, 1) := by decide +kernel
theorem dJ9_max_7cf53_1 : decode cJ9_max_7cf53 1 = .ok (.iload_n 1, 1) := by decide +kernel
theorem dJ9_max_7cf53_2 : decode cJ9_max_7cf53 2 = .ok (.if_icmp .lt 7, 3) := by decide +kernel
theorem dJ9_max_7cf53_5 : decode cJ9_max_7cf53 5 = .ok (.iload_n 0, 1) := by decide +kernel
theorem dJ9_max_7cf53_6 : decode cJ9_max_7cf53 6 = .ok (.goto 4, 3) := by decide +kernel
theorem dJ9_max_7cf53_9 : decode cJ9_max_7cf53 9 = .ok (.iload_n 1, 1) := by decide +kernel
theorem dJ9_max_7cf53_10 : decode cJ9_max_7cf53 10 = .ok (.ireturn, 1) := by decide +kernel
theorem dJ9_min_7cf53_0 : decode cJ9_min_7cf53 0 = .ok (.iload_n 0, 1) := by decide +kernel
theorem dJ9_min_7cf53_1 : decode cJ9_min_7cf53 1 = .ok (.iload_n 1, 1) := by decide +kernel
theorem dJ9_min_7cf53_2 : decode cJ9_min_7cf53 2 = .ok (.if_icmp .gt 7, 3) := by decide +kernel
theorem dJ9_min_7cf53_5 : decode cJ9_min_7cf53 5 = .ok (.iload_n 0, 1) := by decide +kernel
theorem dJ9_min_7cf53_6 : decode cJ9_min_7cf53 6 = .ok (.goto 4, 3) := by decide +kernel
theorem dJ9_min_7cf53_9 : decode cJ9_min_7cf53 9 = .ok (.iload_n 1, 1) := by decide +kernel
theorem dJ9_min_7cf53_10 : decode cJ9_min_7cf53 10 = .ok (.ireturn, 1) := by decide +kernel
theorem dJ0_init_81219_0 : decode cJ0_init_81219 0 = .ok (.aload_n 0, 1) := by decide +kernel
theorem dJ0_init_81219_1 : decode cJ0_init_81219 1 = .ok (.aload_n 1, 1) := by decide +kernel
theorem dJ0_init_81219_2 : decode cJ0_init_81219 2 = .ok (.aconst_null, 1) := by decide +kernel
theorem dJ0_init_81219_3 : decode cJ0_init_81219 3 = .ok (.invokespecial 489, 3) := by decide +kernel
theorem dJ0_init_81219_6 : decode cJ0_init_81219 6 = .ok (.return_, 1) := by decide +kernel
theorem dJ0_length_8abf5_0 : decode cJ0_length_8abf5 0 = .ok (.aload_n 0, 1) := by decide +kernel
theorem dJ0_length_8abf5_1 : decode cJ0_length_8abf5 1 = .ok (.getfield 9, 3) := by decide +kernel
theorem dJ0_length_8abf5_4 : decode cJ0_length_8abf5 4 = .ok (.arraylength, 1) := by decide +kernel
theorem dJ0_length_8abf5_5 : decode cJ0_length_8abf5 5 = .ok (.aload_n 0, 1) := by decide +kernel
theorem dJ0_length_8abf5_6 : decode cJ0_length_8abf5 6 = .ok (.invokevirtual 335, 3) := by decide +kernel
theorem dJ0_length_8abf5_9 : decode cJ0_length_8abf5 9 = .ok (.ishr, 1) := by decide +kernel
theorem dJ0_length_8abf5_10 : decode cJ0_length_8abf5 10 = .ok (.ireturn, 1) := by decide +kernel
theorem dJ0_charAt_5068e_0 : decode cJ0_charAt_5068e 0 = .ok (.aload_n 0, 1) := by decide +kernel
theorem dJ0_charAt_5068e_1 : decode cJ0_charAt_5068e 1 = .ok (.invokevirtual 492, 3) := by decide +kernel
theorem dJ0_charAt_5068e_4 : decode cJ0_charAt_5068e 4 = .ok (.ifCond .eq 12, 3) := by decide +kernel
theorem dJ0_charAt_5068e_7 : decode cJ0_charAt_5068e 7 = .ok (.aload_n 0, 1) := by decide +kernel
theorem dJ0_charAt_5068e_8 : decode cJ0_charAt_5068e 8 = .ok (.getfield 9, 3) := by decide +kernel
theorem dJ0_charAt_5068e_11 : decode cJ0_charAt_5068e 11 = .ok (.iload_n 1, 1) := by decide +kernel
theorem dJ0_charAt_5068e_12 : decode cJ0_charAt_5068e 12 = .ok (.invokestatic 495, 3) := by decide +kernel
theorem dJ0_charAt_5068e_15 : decode cJ0_charAt_5068e 15 = .ok (.ireturn, 1) := by decide +kernel
theorem dJ0_charAt_5068e_16 : decode cJ0_charAt_5068e 16 = .ok (.aload_n 0, 1) := by decide +kernel
theorem dJ0_charAt_5068e_17 : decode cJ0_charAt_5068e 17 = .ok (.getfield 9, 3) := by decide +kernel
theorem dJ0_charAt_5068e_20 : decode cJ0_charAt_5068e 20 = .ok (.iload_n 1, 1) := by decide +kernel
theorem dJ0_charAt_5068e_21 : decode cJ0_charAt_5068e 21 = .ok (.invokestatic 498, 3) := by decide +kernel
theorem dJ0_charAt_5068e_24 : decode cJ0_charAt_5068e 24 = .ok (.ireturn, 1) := by decide +kernel
theorem dJ0_getBytes_840e7_0 : decode cJ0_getBytes_840e7 0 = .ok (.aload_n 0, 1) := by decide +kernel
theorem dJ0_getBytes_840e7_1 : decode cJ0_getBytes_840e7 1 = .ok (.invokevirtual 335, 3) := by decide +kernel
theorem dJ0_getBytes_840e7_4 : decode cJ0_getBytes_840e7 4 = .ok (.iload_n 3, 1) := by decide +kernel
theorem dJ0_getBytes_840e7_5 : decode cJ0_getBytes_840e7 5 = .ok (.if_icmp .ne 23, 3) := by decide +kernel
theorem dJ0_getBytes_840e7_8 : decode cJ0_getBytes_840e7 8 = .ok (.aload_n 0, 1) := by decide +kernel
theorem dJ0_getBytes_840e7_9 : decode cJ0_getBytes_840e7 9 = .ok (.getfield 9, 3) := by decide +kernel
theorem dJ0_getBytes_840e7_12 : decode cJ0_getBytes_840e7 12 = .ok (.iconst 0, 1) := by decide +kernel
theorem dJ0_getBytes_840e7_13 : decode cJ0_getBytes_840e7 13 = .ok (.aload_n 1, 1) := by decide +kernel
theorem dJ0_getBytes_840e7_14 : decode cJ0_getBytes_840e7 14 = .ok (.iload_n 2, 1) := by decide +kernel
theorem dJ0_getBytes_840e7_15 : decode cJ0_getBytes_840e7 15 = .ok (.iload_n 3, 1) := by decide +kernel
theorem dJ0_getBytes_840e7_16 : decode cJ0_getBytes_840e7 16 = .ok (.ishl, 1) := by decide +kernel
theorem dJ0_getBytes_840e7_17 : decode cJ0_getBytes_840e7 17 = .ok (.aload_n 0, 1) := by decide +kernel
theorem dJ0_getBytes_840e7_18 : decode cJ0_getBytes_840e7 18 = .ok (.getfield 9, 3) := by decide +kernel
theorem dJ0_getBytes_840e7_21 : decode cJ0_getBytes_840e7 21 = .ok (.arraylength, 1) := by decide +kernel
theorem dJ0_getBytes_840e7_22 : decode cJ0_getBytes_840e7 22 = .ok (.invokestatic 212, 3) := by decide +kernel
theorem dJ0_getBytes_840e7_25 : decode cJ0_getBytes_840e7 25 = .ok (.goto 18, 3) := by decide +kernel
theorem dJ0_getBytes_840e7_28 : decode cJ0_getBytes_840e7 28 = .ok (.aload_n 0, 1) := by decide +kernel
theorem dJ0_getBytes_840e7_29 : decode cJ0_getBytes_840e7 29 = .ok (.getfield 9, 3) := by decide +kernel
theorem dJ0_getBytes_840e7_32 : decode cJ0_getBytes_840e7 32 = .ok (.iconst 0, 1) := by decide +kernel
theorem dJ0_getBytes_840e7_33 : decode cJ0_getBytes_840e7 33 = .ok (.aload_n 1, 1) := by decide +kernel
theorem dJ0_getBytes_840e7_34 : decode cJ0_getBytes_840e7 34 = .ok (.iload_n 2, 1) := by decide +kernel
theorem dJ0_getBytes_840e7_35 : decode cJ0_getBytes_840e7 35 = .ok (.aload_n 0, 1) := by decide +kernel
theorem dJ0_getBytes_840e7_36 : decode cJ0_getBytes_840e7 36 = .ok (.getfield 9, 3) := by decide +kernel
theorem dJ0_getBytes_840e7_39 : decode cJ0_getBytes_840e7 39 = .ok (.arraylength, 1) := by decide +kernel
theorem dJ0_getBytes_840e7_40 : decode cJ0_getBytes_840e7 40 = .ok (.invokestatic 106, 3) := by decide +kernel
theorem dJ0_getBytes_840e7_43 : decode cJ0_getBytes_840e7 43 = .ok (.return_, 1) := by decide +kernel
theorem dJ0_init_db425_0 : decode cJ0_init_db425 0 = .ok (.aload_n 0, 1) := by decide +kernel
theorem dJ0_init_db425_1 : decode cJ0_init_db425 1 = .ok (.invokespecial 1, 3) := by decide +kernel
theorem dJ0_init_db425_4 : decode cJ0_init_db425 4 = .ok (.aload_n 1, 1) := by decide +kernel
theorem dJ0_init_db425_5 : decode cJ0_init_db425 5 = .ok (.invokevirtual 552, 3) := by decide +kernel
theorem dJ0_init_db425_8 : decode cJ0_init_db425 8 = .ok (.astore_n 3, 1) := by decide +kernel
theorem dJ0_init_db425_9 : decode cJ0_init_db425 9 = .ok (.aload_n 1, 1) := by decide +kernel
theorem dJ0_init_db425_10 : decode cJ0_init_db425 10 = .ok (.invokevirtual 549, 3) := by decide +kernel
theorem dJ0_init_db425_13 : decode cJ0_init_db425 13 = .ok (.istore 4, 2) := by decide +kernel
theorem dJ0_init_db425_15 : decode cJ0_init_db425 15 = .ok (.aload_n 1, 1) := by decide +kernel
theorem dJ0_init_db425_16 : decode cJ0_init_db425 16 = .ok (.invokevirtual 1047, 3) := by decide +kernel
theorem dJ0_init_db425_19 : decode cJ0_init_db425 19 = .ok (.ifCond .eq 22, 3) := by decide +kernel
theorem dJ0_init_db425_22 : decode cJ0_init_db425 22 = .ok (.aload_n 0, 1) := by decide +kernel
theorem dJ0_init_db425_23 : decode cJ0_init_db425 23 = .ok (.iconst 0, 1) := by decide +kernel
theorem dJ0_init_db425_24 : decode cJ0_init_db425 24 = .ok (.putfield 15, 3) := by decide +kernel
theorem dJ0_init_db425_27 : decode cJ0_init_db425 27 = .ok (.aload_n 0, 1) := by decide +kernel
theorem dJ0_init_db425_28 : decode cJ0_init_db425 28 = .ok (.aload_n 3, 1) := by decide +kernel
theorem dJ0_init_db425_29 : decode cJ0_init_db425 29 = .ok (.iconst 0, 1) := by decide +kernel
theorem dJ0_init_db425_30 : decode cJ0_init_db425 30 = .ok (.iload 4, 2) := by decide +kernel
theorem dJ0_init_db425_32 : decode cJ0_init_db425 32 = .ok (.invokestatic 54, 3) := by decide +kernel
theorem dJ0_init_db425_35 : decode cJ0_init_db425 35 = .ok (.putfield 9, 3) := by decide +kernel
theorem dJ0_init_db425_38 : decode cJ0_init_db425 38 = .ok (.goto 59, 3) := by decide +kernel
theorem dJ0_init_db425_41 : decode cJ0_init_db425 41 = .ok (.getstatic 38, 3) := by decide +kernel
theorem dJ0_init_db425_44 : decode cJ0_init_db425 44 = .ok (.ifCond .eq 35, 3) := by decide +kernel
theorem dJ0_init_db425_47 : decode cJ0_init_db425 47 = .ok (.aload_n 1, 1) := by decide +kernel
theorem dJ0_init_db425_48 : decode cJ0_init_db425 48 = .ok (.getfield 1048, 3) := by decide +kernel
theorem dJ0_init_db425_51 : decode cJ0_init_db425 51 = .ok (.ifCond .eq 28, 3) := by decide +kernel
theorem dJ0_init_db425_54 : decode cJ0_init_db425 54 = .ok (.aload_n 0, 1) := by decide +kernel
theorem dJ0_init_db425_55 : decode cJ0_init_db425 55 = .ok (.aload_n 3, 1) := by decide +kernel
theorem dJ0_init_db425_56 : decode cJ0_init_db425 56 = .ok (.iconst 0, 1) := by decide +kernel
theorem dJ0_init_db425_57 : decode cJ0_init_db425 57 = .ok (.iload 4, 2) := by decide +kernel
theorem dJ0_init_db425_59 : decode cJ0_init_db425 59 = .ok (.invokestatic 1051, 3) := by decide +kernel
theorem dJ0_init_db425_62 : decode cJ0_init_db425 62 = .ok (.putfield 9, 3) := by decide +kernel
theorem dJ0_init_db425_65 : decode cJ0_init_db425 65 = .ok (.aload_n 0, 1) := by decide +kernel
theorem dJ0_init_db425_66 : decode cJ0_init_db425 66 = .ok (.aload_n 0, 1) := by decide +kernel
theorem dJ0_init_db425_67 : decode cJ0_init_db425 67 = .ok (.getfield 9, 3) := by decide +kernel
theorem dJ0_init_db425_70 : decode cJ0_init_db425 70 = .ok (.iload 4, 2) := by decide +kernel
theorem dJ0_init_db425_72 : decode cJ0_init_db425 72 = .ok (.invokestatic 47, 3) := by decide +kernel
theorem dJ0_init_db425_75 : decode cJ0_init_db425 75 = .ok (.putfield 15, 3) := by decide +kernel
theorem dJ0_init_db425_78 : decode cJ0_init_db425 78 = .ok (.return_, 1) := by decide +kernel
theorem dJ0_init_db425_79 : decode cJ0_init_db425 79 = .ok (.aload_n 0, 1) := by decide +kernel
theorem dJ0_init_db425_80 : decode cJ0_init_db425 80 = .ok (.iconst 1, 1) := by decide +kernel
theorem dJ0_init_db425_81 : decode cJ0_init_db425 81 = .ok (.putfield 15, 3) := by decide +kernel
theorem dJ0_init_db425_84 : decode cJ0_init_db425 84 = .ok (.aload_n 0, 1) := by decide +kernel
theorem dJ0_init_db425_85 : decode cJ0_init_db425 85 = .ok (.aload_n 3, 1) := by decide +kernel
theorem dJ0_init_db425_86 : decode cJ0_init_db425 86 = .ok (.iconst 0, 1) := by decide +kernel
theorem dJ0_init_db425_87 : decode cJ0_init_db425 87 = .ok (.iload 4, 2) := by decide +kernel
theorem dJ0_init_db425_89 : decode cJ0_init_db425 89 = .ok (.iconst 1, 1) := by decide +kernel
theorem dJ0_init_db425_90 : decode cJ0_init_db425 90 = .ok (.ishl, 1) := by decide +kernel
theorem dJ0_init_db425_91 : decode cJ0_init_db425 91 = .ok (.invokestatic 54, 3) := by decide +kernel
theorem dJ0_init_db425_94 : decode cJ0_init_db425 94 = .ok (.putfield 9, 3) := by decide +kernel
theorem dJ0_init_db425_97 : decode cJ0_init_db425 97 = .ok (.return_, 1) := by decide +kernel
theorem dJ0_coder_7d493_0 : decode cJ0_coder_7d493 0 = .ok (.getstatic 38, 3) := by decide +kernel
theorem dJ0_coder_7d493_3 : decode cJ0_coder_7d493 3 = .ok (.ifCond .eq 10, 3) := by decide +kernel
theorem dJ0_coder_7d493_6 : decode cJ0_coder_7d493 6 = .ok (.aload_n 0, 1) := by decide +kernel
theorem dJ0_coder_7d493_7 : decode cJ0_coder_7d493 7 = .ok (.getfield 15, 3) := by decide +kernel
theorem dJ0_coder_7d493_10 : decode cJ0_coder_7d493 10 = .ok (.goto 4, 3) := by decide +kernel
theorem dJ0_coder_7d493_13 : decode cJ0_coder_7d493 13 = .ok (.iconst 1, 1) := by decide +kernel
theorem dJ0_coder_7d493_14 : decode cJ0_coder_7d493 14 = .ok (.ireturn, 1) := by decide +kernel
theorem dJ0_isLatin1_aae02_0 : decode cJ0_isLatin1_aae02 0 = .ok (.getstatic 38, 3) := by decide +kernel
theorem dJ0_isLatin1_aae02_3 : decode cJ0_isLatin1_aae02 3 = .ok (.ifCond .eq 14, 3) := by decide +kernel
theorem dJ0_isLatin1_aae02_6 : decode cJ0_isLatin1_aae02 6 = .ok (.aload_n 0, 1) := by decide +kernel
theorem dJ0_isLatin1_aae02_7 : decode cJ0_isLatin1_aae02 7 = .ok (.getfield 15, 3) := by decide +kernel
theorem dJ0_isLatin1_aae02_10 : decode cJ0_isLatin1_aae02 10 = .ok (.ifCond .ne 7, 3) := by decide +kernel
theorem dJ0_isLatin1_aae02_13 : decode cJ0_isLatin1_aae02 13 = .ok (.iconst 1, 1) := by decide +kernel
theorem dJ0_isLatin1_aae02_14 : decode cJ0_isLatin1_aae02 14 = .ok (.goto 4, 3) := by decide +kernel
theorem dJ0_isLatin1_aae02_17 : decode cJ0_isLatin1_aae02 17 = .ok (.iconst 0, 1) := by decide +kernel
theorem dJ0_isLatin1_aae02_18 : decode cJ0_isLatin1_aae02 18 = .ok (.ireturn, 1) := by decide +kernel
theorem dJ0_checkIndex_df160_0 : decode cJ0_checkIndex_df160 0 = .ok (.iload_n 0, 1) := by decide +kernel
theorem dJ0_checkIndex_df160_1 : decode cJ0_checkIndex_df160 1 = .ok (.iload_n 1, 1) := by decide +kernel
theorem dJ0_checkIndex_df160_2 : decode cJ0_checkIndex_df160 2 = .ok (.getstatic 1053, 3) := by decide +kernel
theorem dJ0_checkIndex_df160_5 : decode cJ0_checkIndex_df160 5 = .ok (.invokestatic 1059, 3) := by decide +kernel
theorem dJ0_checkIndex_df160_8 : decode cJ0_checkIndex_df160 8 = .ok (.pop, 1) := by decide +kernel
theorem dJ0_checkIndex_df160_9 : decode cJ0_checkIndex_df160 9 = .ok (.return_, 1) := by decide +kernel
theorem dJ0_checkBoundsOffCount_cabcc_0 : decode cJ0_checkBoundsOffCount_cabcc 0 = .ok (.iload_n 0, 1) := by decide +kernel
theorem dJ0_checkBoundsOffCount_cabcc_1 : decode cJ0_checkBoundsOffCount_cabcc 1 = .ok (.iload_n 1, 1) := by decide +kernel
theorem dJ0_checkBoundsOffCount_cabcc_2 : decode cJ0_checkBoundsOffCount_cabcc 2 = .ok (.iload_n 2, 1) := by decide +kernel
theorem dJ0_checkBoundsOffCount_cabcc_3 : decode cJ0_checkBoundsOffCount_cabcc 3 = .ok (.getstatic 1053, 3) := by decide +kernel
theorem dJ0_checkBoundsOffCount_cabcc_6 : decode cJ0_checkBoundsOffCount_cabcc 6 = .ok (.invokestatic 1065, 3) := by decide +kernel
theorem dJ0_checkBoundsOffCount_cabcc_9 : decode cJ0_checkBoundsOffCount_cabcc 9 = .ok (.ireturn, 1) := by decide +kernel
theorem dJ0_checkBoundsBeginEnd_23922_0 : decode cJ0_checkBoundsBeginEnd_23922 0 = .ok (.iload_n 0, 1) := by decide +kernel
theorem dJ0_checkBoundsBeginEnd_23922_1 : decode cJ0_checkBoundsBeginEnd_23922 1 = .ok (.iload_n 1, 1) := by decide +kernel
theorem dJ0_checkBoundsBeginEnd_23922_2 : decode cJ0_checkBoundsBeginEnd_23922 2 = .ok (.iload_n 2, 1) := by decide +kernel
theorem dJ0_checkBoundsBeginEnd_23922_3 : decode cJ0_checkBoundsBeginEnd_23922 3 = .ok (.getstatic 1053, 3) := by decide +kernel
theorem dJ0_checkBoundsBeginEnd_23922_6 : decode cJ0_checkBoundsBeginEnd_23922 6 = .ok (.invokestatic 1062, 3) := by decide +kernel
theorem dJ0_checkBoundsBeginEnd_23922_9 : decode cJ0_checkBoundsBeginEnd_23922 9 = .ok (.pop, 1) := by decide +kernel
theorem dJ0_checkBoundsBeginEnd_23922_10 : decode cJ0_checkBoundsBeginEnd_23922 10 = .ok (.return_, 1) := by decide +kernel
theorem dJ4_init_da8c8_0 : decode cJ4_init_da8c8 0 = .ok (.aload_n 0, 1) := by decide +kernel
theorem dJ4_init_da8c8_1 : decode cJ4_init_da8c8 1 = .ok (.bipush 16, 2) := by decide +kernel
theorem dJ4_init_da8c8_3 : decode cJ4_init_da8c8 3 = .ok (.invokespecial 1, 3) := by decide +kernel
theorem dJ4_init_da8c8_6 : decode cJ4_init_da8c8 6 = .ok (.return_, 1) := by decide +kernel
theorem dJ4_append_15ec4_0 : decode cJ4_append_15ec4 0 = .ok (.aload_n 0, 1) := by decide +kernel
theorem dJ4_append_15ec4_1 : decode cJ4_append_15ec4 1 = .ok (.aload_n 1, 1) := by decide +kernel
theorem dJ4_append_15ec4_2 : decode cJ4_append_15ec4 2 = .ok (.invokespecial 29, 3) := by decide +kernel
theorem dJ4_append_15ec4_5 : decode cJ4_append_15ec4 5 = .ok (.pop, 1) := by decide +kernel
theorem dJ4_append_15ec4_6 : decode cJ4_append_15ec4 6 = .ok (.aload_n 0, 1) := by decide +kernel
theorem dJ4_append_15ec4_7 : decode cJ4_append_15ec4 7 = .ok (.areturn, 1) := by decide +kernel
theorem dJ4_append_cf468_0 : decode cJ4_append_cf468 0 = .ok (.aload_n 0, 1) := by decide +kernel
theorem dJ4_append_cf468_1 : decode cJ4_append_cf468 1 = .ok (.iload_n 1, 1) := by decide +kernel
theorem dJ4_append_cf468_2 : decode cJ4_append_cf468 2 = .ok (.invokespecial 50, 3) := by decide +kernel
theorem dJ4_append_cf468_5 : decode cJ4_append_cf468 5 = .ok (.pop, 1) := by decide +kernel
theorem dJ4_append_cf468_6 : decode cJ4_append_cf468 6 = .ok (.aload_n 0, 1) := by decide +kernel
theorem dJ4_append_cf468_7 : decode cJ4_append_cf468 7 = .ok (.areturn, 1) := by decide +kernel
theorem dJ4_append_bf812_0 : decode cJ4_append_bf812 0 = .ok (.aload_n 0, 1) := by decide +kernel
theorem dJ4_append_bf812_1 : decode cJ4_append_bf812 1 = .ok (.iload_n 1, 1) := by decide +kernel
theorem dJ4_append_bf812_2 : decode cJ4_append_bf812 2 = .ok (.invokespecial 53, 3) := by decide +kernel
theorem dJ4_append_bf812_5 : decode cJ4_append_bf812 5 = .ok (.pop, 1) := by decide +kernel
theorem dJ4_append_bf812_6 : decode cJ4_append_bf812 6 = .ok (.aload_n 0, 1) := by decide +kernel
theorem dJ4_append_bf812_7 : decode cJ4_append_bf812 7 = .ok (.areturn, 1) := by decide +kernel
theorem dJ4_toString_0e30d_0 : decode cJ4_toString_0e30d 0 = .ok (.new 18, 3) := by decide +kernel
theorem dJ4_toString_0e30d_3 : decode cJ4_toString_0e30d 3 = .ok (.dup, 1) := by decide +kernel
theorem dJ4_toString_0e30d_4 : decode cJ4_toString_0e30d 4 = .ok (.aload_n 0, 1) := by decide +kernel
theorem dJ4_toString_0e30d_5 : decode cJ4_toString_0e30d 5 = .ok (.invokespecial 137, 3) := by decide +kernel
theorem dJ4_toString_0e30d_8 : decode cJ4_toString_0e30d 8 = .ok (.areturn, 1) := by decide +kernel
theorem dJ4_setLength_d00df_0 : decode cJ4_setLength_d00df 0 = .ok (.aload_n 0, 1) := by decide +kernel
theorem dJ4_setLength_d00df_1 : decode cJ4_setLength_d00df 1 = .ok (.iload_n 1, 1) := by decide +kernel
theorem dJ4_setLength_d00df_2 : decode cJ4_setLength_d00df 2 = .ok (.invokespecial 333, 3) := by decide +kernel
theorem dJ4_setLength_d00df_5 : decode cJ4_setLength_d00df 5 = .ok (.return_, 1) := by decide +kernel
theorem dJ4_length_8abf5_0 : decode cJ4_length_8abf5 0 = .ok (.aload_n 0, 1) := by decide +kernel
theorem dJ4_length_8abf5_1 : decode cJ4_length_8abf5 1 = .ok (.invokespecial 343, 3) := by decide +kernel
theorem dJ4_length_8abf5_4 : decode cJ4_length_8abf5 4 = .ok (.ireturn, 1) := by decide +kernel
theorem dJx7c733_init_d00df_0 : decode cJx7c733_init_d00df 0 = .ok (.aload_n 0, 1) := by decide +kernel
theorem dJx7c733_init_d00df_1 : decode cJx7c733_init_d00df 1 = .ok (.new 10, 3) := by decide +kernel
theorem dJx7c733_init_d00df_4 : decode cJx7c733_init_d00df 4 = .ok (.dup, 1) := by decide +kernel
theorem dJx7c733_init_d00df_5 : decode cJx7c733_init_d00df 5 = .ok (.invokespecial 12, 3) := by decide +kernel
theorem dJx7c733_init_d00df_8 : decode cJx7c733_init_d00df 8 = .ok (.ldc 13, 2) := by decide +kernel
theorem dJx7c733_init_d00df_10 : decode cJx7c733_init_d00df 10 = .ok (.invokevirtual 15, 3) := by decide +kernel
theorem dJx7c733_init_d00df_13 : decode cJx7c733_init_d00df 13 = .ok (.iload_n 1, 1) := by decide +kernel
theorem dJx7c733_init_d00df_14 : decode cJx7c733_init_d00df 14 = .ok (.invokevirtual 19, 3) := by decide +kernel
theorem dJx7c733_init_d00df_17 : decode cJx7c733_init_d00df 17 = .ok (.invokevirtual 22, 3) := by decide +kernel
theorem dJx7c733_init_d00df_20 : decode cJx7c733_init_d00df 20 = .ok (.invokespecial 7, 3) := by decide +kernel
theorem dJx7c733_init_d00df_23 : decode cJx7c733_init_d00df 23 = .ok (.return_, 1) := by decide +kernel
theorem dJ1_charAt_3b067_0 : decode cJ1_charAt_3b067 0 = .ok (.iload_n 1, 1) := by decide +kernel
theorem dJ1_charAt_3b067_1 : decode cJ1_charAt_3b067 1 = .ok (.aload_n 0, 1) := by decide +kernel
theorem dJ1_charAt_3b067_2 : decode cJ1_charAt_3b067 2 = .ok (.arraylength, 1) := by decide +kernel
theorem dJ1_charAt_3b067_3 : decode cJ1_charAt_3b067 3 = .ok (.invokestatic 9, 3) := by decide +kernel
theorem dJ1_charAt_3b067_6 : decode cJ1_charAt_3b067 6 = .ok (.aload_n 0, 1) := by decide +kernel
theorem dJ1_charAt_3b067_7 : decode cJ1_charAt_3b067 7 = .ok (.iload_n 1, 1) := by decide +kernel
theorem dJ1_charAt_3b067_8 : decode cJ1_charAt_3b067 8 = .ok (.baload, 1) := by decide +kernel
theorem dJ1_charAt_3b067_9 : decode cJ1_charAt_3b067 9 = .ok (.sipush 255, 3) := by decide +kernel
theorem dJ1_charAt_3b067_12 : decode cJ1_charAt_3b067 12 = .ok (.iand, 1) := by decide +kernel
theorem dJ1_charAt_3b067_13 : decode cJ1_charAt_3b067 13 = .ok (.i2c, 1) := by decide +kernel
theorem dJ1_charAt_3b067_14 : decode cJ1_charAt_3b067 14 = .ok (.ireturn, 1) := by decide +kernel
theorem dJ1_canEncode_fc78d_0 : decode cJ1_canEncode_fc78d 0 = .ok (.iload_n 0, 1) := by decide +kernel
theorem dJ1_canEncode_fc78d_1 : decode cJ1_canEncode_fc78d 1 = .ok (.sipush 255, 3) := by decide +kernel
theorem dJ1_canEncode_fc78d_4 : decode cJ1_canEncode_fc78d 4 = .ok (.if_icmp .gt 7, 3) := by decide +kernel
theorem dJ1_canEncode_fc78d_7 : decode cJ1_canEncode_fc78d 7 = .ok (.iconst 1, 1) := by decide +kernel
theorem dJ1_canEncode_fc78d_8 : decode cJ1_canEncode_fc78d 8 = .ok (.goto 4, 3) := by decide +kernel
theorem dJ1_canEncode_fc78d_11 : decode cJ1_canEncode_fc78d 11 = .ok (.iconst 0, 1) := by decide +kernel
theorem dJ1_canEncode_fc78d_12 : decode cJ1_canEncode_fc78d 12 = .ok (.ireturn, 1) := by decide +kernel
theorem dJ1_fillNull_b72d1_0 : decode cJ1_fillNull_b72d1 0 = .ok (.aload_n 0, 1) := by decide +kernel
theorem dJ1_fillNull_b72d1_1 : decode cJ1_fillNull_b72d1 1 = .ok (.iload_n 1, 1) := by decide +kernel
theorem dJ1_fillNull_b72d1_2 : decode cJ1_fillNull_b72d1 2 = .ok (.iload_n 2, 1) := by decide +kernel
theorem dJ1_fillNull_b72d1_3 : decode cJ1_fillNull_b72d1 3 = .ok (.iconst 0, 1) := by decide +kernel
theorem dJ1_fillNull_b72d1_4 : decode cJ1_fillNull_b72d1 4 = .ok (.invokestatic 236, 3) := by decide +kernel
theorem dJ1_fillNull_b72d1_7 : decode cJ1_fillNull_b72d1 7 = .ok (.return_, 1) := by decide +kernel
theorem dJ1_inflate_0e8fd_0 : decode cJ1_inflate_0e8fd 0 = .ok (.aload_n 0, 1) := by decide +kernel
theorem dJ1_inflate_0e8fd_1 : decode cJ1_inflate_0e8fd 1 = .ok (.iload_n 1, 1) := by decide +kernel
theorem dJ1_inflate_0e8fd_2 : decode cJ1_inflate_0e8fd 2 = .ok (.aload_n 2, 1) := by decide +kernel
theorem dJ1_inflate_0e8fd_3 : decode cJ1_inflate_0e8fd 3 = .ok (.iload_n 3, 1) := by decide +kernel
theorem dJ1_inflate_0e8fd_4 : decode cJ1_inflate_0e8fd 4 = .ok (.iload 4, 2) := by decide +kernel
theorem dJ1_inflate_0e8fd_6 : decode cJ1_inflate_0e8fd 6 = .ok (.invokestatic 240, 3) := by decide +kernel
theorem dJ1_inflate_0e8fd_9 : decode cJ1_inflate_0e8fd 9 = .ok (.return_, 1) := by decide +kernel
theorem dJ2_newBytesFor_77867_0 : decode cJ2_newBytesFor_77867 0 = .ok (.iload_n 0, 1) := by decide +kernel
theorem dJ2_newBytesFor_77867_1 : decode cJ2_newBytesFor_77867 1 = .ok (.invokestatic 11, 3) := by decide +kernel
theorem dJ2_newBytesFor_77867_4 : decode cJ2_newBytesFor_77867 4 = .ok (.newarray .byte, 2) := by decide +kernel
theorem dJ2_newBytesFor_77867_6 : decode cJ2_newBytesFor_77867 6 = .ok (.areturn, 1) := by decide +kernel
theorem dJ2_newBytesLength_0f7a4_0 : decode cJ2_newBytesLength_0f7a4 0 = .ok (.iload_n 0, 1) := by decide +kernel
theorem dJ2_newBytesLength_0f7a4_1 : decode cJ2_newBytesLength_0f7a4 1 = .ok (.ifCond .ge 11, 3) := by decide +kernel
theorem dJ2_newBytesLength_0f7a4_4 : decode cJ2_newBytesLength_0f7a4 4 = .ok (.new 17, 3) := by decide +kernel
theorem dJ2_newBytesLength_0f7a4_7 : decode cJ2_newBytesLength_0f7a4 7 = .ok (.dup, 1) := by decide +kernel
theorem dJ2_newBytesLength_0f7a4_8 : decode cJ2_newBytesLength_0f7a4 8 = .ok (.invokespecial 19, 3) := by decide +kernel
theorem dJ2_newBytesLength_0f7a4_11 : decode cJ2_newBytesLength_0f7a4 11 = .ok (.athrow, 1) := by decide +kernel
theorem dJ2_newBytesLength_0f7a4_12 : decode cJ2_newBytesLength_0f7a4 12 = .ok (.iload_n 0, 1) := by decide +kernel
theorem dJ2_newBytesLength_0f7a4_13 : decode cJ2_newBytesLength_0f7a4 13 = .ok (.ldc 20, 2) := by decide +kernel
theorem dJ2_newBytesLength_0f7a4_15 : decode cJ2_newBytesLength_0f7a4 15 = .ok (.if_icmp .lt 40, 3) := by decide +kernel
theorem dJ2_newBytesLength_0f7a4_18 : decode cJ2_newBytesLength_0f7a4 18 = .ok (.new 21, 3) := by decide +kernel
theorem dJ2_newBytesLength_0f7a4_21 : decode cJ2_newBytesLength_0f7a4 21 = .ok (.dup, 1) := by decide +kernel
theorem dJ2_newBytesLength_0f7a4_22 : decode cJ2_newBytesLength_0f7a4 22 = .ok (.new 23, 3) := by decide +kernel
theorem dJ2_newBytesLength_0f7a4_25 : decode cJ2_newBytesLength_0f7a4 25 = .ok (.dup, 1) := by decide +kernel
theorem dJ2_newBytesLength_0f7a4_26 : decode cJ2_newBytesLength_0f7a4 26 = .ok (.invokespecial 25, 3) := by decide +kernel
theorem dJ2_newBytesLength_0f7a4_29 : decode cJ2_newBytesLength_0f7a4 29 = .ok (.ldc 26, 2) := by decide +kernel
theorem dJ2_newBytesLength_0f7a4_31 : decode cJ2_newBytesLength_0f7a4 31 = .ok (.invokevirtual 28, 3) := by decide +kernel
theorem dJ2_newBytesLength_0f7a4_34 : decode cJ2_newBytesLength_0f7a4 34 = .ok (.iload_n 0, 1) := by decide +kernel
theorem dJ2_newBytesLength_0f7a4_35 : decode cJ2_newBytesLength_0f7a4 35 = .ok (.invokevirtual 32, 3) := by decide +kernel
theorem dJ2_newBytesLength_0f7a4_38 : decode cJ2_newBytesLength_0f7a4 38 = .ok (.ldc 35, 2) := by decide +kernel
theorem dJ2_newBytesLength_0f7a4_40 : decode cJ2_newBytesLength_0f7a4 40 = .ok (.invokevirtual 28, 3) := by decide +kernel
theorem dJ2_newBytesLength_0f7a4_43 : decode cJ2_newBytesLength_0f7a4 43 = .ok (.ldc 20, 2) := by decide +kernel
theorem dJ2_newBytesLength_0f7a4_45 : decode cJ2_newBytesLength_0f7a4 45 = .ok (.invokevirtual 32, 3) := by decide +kernel
theorem dJ2_newBytesLength_0f7a4_48 : decode cJ2_newBytesLength_0f7a4 48 = .ok (.invokevirtual 37, 3) := by decide +kernel
theorem dJ2_newBytesLength_0f7a4_51 : decode cJ2_newBytesLength_0f7a4 51 = .ok (.invokespecial 41, 3) := by decide +kernel
theorem dJ2_newBytesLength_0f7a4_54 : decode cJ2_newBytesLength_0f7a4 54 = .ok (.athrow, 1) := by decide +kernel
theorem dJ2_newBytesLength_0f7a4_55 : decode cJ2_newBytesLength_0f7a4 55 = .ok (.iload_n 0, 1) := by decide +kernel
theorem dJ2_newBytesLength_0f7a4_56 : decode cJ2_newBytesLength_0f7a4 56 = .ok (.iconst 1, 1) := by decide +kernel
theorem dJ2_newBytesLength_0f7a4_57 : decode cJ2_newBytesLength_0f7a4 57 = .ok (.ishl, 1) := by decide +kernel
theorem dJ2_newBytesLength_0f7a4_58 : decode cJ2_newBytesLength_0f7a4 58 = .ok (.ireturn, 1) := by decide +kernel
theorem dJ2_putChar_b72d1_0 : decode cJ2_putChar_b72d1 0 = .ok (.getstatic 44, 3) := by decide +kernel
theorem dJ2_putChar_b72d1_3 : decode cJ2_putChar_b72d1 3 = .ok (.ifCond .ne 25, 3) := by decide +kernel
theorem dJ2_putChar_b72d1_6 : decode cJ2_putChar_b72d1 6 = .ok (.iload_n 1, 1) := by decide +kernel
theorem dJ2_putChar_b72d1_7 : decode cJ2_putChar_b72d1 7 = .ok (.ifCond .lt 11, 3) := by decide +kernel
theorem dJ2_putChar_b72d1_10 : decode cJ2_putChar_b72d1 10 = .ok (.iload_n 1, 1) := by decide +kernel
theorem dJ2_putChar_b72d1_11 : decode cJ2_putChar_b72d1 11 = .ok (.aload_n 0, 1) := by decide +kernel
theorem dJ2_putChar_b72d1_12 : decode cJ2_putChar_b72d1 12 = .ok (.invokestatic 48, 3) := by decide +kernel
theorem dJ2_putChar_b72d1_15 : decode cJ2_putChar_b72d1 15 = .ok (.if_icmp .lt 13, 3) := by decide +kernel
theorem dJ2_putChar_b72d1_18 : decode cJ2_putChar_b72d1 18 = .ok (.new 52, 3) := by decide +kernel
theorem dJ2_putChar_b72d1_21 : decode cJ2_putChar_b72d1 21 = .ok (.dup, 1) := by decide +kernel
theorem dJ2_putChar_b72d1_22 : decode cJ2_putChar_b72d1 22 = .ok (.ldc 54, 2) := by decide +kernel
theorem dJ2_putChar_b72d1_24 : decode cJ2_putChar_b72d1 24 = .ok (.invokespecial 56, 3) := by decide +kernel
theorem dJ2_putChar_b72d1_27 : decode cJ2_putChar_b72d1 27 = .ok (.athrow, 1) := by decide +kernel
theorem dJ2_putChar_b72d1_28 : decode cJ2_putChar_b72d1 28 = .ok (.iload_n 1, 1) := by decide +kernel
theorem dJ2_putChar_b72d1_29 : decode cJ2_putChar_b72d1 29 = .ok (.iconst 1, 1) := by decide +kernel
theorem dJ2_putChar_b72d1_30 : decode cJ2_putChar_b72d1 30 = .ok (.ishl, 1) := by decide +kernel
theorem dJ2_putChar_b72d1_31 : decode cJ2_putChar_b72d1 31 = .ok (.istore_n 1, 1) := by decide +kernel
theorem dJ2_putChar_b72d1_32 : decode cJ2_putChar_b72d1 32 = .ok (.aload_n 0, 1) := by decide +kernel
theorem dJ2_putChar_b72d1_33 : decode cJ2_putChar_b72d1 33 = .ok (.iload_n 1, 1) := by decide +kernel
theorem dJ2_putChar_b72d1_34 : decode cJ2_putChar_b72d1 34 = .ok (.iinc 1 1, 3) := by decide +kernel
theorem dJ2_putChar_b72d1_37 : decode cJ2_putChar_b72d1 37 = .ok (.iload_n 2, 1) := by decide +kernel
theorem dJ2_putChar_b72d1_38 : decode cJ2_putChar_b72d1 38 = .ok (.getstatic 59, 3) := by decide +kernel
theorem dJ2_putChar_b72d1_41 : decode cJ2_putChar_b72d1 41 = .ok (.ishr, 1) := by decide +kernel
theorem dJ2_putChar_b72d1_42 : decode cJ2_putChar_b72d1 42 = .ok (.i2b, 1) := by decide +kernel
theorem dJ2_putChar_b72d1_43 : decode cJ2_putChar_b72d1 43 = .ok (.bastore, 1) := by decide +kernel
theorem dJ2_putChar_b72d1_44 : decode cJ2_putChar_b72d1 44 = .ok (.aload_n 0, 1) := by decide +kernel
theorem dJ2_putChar_b72d1_45 : decode cJ2_putChar_b72d1 45 = .ok (.iload_n 1, 1) := by decide +kernel
theorem dJ2_putChar_b72d1_46 : decode cJ2_putChar_b72d1 46 = .ok (.iload_n 2, 1) := by decide +kernel
theorem dJ2_putChar_b72d1_47 : decode cJ2_putChar_b72d1 47 = .ok (.getstatic 63, 3) := by decide +kernel
theorem dJ2_putChar_b72d1_50 : decode cJ2_putChar_b72d1 50 = .ok (.ishr, 1) := by decide +kernel
theorem dJ2_putChar_b72d1_51 : decode cJ2_putChar_b72d1 51 = .ok (.i2b, 1) := by decide +kernel
theorem dJ2_putChar_b72d1_52 : decode cJ2_putChar_b72d1 52 = .ok (.bastore, 1) := by decide +kernel
theorem dJ2_putChar_b72d1_53 : decode cJ2_putChar_b72d1 53 = .ok (.return_, 1) := by decide +kernel
theorem dJ2_getChar_3b067_0 : decode cJ2_getChar_3b067 0 = .ok (.getstatic 44, 3) := by decide +kernel
theorem dJ2_getChar_3b067_3 : decode cJ2_getChar_3b067 3 = .ok (.ifCond .ne 25, 3) := by decide +kernel
theorem dJ2_getChar_3b067_6 : decode cJ2_getChar_3b067 6 = .ok (.iload_n 1, 1) := by decide +kernel
theorem dJ2_getChar_3b067_7 : decode cJ2_getChar_3b067 7 = .ok (.ifCond .lt 11, 3) := by decide +kernel
theorem dJ2_getChar_3b067_10 : decode cJ2_getChar_3b067 10 = .ok (.iload_n 1, 1) := by decide +kernel
theorem dJ2_getChar_3b067_11 : decode cJ2_getChar_3b067 11 = .ok (.aload_n 0, 1) := by decide +kernel
theorem dJ2_getChar_3b067_12 : decode cJ2_getChar_3b067 12 = .ok (.invokestatic 48, 3) := by decide +kernel
theorem dJ2_getChar_3b067_15 : decode cJ2_getChar_3b067 15 = .ok (.if_icmp .lt 13, 3) := by decide +kernel
theorem dJ2_getChar_3b067_18 : decode cJ2_getChar_3b067 18 = .ok (.new 52, 3) := by decide +kernel
theorem dJ2_getChar_3b067_21 : decode cJ2_getChar_3b067 21 = .ok (.dup, 1) := by decide +kernel
theorem dJ2_getChar_3b067_22 : decode cJ2_getChar_3b067 22 = .ok (.ldc 54, 2) := by decide +kernel
theorem dJ2_getChar_3b067_24 : decode cJ2_getChar_3b067 24 = .ok (.invokespecial 56, 3) := by decide +kernel
theorem dJ2_getChar_3b067_27 : decode cJ2_getChar_3b067 27 = .ok (.athrow, 1) := by decide +kernel
theorem dJ2_getChar_3b067_28 : decode cJ2_getChar_3b067 28 = .ok (.iload_n 1, 1) := by decide +kernel
theorem dJ2_getChar_3b067_29 : decode cJ2_getChar_3b067 29 = .ok (.iconst 1, 1) := by decide +kernel
theorem dJ2_getChar_3b067_30 : decode cJ2_getChar_3b067 30 = .ok (.ishl, 1) := by decide +kernel
theorem dJ2_getChar_3b067_31 : decode cJ2_getChar_3b067 31 = .ok (.istore_n 1, 1) := by decide +kernel
theorem dJ2_getChar_3b067_32 : decode cJ2_getChar_3b067 32 = .ok (.aload_n 0, 1) := by decide +kernel
theorem dJ2_getChar_3b067_33 : decode cJ2_getChar_3b067 33 = .ok (.iload_n 1, 1) := by decide +kernel
theorem dJ2_getChar_3b067_34 : decode cJ2_getChar_3b067 34 = .ok (.iinc 1 1, 3) := by decide +kernel
theorem dJ2_getChar_3b067_37 : decode cJ2_getChar_3b067 37 = .ok (.baload, 1) := by decide +kernel
theorem dJ2_getChar_3b067_38 : decode cJ2_getChar_3b067 38 = .ok (.sipush 255, 3) := by decide +kernel
theorem dJ2_getChar_3b067_41 : decode cJ2_getChar_3b067 41 = .ok (.iand, 1) := by decide +kernel
theorem dJ2_getChar_3b067_42 : decode cJ2_getChar_3b067 42 = .ok (.getstatic 59, 3) := by decide +kernel
theorem dJ2_getChar_3b067_45 : decode cJ2_getChar_3b067 45 = .ok (.ishl, 1) := by decide +kernel
theorem dJ2_getChar_3b067_46 : decode cJ2_getChar_3b067 46 = .ok (.aload_n 0, 1) := by decide +kernel
theorem dJ2_getChar_3b067_47 : decode cJ2_getChar_3b067 47 = .ok (.iload_n 1, 1) := by decide +kernel
theorem dJ2_getChar_3b067_48 : decode cJ2_getChar_3b067 48 = .ok (.baload, 1) := by decide +kernel
theorem dJ2_getChar_3b067_49 : decode cJ2_getChar_3b067 49 = .ok (.sipush 255, 3) := by decide +kernel
theorem dJ2_getChar_3b067_52 : decode cJ2_getChar_3b067 52 = .ok (.iand, 1) := by decide +kernel
theorem dJ2_getChar_3b067_53 : decode cJ2_getChar_3b067 53 = .ok (.getstatic 63, 3) := by decide +kernel
theorem dJ2_getChar_3b067_56 : decode cJ2_getChar_3b067 56 = .ok (.ishl, 1) := by decide +kernel
theorem dJ2_getChar_3b067_57 : decode cJ2_getChar_3b067 57 = .ok (.ior, 1) := by decide +kernel
theorem dJ2_getChar_3b067_58 : decode cJ2_getChar_3b067 58 = .ok (.i2c, 1) := by decide +kernel
theorem dJ2_getChar_3b067_59 : decode cJ2_getChar_3b067 59 = .ok (.ireturn, 1) := by decide +kernel
theorem dJ2_length_9d52b_0 : decode cJ2_length_9d52b 0 = .ok (.aload_n 0, 1) := by decide +kernel
theorem dJ2_length_9d52b_1 : decode cJ2_length_9d52b 1 = .ok (.arraylength, 1) := by decide +kernel
theorem dJ2_length_9d52b_2 : decode cJ2_length_9d52b 2 = .ok (.iconst 1, 1) := by decide +kernel
theorem dJ2_length_9d52b_3 : decode cJ2_length_9d52b 3 = .ok (.ishr, 1) := by decide +kernel
theorem dJ2_length_9d52b_4 : decode cJ2_length_9d52b 4 = .ok (.ireturn, 1) := by decide +kernel
theorem dJ2_coderFromArrayLen_85cad_0 : decode cJ2_coderFromArrayLen_85cad 0 = .ok (.iload_n 1, 1) := by decide +kernel
theorem dJ2_coderFromArrayLen_85cad_1 : decode cJ2_coderFromArrayLen_85cad 1 = .ok (.aload_n 0, 1) := by decide +kernel
theorem dJ2_coderFromArrayLen_85cad_2 : decode cJ2_coderFromArrayLen_85cad 2 = .ok (.arraylength, 1) := by decide +kernel
theorem dJ2_coderFromArrayLen_85cad_3 : decode cJ2_coderFromArrayLen_85cad 3 = .ok (.isub, 1) := by decide +kernel
theorem dJ2_coderFromArrayLen_85cad_4 : decode cJ2_coderFromArrayLen_85cad 4 = .ok (.bipush 31, 2) := by decide +kernel
theorem dJ2_coderFromArrayLen_85cad_6 : decode cJ2_coderFromArrayLen_85cad 6 = .ok (.iushr, 1) := by decide +kernel
theorem dJ2_coderFromArrayLen_85cad_7 : decode cJ2_coderFromArrayLen_85cad 7 = .ok (.i2b, 1) := by decide +kernel
theorem dJ2_coderFromArrayLen_85cad_8 : decode cJ2_coderFromArrayLen_85cad 8 = .ok (.ireturn, 1) := by decide +kernel
theorem dJ2_compress_39247_0 : decode cJ2_compress_39247 0 = .ok (.iload_n 2, 1) := by decide +kernel
theorem dJ2_compress_39247_1 : decode cJ2_compress_39247 1 = .ok (.newarray .byte, 2) := by decide +kernel
theorem dJ2_compress_39247_3 : decode cJ2_compress_39247 3 = .ok (.astore_n 3, 1) := by decide +kernel
theorem dJ2_compress_39247_4 : decode cJ2_compress_39247 4 = .ok (.aload_n 0, 1) := by decide +kernel
theorem dJ2_compress_39247_5 : decode cJ2_compress_39247 5 = .ok (.iload_n 1, 1) := by decide +kernel
theorem dJ2_compress_39247_6 : decode cJ2_compress_39247 6 = .ok (.aload_n 3, 1) := by decide +kernel
theorem dJ2_compress_39247_7 : decode cJ2_compress_39247 7 = .ok (.iconst 0, 1) := by decide +kernel
theorem dJ2_compress_39247_8 : decode cJ2_compress_39247 8 = .ok (.iload_n 2, 1) := by decide +kernel
theorem dJ2_compress_39247_9 : decode cJ2_compress_39247 9 = .ok (.invokestatic 123, 3) := by decide +kernel
theorem dJ2_compress_39247_12 : decode cJ2_compress_39247 12 = .ok (.istore 4, 2) := by decide +kernel
theorem dJ2_compress_39247_14 : decode cJ2_compress_39247 14 = .ok (.iload 4, 2) := by decide +kernel
theorem dJ2_compress_39247_16 : decode cJ2_compress_39247 16 = .ok (.iload_n 2, 1) := by decide +kernel
theorem dJ2_compress_39247_17 : decode cJ2_compress_39247 17 = .ok (.if_icmp .eq 47, 3) := by decide +kernel
theorem dJ2_compress_39247_20 : decode cJ2_compress_39247 20 = .ok (.aload_n 0, 1) := by decide +kernel
theorem dJ2_compress_39247_21 : decode cJ2_compress_39247 21 = .ok (.iload_n 1, 1) := by decide +kernel
theorem dJ2_compress_39247_22 : decode cJ2_compress_39247 22 = .ok (.iconst 1, 1) := by decide +kernel
theorem dJ2_compress_39247_23 : decode cJ2_compress_39247 23 = .ok (.ishl, 1) := by decide +kernel
theorem dJ2_compress_39247_24 : decode cJ2_compress_39247 24 = .ok (.iload_n 1, 1) := by decide +kernel
theorem dJ2_compress_39247_25 : decode cJ2_compress_39247 25 = .ok (.iload_n 2, 1) := by decide +kernel
theorem dJ2_compress_39247_26 : decode cJ2_compress_39247 26 = .ok (.iadd, 1) := by decide +kernel
theorem dJ2_compress_39247_27 : decode cJ2_compress_39247 27 = .ok (.invokestatic 11, 3) := by decide +kernel
theorem dJ2_compress_39247_30 : decode cJ2_compress_39247 30 = .ok (.invokestatic 126, 3) := by decide +kernel
theorem dJ2_compress_39247_33 : decode cJ2_compress_39247 33 = .ok (.astore 5, 2) := by decide +kernel
theorem dJ2_compress_39247_35 : decode cJ2_compress_39247 35 = .ok (.aload 5, 2) := by decide +kernel
theorem dJ2_compress_39247_37 : decode cJ2_compress_39247 37 = .ok (.iload 4, 2) := by decide +kernel
theorem dJ2_compress_39247_39 : decode cJ2_compress_39247 39 = .ok (.invokestatic 71, 3) := by decide +kernel
theorem dJ2_compress_39247_42 : decode cJ2_compress_39247 42 = .ok (.sipush 255, 3) := by decide +kernel
theorem dJ2_compress_39247_45 : decode cJ2_compress_39247 45 = .ok (.if_icmp .gt 16, 3) := by decide +kernel
theorem dJ2_compress_39247_48 : decode cJ2_compress_39247 48 = .ok (.aload 5, 2) := by decide +kernel
theorem dJ2_compress_39247_50 : decode cJ2_compress_39247 50 = .ok (.iconst 0, 1) := by decide +kernel
theorem dJ2_compress_39247_51 : decode cJ2_compress_39247 51 = .ok (.aload_n 3, 1) := by decide +kernel
theorem dJ2_compress_39247_52 : decode cJ2_compress_39247 52 = .ok (.iconst 0, 1) := by decide +kernel
theorem dJ2_compress_39247_53 : decode cJ2_compress_39247 53 = .ok (.iload_n 2, 1) := by decide +kernel
theorem dJ2_compress_39247_54 : decode cJ2_compress_39247 54 = .ok (.invokestatic 123, 3) := by decide +kernel
theorem dJ2_compress_39247_57 : decode cJ2_compress_39247 57 = .ok (.iload_n 2, 1) := by decide +kernel
theorem dJ2_compress_39247_58 : decode cJ2_compress_39247 58 = .ok (.if_icmp .eq 6, 3) := by decide +kernel
theorem dJ2_compress_39247_61 : decode cJ2_compress_39247 61 = .ok (.aload 5, 2) := by decide +kernel
theorem dJ2_compress_39247_63 : decode cJ2_compress_39247 63 = .ok (.areturn, 1) := by decide +kernel
theorem dJ2_compress_39247_64 : decode cJ2_compress_39247 64 = .ok (.aload_n 3, 1) := by decide +kernel
theorem dJ2_compress_39247_65 : decode cJ2_compress_39247 65 = .ok (.areturn, 1) := by decide +kernel
theorem dJ2_compress_5af95_0 : decode cJ2_compress_5af95 0 = .ok (.iload_n 1, 1) := by decide +kernel
theorem dJ2_compress_5af95_1 : decode cJ2_compress_5af95 1 = .ok (.iload 4, 2) := by decide +kernel
theorem dJ2_compress_5af95_3 : decode cJ2_compress_5af95 3 = .ok (.aload_n 0, 1) := by decide +kernel
theorem dJ2_compress_5af95_4 : decode cJ2_compress_5af95 4 = .ok (.invokestatic 173, 3) := by decide +kernel
theorem dJ2_compress_5af95_7 : decode cJ2_compress_5af95 7 = .ok (.iconst 0, 1) := by decide +kernel
theorem dJ2_compress_5af95_8 : decode cJ2_compress_5af95 8 = .ok (.istore 5, 2) := by decide +kernel
theorem dJ2_compress_5af95_10 : decode cJ2_compress_5af95 10 = .ok (.iload 5, 2) := by decide +kernel
theorem dJ2_compress_5af95_12 : decode cJ2_compress_5af95 12 = .ok (.iload 4, 2) := by decide +kernel
theorem dJ2_compress_5af95_14 : decode cJ2_compress_5af95 14 = .ok (.if_icmp .ge 39, 3) := by decide +kernel
theorem dJ2_compress_5af95_17 : decode cJ2_compress_5af95 17 = .ok (.aload_n 0, 1) := by decide +kernel
theorem dJ2_compress_5af95_18 : decode cJ2_compress_5af95 18 = .ok (.iload_n 1, 1) := by decide +kernel
theorem dJ2_compress_5af95_19 : decode cJ2_compress_5af95 19 = .ok (.invokestatic 71, 3) := by decide +kernel
theorem dJ2_compress_5af95_22 : decode cJ2_compress_5af95 22 = .ok (.istore 6, 2) := by decide +kernel
theorem dJ2_compress_5af95_24 : decode cJ2_compress_5af95 24 = .ok (.iload 6, 2) := by decide +kernel
theorem dJ2_compress_5af95_26 : decode cJ2_compress_5af95 26 = .ok (.sipush 255, 3) := by decide +kernel
theorem dJ2_compress_5af95_29 : decode cJ2_compress_5af95 29 = .ok (.if_icmp .le 6, 3) := by decide +kernel
theorem dJ2_compress_5af95_32 : decode cJ2_compress_5af95 32 = .ok (.iload 5, 2) := by decide +kernel
theorem dJ2_compress_5af95_34 : decode cJ2_compress_5af95 34 = .ok (.ireturn, 1) := by decide +kernel
theorem dJ2_compress_5af95_35 : decode cJ2_compress_5af95 35 = .ok (.aload_n 2, 1) := by decide +kernel
theorem dJ2_compress_5af95_36 : decode cJ2_compress_5af95 36 = .ok (.iload_n 3, 1) := by decide +kernel
theorem dJ2_compress_5af95_37 : decode cJ2_compress_5af95 37 = .ok (.iload 6, 2) := by decide +kernel
theorem dJ2_compress_5af95_39 : decode cJ2_compress_5af95 39 = .ok (.i2b, 1) := by decide +kernel
theorem dJ2_compress_5af95_40 : decode cJ2_compress_5af95 40 = .ok (.bastore, 1) := by decide +kernel
theorem dJ2_compress_5af95_41 : decode cJ2_compress_5af95 41 = .ok (.iinc 1 1, 3) := by decide +kernel
theorem dJ2_compress_5af95_44 : decode cJ2_compress_5af95 44 = .ok (.iinc 3 1, 3) := by decide +kernel
theorem dJ2_compress_5af95_47 : decode cJ2_compress_5af95 47 = .ok (.iinc 5 1, 3) := by decide +kernel
theorem dJ2_compress_5af95_50 : decode cJ2_compress_5af95 50 = .ok (.goto (-40), 3) := by decide +kernel
theorem dJ2_compress_5af95_53 : decode cJ2_compress_5af95 53 = .ok (.iload 4, 2) := by decide +kernel
theorem dJ2_compress_5af95_55 : decode cJ2_compress_5af95 55 = .ok (.ireturn, 1) := by decide +kernel
theorem dJ2_fillNull_b72d1_0 : decode cJ2_fillNull_b72d1 0 = .ok (.aload_n 0, 1) := by decide +kernel
theorem dJ2_fillNull_b72d1_1 : decode cJ2_fillNull_b72d1 1 = .ok (.iload_n 1, 1) := by decide +kernel
theorem dJ2_fillNull_b72d1_2 : decode cJ2_fillNull_b72d1 2 = .ok (.iconst 1, 1) := by decide +kernel
theorem dJ2_fillNull_b72d1_3 : decode cJ2_fillNull_b72d1 3 = .ok (.ishl, 1) := by decide +kernel
theorem dJ2_fillNull_b72d1_4 : decode cJ2_fillNull_b72d1 4 = .ok (.iload_n 2, 1) := by decide +kernel
theorem dJ2_fillNull_b72d1_5 : decode cJ2_fillNull_b72d1 5 = .ok (.iconst 1, 1) := by decide +kernel
theorem dJ2_fillNull_b72d1_6 : decode cJ2_fillNull_b72d1 6 = .ok (.ishl, 1) := by decide +kernel
theorem dJ2_fillNull_b72d1_7 : decode cJ2_fillNull_b72d1 7 = .ok (.iconst 0, 1) := by decide +kernel
theorem dJ2_fillNull_b72d1_8 : decode cJ2_fillNull_b72d1 8 = .ok (.invokestatic 380, 3) := by decide +kernel
theorem dJ2_fillNull_b72d1_11 : decode cJ2_fillNull_b72d1 11 = .ok (.return_, 1) := by decide +kernel
theorem dJ2_putCharSB_b72d1_0 : decode cJ2_putCharSB_b72d1 0 = .ok (.iload_n 1, 1) := by decide +kernel
theorem dJ2_putCharSB_b72d1_1 : decode cJ2_putCharSB_b72d1 1 = .ok (.aload_n 0, 1) := by decide +kernel
theorem dJ2_putCharSB_b72d1_2 : decode cJ2_putCharSB_b72d1 2 = .ok (.invokestatic 67, 3) := by decide +kernel
theorem dJ2_putCharSB_b72d1_5 : decode cJ2_putCharSB_b72d1 5 = .ok (.aload_n 0, 1) := by decide +kernel
theorem dJ2_putCharSB_b72d1_6 : decode cJ2_putCharSB_b72d1 6 = .ok (.iload_n 1, 1) := by decide +kernel
theorem dJ2_putCharSB_b72d1_7 : decode cJ2_putCharSB_b72d1 7 = .ok (.iload_n 2, 1) := by decide +kernel
theorem dJ2_putCharSB_b72d1_8 : decode cJ2_putCharSB_b72d1 8 = .ok (.invokestatic 111, 3) := by decide +kernel
theorem dJ2_putCharSB_b72d1_11 : decode cJ2_putCharSB_b72d1 11 = .ok (.return_, 1) := by decide +kernel
theorem dJ2_getChars_46870_0 : decode cJ2_getChars_46870 0 = .ok (.iload_n 1, 1) := by decide +kernel
theorem dJ2_getChars_46870_1 : decode cJ2_getChars_46870 1 = .ok (.iload_n 2, 1) := by decide +kernel
theorem dJ2_getChars_46870_2 : decode cJ2_getChars_46870 2 = .ok (.aload_n 3, 1) := by decide +kernel
theorem dJ2_getChars_46870_3 : decode cJ2_getChars_46870 3 = .ok (.invokestatic 96, 3) := by decide +kernel
theorem dJ2_getChars_46870_6 : decode cJ2_getChars_46870 6 = .ok (.iload_n 0, 1) := by decide +kernel
theorem dJ2_getChars_46870_7 : decode cJ2_getChars_46870 7 = .ok (.iload_n 2, 1) := by decide +kernel
theorem dJ2_getChars_46870_8 : decode cJ2_getChars_46870 8 = .ok (.aload_n 3, 1) := by decide +kernel
theorem dJ2_getChars_46870_9 : decode cJ2_getChars_46870 9 = .ok (.invokestatic 393, 3) := by decide +kernel
theorem dJ2_getChars_46870_12 : decode cJ2_getChars_46870 12 = .ok (.istore 4, 2) := by decide +kernel
theorem dJ2_getChars_46870_14 : decode cJ2_getChars_46870 14 = .ok (.getstatic 44, 3) := by decide +kernel
theorem dJ2_getChars_46870_17 : decode cJ2_getChars_46870 17 = .ok (.ifCond .ne 17, 3) := by decide +kernel
theorem dJ2_getChars_46870_20 : decode cJ2_getChars_46870 20 = .ok (.iload_n 1, 1) := by decide +kernel
theorem dJ2_getChars_46870_21 : decode cJ2_getChars_46870 21 = .ok (.iload 4, 2) := by decide +kernel
theorem dJ2_getChars_46870_23 : decode cJ2_getChars_46870 23 = .ok (.if_icmp .eq 11, 3) := by decide +kernel
theorem dJ2_getChars_46870_26 : decode cJ2_getChars_46870 26 = .ok (.new 52, 3) := by decide +kernel
theorem dJ2_getChars_46870_29 : decode cJ2_getChars_46870 29 = .ok (.dup, 1) := by decide +kernel
theorem dJ2_getChars_46870_30 : decode cJ2_getChars_46870 30 = .ok (.invokespecial 66, 3) := by decide +kernel
theorem dJ2_getChars_46870_33 : decode cJ2_getChars_46870 33 = .ok (.athrow, 1) := by decide +kernel
theorem dJ2_getChars_46870_34 : decode cJ2_getChars_46870 34 = .ok (.iload 4, 2) := by decide +kernel
theorem dJ2_getChars_46870_36 : decode cJ2_getChars_46870 36 = .ok (.ireturn, 1) := by decide +kernel
theorem dJ2_putCharsAt_cd4e5_0 : decode cJ2_putCharsAt_cd4e5 0 = .ok (.iload_n 1, 1) := by decide +kernel
theorem dJ2_putCharsAt_cd4e5_1 : decode cJ2_putCharsAt_cd4e5 1 = .ok (.iconst 4, 1) := by decide +kernel
theorem dJ2_putCharsAt_cd4e5_2 : decode cJ2_putCharsAt_cd4e5 2 = .ok (.iadd, 1) := by decide +kernel
theorem dJ2_putCharsAt_cd4e5_3 : decode cJ2_putCharsAt_cd4e5 3 = .ok (.istore 6, 2) := by decide +kernel
theorem dJ2_putCharsAt_cd4e5_5 : decode cJ2_putCharsAt_cd4e5 5 = .ok (.iload_n 1, 1) := by decide +kernel
theorem dJ2_putCharsAt_cd4e5_6 : decode cJ2_putCharsAt_cd4e5 6 = .ok (.iload 6, 2) := by decide +kernel
theorem dJ2_putCharsAt_cd4e5_8 : decode cJ2_putCharsAt_cd4e5 8 = .ok (.aload_n 0, 1) := by decide +kernel
theorem dJ2_putCharsAt_cd4e5_9 : decode cJ2_putCharsAt_cd4e5 9 = .ok (.invokestatic 96, 3) := by decide +kernel
theorem dJ2_putCharsAt_cd4e5_12 : decode cJ2_putCharsAt_cd4e5 12 = .ok (.aload_n 0, 1) := by decide +kernel
theorem dJ2_putCharsAt_cd4e5_13 : decode cJ2_putCharsAt_cd4e5 13 = .ok (.iload_n 1, 1) := by decide +kernel
theorem dJ2_putCharsAt_cd4e5_14 : decode cJ2_putCharsAt_cd4e5 14 = .ok (.iinc 1 1, 3) := by decide +kernel
theorem dJ2_putCharsAt_cd4e5_17 : decode cJ2_putCharsAt_cd4e5 17 = .ok (.iload_n 2, 1) := by decide +kernel
theorem dJ2_putCharsAt_cd4e5_18 : decode cJ2_putCharsAt_cd4e5 18 = .ok (.invokestatic 111, 3) := by decide +kernel
theorem dJ2_putCharsAt_cd4e5_21 : decode cJ2_putCharsAt_cd4e5 21 = .ok (.aload_n 0, 1) := by decide +kernel
theorem dJ2_putCharsAt_cd4e5_22 : decode cJ2_putCharsAt_cd4e5 22 = .ok (.iload_n 1, 1) := by decide +kernel
theorem dJ2_putCharsAt_cd4e5_23 : decode cJ2_putCharsAt_cd4e5 23 = .ok (.iinc 1 1, 3) := by decide +kernel
theorem dJ2_putCharsAt_cd4e5_26 : decode cJ2_putCharsAt_cd4e5 26 = .ok (.iload_n 3, 1) := by decide +kernel
theorem dJ2_putCharsAt_cd4e5_27 : decode cJ2_putCharsAt_cd4e5 27 = .ok (.invokestatic 111, 3) := by decide +kernel
theorem dJ2_putCharsAt_cd4e5_30 : decode cJ2_putCharsAt_cd4e5 30 = .ok (.aload_n 0, 1) := by decide +kernel
theorem dJ2_putCharsAt_cd4e5_31 : decode cJ2_putCharsAt_cd4e5 31 = .ok (.iload_n 1, 1) := by decide +kernel
theorem dJ2_putCharsAt_cd4e5_32 : decode cJ2_putCharsAt_cd4e5 32 = .ok (.iinc 1 1, 3) := by decide +kernel
theorem dJ2_putCharsAt_cd4e5_35 : decode cJ2_putCharsAt_cd4e5 35 = .ok (.iload 4, 2) := by decide +kernel
theorem dJ2_putCharsAt_cd4e5_37 : decode cJ2_putCharsAt_cd4e5 37 = .ok (.invokestatic 111, 3) := by decide +kernel
theorem dJ2_putCharsAt_cd4e5_40 : decode cJ2_putCharsAt_cd4e5 40 = .ok (.aload_n 0, 1) := by decide +kernel
theorem dJ2_putCharsAt_cd4e5_41 : decode cJ2_putCharsAt_cd4e5 41 = .ok (.iload_n 1, 1) := by decide +kernel
theorem dJ2_putCharsAt_cd4e5_42 : decode cJ2_putCharsAt_cd4e5 42 = .ok (.iinc 1 1, 3) := by decide +kernel
theorem dJ2_putCharsAt_cd4e5_45 : decode cJ2_putCharsAt_cd4e5 45 = .ok (.iload 5, 2) := by decide +kernel
theorem dJ2_putCharsAt_cd4e5_47 : decode cJ2_putCharsAt_cd4e5 47 = .ok (.invokestatic 111, 3) := by decide +kernel
theorem dJ2_putCharsAt_cd4e5_50 : decode cJ2_putCharsAt_cd4e5 50 = .ok (.getstatic 44, 3) := by decide +kernel
theorem dJ2_putCharsAt_cd4e5_53 : decode cJ2_putCharsAt_cd4e5 53 = .ok (.ifCond .ne 17, 3) := by decide +kernel
theorem dJ2_putCharsAt_cd4e5_56 : decode cJ2_putCharsAt_cd4e5 56 = .ok (.iload_n 1, 1) := by decide +kernel
theorem dJ2_putCharsAt_cd4e5_57 : decode cJ2_putCharsAt_cd4e5 57 = .ok (.iload 6, 2) := by decide +kernel
theorem dJ2_putCharsAt_cd4e5_59 : decode cJ2_putCharsAt_cd4e5 59 = .ok (.if_icmp .eq 11, 3) := by decide +kernel
theorem dJ2_putCharsAt_cd4e5_62 : decode cJ2_putCharsAt_cd4e5 62 = .ok (.new 52, 3) := by decide +kernel
theorem dJ2_putCharsAt_cd4e5_65 : decode cJ2_putCharsAt_cd4e5 65 = .ok (.dup, 1) := by decide +kernel
theorem dJ2_putCharsAt_cd4e5_66 : decode cJ2_putCharsAt_cd4e5 66 = .ok (.invokespecial 66, 3) := by decide +kernel
theorem dJ2_putCharsAt_cd4e5_69 : decode cJ2_putCharsAt_cd4e5 69 = .ok (.athrow, 1) := by decide +kernel
theorem dJ2_putCharsAt_cd4e5_70 : decode cJ2_putCharsAt_cd4e5 70 = .ok (.iload 6, 2) := by decide +kernel
theorem dJ2_putCharsAt_cd4e5_72 : decode cJ2_putCharsAt_cd4e5 72 = .ok (.ireturn, 1) := by decide +kernel
theorem dJ2_charAt_3b067_0 : decode cJ2_charAt_3b067 0 = .ok (.iload_n 1, 1) := by decide +kernel
theorem dJ2_charAt_3b067_1 : decode cJ2_charAt_3b067 1 = .ok (.aload_n 0, 1) := by decide +kernel
theorem dJ2_charAt_3b067_2 : decode cJ2_charAt_3b067 2 = .ok (.invokestatic 67, 3) := by decide +kernel
theorem dJ2_charAt_3b067_5 : decode cJ2_charAt_3b067 5 = .ok (.aload_n 0, 1) := by decide +kernel
theorem dJ2_charAt_3b067_6 : decode cJ2_charAt_3b067 6 = .ok (.iload_n 1, 1) := by decide +kernel
theorem dJ2_charAt_3b067_7 : decode cJ2_charAt_3b067 7 = .ok (.invokestatic 71, 3) := by decide +kernel
theorem dJ2_charAt_3b067_10 : decode cJ2_charAt_3b067 10 = .ok (.ireturn, 1) := by decide +kernel
theorem dJ2_inflate_0e8fd_0 : decode cJ2_inflate_0e8fd 0 = .ok (.iload_n 3, 1) := by decide +kernel
theorem dJ2_inflate_0e8fd_1 : decode cJ2_inflate_0e8fd 1 = .ok (.iload 4, 2) := by decide +kernel
theorem dJ2_inflate_0e8fd_3 : decode cJ2_inflate_0e8fd 3 = .ok (.aload_n 2, 1) := by decide +kernel
theorem dJ2_inflate_0e8fd_4 : decode cJ2_inflate_0e8fd 4 = .ok (.invokestatic 173, 3) := by decide +kernel
theorem dJ2_inflate_0e8fd_7 : decode cJ2_inflate_0e8fd 7 = .ok (.iconst 0, 1) := by decide +kernel
theorem dJ2_inflate_0e8fd_8 : decode cJ2_inflate_0e8fd 8 = .ok (.istore 5, 2) := by decide +kernel
theorem dJ2_inflate_0e8fd_10 : decode cJ2_inflate_0e8fd 10 = .ok (.iload 5, 2) := by decide +kernel
theorem dJ2_inflate_0e8fd_12 : decode cJ2_inflate_0e8fd 12 = .ok (.iload 4, 2) := by decide +kernel
theorem dJ2_inflate_0e8fd_14 : decode cJ2_inflate_0e8fd 14 = .ok (.if_icmp .ge 27, 3) := by decide +kernel
theorem dJ2_inflate_0e8fd_17 : decode cJ2_inflate_0e8fd 17 = .ok (.aload_n 2, 1) := by decide +kernel
theorem dJ2_inflate_0e8fd_18 : decode cJ2_inflate_0e8fd 18 = .ok (.iload_n 3, 1) := by decide +kernel
theorem dJ2_inflate_0e8fd_19 : decode cJ2_inflate_0e8fd 19 = .ok (.iinc 3 1, 3) := by decide +kernel
theorem dJ2_inflate_0e8fd_22 : decode cJ2_inflate_0e8fd 22 = .ok (.aload_n 0, 1) := by decide +kernel
theorem dJ2_inflate_0e8fd_23 : decode cJ2_inflate_0e8fd 23 = .ok (.iload_n 1, 1) := by decide +kernel
theorem dJ2_inflate_0e8fd_24 : decode cJ2_inflate_0e8fd 24 = .ok (.iinc 1 1, 3) := by decide +kernel
theorem dJ2_inflate_0e8fd_27 : decode cJ2_inflate_0e8fd 27 = .ok (.baload, 1) := by decide +kernel
theorem dJ2_inflate_0e8fd_28 : decode cJ2_inflate_0e8fd 28 = .ok (.sipush 255, 3) := by decide +kernel
theorem dJ2_inflate_0e8fd_31 : decode cJ2_inflate_0e8fd 31 = .ok (.iand, 1) := by decide +kernel
theorem dJ2_inflate_0e8fd_32 : decode cJ2_inflate_0e8fd 32 = .ok (.invokestatic 111, 3) := by decide +kernel
theorem dJ2_inflate_0e8fd_35 : decode cJ2_inflate_0e8fd 35 = .ok (.iinc 5 1, 3) := by decide +kernel
theorem dJ2_inflate_0e8fd_38 : decode cJ2_inflate_0e8fd 38 = .ok (.goto (-28), 3) := by decide +kernel
theorem dJ2_inflate_0e8fd_41 : decode cJ2_inflate_0e8fd 41 = .ok (.return_, 1) := by decide +kernel
theorem dJ2_getChars_ba4f3_0 : decode cJ2_getChars_ba4f3 0 = .ok (.iload_n 1, 1) := by decide +kernel
theorem dJ2_getChars_ba4f3_1 : decode cJ2_getChars_ba4f3 1 = .ok (.istore 5, 2) := by decide +kernel
theorem dJ2_getChars_ba4f3_3 : decode cJ2_getChars_ba4f3 3 = .ok (.iload_n 0, 1) := by decide +kernel
theorem dJ2_getChars_ba4f3_4 : decode cJ2_getChars_ba4f3 4 = .ok (.ifCond .ge 7, 3) := by decide +kernel
theorem dJ2_getChars_ba4f3_7 : decode cJ2_getChars_ba4f3 7 = .ok (.iconst 1, 1) := by decide +kernel
theorem dJ2_getChars_ba4f3_8 : decode cJ2_getChars_ba4f3 8 = .ok (.goto 4, 3) := by decide +kernel
theorem dJ2_getChars_ba4f3_11 : decode cJ2_getChars_ba4f3 11 = .ok (.iconst 0, 1) := by decide +kernel
theorem dJ2_getChars_ba4f3_12 : decode cJ2_getChars_ba4f3 12 = .ok (.istore 6, 2) := by decide +kernel
theorem dJ2_getChars_ba4f3_14 : decode cJ2_getChars_ba4f3 14 = .ok (.iload 6, 2) := by decide +kernel
theorem dJ2_getChars_ba4f3_16 : decode cJ2_getChars_ba4f3 16 = .ok (.ifCond .ne 6, 3) := by decide +kernel
theorem dJ2_getChars_ba4f3_19 : decode cJ2_getChars_ba4f3 19 = .ok (.iload_n 0, 1) := by decide +kernel
theorem dJ2_getChars_ba4f3_20 : decode cJ2_getChars_ba4f3 20 = .ok (.ineg, 1) := by decide +kernel
theorem dJ2_getChars_ba4f3_21 : decode cJ2_getChars_ba4f3 21 = .ok (.istore_n 0, 1) := by decide +kernel
theorem dJ2_getChars_ba4f3_22 : decode cJ2_getChars_ba4f3 22 = .ok (.iload_n 0, 1) := by decide +kernel
theorem dJ2_getChars_ba4f3_23 : decode cJ2_getChars_ba4f3 23 = .ok (.bipush (-100), 2) := by decide +kernel
theorem dJ2_getChars_ba4f3_25 : decode cJ2_getChars_ba4f3 25 = .ok (.if_icmp .gt 51, 3) := by decide +kernel
theorem dJ2_getChars_ba4f3_28 : decode cJ2_getChars_ba4f3 28 = .ok (.iload_n 0, 1) := by decide +kernel
theorem dJ2_getChars_ba4f3_29 : decode cJ2_getChars_ba4f3 29 = .ok (.bipush 100, 2) := by decide +kernel
theorem dJ2_getChars_ba4f3_31 : decode cJ2_getChars_ba4f3 31 = .ok (.idiv, 1) := by decide +kernel
theorem dJ2_getChars_ba4f3_32 : decode cJ2_getChars_ba4f3 32 = .ok (.istore_n 3, 1) := by decide +kernel
theorem dJ2_getChars_ba4f3_33 : decode cJ2_getChars_ba4f3 33 = .ok (.iload_n 3, 1) := by decide +kernel
theorem dJ2_getChars_ba4f3_34 : decode cJ2_getChars_ba4f3 34 = .ok (.bipush 100, 2) := by decide +kernel
theorem dJ2_getChars_ba4f3_36 : decode cJ2_getChars_ba4f3 36 = .ok (.imul, 1) := by decide +kernel
theorem dJ2_getChars_ba4f3_37 : decode cJ2_getChars_ba4f3 37 = .ok (.iload_n 0, 1) := by decide +kernel
theorem dJ2_getChars_ba4f3_38 : decode cJ2_getChars_ba4f3 38 = .ok (.isub, 1) := by decide +kernel
theorem dJ2_getChars_ba4f3_39 : decode cJ2_getChars_ba4f3 39 = .ok (.istore 4, 2) := by decide +kernel
theorem dJ2_getChars_ba4f3_41 : decode cJ2_getChars_ba4f3 41 = .ok (.iload_n 3, 1) := by decide +kernel
theorem dJ2_getChars_ba4f3_42 : decode cJ2_getChars_ba4f3 42 = .ok (.istore_n 0, 1) := by decide +kernel
theorem dJ2_getChars_ba4f3_43 : decode cJ2_getChars_ba4f3 43 = .ok (.aload_n 2, 1) := by decide +kernel
theorem dJ2_getChars_ba4f3_44 : decode cJ2_getChars_ba4f3 44 = .ok (.iinc 5 (-1), 3) := by decide +kernel
theorem dJ2_getChars_ba4f3_47 : decode cJ2_getChars_ba4f3 47 = .ok (.iload 5, 2) := by decide +kernel
theorem dJ2_getChars_ba4f3_49 : decode cJ2_getChars_ba4f3 49 = .ok (.getstatic 403, 3) := by decide +kernel
theorem dJ2_getChars_ba4f3_52 : decode cJ2_getChars_ba4f3 52 = .ok (.iload 4, 2) := by decide +kernel
theorem dJ2_getChars_ba4f3_54 : decode cJ2_getChars_ba4f3 54 = .ok (.baload, 1) := by decide +kernel
theorem dJ2_getChars_ba4f3_55 : decode cJ2_getChars_ba4f3 55 = .ok (.invokestatic 111, 3) := by decide +kernel
theorem dJ2_getChars_ba4f3_58 : decode cJ2_getChars_ba4f3 58 = .ok (.aload_n 2, 1) := by decide +kernel
theorem dJ2_getChars_ba4f3_59 : decode cJ2_getChars_ba4f3 59 = .ok (.iinc 5 (-1), 3) := by decide +kernel
theorem dJ2_getChars_ba4f3_62 : decode cJ2_getChars_ba4f3 62 = .ok (.iload 5, 2) := by decide +kernel
theorem dJ2_getChars_ba4f3_64 : decode cJ2_getChars_ba4f3 64 = .ok (.getstatic 407, 3) := by decide +kernel
theorem dJ2_getChars_ba4f3_67 : decode cJ2_getChars_ba4f3 67 = .ok (.iload 4, 2) := by decide +kernel
theorem dJ2_getChars_ba4f3_69 : decode cJ2_getChars_ba4f3 69 = .ok (.baload, 1) := by decide +kernel
theorem dJ2_getChars_ba4f3_70 : decode cJ2_getChars_ba4f3 70 = .ok (.invokestatic 111, 3) := by decide +kernel
theorem dJ2_getChars_ba4f3_73 : decode cJ2_getChars_ba4f3 73 = .ok (.goto (-51), 3) := by decide +kernel
theorem dJ2_getChars_ba4f3_76 : decode cJ2_getChars_ba4f3 76 = .ok (.aload_n 2, 1) := by decide +kernel
theorem dJ2_getChars_ba4f3_77 : decode cJ2_getChars_ba4f3 77 = .ok (.iinc 5 (-1), 3) := by decide +kernel
theorem dJ2_getChars_ba4f3_80 : decode cJ2_getChars_ba4f3 80 = .ok (.iload 5, 2) := by decide +kernel
theorem dJ2_getChars_ba4f3_82 : decode cJ2_getChars_ba4f3 82 = .ok (.getstatic 403, 3) := by decide +kernel
theorem dJ2_getChars_ba4f3_85 : decode cJ2_getChars_ba4f3 85 = .ok (.iload_n 0, 1) := by decide +kernel
theorem dJ2_getChars_ba4f3_86 : decode cJ2_getChars_ba4f3 86 = .ok (.ineg, 1) := by decide +kernel
theorem dJ2_getChars_ba4f3_87 : decode cJ2_getChars_ba4f3 87 = .ok (.baload, 1) := by decide +kernel
theorem dJ2_getChars_ba4f3_88 : decode cJ2_getChars_ba4f3 88 = .ok (.invokestatic 111, 3) := by decide +kernel
theorem dJ2_getChars_ba4f3_91 : decode cJ2_getChars_ba4f3 91 = .ok (.iload_n 0, 1) := by decide +kernel
theorem dJ2_getChars_ba4f3_92 : decode cJ2_getChars_ba4f3 92 = .ok (.bipush (-9), 2) := by decide +kernel
theorem dJ2_getChars_ba4f3_94 : decode cJ2_getChars_ba4f3 94 = .ok (.if_icmp .ge 18, 3) := by decide +kernel
theorem dJ2_getChars_ba4f3_97 : decode cJ2_getChars_ba4f3 97 = .ok (.aload_n 2, 1) := by decide +kernel
theorem dJ2_getChars_ba4f3_98 : decode cJ2_getChars_ba4f3 98 = .ok (.iinc 5 (-1), 3) := by decide +kernel
theorem dJ2_getChars_ba4f3_101 : decode cJ2_getChars_ba4f3 101 = .ok (.iload 5, 2) := by decide +kernel
theorem dJ2_getChars_ba4f3_103 : decode cJ2_getChars_ba4f3 103 = .ok (.getstatic 407, 3) := by decide +kernel
theorem dJ2_getChars_ba4f3_106 : decode cJ2_getChars_ba4f3 106 = .ok (.iload_n 0, 1) := by decide +kernel
theorem dJ2_getChars_ba4f3_107 : decode cJ2_getChars_ba4f3 107 = .ok (.ineg, 1) := by decide +kernel
theorem dJ2_getChars_ba4f3_108 : decode cJ2_getChars_ba4f3 108 = .ok (.baload, 1) := by decide +kernel
theorem dJ2_getChars_ba4f3_109 : decode cJ2_getChars_ba4f3 109 = .ok (.invokestatic 111, 3) := by decide +kernel
theorem dJ2_getChars_ba4f3_112 : decode cJ2_getChars_ba4f3 112 = .ok (.iload 6, 2) := by decide +kernel
theorem dJ2_getChars_ba4f3_114 : decode cJ2_getChars_ba4f3 114 = .ok (.ifCond .eq 14, 3) := by decide +kernel
theorem dJ2_getChars_ba4f3_117 : decode cJ2_getChars_ba4f3 117 = .ok (.aload_n 2, 1) := by decide +kernel
theorem dJ2_getChars_ba4f3_118 : decode cJ2_getChars_ba4f3 118 = .ok (.iinc 5 (-1), 3) := by decide +kernel
theorem dJ2_getChars_ba4f3_121 : decode cJ2_getChars_ba4f3 121 = .ok (.iload 5, 2) := by decide +kernel
theorem dJ2_getChars_ba4f3_123 : decode cJ2_getChars_ba4f3 123 = .ok (.bipush 45, 2) := by decide +kernel
theorem dJ2_getChars_ba4f3_125 : decode cJ2_getChars_ba4f3 125 = .ok (.invokestatic 111, 3) := by decide +kernel
theorem dJ2_getChars_ba4f3_128 : decode cJ2_getChars_ba4f3 128 = .ok (.iload 5, 2) := by decide +kernel
theorem dJ2_getChars_ba4f3_130 : decode cJ2_getChars_ba4f3 130 = .ok (.ireturn, 1) := by decide +kernel
theorem dJ2_checkIndex_2214a_0 : decode cJ2_checkIndex_2214a 0 = .ok (.iload_n 0, 1) := by decide +kernel
theorem dJ2_checkIndex_2214a_1 : decode cJ2_checkIndex_2214a 1 = .ok (.aload_n 1, 1) := by decide +kernel
theorem dJ2_checkIndex_2214a_2 : decode cJ2_checkIndex_2214a 2 = .ok (.invokestatic 48, 3) := by decide +kernel
theorem dJ2_checkIndex_2214a_5 : decode cJ2_checkIndex_2214a 5 = .ok (.invokestatic 414, 3) := by decide +kernel
theorem dJ2_checkIndex_2214a_8 : decode cJ2_checkIndex_2214a 8 = .ok (.return_, 1) := by decide +kernel
theorem dJ2_checkBoundsBeginEnd_d044e_0 : decode cJ2_checkBoundsBeginEnd_d044e 0 = .ok (.iload_n 0, 1) := by decide +kernel
theorem dJ2_checkBoundsBeginEnd_d044e_1 : decode cJ2_checkBoundsBeginEnd_d044e 1 = .ok (.iload_n 1, 1) := by decide +kernel
theorem dJ2_checkBoundsBeginEnd_d044e_2 : decode cJ2_checkBoundsBeginEnd_d044e 2 = .ok (.aload_n 2, 1) := by decide +kernel
theorem dJ2_checkBoundsBeginEnd_d044e_3 : decode cJ2_checkBoundsBeginEnd_d044e 3 = .ok (.invokestatic 48, 3) := by decide +kernel
theorem dJ2_checkBoundsBeginEnd_d044e_6 : decode cJ2_checkBoundsBeginEnd_d044e 6 = .ok (.invokestatic 241, 3) := by decide +kernel
theorem dJ2_checkBoundsBeginEnd_d044e_9 : decode cJ2_checkBoundsBeginEnd_d044e 9 = .ok (.return_, 1) := by decide +kernel
theorem dJ2_checkBoundsOffCount_d044e_0 : decode cJ2_checkBoundsOffCount_d044e 0 = .ok (.iload_n 0, 1) := by decide +kernel
theorem dJ2_checkBoundsOffCount_d044e_1 : decode cJ2_checkBoundsOffCount_d044e 1 = .ok (.iload_n 1, 1) := by decide +kernel
theorem dJ2_checkBoundsOffCount_d044e_2 : decode cJ2_checkBoundsOffCount_d044e 2 = .ok (.aload_n 2, 1) := by decide +kernel
theorem dJ2_checkBoundsOffCount_d044e_3 : decode cJ2_checkBoundsOffCount_d044e 3 = .ok (.invokestatic 48, 3) := by decide +kernel
theorem dJ2_checkBoundsOffCount_d044e_6 : decode cJ2_checkBoundsOffCount_d044e 6 = .ok (.invokestatic 419, 3) := by decide +kernel
theorem dJ2_checkBoundsOffCount_d044e_9 : decode cJ2_checkBoundsOffCount_d044e 9 = .ok (.pop, 1) := by decide +kernel
theorem dJ2_checkBoundsOffCount_d044e_10 : decode cJ2_checkBoundsOffCount_d044e 10 = .ok (.return_, 1) := by decide +kernel
theorem dJ7_rangeCheck_23922_0 : decode cJ7_rangeCheck_23922 0 = .ok (.iload_n 1, 1) := by decide +kernel
theorem dJ7_rangeCheck_23922_1 : decode cJ7_rangeCheck_23922 1 = .ok (.iload_n 2, 1) := by decide +kernel
theorem dJ7_rangeCheck_23922_2 : decode cJ7_rangeCheck_23922 2 = .ok (.if_icmp .le 44, 3) := by decide +kernel
theorem dJ7_rangeCheck_23922_5 : decode cJ7_rangeCheck_23922 5 = .ok (.new 43, 3) := by decide +kernel
theorem dJ7_rangeCheck_23922_8 : decode cJ7_rangeCheck_23922 8 = .ok (.dup, 1) := by decide +kernel
theorem dJ7_rangeCheck_23922_9 : decode cJ7_rangeCheck_23922 9 = .ok (.new 45, 3) := by decide +kernel
theorem dJ7_rangeCheck_23922_12 : decode cJ7_rangeCheck_23922 12 = .ok (.dup, 1) := by decide +kernel
theorem dJ7_rangeCheck_23922_13 : decode cJ7_rangeCheck_23922 13 = .ok (.invokespecial 47, 3) := by decide +kernel
theorem dJ7_rangeCheck_23922_16 : decode cJ7_rangeCheck_23922 16 = .ok (.ldc 48, 2) := by decide +kernel
theorem dJ7_rangeCheck_23922_18 : decode cJ7_rangeCheck_23922 18 = .ok (.invokevirtual 50, 3) := by decide +kernel
theorem dJ7_rangeCheck_23922_21 : decode cJ7_rangeCheck_23922 21 = .ok (.iload_n 1, 1) := by decide +kernel
theorem dJ7_rangeCheck_23922_22 : decode cJ7_rangeCheck_23922 22 = .ok (.invokevirtual 54, 3) := by decide +kernel
theorem dJ7_rangeCheck_23922_25 : decode cJ7_rangeCheck_23922 25 = .ok (.ldc 57, 2) := by decide +kernel
theorem dJ7_rangeCheck_23922_27 : decode cJ7_rangeCheck_23922 27 = .ok (.invokevirtual 50, 3) := by decide +kernel
theorem dJ7_rangeCheck_23922_30 : decode cJ7_rangeCheck_23922 30 = .ok (.iload_n 2, 1) := by decide +kernel
theorem dJ7_rangeCheck_23922_31 : decode cJ7_rangeCheck_23922 31 = .ok (.invokevirtual 54, 3) := by decide +kernel
theorem dJ7_rangeCheck_23922_34 : decode cJ7_rangeCheck_23922 34 = .ok (.ldc 59, 2) := by decide +kernel
theorem dJ7_rangeCheck_23922_36 : decode cJ7_rangeCheck_23922 36 = .ok (.invokevirtual 50, 3) := by decide +kernel
theorem dJ7_rangeCheck_23922_39 : decode cJ7_rangeCheck_23922 39 = .ok (.invokevirtual 61, 3) := by decide +kernel
theorem dJ7_rangeCheck_23922_42 : decode cJ7_rangeCheck_23922 42 = .ok (.invokespecial 65, 3) := by decide +kernel
theorem dJ7_rangeCheck_23922_45 : decode cJ7_rangeCheck_23922 45 = .ok (.athrow, 1) := by decide +kernel
theorem dJ7_rangeCheck_23922_46 : decode cJ7_rangeCheck_23922 46 = .ok (.iload_n 1, 1) := by decide +kernel
theorem dJ7_rangeCheck_23922_47 : decode cJ7_rangeCheck_23922 47 = .ok (.ifCond .ge 12, 3) := by decide +kernel
theorem dJ7_rangeCheck_23922_50 : decode cJ7_rangeCheck_23922 50 = .ok (.new 68, 3) := by decide +kernel
theorem dJ7_rangeCheck_23922_53 : decode cJ7_rangeCheck_23922 53 = .ok (.dup, 1) := by decide +kernel
theorem dJ7_rangeCheck_23922_54 : decode cJ7_rangeCheck_23922 54 = .ok (.iload_n 1, 1) := by decide +kernel
theorem dJ7_rangeCheck_23922_55 : decode cJ7_rangeCheck_23922 55 = .ok (.invokespecial 70, 3) := by decide +kernel
theorem dJ7_rangeCheck_23922_58 : decode cJ7_rangeCheck_23922 58 = .ok (.athrow, 1) := by decide +kernel
theorem dJ7_rangeCheck_23922_59 : decode cJ7_rangeCheck_23922 59 = .ok (.iload_n 2, 1) := by decide +kernel
theorem dJ7_rangeCheck_23922_60 : decode cJ7_rangeCheck_23922 60 = .ok (.iload_n 0, 1) := by decide +kernel
theorem dJ7_rangeCheck_23922_61 : decode cJ7_rangeCheck_23922 61 = .ok (.if_icmp .le 12, 3) := by decide +kernel
theorem dJ7_rangeCheck_23922_64 : decode cJ7_rangeCheck_23922 64 = .ok (.new 68, 3) := by decide +kernel
theorem dJ7_rangeCheck_23922_67 : decode cJ7_rangeCheck_23922 67 = .ok (.dup, 1) := by decide +kernel
theorem dJ7_rangeCheck_23922_68 : decode cJ7_rangeCheck_23922 68 = .ok (.iload_n 2, 1) := by decide +kernel
theorem dJ7_rangeCheck_23922_69 : decode cJ7_rangeCheck_23922 69 = .ok (.invokespecial 70, 3) := by decide +kernel
theorem dJ7_rangeCheck_23922_72 : decode cJ7_rangeCheck_23922 72 = .ok (.athrow, 1) := by decide +kernel
theorem dJ7_rangeCheck_23922_73 : decode cJ7_rangeCheck_23922 73 = .ok (.return_, 1) := by decide +kernel
theorem dJ7_fill_eb02e_0 : decode cJ7_fill_eb02e 0 = .ok (.aload_n 0, 1) := by decide +kernel
theorem dJ7_fill_eb02e_1 : decode cJ7_fill_eb02e 1 = .ok (.arraylength, 1) := by decide +kernel
theorem dJ7_fill_eb02e_2 : decode cJ7_fill_eb02e 2 = .ok (.iload_n 1, 1) := by decide +kernel
theorem dJ7_fill_eb02e_3 : decode cJ7_fill_eb02e 3 = .ok (.iload_n 2, 1) := by decide +kernel
theorem dJ7_fill_eb02e_4 : decode cJ7_fill_eb02e 4 = .ok (.invokestatic 13, 3) := by decide +kernel
theorem dJ7_fill_eb02e_7 : decode cJ7_fill_eb02e 7 = .ok (.iload_n 1, 1) := by decide +kernel
theorem dJ7_fill_eb02e_8 : decode cJ7_fill_eb02e 8 = .ok (.istore 4, 2) := by decide +kernel
theorem dJ7_fill_eb02e_10 : decode cJ7_fill_eb02e 10 = .ok (.iload 4, 2) := by decide +kernel
theorem dJ7_fill_eb02e_12 : decode cJ7_fill_eb02e 12 = .ok (.iload_n 2, 1) := by decide +kernel
theorem dJ7_fill_eb02e_13 : decode cJ7_fill_eb02e 13 = .ok (.if_icmp .ge 14, 3) := by decide +kernel
theorem dJ7_fill_eb02e_16 : decode cJ7_fill_eb02e 16 = .ok (.aload_n 0, 1) := by decide +kernel
theorem dJ7_fill_eb02e_17 : decode cJ7_fill_eb02e 17 = .ok (.iload 4, 2) := by decide +kernel
theorem dJ7_fill_eb02e_19 : decode cJ7_fill_eb02e 19 = .ok (.iload_n 3, 1) := by decide +kernel
theorem dJ7_fill_eb02e_20 : decode cJ7_fill_eb02e 20 = .ok (.bastore, 1) := by decide +kernel
theorem dJ7_fill_eb02e_21 : decode cJ7_fill_eb02e 21 = .ok (.iinc 4 1, 3) := by decide +kernel
theorem dJ7_fill_eb02e_24 : decode cJ7_fill_eb02e 24 = .ok (.goto (-14), 3) := by decide +kernel
theorem dJ7_fill_eb02e_27 : decode cJ7_fill_eb02e 27 = .ok (.return_, 1) := by decide +kernel
theorem dJ7_copyOf_9075b_0 : decode cJ7_copyOf_9075b 0 = .ok (.iload_n 1, 1) := by decide +kernel
theorem dJ7_copyOf_9075b_1 : decode cJ7_copyOf_9075b 1 = .ok (.aload_n 0, 1) := by decide +kernel
theorem dJ7_copyOf_9075b_2 : decode cJ7_copyOf_9075b 2 = .ok (.arraylength, 1) := by decide +kernel
theorem dJ7_copyOf_9075b_3 : decode cJ7_copyOf_9075b 3 = .ok (.if_icmp .ne 11, 3) := by decide +kernel
theorem dJ7_copyOf_9075b_6 : decode cJ7_copyOf_9075b 6 = .ok (.aload_n 0, 1) := by decide +kernel
theorem dJ7_copyOf_9075b_7 : decode cJ7_copyOf_9075b 7 = .ok (.invokevirtual 310, 3) := by decide +kernel
theorem dJ7_copyOf_9075b_10 : decode cJ7_copyOf_9075b 10 = .ok (.checkcast 311, 3) := by decide +kernel
theorem dJ7_copyOf_9075b_13 : decode cJ7_copyOf_9075b 13 = .ok (.areturn, 1) := by decide +kernel
theorem dJ7_copyOf_9075b_14 : decode cJ7_copyOf_9075b 14 = .ok (.iload_n 1, 1) := by decide +kernel
theorem dJ7_copyOf_9075b_15 : decode cJ7_copyOf_9075b 15 = .ok (.newarray .byte, 2) := by decide +kernel
theorem dJ7_copyOf_9075b_17 : decode cJ7_copyOf_9075b 17 = .ok (.astore_n 2, 1) := by decide +kernel
theorem dJ7_copyOf_9075b_18 : decode cJ7_copyOf_9075b 18 = .ok (.aload_n 0, 1) := by decide +kernel
theorem dJ7_copyOf_9075b_19 : decode cJ7_copyOf_9075b 19 = .ok (.iconst 0, 1) := by decide +kernel
theorem dJ7_copyOf_9075b_20 : decode cJ7_copyOf_9075b 20 = .ok (.aload_n 2, 1) := by decide +kernel
theorem dJ7_copyOf_9075b_21 : decode cJ7_copyOf_9075b 21 = .ok (.iconst 0, 1) := by decide +kernel
theorem dJ7_copyOf_9075b_22 : decode cJ7_copyOf_9075b 22 = .ok (.aload_n 0, 1) := by decide +kernel
theorem dJ7_copyOf_9075b_23 : decode cJ7_copyOf_9075b 23 = .ok (.arraylength, 1) := by decide +kernel
theorem dJ7_copyOf_9075b_24 : decode cJ7_copyOf_9075b 24 = .ok (.iload_n 1, 1) := by decide +kernel
theorem dJ7_copyOf_9075b_25 : decode cJ7_copyOf_9075b 25 = .ok (.invokestatic 304, 3) := by decide +kernel
theorem dJ7_copyOf_9075b_28 : decode cJ7_copyOf_9075b 28 = .ok (.invokestatic 150, 3) := by decide +kernel
theorem dJ7_copyOf_9075b_31 : decode cJ7_copyOf_9075b 31 = .ok (.aload_n 2, 1) := by decide +kernel
theorem dJ7_copyOf_9075b_32 : decode cJ7_copyOf_9075b 32 = .ok (.areturn, 1) := by decide +kernel
theorem dJ7_checkLength_df160_0 : decode cJ7_checkLength_df160 0 = .ok (.iload_n 1, 1) := by decide +kernel
theorem dJ7_checkLength_df160_1 : decode cJ7_checkLength_df160 1 = .ok (.iload_n 0, 1) := by decide +kernel
theorem dJ7_checkLength_df160_2 : decode cJ7_checkLength_df160 2 = .ok (.if_icmp .ge 35, 3) := by decide +kernel
theorem dJ7_checkLength_df160_5 : decode cJ7_checkLength_df160 5 = .ok (.new 43, 3) := by decide +kernel
theorem dJ7_checkLength_df160_8 : decode cJ7_checkLength_df160 8 = .ok (.dup, 1) := by decide +kernel
theorem dJ7_checkLength_df160_9 : decode cJ7_checkLength_df160 9 = .ok (.new 45, 3) := by decide +kernel
theorem dJ7_checkLength_df160_12 : decode cJ7_checkLength_df160 12 = .ok (.dup, 1) := by decide +kernel
theorem dJ7_checkLength_df160_13 : decode cJ7_checkLength_df160 13 = .ok (.invokespecial 47, 3) := by decide +kernel
theorem dJ7_checkLength_df160_16 : decode cJ7_checkLength_df160 16 = .ok (.iload_n 0, 1) := by decide +kernel
theorem dJ7_checkLength_df160_17 : decode cJ7_checkLength_df160 17 = .ok (.invokevirtual 54, 3) := by decide +kernel
theorem dJ7_checkLength_df160_20 : decode cJ7_checkLength_df160 20 = .ok (.ldc_w 337, 3) := by decide +kernel
theorem dJ7_checkLength_df160_23 : decode cJ7_checkLength_df160 23 = .ok (.invokevirtual 50, 3) := by decide +kernel
theorem dJ7_checkLength_df160_26 : decode cJ7_checkLength_df160 26 = .ok (.iload_n 1, 1) := by decide +kernel
theorem dJ7_checkLength_df160_27 : decode cJ7_checkLength_df160 27 = .ok (.invokevirtual 54, 3) := by decide +kernel
theorem dJ7_checkLength_df160_30 : decode cJ7_checkLength_df160 30 = .ok (.invokevirtual 61, 3) := by decide +kernel
theorem dJ7_checkLength_df160_33 : decode cJ7_checkLength_df160 33 = .ok (.invokespecial 65, 3) := by decide +kernel
theorem dJ7_checkLength_df160_36 : decode cJ7_checkLength_df160 36 = .ok (.athrow, 1) := by decide +kernel
theorem dJ7_checkLength_df160_37 : decode cJ7_checkLength_df160 37 = .ok (.return_, 1) := by decide +kernel
theorem dJ7_copyOfRange_39247_0 : decode cJ7_copyOfRange_39247 0 = .ok (.iload_n 1, 1) := by decide +kernel
theorem dJ7_copyOfRange_39247_1 : decode cJ7_copyOfRange_39247 1 = .ok (.ifCond .ne 9, 3) := by decide +kernel
theorem dJ7_copyOfRange_39247_4 : decode cJ7_copyOfRange_39247 4 = .ok (.iload_n 2, 1) := by decide +kernel
theorem dJ7_copyOfRange_39247_5 : decode cJ7_copyOfRange_39247 5 = .ok (.aload_n 0, 1) := by decide +kernel
theorem dJ7_copyOfRange_39247_6 : decode cJ7_copyOfRange_39247 6 = .ok (.arraylength, 1) := by decide +kernel
theorem dJ7_copyOfRange_39247_7 : decode cJ7_copyOfRange_39247 7 = .ok (.if_icmp .eq 10, 3) := by decide +kernel
theorem dJ7_copyOfRange_39247_10 : decode cJ7_copyOfRange_39247 10 = .ok (.aload_n 0, 1) := by decide +kernel
theorem dJ7_copyOfRange_39247_11 : decode cJ7_copyOfRange_39247 11 = .ok (.iload_n 1, 1) := by decide +kernel
theorem dJ7_copyOfRange_39247_12 : decode cJ7_copyOfRange_39247 12 = .ok (.iload_n 2, 1) := by decide +kernel
theorem dJ7_copyOfRange_39247_13 : decode cJ7_copyOfRange_39247 13 = .ok (.invokestatic 339, 3) := by decide +kernel
theorem dJ7_copyOfRange_39247_16 : decode cJ7_copyOfRange_39247 16 = .ok (.areturn, 1) := by decide +kernel
theorem dJ7_copyOfRange_39247_17 : decode cJ7_copyOfRange_39247 17 = .ok (.aload_n 0, 1) := by decide +kernel
theorem dJ7_copyOfRange_39247_18 : decode cJ7_copyOfRange_39247 18 = .ok (.invokevirtual 310, 3) := by decide +kernel
theorem dJ7_copyOfRange_39247_21 : decode cJ7_copyOfRange_39247 21 = .ok (.checkcast 311, 3) := by decide +kernel
theorem dJ7_copyOfRange_39247_24 : decode cJ7_copyOfRange_39247 24 = .ok (.areturn, 1) := by decide +kernel
theorem dJ7_copyOfRangeByte_39247_0 : decode cJ7_copyOfRangeByte_39247 0 = .ok (.iload_n 1, 1) := by decide +kernel
theorem dJ7_copyOfRangeByte_39247_1 : decode cJ7_copyOfRangeByte_39247 1 = .ok (.iload_n 2, 1) := by decide +kernel
theorem dJ7_copyOfRangeByte_39247_2 : decode cJ7_copyOfRangeByte_39247 2 = .ok (.invokestatic 343, 3) := by decide +kernel
theorem dJ7_copyOfRangeByte_39247_5 : decode cJ7_copyOfRangeByte_39247 5 = .ok (.iload_n 2, 1) := by decide +kernel
theorem dJ7_copyOfRangeByte_39247_6 : decode cJ7_copyOfRangeByte_39247 6 = .ok (.iload_n 1, 1) := by decide +kernel
theorem dJ7_copyOfRangeByte_39247_7 : decode cJ7_copyOfRangeByte_39247 7 = .ok (.isub, 1) := by decide +kernel
theorem dJ7_copyOfRangeByte_39247_8 : decode cJ7_copyOfRangeByte_39247 8 = .ok (.istore_n 3, 1) := by decide +kernel
theorem dJ7_copyOfRangeByte_39247_9 : decode cJ7_copyOfRangeByte_39247 9 = .ok (.iload_n 3, 1) := by decide +kernel
theorem dJ7_copyOfRangeByte_39247_10 : decode cJ7_copyOfRangeByte_39247 10 = .ok (.newarray .byte, 2) := by decide +kernel
theorem dJ7_copyOfRangeByte_39247_12 : decode cJ7_copyOfRangeByte_39247 12 = .ok (.astore 4, 2) := by decide +kernel
theorem dJ7_copyOfRangeByte_39247_14 : decode cJ7_copyOfRangeByte_39247 14 = .ok (.aload_n 0, 1) := by decide +kernel
theorem dJ7_copyOfRangeByte_39247_15 : decode cJ7_copyOfRangeByte_39247 15 = .ok (.iload_n 1, 1) := by decide +kernel
theorem dJ7_copyOfRangeByte_39247_16 : decode cJ7_copyOfRangeByte_39247 16 = .ok (.aload 4, 2) := by decide +kernel
theorem dJ7_copyOfRangeByte_39247_18 : decode cJ7_copyOfRangeByte_39247 18 = .ok (.iconst 0, 1) := by decide +kernel
theorem dJ7_copyOfRangeByte_39247_19 : decode cJ7_copyOfRangeByte_39247 19 = .ok (.aload_n 0, 1) := by decide +kernel
theorem dJ7_copyOfRangeByte_39247_20 : decode cJ7_copyOfRangeByte_39247 20 = .ok (.arraylength, 1) := by decide +kernel
theorem dJ7_copyOfRangeByte_39247_21 : decode cJ7_copyOfRangeByte_39247 21 = .ok (.iload_n 1, 1) := by decide +kernel
theorem dJ7_copyOfRangeByte_39247_22 : decode cJ7_copyOfRangeByte_39247 22 = .ok (.isub, 1) := by decide +kernel
theorem dJ7_copyOfRangeByte_39247_23 : decode cJ7_copyOfRangeByte_39247 23 = .ok (.iload_n 3, 1) := by decide +kernel
theorem dJ7_copyOfRangeByte_39247_24 : decode cJ7_copyOfRangeByte_39247 24 = .ok (.invokestatic 304, 3) := by decide +kernel
theorem dJ7_copyOfRangeByte_39247_27 : decode cJ7_copyOfRangeByte_39247 27 = .ok (.invokestatic 150, 3) := by decide +kernel
theorem dJ7_copyOfRangeByte_39247_30 : decode cJ7_copyOfRangeByte_39247 30 = .ok (.aload 4, 2) := by decide +kernel
theorem dJ7_copyOfRangeByte_39247_32 : decode cJ7_copyOfRangeByte_39247 32 = .ok (.areturn, 1) := by decide +kernel
theorem dJ8_newLength_cabcc_0 : decode cJ8_newLength_cabcc 0 = .ok (.iload_n 0, 1) := by decide +kernel
theorem dJ8_newLength_cabcc_1 : decode cJ8_newLength_cabcc 1 = .ok (.iload_n 1, 1) := by decide +kernel
theorem dJ8_newLength_cabcc_2 : decode cJ8_newLength_cabcc 2 = .ok (.iload_n 2, 1) := by decide +kernel
theorem dJ8_newLength_cabcc_3 : decode cJ8_newLength_cabcc 3 = .ok (.invokestatic 194, 3) := by decide +kernel
theorem dJ8_newLength_cabcc_6 : decode cJ8_newLength_cabcc 6 = .ok (.iadd, 1) := by decide +kernel
theorem dJ8_newLength_cabcc_7 : decode cJ8_newLength_cabcc 7 = .ok (.istore_n 3, 1) := by decide +kernel
theorem dJ8_newLength_cabcc_8 : decode cJ8_newLength_cabcc 8 = .ok (.iconst 0, 1) := by decide +kernel
theorem dJ8_newLength_cabcc_9 : decode cJ8_newLength_cabcc 9 = .ok (.iload_n 3, 1) := by decide +kernel
theorem dJ8_newLength_cabcc_10 : decode cJ8_newLength_cabcc 10 = .ok (.if_icmp .ge 11, 3) := by decide +kernel
theorem dJ8_newLength_cabcc_13 : decode cJ8_newLength_cabcc 13 = .ok (.iload_n 3, 1) := by decide +kernel
theorem dJ8_newLength_cabcc_14 : decode cJ8_newLength_cabcc 14 = .ok (.ldc 200, 2) := by decide +kernel
theorem dJ8_newLength_cabcc_16 : decode cJ8_newLength_cabcc 16 = .ok (.if_icmp .gt 5, 3) := by decide +kernel
theorem dJ8_newLength_cabcc_19 : decode cJ8_newLength_cabcc 19 = .ok (.iload_n 3, 1) := by decide +kernel
theorem dJ8_newLength_cabcc_20 : decode cJ8_newLength_cabcc 20 = .ok (.ireturn, 1) := by decide +kernel
theorem dJ8_newLength_cabcc_21 : decode cJ8_newLength_cabcc 21 = .ok (.iload_n 0, 1) := by decide +kernel
theorem dJ8_newLength_cabcc_22 : decode cJ8_newLength_cabcc 22 = .ok (.iload_n 1, 1) := by decide +kernel
theorem dJ8_newLength_cabcc_23 : decode cJ8_newLength_cabcc 23 = .ok (.invokestatic 201, 3) := by decide +kernel
theorem dJ8_newLength_cabcc_26 : decode cJ8_newLength_cabcc 26 = .ok (.ireturn, 1) := by decide +kernel
theorem dJ8_hugeLength_7cf53_0 : decode cJ8_hugeLength_7cf53 0 = .ok (.iload_n 0, 1) := by decide +kernel
theorem dJ8_hugeLength_7cf53_1 : decode cJ8_hugeLength_7cf53 1 = .ok (.iload_n 1, 1) := by decide +kernel
theorem dJ8_hugeLength_7cf53_2 : decode cJ8_hugeLength_7cf53 2 = .ok (.iadd, 1) := by decide +kernel
theorem dJ8_hugeLength_7cf53_3 : decode cJ8_hugeLength_7cf53 3 = .ok (.istore_n 2, 1) := by decide +kernel
theorem dJ8_hugeLength_7cf53_4 : decode cJ8_hugeLength_7cf53 4 = .ok (.iload_n 2, 1) := by decide +kernel
theorem dJ8_hugeLength_7cf53_5 : decode cJ8_hugeLength_7cf53 5 = .ok (.ifCond .ge 44, 3) := by decide +kernel
theorem dJ8_hugeLength_7cf53_8 : decode cJ8_hugeLength_7cf53 8 = .ok (.new 204, 3) := by decide +kernel
theorem dJ8_hugeLength_7cf53_11 : decode cJ8_hugeLength_7cf53 11 = .ok (.dup, 1) := by decide +kernel
theorem dJ8_hugeLength_7cf53_12 : decode cJ8_hugeLength_7cf53 12 = .ok (.new 89, 3) := by decide +kernel
theorem dJ8_hugeLength_7cf53_15 : decode cJ8_hugeLength_7cf53 15 = .ok (.dup, 1) := by decide +kernel
theorem dJ8_hugeLength_7cf53_16 : decode cJ8_hugeLength_7cf53 16 = .ok (.invokespecial 91, 3) := by decide +kernel
theorem dJ8_hugeLength_7cf53_19 : decode cJ8_hugeLength_7cf53 19 = .ok (.ldc 206, 2) := by decide +kernel
theorem dJ8_hugeLength_7cf53_21 : decode cJ8_hugeLength_7cf53 21 = .ok (.invokevirtual 94, 3) := by decide +kernel
theorem dJ8_hugeLength_7cf53_24 : decode cJ8_hugeLength_7cf53 24 = .ok (.iload_n 0, 1) := by decide +kernel
theorem dJ8_hugeLength_7cf53_25 : decode cJ8_hugeLength_7cf53 25 = .ok (.invokevirtual 98, 3) := by decide +kernel
theorem dJ8_hugeLength_7cf53_28 : decode cJ8_hugeLength_7cf53 28 = .ok (.ldc 208, 2) := by decide +kernel
theorem dJ8_hugeLength_7cf53_30 : decode cJ8_hugeLength_7cf53 30 = .ok (.invokevirtual 94, 3) := by decide +kernel
theorem dJ8_hugeLength_7cf53_33 : decode cJ8_hugeLength_7cf53 33 = .ok (.iload_n 1, 1) := by decide +kernel
theorem dJ8_hugeLength_7cf53_34 : decode cJ8_hugeLength_7cf53 34 = .ok (.invokevirtual 98, 3) := by decide +kernel
theorem dJ8_hugeLength_7cf53_37 : decode cJ8_hugeLength_7cf53 37 = .ok (.ldc 210, 2) := by decide +kernel
theorem dJ8_hugeLength_7cf53_39 : decode cJ8_hugeLength_7cf53 39 = .ok (.invokevirtual 94, 3) := by decide +kernel
theorem dJ8_hugeLength_7cf53_42 : decode cJ8_hugeLength_7cf53 42 = .ok (.invokevirtual 101, 3) := by decide +kernel
theorem dJ8_hugeLength_7cf53_45 : decode cJ8_hugeLength_7cf53 45 = .ok (.invokespecial 212, 3) := by decide +kernel
theorem dJ8_hugeLength_7cf53_48 : decode cJ8_hugeLength_7cf53 48 = .ok (.athrow, 1) := by decide +kernel
theorem dJ8_hugeLength_7cf53_49 : decode cJ8_hugeLength_7cf53 49 = .ok (.iload_n 2, 1) := by decide +kernel
theorem dJ8_hugeLength_7cf53_50 : decode cJ8_hugeLength_7cf53 50 = .ok (.ldc 200, 2) := by decide +kernel
theorem dJ8_hugeLength_7cf53_52 : decode cJ8_hugeLength_7cf53 52 = .ok (.if_icmp .gt 6, 3) := by decide +kernel
theorem dJ8_hugeLength_7cf53_55 : decode cJ8_hugeLength_7cf53 55 = .ok (.ldc 200, 2) := by decide +kernel
theorem dJ8_hugeLength_7cf53_57 : decode cJ8_hugeLength_7cf53 57 = .ok (.ireturn, 1) := by decide +kernel
theorem dJ8_hugeLength_7cf53_58 : decode cJ8_hugeLength_7cf53 58 = .ok (.iload_n 2, 1) := by decide +kernel
theorem dJ8_hugeLength_7cf53_59 : decode cJ8_hugeLength_7cf53 59 = .ok (.ireturn, 1) := by decide +kernel
theorem dJ3_checkIndex_8e157_0 : decode cJ3_checkIndex_8e157 0 = .ok (.iload_n 0, 1) := by decide +kernel
theorem dJ3_checkIndex_8e157_1 : decode cJ3_checkIndex_8e157 1 = .ok (.ifCond .lt 8, 3) := by decide +kernel
theorem dJ3_checkIndex_8e157_4 : decode cJ3_checkIndex_8e157 4 = .ok (.iload_n 0, 1) := by decide +kernel
theorem dJ3_checkIndex_8e157_5 : decode cJ3_checkIndex_8e157 5 = .ok (.iload_n 1, 1) := by decide +kernel
theorem dJ3_checkIndex_8e157_6 : decode cJ3_checkIndex_8e157 6 = .ok (.if_icmp .lt 10, 3) := by decide +kernel
theorem dJ3_checkIndex_8e157_9 : decode cJ3_checkIndex_8e157 9 = .ok (.aload_n 2, 1) := by decide +kernel
theorem dJ3_checkIndex_8e157_10 : decode cJ3_checkIndex_8e157 10 = .ok (.iload_n 0, 1) := by decide +kernel
theorem dJ3_checkIndex_8e157_11 : decode cJ3_checkIndex_8e157 11 = .ok (.iload_n 1, 1) := by decide +kernel
theorem dJ3_checkIndex_8e157_12 : decode cJ3_checkIndex_8e157 12 = .ok (.invokestatic 95, 3) := by decide +kernel
theorem dJ3_checkIndex_8e157_15 : decode cJ3_checkIndex_8e157 15 = .ok (.athrow, 1) := by decide +kernel
theorem dJ3_checkIndex_8e157_16 : decode cJ3_checkIndex_8e157 16 = .ok (.iload_n 0, 1) := by decide +kernel
theorem dJ3_checkIndex_8e157_17 : decode cJ3_checkIndex_8e157 17 = .ok (.ireturn, 1) := by decide +kernel
theorem dJ3_checkFromToIndex_8c36e_0 : decode cJ3_checkFromToIndex_8c36e 0 = .ok (.iload_n 0, 1) := by decide +kernel
theorem dJ3_checkFromToIndex_8c36e_1 : decode cJ3_checkFromToIndex_8c36e 1 = .ok (.ifCond .lt 13, 3) := by decide +kernel
theorem dJ3_checkFromToIndex_8c36e_4 : decode cJ3_checkFromToIndex_8c36e 4 = .ok (.iload_n 0, 1) := by decide +kernel
theorem dJ3_checkFromToIndex_8c36e_5 : decode cJ3_checkFromToIndex_8c36e 5 = .ok (.iload_n 1, 1) := by decide +kernel
theorem dJ3_checkFromToIndex_8c36e_6 : decode cJ3_checkFromToIndex_8c36e 6 = .ok (.if_icmp .gt 8, 3) := by decide +kernel
theorem dJ3_checkFromToIndex_8c36e_9 : decode cJ3_checkFromToIndex_8c36e 9 = .ok (.iload_n 1, 1) := by decide +kernel
theorem dJ3_checkFromToIndex_8c36e_10 : decode cJ3_checkFromToIndex_8c36e 10 = .ok (.iload_n 2, 1) := by decide +kernel
theorem dJ3_checkFromToIndex_8c36e_11 : decode cJ3_checkFromToIndex_8c36e 11 = .ok (.if_icmp .le 11, 3) := by decide +kernel
theorem dJ3_checkFromToIndex_8c36e_14 : decode cJ3_checkFromToIndex_8c36e 14 = .ok (.aload_n 3, 1) := by decide +kernel
theorem dJ3_checkFromToIndex_8c36e_15 : decode cJ3_checkFromToIndex_8c36e 15 = .ok (.iload_n 0, 1) := by decide +kernel
theorem dJ3_checkFromToIndex_8c36e_16 : decode cJ3_checkFromToIndex_8c36e 16 = .ok (.iload_n 1, 1) := by decide +kernel
theorem dJ3_checkFromToIndex_8c36e_17 : decode cJ3_checkFromToIndex_8c36e 17 = .ok (.iload_n 2, 1) := by decide +kernel
theorem dJ3_checkFromToIndex_8c36e_18 : decode cJ3_checkFromToIndex_8c36e 18 = .ok (.invokestatic 99, 3) := by decide +kernel
theorem dJ3_checkFromToIndex_8c36e_21 : decode cJ3_checkFromToIndex_8c36e 21 = .ok (.athrow, 1) := by decide +kernel
theorem dJ3_checkFromToIndex_8c36e_22 : decode cJ3_checkFromToIndex_8c36e 22 = .ok (.iload_n 0, 1) := by decide +kernel
theorem dJ3_checkFromToIndex_8c36e_23 : decode cJ3_checkFromToIndex_8c36e 23 = .ok (.ireturn, 1) := by decide +kernel
theorem dJ3_checkFromIndexSize_8c36e_0 : decode cJ3_checkFromIndexSize_8c36e 0 = .ok (.iload_n 2, 1) := by decide +kernel
theorem dJ3_checkFromIndexSize_8c36e_1 : decode cJ3_checkFromIndexSize_8c36e 1 = .ok (.iload_n 0, 1) := by decide +kernel
theorem dJ3_checkFromIndexSize_8c36e_2 : decode cJ3_checkFromIndexSize_8c36e 2 = .ok (.ior, 1) := by decide +kernel
theorem dJ3_checkFromIndexSize_8c36e_3 : decode cJ3_checkFromIndexSize_8c36e 3 = .ok (.iload_n 1, 1) := by decide +kernel
theorem dJ3_checkFromIndexSize_8c36e_4 : decode cJ3_checkFromIndexSize_8c36e 4 = .ok (.ior, 1) := by decide +kernel
theorem dJ3_checkFromIndexSize_8c36e_5 : decode cJ3_checkFromIndexSize_8c36e 5 = .ok (.ifCond .lt 10, 3) := by decide +kernel
theorem dJ3_checkFromIndexSize_8c36e_8 : decode cJ3_checkFromIndexSize_8c36e 8 = .ok (.iload_n 1, 1) := by decide +kernel
theorem dJ3_checkFromIndexSize_8c36e_9 : decode cJ3_checkFromIndexSize_8c36e 9 = .ok (.iload_n 2, 1) := by decide +kernel
theorem dJ3_checkFromIndexSize_8c36e_10 : decode cJ3_checkFromIndexSize_8c36e 10 = .ok (.iload_n 0, 1) := by decide +kernel
theorem dJ3_checkFromIndexSize_8c36e_11 : decode cJ3_checkFromIndexSize_8c36e 11 = .ok (.isub, 1) := by decide +kernel
theorem dJ3_checkFromIndexSize_8c36e_12 : decode cJ3_checkFromIndexSize_8c36e 12 = .ok (.if_icmp .le 11, 3) := by decide +kernel
theorem dJ3_checkFromIndexSize_8c36e_15 : decode cJ3_checkFromIndexSize_8c36e 15 = .ok (.aload_n 3, 1) := by decide +kernel
theorem dJ3_checkFromIndexSize_8c36e_16 : decode cJ3_checkFromIndexSize_8c36e 16 = .ok (.iload_n 0, 1) := by decide +kernel
theorem dJ3_checkFromIndexSize_8c36e_17 : decode cJ3_checkFromIndexSize_8c36e 17 = .ok (.iload_n 1, 1) := by decide +kernel
theorem dJ3_checkFromIndexSize_8c36e_18 : decode cJ3_checkFromIndexSize_8c36e 18 = .ok (.iload_n 2, 1) := by decide +kernel
theorem dJ3_checkFromIndexSize_8c36e_19 : decode cJ3_checkFromIndexSize_8c36e 19 = .ok (.invokestatic 103, 3) := by decide +kernel
theorem dJ3_checkFromIndexSize_8c36e_22 : decode cJ3_checkFromIndexSize_8c36e 22 = .ok (.athrow, 1) := by decide +kernel
theorem dJ3_checkFromIndexSize_8c36e_23 : decode cJ3_checkFromIndexSize_8c36e 23 = .ok (.iload_n 0, 1) := by decide +kernel
theorem dJ3_checkFromIndexSize_8c36e_24 : decode cJ3_checkFromIndexSize_8c36e 24 = .ok (.ireturn, 1) := by decide +kernel
end
