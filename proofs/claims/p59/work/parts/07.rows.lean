section JRows
variable {γ : Gm} {μ : Mu} {R : Room} {Q : Fin_} {k n pc : Nat} {L : List (Option Value)} {rest : List Value} {P : Heap → Prop}
/-- what is known of the heap may be forgotten, or said otherwise -/
theorem J.of {st : List Value} {P' : Heap → Prop} (h : ∀ H, P H → P' H) (kk : J γ μ R Q k n pc L st P') : J γ μ R Q k n pc L st P :=
  fun p l e s m args below meth c B H locs ls hL hP hS => kk p l e s m args below meth c B H locs ls hL (h H hP) hS
theorem J.and {st : List Value} {φ : Prop} (kk : φ → J γ μ R Q k n pc L st P) : J γ μ R Q k n pc L st (fun H => φ ∧ P H) :=
  fun p l e s m args below meth c B H locs ls hL hP hS => kk hP.1 p l e s m args below meth c B H locs ls hL hP.2 hS
theorem J.ex {st : List Value} {α : Sort _} {F : α → Heap → Prop} (kk : ∀ a, J γ μ R Q k n pc L st (F a)) : J γ μ R Q k n pc L st (fun H => ∃ a, F a H) :=
  fun p l e s m args below meth c B H locs ls hL hP hS => by
    obtain ⟨a, ha⟩ := hP
    exact kk a p l e s m args below meth c B H locs ls hL ha hS
theorem J.widen {st : List Value} {k' n' : Nat} (h1 : k ≤ k') (h2 : n ≤ n') (kk : J γ μ R Q k' n' pc L st P) : J γ μ R Q k n pc L st P :=
  fun p l e s m args below meth c B H locs ls hL hP hS => W.widen h1 h2 (kk p l e s m args below meth c B H locs ls hL hP hS)
/-- other locals: each that is known was known -/
theorem J.locals {st : List Value} {L' : List (Option Value)} (h : ∀ (i : Nat) (v : Value), L'[i]? = some (some v) → L[i]? = some (some v)) (kk : J γ μ R Q k n pc L' st P) : J γ μ R Q k n pc L st P :=
  fun p l e s m args below meth c B H locs ls hL hP hS => kk p l e s m args below meth c B H locs ls ⟨hL.1, hL.2.1, fun i v hi => hL.2.2 i v (h i v hi)⟩ hP hS
theorem J.iconst {x : Int} {v : Int32} (d : decode μ.2.1 pc = .ok (.iconst x, 1)) (hv : Int32.ofInt x = v) (kk : J γ μ R Q k n (pc + 1) L (.int v :: rest) P) : J γ μ R Q k n pc L (rest) P :=
  fun p l e s m args below meth c B H locs ls hL hP hS => lv_iconst B.1 B.2.1 d hv (kk p l e s m args below meth c B H locs ls hL hP hS)
theorem J.bipush {x : Int} {v : Int32} (d : decode μ.2.1 pc = .ok (.bipush x, 2)) (hv : (Int8.ofInt x).toInt32 = v) (kk : J γ μ R Q k n (pc + 2) L (.int v :: rest) P) : J γ μ R Q k n pc L (rest) P :=
  fun p l e s m args below meth c B H locs ls hL hP hS => lv_bipush B.1 B.2.1 d hv (kk p l e s m args below meth c B H locs ls hL hP hS)
theorem J.sipush {x : Int} {v : Int32} (d : decode μ.2.1 pc = .ok (.sipush x, 3)) (hv : (Int16.ofInt x).toInt32 = v) (kk : J γ μ R Q k n (pc + 3) L (.int v :: rest) P) : J γ μ R Q k n pc L (rest) P :=
  fun p l e s m args below meth c B H locs ls hL hP hS => lv_sipush B.1 B.2.1 d hv (kk p l e s m args below meth c B H locs ls hL hP hS)
theorem J.iload_n {j : Fin 4} {x : Int32} (d : decode μ.2.1 pc = .ok (.iload_n j, 1)) (hl : L[(j : Nat)]? = some (some (.int x))) (kk : J γ μ R Q k n (pc + 1) L (.int x :: rest) P) : J γ μ R Q k n pc L (rest) P :=
  fun p l e s m args below meth c B H locs ls hL hP hS => lv_iload_n B.1 B.2.1 d rfl (hL.2.2 _ _ hl) (kk p l e s m args below meth c B H locs ls hL hP hS)
theorem J.iload {j : Nat} {x : Int32} (d : decode μ.2.1 pc = .ok (.iload j, 2)) (hl : L[j]? = some (some (.int x))) (kk : J γ μ R Q k n (pc + 2) L (.int x :: rest) P) : J γ μ R Q k n pc L (rest) P :=
  fun p l e s m args below meth c B H locs ls hL hP hS => lv_iload B.1 B.2.1 d (hL.2.2 _ _ hl) (kk p l e s m args below meth c B H locs ls hL hP hS)
theorem J.lload_n {j : Fin 4} {x : Int64} (d : decode μ.2.1 pc = .ok (.lload_n j, 1)) (hl : L[(j : Nat)]? = some (some (.long x))) (kk : J γ μ R Q k n (pc + 1) L (.long x :: rest) P) : J γ μ R Q k n pc L (rest) P :=
  fun p l e s m args below meth c B H locs ls hL hP hS => lv_lload_n B.1 B.2.1 d rfl (hL.2.2 _ _ hl) (kk p l e s m args below meth c B H locs ls hL hP hS)
theorem J.lload {j : Nat} {x : Int64} (d : decode μ.2.1 pc = .ok (.lload j, 2)) (hl : L[j]? = some (some (.long x))) (kk : J γ μ R Q k n (pc + 2) L (.long x :: rest) P) : J γ μ R Q k n pc L (rest) P :=
  fun p l e s m args below meth c B H locs ls hL hP hS => lv_lload B.1 B.2.1 d (hL.2.2 _ _ hl) (kk p l e s m args below meth c B H locs ls hL hP hS)
theorem J.fload_n {j : Fin 4} {x : UInt32} (d : decode μ.2.1 pc = .ok (.fload_n j, 1)) (hl : L[(j : Nat)]? = some (some (.float x))) (kk : J γ μ R Q k n (pc + 1) L (.float x :: rest) P) : J γ μ R Q k n pc L (rest) P :=
  fun p l e s m args below meth c B H locs ls hL hP hS => lv_fload_n B.1 B.2.1 d rfl (hL.2.2 _ _ hl) (kk p l e s m args below meth c B H locs ls hL hP hS)
theorem J.dload_n {j : Fin 4} {x : UInt64} (d : decode μ.2.1 pc = .ok (.dload_n j, 1)) (hl : L[(j : Nat)]? = some (some (.double x))) (kk : J γ μ R Q k n (pc + 1) L (.double x :: rest) P) : J γ μ R Q k n pc L (rest) P :=
  fun p l e s m args below meth c B H locs ls hL hP hS => lv_dload_n B.1 B.2.1 d rfl (hL.2.2 _ _ hl) (kk p l e s m args below meth c B H locs ls hL hP hS)
theorem J.aload_n {j : Fin 4} {a : Nat} (d : decode μ.2.1 pc = .ok (.aload_n j, 1)) (hl : L[(j : Nat)]? = some (some (.ref a))) (kk : J γ μ R Q k n (pc + 1) L (.ref a :: rest) P) : J γ μ R Q k n pc L (rest) P :=
  fun p l e s m args below meth c B H locs ls hL hP hS => lv_aload_n B.1 B.2.1 d rfl (hL.2.2 _ _ hl) (kk p l e s m args below meth c B H locs ls hL hP hS)
theorem J.aload {j : Nat} {a : Nat} (d : decode μ.2.1 pc = .ok (.aload j, 2)) (hl : L[j]? = some (some (.ref a))) (kk : J γ μ R Q k n (pc + 2) L (.ref a :: rest) P) : J γ μ R Q k n pc L (rest) P :=
  fun p l e s m args below meth c B H locs ls hL hP hS => lv_aload B.1 B.2.1 d (hL.2.2 _ _ hl) (kk p l e s m args below meth c B H locs ls hL hP hS)
theorem J.iadd {x y : Int32} (d : decode μ.2.1 pc = .ok (.iadd, 1)) (kk : J γ μ R Q k n (pc + 1) L (.int (x + y) :: rest) P) : J γ μ R Q k n pc L (.int y :: .int x :: rest) P :=
  fun p l e s m args below meth c B H locs ls hL hP hS => lv_iadd B.1 B.2.1 d (kk p l e s m args below meth c B H locs ls hL hP hS)
theorem J.isub {x y : Int32} (d : decode μ.2.1 pc = .ok (.isub, 1)) (kk : J γ μ R Q k n (pc + 1) L (.int (x - y) :: rest) P) : J γ μ R Q k n pc L (.int y :: .int x :: rest) P :=
  fun p l e s m args below meth c B H locs ls hL hP hS => lv_isub B.1 B.2.1 d (kk p l e s m args below meth c B H locs ls hL hP hS)
theorem J.imul {x y : Int32} (d : decode μ.2.1 pc = .ok (.imul, 1)) (kk : J γ μ R Q k n (pc + 1) L (.int (x * y) :: rest) P) : J γ μ R Q k n pc L (.int y :: .int x :: rest) P :=
  fun p l e s m args below meth c B H locs ls hL hP hS => lv_imul B.1 B.2.1 d (kk p l e s m args below meth c B H locs ls hL hP hS)
theorem J.iand {x y : Int32} (d : decode μ.2.1 pc = .ok (.iand, 1)) (kk : J γ μ R Q k n (pc + 1) L (.int (x &&& y) :: rest) P) : J γ μ R Q k n pc L (.int y :: .int x :: rest) P :=
  fun p l e s m args below meth c B H locs ls hL hP hS => lv_iand B.1 B.2.1 d (kk p l e s m args below meth c B H locs ls hL hP hS)
theorem J.ior {x y : Int32} (d : decode μ.2.1 pc = .ok (.ior, 1)) (kk : J γ μ R Q k n (pc + 1) L (.int (x ||| y) :: rest) P) : J γ μ R Q k n pc L (.int y :: .int x :: rest) P :=
  fun p l e s m args below meth c B H locs ls hL hP hS => lv_ior B.1 B.2.1 d (kk p l e s m args below meth c B H locs ls hL hP hS)
theorem J.ixor {x y : Int32} (d : decode μ.2.1 pc = .ok (.ixor, 1)) (kk : J γ μ R Q k n (pc + 1) L (.int (x ^^^ y) :: rest) P) : J γ μ R Q k n pc L (.int y :: .int x :: rest) P :=
  fun p l e s m args below meth c B H locs ls hL hP hS => lv_ixor B.1 B.2.1 d (kk p l e s m args below meth c B H locs ls hL hP hS)
theorem J.ishl {x y : Int32} (d : decode μ.2.1 pc = .ok (.ishl, 1)) (kk : J γ μ R Q k n (pc + 1) L (.int (x <<< (y &&& 31)) :: rest) P) : J γ μ R Q k n pc L (.int y :: .int x :: rest) P :=
  fun p l e s m args below meth c B H locs ls hL hP hS => lv_ishl B.1 B.2.1 d (kk p l e s m args below meth c B H locs ls hL hP hS)
theorem J.ishr {x y : Int32} (d : decode μ.2.1 pc = .ok (.ishr, 1)) (kk : J γ μ R Q k n (pc + 1) L (.int (x >>> (y &&& 31)) :: rest) P) : J γ μ R Q k n pc L (.int y :: .int x :: rest) P :=
  fun p l e s m args below meth c B H locs ls hL hP hS => lv_ishr B.1 B.2.1 d (kk p l e s m args below meth c B H locs ls hL hP hS)
theorem J.iushr {x y : Int32} (d : decode μ.2.1 pc = .ok (.iushr, 1)) (kk : J γ μ R Q k n (pc + 1) L (.int ((x.toUInt32 >>> (y.toUInt32 &&& Int32.toUInt32 31)).toInt32) :: rest) P) : J γ μ R Q k n pc L (.int y :: .int x :: rest) P :=
  fun p l e s m args below meth c B H locs ls hL hP hS => lv_iushr B.1 B.2.1 d rfl (kk p l e s m args below meth c B H locs ls hL hP hS)
theorem J.ineg {x : Int32} (d : decode μ.2.1 pc = .ok (.ineg, 1)) (kk : J γ μ R Q k n (pc + 1) L (.int (-x) :: rest) P) : J γ μ R Q k n pc L (.int x :: rest) P :=
  fun p l e s m args below meth c B H locs ls hL hP hS => lv_ineg B.1 B.2.1 d (kk p l e s m args below meth c B H locs ls hL hP hS)
theorem J.idiv {x y : Int32} (d : decode μ.2.1 pc = .ok (.idiv, 1)) (hne : ¬ y = 0) (kk : J γ μ R Q k n (pc + 1) L (.int (x / y) :: rest) P) : J γ μ R Q k n pc L (.int y :: .int x :: rest) P :=
  fun p l e s m args below meth c B H locs ls hL hP hS => lv_idiv B.1 B.2.1 d hne (kk p l e s m args below meth c B H locs ls hL hP hS)
theorem J.irem {x y : Int32} (d : decode μ.2.1 pc = .ok (.irem, 1)) (hne : ¬ y = 0) (kk : J γ μ R Q k n (pc + 1) L (.int (x - x / y * y) :: rest) P) : J γ μ R Q k n pc L (.int y :: .int x :: rest) P :=
  fun p l e s m args below meth c B H locs ls hL hP hS => lv_irem B.1 B.2.1 d hne (kk p l e s m args below meth c B H locs ls hL hP hS)
theorem J.ladd {x y : Int64} (d : decode μ.2.1 pc = .ok (.ladd, 1)) (kk : J γ μ R Q k n (pc + 1) L (.long (x + y) :: rest) P) : J γ μ R Q k n pc L (.long y :: .long x :: rest) P :=
  fun p l e s m args below meth c B H locs ls hL hP hS => lv_ladd B.1 B.2.1 d (kk p l e s m args below meth c B H locs ls hL hP hS)
theorem J.lmul {x y : Int64} (d : decode μ.2.1 pc = .ok (.lmul, 1)) (kk : J γ μ R Q k n (pc + 1) L (.long (x * y) :: rest) P) : J γ μ R Q k n pc L (.long y :: .long x :: rest) P :=
  fun p l e s m args below meth c B H locs ls hL hP hS => lv_lmul B.1 B.2.1 d (kk p l e s m args below meth c B H locs ls hL hP hS)
theorem J.i2l {x : Int32} (d : decode μ.2.1 pc = .ok (.i2l, 1)) (kk : J γ μ R Q k n (pc + 1) L (.long x.toInt64 :: rest) P) : J γ μ R Q k n pc L (.int x :: rest) P :=
  fun p l e s m args below meth c B H locs ls hL hP hS => lv_i2l B.1 B.2.1 d rfl (kk p l e s m args below meth c B H locs ls hL hP hS)
theorem J.i2b {x : Int32} (d : decode μ.2.1 pc = .ok (.i2b, 1)) (kk : J γ μ R Q k n (pc + 1) L (.int x.toInt8.toInt32 :: rest) P) : J γ μ R Q k n pc L (.int x :: rest) P :=
  fun p l e s m args below meth c B H locs ls hL hP hS => lv_i2b B.1 B.2.1 d rfl (kk p l e s m args below meth c B H locs ls hL hP hS)
theorem J.i2c {x : Int32} (d : decode μ.2.1 pc = .ok (.i2c, 1)) (kk : J γ μ R Q k n (pc + 1) L (.int (x.toUInt32 % 65536).toInt32 :: rest) P) : J γ μ R Q k n pc L (.int x :: rest) P :=
  fun p l e s m args below meth c B H locs ls hL hP hS => lv_i2c B.1 B.2.1 d rfl (kk p l e s m args below meth c B H locs ls hL hP hS)
theorem J.dup {v : Value} (d : decode μ.2.1 pc = .ok (.dup, 1)) (hv : v.category = 1) (kk : J γ μ R Q k n (pc + 1) L (v :: v :: rest) P) : J γ μ R Q k n pc L (v :: rest) P :=
  fun p l e s m args below meth c B H locs ls hL hP hS => lv_dup B.1 B.2.1 d hv (kk p l e s m args below meth c B H locs ls hL hP hS)
theorem J.pop {v : Value} (d : decode μ.2.1 pc = .ok (.pop, 1)) (hv : v.category = 1) (kk : J γ μ R Q k n (pc + 1) L (rest) P) : J γ μ R Q k n pc L (v :: rest) P :=
  fun p l e s m args below meth c B H locs ls hL hP hS => lv_pop B.1 B.2.1 d hv (kk p l e s m args below meth c B H locs ls hL hP hS)
theorem J.dup_x1 {v w : Value} (d : decode μ.2.1 pc = .ok (.dup_x1, 1)) (hv : v.category = 1) (hw : w.category = 1) (kk : J γ μ R Q k n (pc + 1) L (v :: w :: v :: rest) P) : J γ μ R Q k n pc L (v :: w :: rest) P :=
  fun p l e s m args below meth c B H locs ls hL hP hS => lv_dup_x1 B.1 B.2.1 d hv hw (kk p l e s m args below meth c B H locs ls hL hP hS)
theorem J.if_eq {x : Int32} {off : Int} (tgt : Nat) (d : decode μ.2.1 pc = .ok (.ifCond .eq off, 3)) (ht : (pc : Int) + off = (tgt : Int)) (kt : x = 0 → J γ μ R Q k n tgt L rest P) (kf : ¬ x = 0 → J γ μ R Q k n (pc + 3) L rest P) : J γ μ R Q k n pc L (.int x :: rest) P :=
  fun p l e s m args below meth c B H locs ls hL hP hS => lv_if_eq B.1 B.2.1 d ht (fun h => kt h p l e s m args below meth c B H locs ls hL hP hS) (fun h => kf h p l e s m args below meth c B H locs ls hL hP hS)
theorem J.icmp_eq {x y : Int32} {off : Int} (tgt : Nat) (d : decode μ.2.1 pc = .ok (.if_icmp .eq off, 3)) (ht : (pc : Int) + off = (tgt : Int)) (kt : x = y → J γ μ R Q k n tgt L rest P) (kf : ¬ x = y → J γ μ R Q k n (pc + 3) L rest P) : J γ μ R Q k n pc L (.int y :: .int x :: rest) P :=
  fun p l e s m args below meth c B H locs ls hL hP hS => lv_icmp_eq B.1 B.2.1 d ht (fun h => kt h p l e s m args below meth c B H locs ls hL hP hS) (fun h => kf h p l e s m args below meth c B H locs ls hL hP hS)
theorem J.if_ne {x : Int32} {off : Int} (tgt : Nat) (d : decode μ.2.1 pc = .ok (.ifCond .ne off, 3)) (ht : (pc : Int) + off = (tgt : Int)) (kt : ¬ x = 0 → J γ μ R Q k n tgt L rest P) (kf : x = 0 → J γ μ R Q k n (pc + 3) L rest P) : J γ μ R Q k n pc L (.int x :: rest) P :=
  fun p l e s m args below meth c B H locs ls hL hP hS => lv_if_ne B.1 B.2.1 d ht (fun h => kt h p l e s m args below meth c B H locs ls hL hP hS) (fun h => kf h p l e s m args below meth c B H locs ls hL hP hS)
theorem J.icmp_ne {x y : Int32} {off : Int} (tgt : Nat) (d : decode μ.2.1 pc = .ok (.if_icmp .ne off, 3)) (ht : (pc : Int) + off = (tgt : Int)) (kt : ¬ x = y → J γ μ R Q k n tgt L rest P) (kf : x = y → J γ μ R Q k n (pc + 3) L rest P) : J γ μ R Q k n pc L (.int y :: .int x :: rest) P :=
  fun p l e s m args below meth c B H locs ls hL hP hS => lv_icmp_ne B.1 B.2.1 d ht (fun h => kt h p l e s m args below meth c B H locs ls hL hP hS) (fun h => kf h p l e s m args below meth c B H locs ls hL hP hS)
theorem J.if_lt {x : Int32} {off : Int} (tgt : Nat) (d : decode μ.2.1 pc = .ok (.ifCond .lt off, 3)) (ht : (pc : Int) + off = (tgt : Int)) (kt : x < 0 → J γ μ R Q k n tgt L rest P) (kf : 0 ≤ x → J γ μ R Q k n (pc + 3) L rest P) : J γ μ R Q k n pc L (.int x :: rest) P :=
  fun p l e s m args below meth c B H locs ls hL hP hS => lv_if_lt B.1 B.2.1 d ht (fun h => kt h p l e s m args below meth c B H locs ls hL hP hS) (fun h => kf (Int32.not_lt.mp h) p l e s m args below meth c B H locs ls hL hP hS)
theorem J.icmp_lt {x y : Int32} {off : Int} (tgt : Nat) (d : decode μ.2.1 pc = .ok (.if_icmp .lt off, 3)) (ht : (pc : Int) + off = (tgt : Int)) (kt : x < y → J γ μ R Q k n tgt L rest P) (kf : y ≤ x → J γ μ R Q k n (pc + 3) L rest P) : J γ μ R Q k n pc L (.int y :: .int x :: rest) P :=
  fun p l e s m args below meth c B H locs ls hL hP hS => lv_icmp_lt B.1 B.2.1 d ht (fun h => kt h p l e s m args below meth c B H locs ls hL hP hS) (fun h => kf (Int32.not_lt.mp h) p l e s m args below meth c B H locs ls hL hP hS)
theorem J.if_ge {x : Int32} {off : Int} (tgt : Nat) (d : decode μ.2.1 pc = .ok (.ifCond .ge off, 3)) (ht : (pc : Int) + off = (tgt : Int)) (kt : 0 ≤ x → J γ μ R Q k n tgt L rest P) (kf : x < 0 → J γ μ R Q k n (pc + 3) L rest P) : J γ μ R Q k n pc L (.int x :: rest) P :=
  fun p l e s m args below meth c B H locs ls hL hP hS => lv_if_ge B.1 B.2.1 d ht (fun h => kt h p l e s m args below meth c B H locs ls hL hP hS) (fun h => kf (Int32.not_le.mp h) p l e s m args below meth c B H locs ls hL hP hS)
theorem J.icmp_ge {x y : Int32} {off : Int} (tgt : Nat) (d : decode μ.2.1 pc = .ok (.if_icmp .ge off, 3)) (ht : (pc : Int) + off = (tgt : Int)) (kt : y ≤ x → J γ μ R Q k n tgt L rest P) (kf : x < y → J γ μ R Q k n (pc + 3) L rest P) : J γ μ R Q k n pc L (.int y :: .int x :: rest) P :=
  fun p l e s m args below meth c B H locs ls hL hP hS => lv_icmp_ge B.1 B.2.1 d ht (fun h => kt h p l e s m args below meth c B H locs ls hL hP hS) (fun h => kf (Int32.not_le.mp h) p l e s m args below meth c B H locs ls hL hP hS)
theorem J.if_gt {x : Int32} {off : Int} (tgt : Nat) (d : decode μ.2.1 pc = .ok (.ifCond .gt off, 3)) (ht : (pc : Int) + off = (tgt : Int)) (kt : 0 < x → J γ μ R Q k n tgt L rest P) (kf : x ≤ 0 → J γ μ R Q k n (pc + 3) L rest P) : J γ μ R Q k n pc L (.int x :: rest) P :=
  fun p l e s m args below meth c B H locs ls hL hP hS => lv_if_gt B.1 B.2.1 d ht (fun h => kt h p l e s m args below meth c B H locs ls hL hP hS) (fun h => kf (Int32.not_lt.mp h) p l e s m args below meth c B H locs ls hL hP hS)
theorem J.icmp_gt {x y : Int32} {off : Int} (tgt : Nat) (d : decode μ.2.1 pc = .ok (.if_icmp .gt off, 3)) (ht : (pc : Int) + off = (tgt : Int)) (kt : y < x → J γ μ R Q k n tgt L rest P) (kf : x ≤ y → J γ μ R Q k n (pc + 3) L rest P) : J γ μ R Q k n pc L (.int y :: .int x :: rest) P :=
  fun p l e s m args below meth c B H locs ls hL hP hS => lv_icmp_gt B.1 B.2.1 d ht (fun h => kt h p l e s m args below meth c B H locs ls hL hP hS) (fun h => kf (Int32.not_lt.mp h) p l e s m args below meth c B H locs ls hL hP hS)
theorem J.if_le {x : Int32} {off : Int} (tgt : Nat) (d : decode μ.2.1 pc = .ok (.ifCond .le off, 3)) (ht : (pc : Int) + off = (tgt : Int)) (kt : x ≤ 0 → J γ μ R Q k n tgt L rest P) (kf : 0 < x → J γ μ R Q k n (pc + 3) L rest P) : J γ μ R Q k n pc L (.int x :: rest) P :=
  fun p l e s m args below meth c B H locs ls hL hP hS => lv_if_le B.1 B.2.1 d ht (fun h => kt h p l e s m args below meth c B H locs ls hL hP hS) (fun h => kf (Int32.not_le.mp h) p l e s m args below meth c B H locs ls hL hP hS)
theorem J.icmp_le {x y : Int32} {off : Int} (tgt : Nat) (d : decode μ.2.1 pc = .ok (.if_icmp .le off, 3)) (ht : (pc : Int) + off = (tgt : Int)) (kt : x ≤ y → J γ μ R Q k n tgt L rest P) (kf : y < x → J γ μ R Q k n (pc + 3) L rest P) : J γ μ R Q k n pc L (.int y :: .int x :: rest) P :=
  fun p l e s m args below meth c B H locs ls hL hP hS => lv_icmp_le B.1 B.2.1 d ht (fun h => kt h p l e s m args below meth c B H locs ls hL hP hS) (fun h => kf (Int32.not_le.mp h) p l e s m args below meth c B H locs ls hL hP hS)
theorem J.goto {off : Int} {st : List Value} (tgt : Nat) (d : decode μ.2.1 pc = .ok (.goto off, 3)) (ht : (pc : Int) + off = (tgt : Int)) (kk : J γ μ R Q k n tgt L st P) : J γ μ R Q k n pc L st P :=
  fun p l e s m args below meth c B H locs ls hL hP hS => lv_goto B.1 B.2.1 d ht (kk p l e s m args below meth c B H locs ls hL hP hS)
theorem J.istore_n {j : Fin 4} {x : Int32} (d : decode μ.2.1 pc = .ok (.istore_n j, 1)) (hn : (j : Nat) < μ.2.2.1) (hc : nc2 L (j : Nat) = true) (kk : J γ μ R Q k n (pc + 1) (L.set (j : Nat) (some (.int x))) rest P) : J γ μ R Q k n pc L (.int x :: rest) P :=
  fun p l e s m args below meth c B H locs ls hL hP hS => lv_istore_n B.1 B.2.1 d rfl hL.has hn rfl (fun ls' h' => kk p l e s m args below meth c B H locs ls' (Lo.set1 h' hc) hP hS)
theorem J.istore {j : Nat} {x : Int32} (d : decode μ.2.1 pc = .ok (.istore j, 2)) (hn : j < μ.2.2.1) (hc : nc2 L j = true) (kk : J γ μ R Q k n (pc + 2) (L.set j (some (.int x))) rest P) : J γ μ R Q k n pc L (.int x :: rest) P :=
  fun p l e s m args below meth c B H locs ls hL hP hS => lv_istore B.1 B.2.1 d hL.has hn rfl (fun ls' h' => kk p l e s m args below meth c B H locs ls' (Lo.set1 h' hc) hP hS)
theorem J.astore_n {j : Fin 4} {x : Nat} (d : decode μ.2.1 pc = .ok (.astore_n j, 1)) (hn : (j : Nat) < μ.2.2.1) (hc : nc2 L (j : Nat) = true) (kk : J γ μ R Q k n (pc + 1) (L.set (j : Nat) (some (.ref x))) rest P) : J γ μ R Q k n pc L (.ref x :: rest) P :=
  fun p l e s m args below meth c B H locs ls hL hP hS => lv_astore_n B.1 B.2.1 d rfl hL.has hn rfl (fun ls' h' => kk p l e s m args below meth c B H locs ls' (Lo.set1 h' hc) hP hS)
theorem J.astore {j : Nat} {x : Nat} (d : decode μ.2.1 pc = .ok (.astore j, 2)) (hn : j < μ.2.2.1) (hc : nc2 L j = true) (kk : J γ μ R Q k n (pc + 2) (L.set j (some (.ref x))) rest P) : J γ μ R Q k n pc L (.ref x :: rest) P :=
  fun p l e s m args below meth c B H locs ls hL hP hS => lv_astore B.1 B.2.1 d hL.has hn rfl (fun ls' h' => kk p l e s m args below meth c B H locs ls' (Lo.set1 h' hc) hP hS)
theorem J.fstore_n {j : Fin 4} {x : UInt32} (d : decode μ.2.1 pc = .ok (.fstore_n j, 1)) (hn : (j : Nat) < μ.2.2.1) (hc : nc2 L (j : Nat) = true) (kk : J γ μ R Q k n (pc + 1) (L.set (j : Nat) (some (.float x))) rest P) : J γ μ R Q k n pc L (.float x :: rest) P :=
  fun p l e s m args below meth c B H locs ls hL hP hS => lv_fstore_n B.1 B.2.1 d rfl hL.has hn rfl (fun ls' h' => kk p l e s m args below meth c B H locs ls' (Lo.set1 h' hc) hP hS)
theorem J.dstore_n {j : Fin 4} {x : UInt64} (d : decode μ.2.1 pc = .ok (.dstore_n j, 1)) (hn : (j : Nat) + 1 < μ.2.2.1) (hc : nc2 L (j : Nat) = true) (kk : J γ μ R Q k n (pc + 1) ((L.set (j : Nat) (some (.double x))).set ((j : Nat) + 1) none) rest P) : J γ μ R Q k n pc L (.double x :: rest) P :=
  fun p l e s m args below meth c B H locs ls hL hP hS => lv_dstore_n B.1 B.2.1 d rfl hL.has hn rfl (fun ls' h' => kk p l e s m args below meth c B H locs ls' (Lo.set2 h' hc) hP hS)
theorem J.lstore_n {j : Fin 4} {x : Int64} (d : decode μ.2.1 pc = .ok (.lstore_n j, 1)) (hn : (j : Nat) + 1 < μ.2.2.1) (hc : nc2 L (j : Nat) = true) (kk : J γ μ R Q k n (pc + 1) ((L.set (j : Nat) (some (.long x))).set ((j : Nat) + 1) none) rest P) : J γ μ R Q k n pc L (.long x :: rest) P :=
  fun p l e s m args below meth c B H locs ls hL hP hS => lv_lstore_n B.1 B.2.1 d rfl hL.has hn rfl (fun ls' h' => kk p l e s m args below meth c B H locs ls' (Lo.set2 h' hc) hP hS)
theorem J.lstore {j : Nat} {x : Int64} (d : decode μ.2.1 pc = .ok (.lstore j, 2)) (hn : j + 1 < μ.2.2.1) (hc : nc2 L j = true) (kk : J γ μ R Q k n (pc + 2) ((L.set j (some (.long x))).set (j + 1) none) rest P) : J γ μ R Q k n pc L (.long x :: rest) P :=
  fun p l e s m args below meth c B H locs ls hL hP hS => lv_lstore B.1 B.2.1 d hL.has hn rfl (fun ls' h' => kk p l e s m args below meth c B H locs ls' (Lo.set2 h' hc) hP hS)
theorem J.iinc {j : Nat} {i : Int} {x v : Int32} (d : decode μ.2.1 pc = .ok (.iinc j i, 3)) (hl : L[j]? = some (some (.int x))) (hv : Int32.ofInt i = v) (hn : j < μ.2.2.1) (hc : nc2 L j = true) {st : List Value} (kk : J γ μ R Q k n (pc + 3) (L.set j (some (.int (x + v)))) st P) : J γ μ R Q k n pc L st P :=
  fun p l e s m args below meth c B H locs ls hL hP hS => by
    subst hv
    obtain ⟨q, hq⟩ := List.getElem?_of_mem (toLv_in L 0 j _ hl)
    rw [Nat.zero_add] at hq
    exact lv_iinc B.1 B.2.1 d hL.has hq rfl hn rfl (fun ls' h' => kk p l e s m args below meth c B H locs ls' (Lo.set1 h' hc) hP hS)
theorem J.ldc {own : String} {index : Nat} {v : Int32} (hown : μ.1 = own) (w : Cond.constant own index v ∈ WSA) (d : decode μ.2.1 pc = .ok (.ldc index, 2)) (kk : J γ μ R Q k n (pc + 2) L (.int v :: rest) P) : J γ μ R Q k n pc L rest P :=
  fun p l e s m args below meth c B H locs ls hL hP hS => lv_ldc B.1 B.2.1 (hown ▸ B.2.2.2.2.2.1) (B.2.2.2.2.2.2.1 _ w) d (kk p l e s m args below meth c B H locs ls hL hP hS)
theorem J.ldc2 {own : String} {index : Nat} {v : Int64} (hown : μ.1 = own) (w : Cond.constantLong own index v ∈ WSA) (d : decode μ.2.1 pc = .ok (.ldc2_w index, 3)) (kk : J γ μ R Q k n (pc + 3) L (.long v :: rest) P) : J γ μ R Q k n pc L rest P :=
  fun p l e s m args below meth c B H locs ls hL hP hS => lv_ldc2 B.1 B.2.1 (hown ▸ B.2.2.2.2.2.1) (B.2.2.2.2.2.2.1 _ w) d (kk p l e s m args below meth c B H locs ls hL hP hS)
theorem J.tableIn {dflt lo hi off : Int} {offs : Array Int} {len : Nat} {x : Int32} (tgt : Nat) (d : decode μ.2.1 pc = .ok (.tableswitch dflt lo hi offs, len)) (h1 : ¬ x.toInt < lo) (h2 : ¬ hi < x.toInt) (ho : offs[(x.toInt - lo).toNat]? = some off) (ht : (pc : Int) + off = (tgt : Int)) (kk : J γ μ R Q k n tgt L rest P) : J γ μ R Q k n pc L (.int x :: rest) P :=
  fun p l e s m args below meth c B H locs ls hL hP hS => lv_tableIn B.1 B.2.1 d h1 h2 ho ht (kk p l e s m args below meth c B H locs ls hL hP hS)
theorem J.tableOut {dflt lo hi : Int} {offs : Array Int} {len : Nat} {x : Int32} (tgt : Nat) (d : decode μ.2.1 pc = .ok (.tableswitch dflt lo hi offs, len)) (h : x.toInt < lo ∨ hi < x.toInt) (ht : (pc : Int) + dflt = (tgt : Int)) (kk : J γ μ R Q k n tgt L rest P) : J γ μ R Q k n pc L (.int x :: rest) P :=
  fun p l e s m args below meth c B H locs ls hL hP hS => lv_tableOut B.1 B.2.1 d h ht (kk p l e s m args below meth c B H locs ls hL hP hS)
theorem J.lcmp {x y : Int64} (d : decode μ.2.1 pc = .ok (.lcmp, 1)) (kk : J γ μ R Q k n (pc + 1) L (.int (lg_cmp x y) :: rest) P) : J γ μ R Q k n pc L (.long y :: .long x :: rest) P :=
  fun p l e s m args below meth c B H locs ls hL hP hS => W.lcmp B.1 B.2.1 d (kk p l e s m args below meth c B H locs ls hL hP hS)
theorem va_P1 {D : va_G} {cl : List vw_C} {q : Nat × va_E} {H : Heap} (h : va_at D cl q H) : va_P D cl [q] H := by
  intro k q' hk
  match k, hk with
  | 0, hk => cases hk; exact h
theorem J.getf {own C : String} {T : u_T} {N ci index a : Nat} {fs : List Value} {v : Value} (hown : μ.1 = own) (hc : vwCl[ci]? = some (C, T, N)) (hin : ∀ w ∈ u_ws C T N, w ∈ WSA) (j : Nat) (hj : j < N) (w : Cond.fieldLink own index (T j).1 (T j).2.1 (T j).2.2.1 ∈ WSA) (d : decode μ.2.1 pc = .ok (.getfield index, 3))
    (hat : ∀ H, P H → va_at γ.1 vwCl (a, .inr (ci, fs)) H) (hv : fs[j]? = some v) (kk : J γ μ R Q k n (pc + 3) L (v :: rest) P) : J γ μ R Q k n pc L (.ref a :: rest) P :=
  fun p l e s m args below meth c B H locs ls hL hP hS => va_get (own := own) B.1 B.2.1 B.2.2.2.2.2.2.1 hin (hown ▸ B.2.2.2.2.2.1) B.2.2.2.2.2.2.2.1.1 (va_P1 (hat H hP)) 0 rfl hc j hj (B.2.2.2.2.2.2.1 _ w) (fun _ h => h) hv d (kk p l e s m args below meth c B H locs ls hL hP hS)
theorem J.putf {own C : String} {T : u_T} {ty0 : Nat → FieldType} {N ci index a : Nat} {fs : List Value} {v : Value} {P' : Heap → Prop} (hown : μ.1 = own) (hc : vwCl[ci]? = some (C, T, N)) (hin : ∀ w ∈ u_ws C T N, w ∈ WSA) (hty : ∀ k, k < N → parseFieldDescriptor (T k).2.2.1 = some (ty0 k)) (hnm : ∀ a, a < N → ∀ b, b < N → a ≠ b → (T a).2.1 ≠ (T b).2.1)
    (j : Nat) (hj : j < N) (w : Cond.fieldLink own index (T j).1 (T j).2.1 (T j).2.2.1 ∈ WSA) (d : decode μ.2.1 pc = .ok (.putfield index, 3)) (hfin : (T j).2.2.2 = false) (hn : narrow (ty0 j) v = v) (hfit : fits (ty0 j) v = true) (ha : gz γ ≤ a)
    (hat : ∀ H, P H → va_at γ.1 vwCl (a, .inr (ci, fs)) H) (hl : j < fs.length) (hput : ∀ H H' : Heap, P H → va_at γ.1 vwCl (a, .inr (ci, fs.set j v)) H' → H'.size = H.size → (∀ q : Nat, q ≠ a → H'[q]? = H[q]?) → P' H') (kk : J γ μ R Q k n (pc + 3) L rest P') : J γ μ R Q k n pc L (v :: .ref a :: rest) P := by
  intro p l e s m args below meth c B H locs ls hL hP hS
  have hK : va_K γ.1 vwCl (tysOf γ) s := B.2.2.2.2.2.2.2.1.1
  have hts := B.2.2.2.2.2.2.1
  have hown' : s.vm.findClass own = some m.cls := hown ▸ B.2.2.2.2.2.1
  have hap := va_apart (own := own) hts hin ty0 hty hnm hK hc
  obtain ⟨r, h1, cell, q1, q2, q3, q4⟩ := hat H hP
  have hr : r = (C, T, N) := Option.some.inj (h1.symm.trans hc)
  subst hr
  obtain ⟨hSl, hfc, kC, hkC, hkind⟩ := hK.1 ci _ hc
  obtain ⟨cf, kf, fi, f, hi, hsl⟩ := hSl j hj
  have hlay := hts _ (hin _ (u_in_lay hj))
  unfold u_lay at hlay
  rw [if_neg (by rw [hfin]; decide)] at hlay
  have hst := (u_facts hfc hkC (u_lays hts hin hj) hi).1
  have h6 := u_store hfc hkC hkind hlay hi (hty j hj) hn hfit
  refine W.putK B.1 B.2.1 (f := f) ⟨hown', hts _ w, ⟨_, _, _, hi⟩, hst⟩ (by rw [q2]; exact h6) q1 q3 (by rw [hsl]; exact k2_hasslot (q4 j hj)) rfl rfl d fun H' e1 e2 e3 => ?_
  rw [hsl] at e1 ⊢
  refine kk p l e s m args below meth c B H' _ ls hL (hput H H' hP ?_ e2 e3) (hS.put e2 e3 ha)
  exact ⟨_, hc, t_OB.to (V := updV (vp_V fs) j v) ⟨_, e1, q2, q3, t_set q4 hap hj v⟩ (fun j _ => vp_updV_set hl v j)⟩
/-- a final field, in its class's constructor -/
theorem J.putF {own C : String} {T : u_T} {ty0 : Nat → FieldType} {N ci index a : Nat} {fs : List Value} {v : Value} {P' : Heap → Prop} (hown : μ.1 = own) (hini : μ.2.2.2.2.2 = true) (hc : vwCl[ci]? = some (C, T, N)) (hin : ∀ w ∈ u_ws C T N, w ∈ WSA) (hty : ∀ k, k < N → parseFieldDescriptor (T k).2.2.1 = some (ty0 k)) (hnm : ∀ a, a < N → ∀ b, b < N → a ≠ b → (T a).2.1 ≠ (T b).2.1)
    (j : Nat) (hj : j < N) (w : Cond.fieldLink own index (T j).1 (T j).2.1 (T j).2.2.1 ∈ WSA) (d : decode μ.2.1 pc = .ok (.putfield index, 3)) (hfin : (T j).2.2.2 = true) (hdecl : (T j).1 = own) (hn : narrow (ty0 j) v = v) (hfit : fits (ty0 j) v = true) (ha : gz γ ≤ a)
    (hat : ∀ H, P H → va_at γ.1 vwCl (a, .inr (ci, fs)) H) (hl : j < fs.length) (hput : ∀ H H' : Heap, P H → va_at γ.1 vwCl (a, .inr (ci, fs.set j v)) H' → H'.size = H.size → (∀ q : Nat, q ≠ a → H'[q]? = H[q]?) → P' H') (kk : J γ μ R Q k n (pc + 3) L rest P') : J γ μ R Q k n pc L (v :: .ref a :: rest) P := by
  intro p l e s m args below meth c B H locs ls hL hP hS
  have hK : va_K γ.1 vwCl (tysOf γ) s := B.2.2.2.2.2.2.2.1.1
  have hts := B.2.2.2.2.2.2.1
  have hown' : s.vm.findClass own = some m.cls := hown ▸ B.2.2.2.2.2.1
  have hap := va_apart (own := own) hts hin ty0 hty hnm hK hc
  obtain ⟨r, h1, cell, q1, q2, q3, q4⟩ := hat H hP
  have hr : r = (C, T, N) := Option.some.inj (h1.symm.trans hc)
  subst hr
  obtain ⟨hSl, hfc, kC, hkC, hkind⟩ := hK.1 ci _ hc
  obtain ⟨cf, kf, fi, f, hi, hsl⟩ := hSl j hj
  have hlay := hts _ (hin _ (u_in_lay hj))
  unfold u_lay at hlay
  rw [if_pos hfin] at hlay
  have hst := (u_facts hfc hkC (u_lays hts hin hj) hi).1
  have hcf : m.cls = cf := by
    obtain ⟨_, _, c', _, _, _, -, -, hf', -, -, -, hown2, -⟩ := Cond.laysFinal_spec hlay
    have e1 : c' = cf := by have := hi.symm.trans hf'; simp at this; exact this.1.symm
    rw [hdecl] at hown2
    rw [← e1]; exact Option.some.inj (hown'.symm.trans hown2)
  have h6 := u_fits hfc hkC hkind (Or.inr hlay) hi (hty j hj) hn hfit
  refine W.putFinK B.1 B.2.1 hown' (hts _ w) hi hst hcf (B.2.2.2.2.2.2.2.2.2.2 hini) (by rw [q2]; exact h6) q1 q3 (by rw [hsl]; exact k2_hasslot (q4 j hj)) rfl rfl d fun H' e1 e2 e3 => ?_
  rw [hsl] at e1 ⊢
  refine kk p l e s m args below meth c B H' _ ls hL (hput H H' hP ?_ e2 e3) (hS.put e2 e3 ha)
  exact ⟨_, hc, t_OB.to (V := updV (vp_V fs) j v) ⟨_, e1, q2, q3, t_set q4 hap hj v⟩ (fun j _ => vp_updV_set hl v j)⟩
theorem J.iald {a len : Nat} {f : Nat → Int32} {i : Int32} (d : decode μ.2.1 pc = .ok (.iaload, 1)) (hat : ∀ H, P H → va_at γ.1 vwCl (a, .inl (γ.2.1.1, len, .inl f)) H) (hin : vp_in i len) (kk : J γ μ R Q k n (pc + 1) L (.int (f i.toNatClampNeg) :: rest) P) : J γ μ R Q k n pc L (.int i :: .ref a :: rest) P :=
  fun p l e s m args below meth c B H locs ls hL hP hS => va_iald B.1 B.2.1 B.2.2.2.2.2.2.2.1.1 (va_P1 (hat H hP)) 0 0 rfl rfl hin d (kk p l e s m args below meth c B H locs ls hL hP hS)
theorem J.bald {a len : Nat} {f : Nat → Int32} {i : Int32} (d : decode μ.2.1 pc = .ok (.baload, 1)) (hat : ∀ H, P H → va_at γ.1 vwCl (a, .inl (γ.2.1.2.1, len, .inl f)) H) (hin : vp_in i len) (kk : J γ μ R Q k n (pc + 1) L (.int (f i.toNatClampNeg) :: rest) P) : J γ μ R Q k n pc L (.int i :: .ref a :: rest) P :=
  fun p l e s m args below meth c B H locs ls hL hP hS => va_bald B.1 B.2.1 B.2.2.2.2.2.2.2.1.1 (va_P1 (hat H hP)) 0 1 rfl rfl hin d (kk p l e s m args below meth c B H locs ls hL hP hS)
theorem J.aald {a len : Nat} {f : Nat → Option Nat} {i : Int32} {v : Value} (d : decode μ.2.1 pc = .ok (.aaload, 1)) (hat : ∀ H, P H → va_at γ.1 vwCl (a, .inl (γ.2.1.2.2, len, .inr (.inr (.inr (.inr f))))) H) (hin : vp_in i len) (hv : va_rf (f i.toNatClampNeg) = v) (kk : J γ μ R Q k n (pc + 1) L (v :: rest) P) : J γ μ R Q k n pc L (.int i :: .ref a :: rest) P :=
  fun p l e s m args below meth c B H locs ls hL hP hS => va_aldq B.1 B.2.1 B.2.2.2.2.2.2.2.1.1 (va_P1 (hat H hP)) 0 2 rfl rfl hin d (by rw [hv]; exact kk p l e s m args below meth c B H locs ls hL hP hS)
theorem J.alenI {a len : Nat} {f : Nat → Int32} {v : Int32} (d : decode μ.2.1 pc = .ok (.arraylength, 1)) (hat : ∀ H, P H → va_at γ.1 vwCl (a, .inl (γ.2.1.1, len, .inl f)) H) (hv : Int32.ofNat len = v) (kk : J γ μ R Q k n (pc + 1) L (.int v :: rest) P) : J γ μ R Q k n pc L (.ref a :: rest) P :=
  fun p l e s m args below meth c B H locs ls hL hP hS => va_alen (x := (len, .inl f)) B.1 B.2.1 B.2.2.2.2.2.2.2.1.1 (va_P1 (hat H hP)) 0 0 rfl rfl hv d (kk p l e s m args below meth c B H locs ls hL hP hS)
theorem J.alenB {a len : Nat} {f : Nat → Int32} {v : Int32} (d : decode μ.2.1 pc = .ok (.arraylength, 1)) (hat : ∀ H, P H → va_at γ.1 vwCl (a, .inl (γ.2.1.2.1, len, .inl f)) H) (hv : Int32.ofNat len = v) (kk : J γ μ R Q k n (pc + 1) L (.int v :: rest) P) : J γ μ R Q k n pc L (.ref a :: rest) P :=
  fun p l e s m args below meth c B H locs ls hL hP hS => va_alen (x := (len, .inl f)) B.1 B.2.1 B.2.2.2.2.2.2.2.1.1 (va_P1 (hat H hP)) 0 1 rfl rfl hv d (kk p l e s m args below meth c B H locs ls hL hP hS)
theorem J.alenQ {a len : Nat} {f : Nat → Option Nat} {v : Int32} (d : decode μ.2.1 pc = .ok (.arraylength, 1)) (hat : ∀ H, P H → va_at γ.1 vwCl (a, .inl (γ.2.1.2.2, len, .inr (.inr (.inr (.inr f))))) H) (hv : Int32.ofNat len = v) (kk : J γ μ R Q k n (pc + 1) L (.int v :: rest) P) : J γ μ R Q k n pc L (.ref a :: rest) P :=
  fun p l e s m args below meth c B H locs ls hL hP hS => va_alen (x := (len, .inr (.inr (.inr (.inr f))))) B.1 B.2.1 B.2.2.2.2.2.2.2.1.1 (va_P1 (hat H hP)) 0 2 rfl rfl hv d (kk p l e s m args below meth c B H locs ls hL hP hS)
theorem J.iast {a len : Nat} {f : Nat → Int32} {i x : Int32} {P' : Heap → Prop} (d : decode μ.2.1 pc = .ok (.iastore, 1)) (hat : ∀ H, P H → va_at γ.1 vwCl (a, .inl (γ.2.1.1, len, .inl f)) H) (hin : vp_in i len) (ha : gz γ ≤ a)
    (hput : ∀ H H' : Heap, P H → va_at γ.1 vwCl (a, .inl (γ.2.1.1, len, .inl (upd f i.toNatClampNeg x))) H' → H'.size = H.size → (∀ q : Nat, q ≠ a → H'[q]? = H[q]?) → P' H') (kk : J γ μ R Q k n (pc + 1) L rest P') : J γ μ R Q k n pc L (.int x :: .int i :: .ref a :: rest) P := by
  intro p l e s m args below meth c B H locs ls hL hP hS
  have hK : va_K γ.1 vwCl (tysOf γ) s := B.2.2.2.2.2.2.2.1.1
  have hc : H[a]? = some (vp_cell γ.2.1.1 (len, .inl f)) := hat H hP
  refine W.iast B.1 B.2.1 hc ((hK.2 0 _ rfl).1 len (fun j => .int (f j))) (fun q => by cases q) (by show ¬ (i < 0 ∨ (arrV _ _ _).slots.size ≤ _); rw [arrV_size]; exact hin) rfl rfl d fun H1 e1 z oq => ?_
  refine kk p l e s m args below meth c B H1 _ ls hL (hput H H1 hP ?_ z oq) (hS.put z oq ha)
  show H1[a]? = some (vp_cell _ _)
  rw [e1]
  rw [vp_cell_i, vp_cell_i, arrV_store]
  congr 2
  funext q
  by_cases hq : q = i.toNatClampNeg
  · subst hq
    simp [updV, upd]
  · simp [updV, upd, hq]
theorem J.bast {a len : Nat} {f : Nat → Int32} {i x : Int32} {P' : Heap → Prop} (d : decode μ.2.1 pc = .ok (.bastore, 1)) (hat : ∀ H, P H → va_at γ.1 vwCl (a, .inl (γ.2.1.2.1, len, .inl f)) H) (hin : vp_in i len) (ha : gz γ ≤ a)
    (hput : ∀ H H' : Heap, P H → va_at γ.1 vwCl (a, .inl (γ.2.1.2.1, len, .inl (upd f i.toNatClampNeg (vp_nar .byte x)))) H' → H'.size = H.size → (∀ q : Nat, q ≠ a → H'[q]? = H[q]?) → P' H') (kk : J γ μ R Q k n (pc + 1) L rest P') : J γ μ R Q k n pc L (.int x :: .int i :: .ref a :: rest) P := by
  intro p l e s m args below meth c B H locs ls hL hP hS
  have hK : va_K γ.1 vwCl (tysOf γ) s := B.2.2.2.2.2.2.2.1.1
  have hc : H[a]? = some (vp_cell γ.2.1.2.1 (len, .inl f)) := hat H hP
  refine W.bast B.1 B.2.1 hc ((hK.2 1 _ rfl).1 len (fun j => .int (f j))) (fun q => by cases q) (by show ¬ (i < 0 ∨ (arrV _ _ _).slots.size ≤ _); rw [arrV_size]; exact hin) rfl rfl d fun H1 e1 z oq => ?_
  refine kk p l e s m args below meth c B H1 _ ls hL (hput H H1 hP ?_ z oq) (hS.put z oq ha)
  show H1[a]? = some (vp_cell _ _)
  rw [e1]
  rw [vp_cell_i, vp_cell_i, arrV_store]
  congr 2
  funext q
  by_cases hq : q = i.toNatClampNeg
  · subst hq
    simp [updV, upd, vp_nar]
    try rfl
  · simp [updV, upd, hq]
theorem WSA_warm {args : Array Value} {s : State} {w0 : Cond} (hts : ∀ w ∈ WSA, w.before args s = true) (h0 : w0 ∈ WSA) : ∀ w ∈ w0 :: WSA, ∀ (a' : Array Value) (U : State), s.WarmedH U.vm → w.before a' U = true := by
  intro w hw a' U hW
  have hm : w ∈ WSA := by
    rcases List.mem_cons.mp hw with rfl | h
    · exact h0
    · exact h
  exact word_at hW (good_of_word (List.mem_filter.mp hm).2) (hts w hm)
theorem okN {y : MethodName} {nn : Nat} (h : okName y nn) : ∀ sig, parseMethodDescriptor y.desc = some sig → nn = sig.parameters.length := fun sig hs => by
  have h2 := h.2.2
  rw [hs] at h2
  exact (Option.some.inj h2).symm
theorem blindK {γ : Gm} {av : List Value} {P : Heap → Prop} : FrameBlind (va_Pc av (fun U => Kn γ U ∧ P U.heap)) := fun a U g mk q => ⟨q.1, q.2.1.same rfl rfl, q.2.2⟩
theorem J_run {p : Program} {l : Launch} {e : Env} {s : State} {m : MethodId} {args : Array Value} {below : List Frame} {meth : Method} {c : Code} {H : Heap} {locs : List Loc} {mc ms : Nat} {ls : Array Slot} {st0 : List Value} {Po : Option Value → Heap → Prop} {a : Array Value} {Z : State → Prop}
    (hr : va_Run p l e R s m args below meth c H locs k n mc ms (F0 m pc ls st0) rest (Qp γ Po a) (gA γ)) (hS : va_S (gA γ) s.heap H locs)
    (kk : ∀ (v : Option Value) (H1 : Heap) (locs1 : List Loc), Po v H1 → va_S (gA γ) s.heap H1 locs1 → W p l e R s m args below meth c H1 locs1 (k + mc) (n + ms) Z (F0 m (pc + 3) ls (v.toList ++ rest))) : W p l e R s m args below meth c H locs k n Z (F0 m pc ls st0) := by
  intro T hT X
  obtain ⟨v, st₀, t, T', L, h0, X', hL, e1, e2, ⟨v', hv, hp, hz, hk⟩, st⟩ := hr T hT X
  cases hv
  rw [h0] at hz hk
  obtain ⟨t2, a1, b1⟩ := kk v T'.heap (locs ++ L) (by rw [e1]; exact hp)
    ⟨Nat.le_trans hS.1 (by rw [e1]; exact hz), fun q h1 h2 => by rw [e1, hk q (Nat.lt_of_lt_of_le h1 hS.1) h2]; exact hS.2.1 q h1 h2, fun q hq => by
      rcases List.mem_append.mp hq with h | h
      · exact hS.2.2 q h
      · exact hL q h⟩ T' rfl X'
  exact ⟨t2, st t2 a1, b1⟩
theorem J_runX {p : Program} {l : Launch} {e : Env} {s : State} {m : MethodId} {args : Array Value} {below : List Frame} {meth : Method} {c : Code} {H : Heap} {locs : List Loc} {mc ms : Nat} {ls : Array Slot} {st0 : List Value} {Po : Option Value → Heap → Prop} {Px : String → Heap → Prop} {a : Array Value} {Z : State → Prop}
    (hr : vx_Run p l e R s m args below meth c H locs k n mc ms (F0 m pc ls st0) rest (Qp γ Po a) (Qx γ Px) (gA γ)) (hS : va_S (gA γ) s.heap H locs)
    (kx : ∀ (E : String) (ce : Cell) (q : Addr) (H1 : Heap) (locs1 : List Loc), Px E H1 → va_S (gA γ) s.heap H1 locs1 → H1[q]? = some ce → ce.vm = .none → s.vm.findClass E = some ce.cls → vx_W p l e R s m args below meth c H1 locs1 (k + mc) (n + ms) Z (F0 m pc ls rest) q)
    (kk : ∀ (v : Option Value) (H1 : Heap) (locs1 : List Loc), Po v H1 → va_S (gA γ) s.heap H1 locs1 → W p l e R s m args below meth c H1 locs1 (k + mc) (n + ms) Z (F0 m (pc + 3) ls (v.toList ++ rest))) : W p l e R s m args below meth c H locs k n Z (F0 m pc ls st0) := by
  intro T hT X
  rcases hr T hT X with ⟨v, st₀, t, T', L, h0, X', hL, e1, e2, ⟨v', hv, hp, hF⟩, st⟩ | ⟨q, st₀, t, T', L, E, ce, h0, X', hL, e1, e2, ⟨hp, hF⟩, hce, hcv, hcl, st⟩
  · cases hv
    obtain ⟨-, -, k3⟩ := vx_keep h0 e1 hS (fun _ _ h => h) (fun _ h => h) hL hF
    obtain ⟨t2, a1, b1⟩ := kk v T'.heap (locs ++ L) (by rw [e1]; exact hp) k3 T' rfl X'
    exact ⟨t2, st t2 a1, b1⟩
  · obtain ⟨-, -, k3⟩ := vx_keep h0 e1 hS (fun _ _ h => h) (fun _ h => h) hL hF
    obtain ⟨t2, a1, b1⟩ := kx E ce q T'.heap (locs ++ L) (by rw [e1]; exact hp) k3 (by rw [e1]; exact hce) hcv hcl T' rfl X'
    exact ⟨t2, st.trans a1, b1⟩
/-- an object of the class C lies at b -/
def Isa (γ : Gm) (C : String) (b : Nat) (P : Heap → Prop) : Prop := ∀ H, P H → ∃ (ci : Nat) (fs : List Value) (r : vw_C), va_at γ.1 vwCl (b, .inr (ci, fs)) H ∧ vwCl[ci]? = some r ∧ r.1 = C
theorem Isa.of {C : String} {T : u_T} {N b ci : Nat} {fs : List Value} (hc : vwCl[ci]? = some (C, T, N)) (h : ∀ H, P H → va_at γ.1 vwCl (b, .inr (ci, fs)) H) : Isa γ C b P := fun H hP => ⟨ci, fs, _, h H hP, hc, rfl⟩
theorem Isa.cell {C : String} {b : Nat} (h : Isa γ C b P) {s : State} (hK : Kn γ s) {H : Heap} (hP : P H) : ∃ cellB : Cell, H[b]? = some cellB ∧ cellB.vm.isStatics = false ∧ s.vm.findClass C = some cellB.cls := by
  obtain ⟨ci, fs, r, h1, h2, rfl⟩ := h H hP
  obtain ⟨r', g1, cell, q1, q2, q3, q4⟩ := h1
  cases Option.some.inj (g1.symm.trans h2)
  obtain ⟨hS, hfc, kC, hkC, hkind⟩ := hK.1.1 ci _ h2
  exact ⟨cell, q1, by rw [q3]; rfl, by rw [q2]; exact hfc⟩
theorem callB_J {own : String} {index d k' n' nn : Nat} {μ' : Mu} {y : MethodName} {s : State} {args : Array Value} (hts : ∀ w ∈ WSA, w.before args s = true) (w : Cond.methodLink own index y ∈ WSA) (h1 : cwOf y μ' ∈ WSA) (h0 : μ'.2.2.2.2.1 = []) (hi : Cond.initialized y.cls ∈ WSA) (ho : okName y nn) (hR : d + 1 ≤ R.frames ∧ 8 + (μ'.2.2.1 + 11) + 64 * d ≤ R.locals) :
    CallB R s args own index y μ'.2.1 μ'.2.2.1 μ'.2.2.2.1 (cwOf y μ' :: WSA) (rmD d k' n') k' n' nn :=
  ⟨rfl, rfl, hR.1, hR.2, WSA_warm hts h1, by rw [← cwOf_0 h0]; exact List.mem_cons_self, by rw [← cwOf_0 h0]; exact hts _ h1, hts _ hi, ⟨ho.1, ho.2.1⟩, okN ho, hts _ w⟩
theorem J.callV {own : String} {index d k' n' nn b : Nat} {μ' : Mu} {y : MethodName} {As st : List Value} {Po : Option Value → Heap → Prop} (hE : Ev γ μ' y d k' n' (.ref b :: As) P Po) (hown : μ.1 = own) (w : Cond.methodLink own index y ∈ WSA) (mi : MI y μ' nn) (h0 : μ'.2.2.2.2.1 = []) (dd : decode μ.2.1 pc = .ok (.invokevirtual index, 3)) (hb : Isa γ y.cls b P) (hst : st = As.reverse ++ .ref b :: rest) (hn : As.length = nn)
    (hR : d + 1 ≤ R.frames ∧ 8 + (μ'.2.2.1 + 11) + 64 * d ≤ R.locals) (hk : k + k' ≤ R.cells ∧ n + n' ≤ R.slots) (hr : (rest.map fun v => v.category).sum ≤ 8) (kk : ∀ v, J γ μ R Q (k + k') (n + n') (pc + 3) L (v.toList ++ rest) (Po v)) : J γ μ R Q k n pc L st P := by
  intro p l e s m args below meth c B H locs ls hL hP hS
  have hts := B.2.2.2.2.2.2.1
  have hK := B.2.2.2.2.2.2.2.1
  exact J_run (va_runV (cc := μ.2.1) (nL := μ.2.2.1) (Ts := WSA) (own := own) ⟨B.1, B.2.1, B.2.2.1, hown ▸ B.2.2.2.2.2.1, hts⟩ (hE l B.2.2.2.2.2.2.2.2.1) ⟨callB_J hts w mi.1 h0 mi.2.2.2.1 mi.2.2.2.2 hR, hts _ mi.2.1, hts _ mi.2.2.1⟩ ⟨blindK, hb.cell hK hP, fun U hU hW => ⟨rfl, hK.go hS hU hW, by rw [hU]; exact hP⟩⟩ rfl hn hL.1 hst (lv_room hr) dd hk) hS
    (fun v H1 locs1 hPo hS1 => kk v p l e s m args below meth c B H1 locs1 ls hL hPo hS1)
theorem J.callVx {own : String} {index d k' n' nn b : Nat} {μ' : Mu} {y : MethodName} {As st : List Value} {Po : Option Value → Heap → Prop} {Px : String → Heap → Prop} (hE : Ex γ μ' y d k' n' (.ref b :: As) P Po Px) (hown : μ.1 = own) (w : Cond.methodLink own index y ∈ WSA) (mi : MI y μ' nn) (h0 : μ'.2.2.2.2.1 = []) (dd : decode μ.2.1 pc = .ok (.invokevirtual index, 3)) (hb : Isa γ y.cls b P) (hst : st = As.reverse ++ .ref b :: rest) (hn : As.length = nn)
    (hR : d + 1 ≤ R.frames ∧ 8 + (μ'.2.2.1 + 11) + 64 * d ≤ R.locals) (hk : k + k' ≤ R.cells ∧ n + n' ≤ R.slots) (hr : (rest.map fun v => v.category).sum ≤ 8) (kx : ∀ E, JX γ μ R Q (k + k') (n + n') pc L E (Px E)) (kk : ∀ v, J γ μ R Q (k + k') (n + n') (pc + 3) L (v.toList ++ rest) (Po v)) : J γ μ R Q k n pc L st P := by
  intro p l e s m args below meth c B H locs ls hL hP hS
  have hts := B.2.2.2.2.2.2.1
  have hK := B.2.2.2.2.2.2.2.1
  exact J_runX (vx_runV (cc := μ.2.1) (nL := μ.2.2.1) (Ts := WSA) (own := own) ⟨B.1, B.2.1, B.2.2.1, hown ▸ B.2.2.2.2.2.1, hts⟩ (hE l B.2.2.2.2.2.2.2.2.1) ⟨callB_J hts w mi.1 h0 mi.2.2.2.1 mi.2.2.2.2 hR, hts _ mi.2.1, hts _ mi.2.2.1⟩ ⟨blindK, hb.cell hK hP, fun U hU hW => ⟨rfl, hK.go hS hU hW, by rw [hU]; exact hP⟩⟩ rfl hn hL.1 hst (lv_room hr) dd hk) hS
    (fun E ce q H1 locs1 hPx hS1 h1 h2 h3 => kx E p l e s m args below meth c B H1 locs1 ls _ q ce hL hPx hS1 h1 h2 h3)
    (fun v H1 locs1 hPo hS1 => kk v p l e s m args below meth c B H1 locs1 ls hL hPo hS1)
theorem J.callS {own : String} {index d k' n' nn : Nat} {μ' : Mu} {y : MethodName} {As st : List Value} {Po : Option Value → Heap → Prop} (hE : Ev γ μ' y d k' n' As P Po) (hown : μ.1 = own) (w : Cond.methodLink own index y ∈ WSA) (mi : MS y μ' nn) (h0 : μ'.2.2.2.2.1 = []) (dd : decode μ.2.1 pc = .ok (.invokestatic index, 3)) (hst : st = As.reverse ++ rest) (hn : As.length = nn)
    (hR : d + 1 ≤ R.frames ∧ 8 + (μ'.2.2.1 + 11) + 64 * d ≤ R.locals) (hk : k + k' ≤ R.cells ∧ n + n' ≤ R.slots) (hr : (rest.map fun v => v.category).sum ≤ 8) (kk : ∀ v, J γ μ R Q (k + k') (n + n') (pc + 3) L (v.toList ++ rest) (Po v)) : J γ μ R Q k n pc L st P := by
  intro p l e s m args below meth c B H locs ls hL hP hS
  have hts := B.2.2.2.2.2.2.1
  have hK := B.2.2.2.2.2.2.2.1
  exact J_run (va_runS (cc := μ.2.1) (nL := μ.2.2.1) (Ts := WSA) (own := own) ⟨B.1, B.2.1, B.2.2.1, hown ▸ B.2.2.2.2.2.1, hts⟩ (hE l B.2.2.2.2.2.2.2.2.1) ⟨callB_J hts w mi.1 h0 mi.2.2.1 mi.2.2.2 hR, hts _ mi.2.1⟩ ⟨blindK, fun U hU hW => ⟨rfl, hK.go hS hU hW, by rw [hU]; exact hP⟩⟩ rfl hn hL.1 hst (lv_room hr) dd hk) hS
    (fun v H1 locs1 hPo hS1 => kk v p l e s m args below meth c B H1 locs1 ls hL hPo hS1)
theorem J.callSx {own : String} {index d k' n' nn : Nat} {μ' : Mu} {y : MethodName} {As st : List Value} {Po : Option Value → Heap → Prop} {Px : String → Heap → Prop} (hE : Ex γ μ' y d k' n' As P Po Px) (hown : μ.1 = own) (w : Cond.methodLink own index y ∈ WSA) (mi : MS y μ' nn) (h0 : μ'.2.2.2.2.1 = []) (dd : decode μ.2.1 pc = .ok (.invokestatic index, 3)) (hst : st = As.reverse ++ rest) (hn : As.length = nn)
    (hR : d + 1 ≤ R.frames ∧ 8 + (μ'.2.2.1 + 11) + 64 * d ≤ R.locals) (hk : k + k' ≤ R.cells ∧ n + n' ≤ R.slots) (hr : (rest.map fun v => v.category).sum ≤ 8) (kx : ∀ E, JX γ μ R Q (k + k') (n + n') pc L E (Px E)) (kk : ∀ v, J γ μ R Q (k + k') (n + n') (pc + 3) L (v.toList ++ rest) (Po v)) : J γ μ R Q k n pc L st P := by
  intro p l e s m args below meth c B H locs ls hL hP hS
  have hts := B.2.2.2.2.2.2.1
  have hK := B.2.2.2.2.2.2.2.1
  exact J_runX (vx_runS (cc := μ.2.1) (nL := μ.2.2.1) (Ts := WSA) (own := own) ⟨B.1, B.2.1, B.2.2.1, hown ▸ B.2.2.2.2.2.1, hts⟩ (hE l B.2.2.2.2.2.2.2.2.1) ⟨callB_J hts w mi.1 h0 mi.2.2.1 mi.2.2.2 hR, hts _ mi.2.1⟩ ⟨blindK, fun U hU hW => ⟨rfl, hK.go hS hU hW, by rw [hU]; exact hP⟩⟩ rfl hn hL.1 hst (lv_room hr) dd hk) hS
    (fun E ce q H1 locs1 hPx hS1 h1 h2 h3 => kx E p l e s m args below meth c B H1 locs1 ls _ q ce hL hPx hS1 h1 h2 h3)
    (fun v H1 locs1 hPo hS1 => kk v p l e s m args below meth c B H1 locs1 ls hL hPo hS1)
/-- a static method with handlers of its own, that throws nothing -/
theorem J.callSW {own : String} {index d k' n' nn : Nat} {μ' : Mu} {y : MethodName} {As st : List Value} {Po : Option Value → Heap → Prop} (hE : Ev γ μ' y d k' n' As P Po) (hown : μ.1 = own) (w : Cond.methodLink own index y ∈ WSA) (mi : MS y μ' nn) (h0 : μ'.2.2.2.2.1 ≠ []) (dd : decode μ.2.1 pc = .ok (.invokestatic index, 3)) (hst : st = As.reverse ++ rest) (hn : As.length = nn)
    (hR : d + 1 ≤ R.frames ∧ 8 + (μ'.2.2.1 + 11) + 64 * d ≤ R.locals) (hk : k + k' ≤ R.cells ∧ n + n' ≤ R.slots) (hr : (rest.map fun v => v.category).sum ≤ 8) (kk : ∀ v, J γ μ R Q (k + k') (n + n') (pc + 3) L (v.toList ++ rest) (Po v)) : J γ μ R Q k n pc L st P := by
  intro p l e s m args below meth c B H locs ls hL hP hS
  have hts := B.2.2.2.2.2.2.1
  have hK := B.2.2.2.2.2.2.2.1
  have hw := cwOf_1 (y := y) h0
  exact J_run (vx_runSW (cc := μ.2.1) (nL := μ.2.2.1) (Ts := WSA) (own := own) (hh := μ'.2.2.2.2.1) (bytes := μ'.2.1) (maxL := μ'.2.2.1) (ret := μ'.2.2.2.1) (n := nn) ⟨B.1, B.2.1, B.2.2.1, hown ▸ B.2.2.2.2.2.1, hts⟩ (hE l B.2.2.2.2.2.2.2.2.1)
      ⟨⟨rfl, rfl, hR.1, hR.2, WSA_warm hts mi.1, by rw [← hw]; exact List.mem_cons_self⟩, by rw [← hw]; exact hts _ mi.1, hts _ mi.2.2.1, ⟨mi.2.2.2.1, mi.2.2.2.2.1⟩, okN mi.2.2.2, hts _ w, hts _ mi.2.1⟩ ⟨blindK, fun U hU hW => ⟨rfl, hK.go hS hU hW, by rw [hU]; exact hP⟩⟩ rfl hn hL.1 hst (lv_room hr) dd hk) hS
    (fun v H1 locs1 hPo hS1 => kk v p l e s m args below meth c B H1 locs1 ls hL hPo hS1)
/-- ends of a method that throws nothing -/
theorem J.vret {k0 n0 : Nat} {Po : Option Value → Heap → Prop} (d : decode μ.2.1 pc = .ok (.return_, 1)) (hr : μ.2.2.2.1 = none) (hk : k ≤ k0) (hn : n ≤ n0) (h : ∀ H, P H → Po none H) : J γ μ R (fEv γ k0 n0 Po) k n pc L [] P :=
  fun p l e s m args below meth c B H locs ls hL hP hS => W.widen hk hn (W.vret B.1 B.2.1 (B.2.2.2.1.trans hr) (fun t ht hW => ⟨none, rfl, by rw [ht]; exact h H hP, hS.F ht⟩) hS.2.2 d B.2.2.2.2.1)
theorem J.iret {k0 n0 : Nat} {x : Int32} {Po : Option Value → Heap → Prop} (d : decode μ.2.1 pc = .ok (.ireturn, 1)) (hr : μ.2.2.2.1 = some .int) (hk : k ≤ k0) (hn : n ≤ n0) (h : ∀ H, P H → Po (some (.int x)) H) : J γ μ R (fEv γ k0 n0 Po) k n pc L [.int x] P :=
  fun p l e s m args below meth c B H locs ls hL hP hS => W.widen hk hn (W.iret B.1 B.2.1 (B.2.2.2.1.trans hr) (fun t ht hW => ⟨_, rfl, by rw [ht]; exact h H hP, hS.F ht⟩) hS.2.2 d B.2.2.2.2.1)
theorem J.zret {k0 n0 : Nat} {x : Int32} {ty : FieldType} {Po : Option Value → Heap → Prop} (d : decode μ.2.1 pc = .ok (.ireturn, 1)) (hr : μ.2.2.2.1 = some ty) (hx : narrow ty (.int x) = .int x) (hk : k ≤ k0) (hn : n ≤ n0) (h : ∀ H, P H → Po (some (.int x)) H) : J γ μ R (fEv γ k0 n0 Po) k n pc L [.int x] P :=
  fun p l e s m args below meth c B H locs ls hL hP hS => W.widen hk hn (W.zret B.1 B.2.1 (B.2.2.2.1.trans hr) hx (fun t ht hW => ⟨_, rfl, by rw [ht]; exact h H hP, hS.F ht⟩) hS.2.2 d B.2.2.2.2.1)
theorem J.lret {k0 n0 : Nat} {x : Int64} {Po : Option Value → Heap → Prop} (d : decode μ.2.1 pc = .ok (.lreturn, 1)) (hr : μ.2.2.2.1 = some .long) (hk : k ≤ k0) (hn : n ≤ n0) (h : ∀ H, P H → Po (some (.long x)) H) : J γ μ R (fEv γ k0 n0 Po) k n pc L [.long x] P :=
  fun p l e s m args below meth c B H locs ls hL hP hS => W.widen hk hn (W.lret B.1 B.2.1 (B.2.2.2.1.trans hr) (fun t ht hW => ⟨_, rfl, by rw [ht]; exact h H hP, hS.F ht⟩) hS.2.2 d B.2.2.2.2.1)
theorem J.aret {k0 n0 : Nat} {v : Value} {rt : FieldType} {Po : Option Value → Heap → Prop} (d : decode μ.2.1 pc = .ok (.areturn, 1)) (hr : μ.2.2.2.1 = some rt) (hrt : (∃ n, rt = .object n) ∨ ∃ t, rt = .array t) (hv : v = .null ∨ ∃ a, v = .ref a) (hk : k ≤ k0) (hn : n ≤ n0) (h : ∀ H, P H → Po (some v) H) : J γ μ R (fEv γ k0 n0 Po) k n pc L [v] P :=
  fun p l e s m args below meth c B H locs ls hL hP hS => W.widen hk hn (W.aret B.1 B.2.1 (B.2.2.2.1.trans hr) hrt hv (fun t ht hW => ⟨_, rfl, by rw [ht]; exact h H hP, hS.F ht⟩) hS.2.2 d B.2.2.2.2.1)
/-- .. and of one that may throw, where it returns -/
theorem J.toX {k0 n0 : Nat} {st : List Value} {Po : Option Value → Heap → Prop} {Px : String → Heap → Prop} (kk : J γ μ R (fEv γ k0 n0 Po) k n pc L st P) : J γ μ R (fEx γ k0 n0 Po Px) k n pc L st P :=
  fun p l e s m args below meth c B H locs ls hL hP hS => vx_ret (kk p l e s m args below meth c B H locs ls hL hP hS)
/-- an exception leaves the method -/
theorem JX.out {k0 n0 : Nat} {E : String} {Po : Option Value → Heap → Prop} {Px : String → Heap → Prop} (h0 : μ.2.2.2.2.1 = []) (hk : k ≤ k0) (hn : n ≤ n0) (h : ∀ H, P H → Px E H) : JX γ μ R (fEx γ k0 n0 Po Px) k n pc L E P :=
  fun p l e s m args below meth c B H locs ls rest q ce hL hP hS h1 h2 h3 => vx_out (by rw [B.2.2.2.2.2.2.2.2.2.1, h0]; intro x hx; cases hx) B.2.2.2.2.1 h1 h2 h3 (fun t ht _ => ⟨by rw [ht]; exact h H hP, hS.F ht⟩) hS.2.2 hk hn
theorem JX.of {E : String} {P' : Heap → Prop} (h : ∀ H, P H → P' H) (kk : JX γ μ R Q k n pc L E P') : JX γ μ R Q k n pc L E P :=
  fun p l e s m args below meth c B H locs ls rest q ce hL hP hS => kk p l e s m args below meth c B H locs ls rest q ce hL (h H hP) hS
theorem JX.and {E : String} {φ : Prop} (kk : φ → JX γ μ R Q k n pc L E P) : JX γ μ R Q k n pc L E (fun H => φ ∧ P H) :=
  fun p l e s m args below meth c B H locs ls rest q ce hL hP hS => kk hP.1 p l e s m args below meth c B H locs ls rest q ce hL hP.2 hS
/-- .. or is caught by the row x of the method's table -/
theorem JX.catch {own E name : String} (pre : List ExceptionTableEntry) (x : ExceptionTableEntry) (suf : List ExceptionTableEntry) (hown : μ.1 = own) (hsplit : tableOf μ.2.2.2.2.1 = pre ++ x :: suf) (hpass : ∀ z ∈ pre, covers z pc = false ∨ (z.catchType ≠ 0 ∧ ∃ nm : String, Cond.classLink own z.catchType nm ∈ WSA ∧ (E, nm) ∈ NCl)) (hx : covers x pc = true) (h0 : x.catchType ≠ 0)
    (w : Cond.classLink own x.catchType name ∈ WSA) (hcast : Cond.castable E name ∈ WSB) (kk : ∀ q, J γ μ R Q k n x.handlerPc L [.ref q] P) : JX γ μ R Q k n pc L E P :=
  fun p l e s m args below meth c B H locs ls rest q ce hL hP hS h1 h2 h3 =>
    have hts := B.2.2.2.2.2.2.1
    have hK := B.2.2.2.2.2.2.2.1
    vx_catch (own := own) (hown ▸ B.2.2.2.2.2.1) pre x suf (B.2.2.2.2.2.2.2.2.2.1.trans hsplit) (fun z hz => (hpass z hz).imp id (fun h => ⟨h.1, h.2.choose, hts _ h.2.choose_spec.1, hK.2.2.2.1 _ h.2.choose_spec.2⟩)) hx h0 (hts _ w) (va_Nw.use rfl (hK.2.2.1 _ hcast)) h1 h2 h3 (kk q p l e s m args below meth c B H locs ls hL hP hS)
/-- 'throw new E("text")' -/
theorem J.throwS {own cls text : String} {names : List String} {ik is ic si k0 n0 : Nat} {bs : List Nat} {Po : Option Value → Heap → Prop} {Px : String → Heap → Prop} (hown : μ.1 = own) (hcls : Bundle.fit cls = true) (hnames : ∀ n ∈ names, Bundle.fit n = true) (hk : Cond.classLink own ik cls ∈ WSA) (hini : Cond.initialized cls ∈ WSA) (hstr : SKs[si]? = some (own, is, text, bs)) (hat : ∀ w ∈ vx_atS own ic cls names, w ∈ WSA ∨ w ∈ WSB) (hgood : ∀ w ∈ Cond.classLink own ik cls :: Cond.initialized cls :: vx_atS own ic cls names, vx_ot w = true)
    (d0 : decode μ.2.1 pc = .ok (.new ik, 3)) (d3 : decode μ.2.1 (pc + 3) = .ok (.dup, 1)) (d4 : decode μ.2.1 (pc + 4) = .ok (.ldc is, 2)) (d6 : decode μ.2.1 (pc + 6) = .ok (.invokespecial ic, 3)) (d9 : decode μ.2.1 (pc + 9) = .ok (.athrow, 1)) (h0 : μ.2.2.2.2.1 = [])
    (hRf : names.length + 3 < R.frames) (hRl : (rest.map fun v => v.category).sum + (13 * (names.length + 1) + 43) ≤ R.locals) (hRc : k + 1 ≤ R.cells) (hRs : n + 6 ≤ R.slots) (hc : k + 1 ≤ k0) (hs : n + 6 ≤ n0) (h : ∀ H H' : Heap, P H → H.size ≤ H'.size → (∀ q : Nat, q < H.size → H'[q]? = H[q]?) → Px cls H') :
    J γ μ R (fEx γ k0 n0 Po Px) k n pc L rest P := by
  intro p l e s m args below meth c B H locs ls hL hP hS
  have hts := B.2.2.2.2.2.2.1
  have hK := B.2.2.2.2.2.2.2.1
  refine vx_throwS (own := own) (cls := cls) (names := names) B.1 B.2.1 B.2.2.2.2.2.2.2.2.1 (hown ▸ B.2.2.2.2.2.1) hcls hnames (hts _ hk) (hts _ hini) (hK.2.2.2.2.1 si _ hstr) (fun w hw => ?_) hgood hK.2.2.2.2.2.2.1 hK.2.2.2.2.2.2.2.1 hS (hL.1.trans B.2.2.1.symm) d0 d3 d4 d6 d9 (by rw [B.2.2.2.2.2.2.2.2.2.1, h0]; intro x hx; cases hx) hRf hRl hRc hRs B.2.2.2.2.1 (fun t hv hz hq => ⟨h H _ hP hz hq, ?_⟩) hS.2.2 hc hs
  · rcases hat w hw with h | h
    · exact hts w h
    · have hn := hK.2.2.1 w h
      have hg := (List.mem_filter.mp h).2
      cases w <;> simp only [isB, Bool.false_eq_true] at hg
      all_goals exact va_Nw.use rfl hn
  · exact ⟨Nat.le_trans hS.1 hz, fun q h1 h2 => by rw [hq q (Nat.lt_of_lt_of_le h1 hS.1)]; exact hS.2.1 q h1 h2⟩
end JRows
