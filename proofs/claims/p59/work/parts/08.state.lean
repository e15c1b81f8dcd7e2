/-! the state of a depot: which object or row lies at which place behind the depot's own, and the numbers in them: v k j is the j-th number of the cell at the place k -/
abbrev Sh : Type := (Nat × List (Option Nat)) ⊕ Nat
/-- the place c of a stock that begins at o -/
def stkSh (o : Nat) : Nat → Sh
  | 0 => .inl (12, [some (o + 1), some (o + 8), some (o + 23), none, none, none, none])
  | 1 => .inl (11, [some (o + 2), some (o + 4), some (o + 6), none])
  | 2 => .inl (10, [some (o + 3)])
  | 3 => .inr 8
  | 4 => .inl (10, [some (o + 5)])
  | 5 => .inr 8
  | 6 => .inl (10, [some (o + 7)])
  | 7 => .inr 8
  | 8 => .inl (8, [some (o + 9), some (o + 11), some (o + 13), some (o + 15), some (o + 17), some (o + 19), some (o + 21), none])
  | 9 => .inl (10, [some (o + 10)])
  | 10 => .inr 20
  | 11 => .inl (10, [some (o + 12)])
  | 12 => .inr 20
  | 13 => .inl (10, [some (o + 14)])
  | 14 => .inr 20
  | 15 => .inl (10, [some (o + 16)])
  | 16 => .inr 20
  | 17 => .inl (10, [some (o + 18)])
  | 18 => .inr 20
  | 19 => .inl (10, [some (o + 20)])
  | 20 => .inr 20
  | 21 => .inl (10, [some (o + 22)])
  | 22 => .inr 20
  | 23 => .inl (4, [some (o + 24), none])
  | 24 => .inl (10, [some (o + 25)])
  | _ => .inr 20
def tailSh : Nat → Option Sh
  | 0 => some (.inl (6, [none]))
  | 1 => some (.inl (5, [some 291]))
  | 2 => some (.inl (10, [some 292]))
  | 3 => some (.inr 400)
  | 4 => some (.inl (9, [some 294, some 296, some 298, some 300, none, none]))
  | 5 => some (.inl (10, [some 295]))
  | 6 => some (.inr 8)
  | 7 => some (.inl (10, [some 297]))
  | 8 => some (.inr 8)
  | 9 => some (.inl (10, [some 299]))
  | 10 => some (.inr 8)
  | 11 => some (.inl (10, [some 301]))
  | 12 => some (.inr 256)
  | 13 => some (.inl (13, [some 303, some 305, none, none, none, none]))
  | 14 => some (.inl (10, [some 304]))
  | 15 => some (.inr 60)
  | 16 => some (.inl (10, [some 306]))
  | 17 => some (.inr 4)
  | _ => none
def shape (k : Nat) : Option Sh :=
  if k = 0 then some (.inl (14, [some 1, some 27, some 53, some 79, some 289, some 290, some 293, some 302, some 307, none, none, none, none]))
  else if k < 79 then some (stkSh (1 + 26 * ((k - 1) / 26)) ((k - 1) % 26))
  else if k = 79 then some (.inl (7, [some 80, none, none]))
  else if k = 80 then none
  else if k < 289 then some (stkSh (81 + 26 * ((k - 81) / 26)) ((k - 81) % 26))
  else tailSh (k - 289)
theorem shape_lt {k : Nat} {x : Sh} (h : shape k = some x) : k < 307 ∧ k ≠ 80 := by
  by_cases h1 : k < 307
  · refine ⟨h1, fun e => ?_⟩
    subst e
    simp [shape] at h
  · exfalso
    unfold shape at h
    rw [if_neg (by omega), if_neg (by omega), if_neg (by omega), if_neg (by omega), if_neg (by omega)] at h
    obtain ⟨j, hj⟩ : ∃ j, k - 289 = j + 18 := ⟨k - 307, by omega⟩
    rw [hj] at h
    cases h
/-- a stock begins at o -/
def IsStk (o : Nat) : Prop := ∀ c, c < 26 → shape (o + c) = some (stkSh o c)
theorem isStk_main (i : Nat) (hi : i < 3) : IsStk (1 + 26 * i) := by
  intro c hc
  unfold shape
  rw [if_neg (by omega), if_pos (by omega), show (1 + 26 * i + c - 1) / 26 = i by omega, show (1 + 26 * i + c - 1) % 26 = c by omega]
theorem isStk_ring (i : Nat) (hi : i < 8) : IsStk (81 + 26 * i) := by
  intro c hc
  unfold shape
  rw [if_neg (by omega), if_neg (by omega), if_neg (by omega), if_neg (by omega), if_pos (by omega), show (81 + 26 * i + c - 81) / 26 = i by omega, show (81 + 26 * i + c - 81) % 26 = c by omega]
/-- a row of n numbers at r -/
def IsRow (r n : Nat) : Prop := shape r = some (.inl (10, [some (r + 1)])) ∧ shape (r + 1) = some (.inr n)
theorem IsStk.r8 {o : Nat} (h : IsStk o) : IsRow (o + 2) 8 ∧ IsRow (o + 4) 8 ∧ IsRow (o + 6) 8 := ⟨⟨h 2 (by decide), h 3 (by decide)⟩, ⟨h 4 (by decide), h 5 (by decide)⟩, ⟨h 6 (by decide), h 7 (by decide)⟩⟩
theorem IsStk.zn {o : Nat} (h : IsStk o) : IsRow (o + 2) 8 := h.r8.1
theorem IsStk.cp {o : Nat} (h : IsStk o) : IsRow (o + 4) 8 := h.r8.2.1
theorem IsStk.cd {o : Nat} (h : IsStk o) : IsRow (o + 6) 8 := h.r8.2.2
theorem IsStk.ki {o : Nat} (h : IsStk o) : IsRow (o + 9) 20 := ⟨h 9 (by decide), h 10 (by decide)⟩
theorem IsStk.lz {o : Nat} (h : IsStk o) : IsRow (o + 11) 20 := ⟨h 11 (by decide), h 12 (by decide)⟩
theorem IsStk.vo {o : Nat} (h : IsStk o) : IsRow (o + 13) 20 := ⟨h 13 (by decide), h 14 (by decide)⟩
theorem IsStk.ep {o : Nat} (h : IsStk o) : IsRow (o + 15) 20 := ⟨h 15 (by decide), h 16 (by decide)⟩
theorem IsStk.pl {o : Nat} (h : IsStk o) : IsRow (o + 17) 20 := ⟨h 17 (by decide), h 18 (by decide)⟩
theorem IsStk.p1 {o : Nat} (h : IsStk o) : IsRow (o + 19) 20 := ⟨h 19 (by decide), h 20 (by decide)⟩
theorem IsStk.p2 {o : Nat} (h : IsStk o) : IsRow (o + 21) 20 := ⟨h 21 (by decide), h 22 (by decide)⟩
theorem IsStk.hp {o : Nat} (h : IsStk o) : IsRow (o + 24) 20 := ⟨h 24 (by decide), h 25 (by decide)⟩
abbrev Vs : Type := Nat → Nat → Int32
def fvs (z : Nat) (f : Nat → Int32) : Nat → List (Option Nat) → List Value
  | _, [] => []
  | j, none :: t => .int (f j) :: fvs z f (j + 1) t
  | j, some r :: t => .ref (z + r) :: fvs z f (j + 1) t
def shE (γ : Gm) (v : Vs) (k : Nat) : Sh → va_E
  | .inl x => .inr (x.1, fvs (gz γ) (v k) 0 x.2)
  | .inr n => .inl (γ.2.1.1, n, .inl (v k))
/-- the output line: its StringBuilder and the bytes behind it -/
def LnR (γ : Gm) (H : Heap) : Prop := ∃ (q cap cnt : Nat) (ml : Int32) (f : Nat → Int32), va_at γ.1 vwCl (gz γ + 307, .inr (1, [.ref q, .int 0, .int ml, .int (nI cnt)])) H ∧ va_at γ.1 vwCl (q, .inl (γ.2.1.2.1, cap, .inl f)) H ∧ gz γ + 308 ≤ q ∧ (cap = 16 ∨ cap = 34) ∧ cnt ≤ cap ∧ sb_Fit f
/-- the heap holds the depot with the numbers v -/
def Rp (γ : Gm) (v : Vs) (H : Heap) : Prop := (∀ (k : Nat) (x : Sh), shape k = some x → va_at γ.1 vwCl (gz γ + k, shE γ v k x) H) ∧ va_at γ.1 vwCl (gz γ + 80, .inl (γ.2.1.2.2, 8, .inr (.inr (.inr (.inr (fun j => some (gz γ + (81 + 26 * j)))))))) H ∧ LnR γ H
theorem Rp.obj {γ : Gm} {v : Vs} {k ci : Nat} {fks : List (Option Nat)} (hs : shape k = some (.inl (ci, fks))) : ∀ H, Rp γ v H → va_at γ.1 vwCl (gz γ + k, .inr (ci, fvs (gz γ) (v k) 0 fks)) H := fun H h => h.1 k _ hs
theorem Rp.arr {γ : Gm} {v : Vs} {k n : Nat} (hs : shape k = some (.inr n)) : ∀ H, Rp γ v H → va_at γ.1 vwCl (gz γ + k, .inl (γ.2.1.1, n, .inl (v k))) H := fun H h => h.1 k _ hs
def up2 (v : Vs) (k j : Nat) (x : Int32) : Vs := fun k' => if k' = k then upd (v k) j x else v k'
theorem up2_s (v : Vs) (k j : Nat) (x : Int32) : up2 v k j x k = upd (v k) j x := by simp [up2]
theorem up2_o (v : Vs) {k k' : Nat} (j : Nat) (x : Int32) (h : k' ≠ k) : up2 v k j x k' = v k' := by simp [up2, h]
theorem LnR.keep {γ : Gm} {H H' : Heap} (h : LnR γ H) (hq : ∀ q : Nat, gz γ + 307 ≤ q → H[q]? ≠ none → H'[q]? = H[q]?) : LnR γ H' := by
  obtain ⟨q, cap, cnt, ml, f, h1, h2, h3, h4⟩ := h
  have l1 : H[gz γ + 307]? ≠ none := by have := h1.lt; simp only [ne_eq, Array.getElem?_eq_none_iff, Nat.not_le]; exact this
  have l2 : H[q]? ≠ none := by have := h2.lt; simp only [ne_eq, Array.getElem?_eq_none_iff, Nat.not_le]; exact this
  exact ⟨q, cap, cnt, ml, f, h1.kept (hq _ (Nat.le_refl _) l1), h2.kept (hq _ (by omega) l2), h3, h4⟩
theorem fvs_set {z : Nat} {f : Nat → Int32} {x : Int32} : ∀ (fks : List (Option Nat)) (i j : Nat), fks[j]? = some none → (fvs z f i fks).set j (.int x) = fvs z (upd f (i + j) x) i fks
  | [], i, j, h => by simp at h
  | none :: t, i, 0, h => by
    have e : ∀ (t : List (Option Nat)) (m : Nat), i < m → fvs z (upd f i x) m t = fvs z f m t := by
      intro t
      induction t with
      | nil => intro m _; rfl
      | cons a t ih =>
        intro m hm
        cases a with
        | none => simp only [fvs]; rw [ih (m + 1) (by omega)]; simp [upd, show m ≠ i by omega]
        | some r => simp only [fvs]; rw [ih (m + 1) (by omega)]
    simp only [fvs, List.set_cons_zero, Nat.add_zero]
    rw [e t (i + 1) (by omega)]
    simp [upd]
  | none :: t, i, j + 1, h => by
    have ih := fvs_set (z := z) (f := f) (x := x) t (i + 1) j (by simpa using h)
    simp only [fvs, List.set_cons_succ]
    rw [ih, show i + 1 + j = i + (j + 1) by omega]
    simp [upd, show i ≠ i + (j + 1) by omega]
  | some r :: t, i, 0, h => by simp at h
  | some r :: t, i, j + 1, h => by
    have ih := fvs_set (z := z) (f := f) (x := x) t (i + 1) j (by simpa using h)
    simp only [fvs, List.set_cons_succ]
    rw [ih, show i + 1 + j = i + (j + 1) by omega]
theorem fvs_len {z : Nat} {f : Nat → Int32} : ∀ (fks : List (Option Nat)) (i : Nat), (fvs z f i fks).length = fks.length
  | [], _ => rfl
  | none :: t, i => by simp [fvs, fvs_len t]
  | some r :: t, i => by simp [fvs, fvs_len t]
theorem fvs_int {z : Nat} {f : Nat → Int32} : ∀ (fks : List (Option Nat)) (i j : Nat), fks[j]? = some none → (fvs z f i fks)[j]? = some (.int (f (i + j)))
  | [], i, j, h => by simp at h
  | none :: t, i, 0, h => by simp [fvs]
  | some r :: t, i, 0, h => by simp at h
  | none :: t, i, j + 1, h => by
    simp only [fvs, List.getElem?_cons_succ]
    rw [fvs_int t (i + 1) j (by simpa using h), show i + 1 + j = i + (j + 1) by omega]
  | some r :: t, i, j + 1, h => by
    simp only [fvs, List.getElem?_cons_succ]
    rw [fvs_int t (i + 1) j (by simpa using h), show i + 1 + j = i + (j + 1) by omega]
theorem fvs_ref {z r : Nat} {f : Nat → Int32} : ∀ (fks : List (Option Nat)) (i j : Nat), fks[j]? = some (some r) → (fvs z f i fks)[j]? = some (.ref (z + r))
  | [], i, j, h => by simp at h
  | some r :: t, i, 0, h => by simp at h; subst h; simp [fvs]
  | none :: t, i, 0, h => by simp at h
  | none :: t, i, j + 1, h => by
    simp only [fvs, List.getElem?_cons_succ]
    exact fvs_ref t (i + 1) j (by simpa using h)
  | some r :: t, i, j + 1, h => by
    simp only [fvs, List.getElem?_cons_succ]
    exact fvs_ref t (i + 1) j (by simpa using h)
/-- one cell of the depot's numbers is another -/
theorem Rp.cell {γ : Gm} {v v' : Vs} {k : Nat} {x : Sh} {H H' : Heap} (h : Rp γ v H) (hs : shape k = some x) (hv : ∀ k', k' ≠ k → v' k' = v k') (hat : va_at γ.1 vwCl (gz γ + k, shE γ v' k x) H') (hq : ∀ q : Nat, q ≠ gz γ + k → H'[q]? = H[q]?) : Rp γ v' H' := by
  have hk := shape_lt hs
  refine ⟨fun k' x' hk' => ?_, h.2.1.kept (hq _ (by show gz γ + 80 ≠ _; omega)), h.2.2.keep (fun q hq1 _ => hq q (by omega))⟩
  by_cases e : k' = k
  · subst e
    cases Option.some.inj (hk'.symm.trans hs)
    exact hat
  · have h1 := (h.1 k' x' hk').kept (hq (gz γ + k') (by show gz γ + k' ≠ _; omega))
    unfold shE at h1 ⊢
    rw [hv k' e]
    exact h1
theorem Rp.put {γ : Gm} {v : Vs} {k ci j : Nat} {x : Int32} {fks : List (Option Nat)} (hs : shape k = some (.inl (ci, fks))) (hj : fks[j]? = some none) : ∀ H H' : Heap, Rp γ v H → va_at γ.1 vwCl (gz γ + k, .inr (ci, (fvs (gz γ) (v k) 0 fks).set j (.int x))) H' → H'.size = H.size → (∀ q : Nat, q ≠ gz γ + k → H'[q]? = H[q]?) → Rp γ (up2 v k j x) H' := by
  intro H H' h hat _ hq
  refine h.cell hs (fun k' hk' => up2_o v j x hk') ?_ hq
  unfold shE
  rw [up2_s]
  rw [fvs_set fks 0 j hj, Nat.zero_add] at hat
  exact hat
theorem Rp.ast {γ : Gm} {v : Vs} {k n j : Nat} {x : Int32} (hs : shape k = some (.inr n)) : ∀ H H' : Heap, Rp γ v H → va_at γ.1 vwCl (gz γ + k, .inl (γ.2.1.1, n, .inl (upd (v k) j x))) H' → H'.size = H.size → (∀ q : Nat, q ≠ gz γ + k → H'[q]? = H[q]?) → Rp γ (up2 v k j x) H' := by
  intro H H' h hat _ hq
  refine h.cell hs (fun k' hk' => up2_o v j x hk') ?_ hq
  unfold shE
  rw [up2_s]
  exact hat
theorem Rp.ext {γ : Gm} {v : Vs} {H H' : Heap} (h : Rp γ v H) (hq : ∀ q : Nat, q < H.size → H'[q]? = H[q]?) : Rp γ v H' := by
  refine ⟨fun k x hk => (h.1 k x hk).kept (hq _ (h.1 k x hk).lt), h.2.1.kept (hq _ h.2.1.lt), h.2.2.keep (fun q _ hn => hq q ?_)⟩
  simpa only [ne_eq, Array.getElem?_eq_none_iff, Nat.not_le] using hn
theorem Rp.isa {γ : Gm} {v : Vs} {C : String} {T : u_T} {N k ci : Nat} {fks : List (Option Nat)} (hc : vwCl[ci]? = some (C, T, N)) (hs : shape k = some (.inl (ci, fks))) : Isa γ C (gz γ + k) (Rp γ v) := Isa.of hc (Rp.obj hs)
section JV
variable {γ : Gm} {μ : Mu} {R : Room} {Q : Fin_} {k n pc : Nat} {L : List (Option Value)} {rest : List Value} {v : Vs}
/-- getfield of a number, of a reference; putfield of a number -/
theorem J.gi {own C : String} {T : u_T} {N ci index a : Nat} {fks : List (Option Nat)} (hown : μ.1 = own) (hc : vwCl[ci]? = some (C, T, N)) (hin : ∀ w ∈ u_ws C T N, w ∈ WSA) (j : Nat) (hj : j < N) (w : Cond.fieldLink own index (T j).1 (T j).2.1 (T j).2.2.1 ∈ WSA) (d : decode μ.2.1 pc = .ok (.getfield index, 3)) (hs : shape a = some (.inl (ci, fks))) (hf : fks[j]? = some none)
    (kk : J γ μ R Q k n (pc + 3) L (.int (v a j) :: rest) (Rp γ v)) : J γ μ R Q k n pc L (.ref (gz γ + a) :: rest) (Rp γ v) :=
  J.getf hown hc hin j hj w d (Rp.obj hs) (by rw [fvs_int fks 0 j hf, Nat.zero_add]) kk
theorem J.gr {own C : String} {T : u_T} {N ci index a r : Nat} {fks : List (Option Nat)} (hown : μ.1 = own) (hc : vwCl[ci]? = some (C, T, N)) (hin : ∀ w ∈ u_ws C T N, w ∈ WSA) (j : Nat) (hj : j < N) (w : Cond.fieldLink own index (T j).1 (T j).2.1 (T j).2.2.1 ∈ WSA) (d : decode μ.2.1 pc = .ok (.getfield index, 3)) (hs : shape a = some (.inl (ci, fks))) (hf : fks[j]? = some (some r))
    (kk : J γ μ R Q k n (pc + 3) L (.ref (gz γ + r) :: rest) (Rp γ v)) : J γ μ R Q k n pc L (.ref (gz γ + a) :: rest) (Rp γ v) :=
  J.getf hown hc hin j hj w d (Rp.obj hs) (fvs_ref fks 0 j hf) kk
theorem J.pi {own C : String} {T : u_T} {ty0 : Nat → FieldType} {N ci index a : Nat} {fks : List (Option Nat)} {x : Int32} (hown : μ.1 = own) (hc : vwCl[ci]? = some (C, T, N)) (hin : ∀ w ∈ u_ws C T N, w ∈ WSA) (hty : ∀ k, k < N → parseFieldDescriptor (T k).2.2.1 = some (ty0 k)) (hnm : ∀ a, a < N → ∀ b, b < N → a ≠ b → (T a).2.1 ≠ (T b).2.1)
    (j : Nat) (hj : j < N) (w : Cond.fieldLink own index (T j).1 (T j).2.1 (T j).2.2.1 ∈ WSA) (d : decode μ.2.1 pc = .ok (.putfield index, 3)) (hfin : (T j).2.2.2 = false) (hn : narrow (ty0 j) (.int x) = .int x) (hfit : fits (ty0 j) (.int x) = true) (hs : shape a = some (.inl (ci, fks))) (hf : fks[j]? = some none)
    (kk : J γ μ R Q k n (pc + 3) L rest (Rp γ (up2 v a j x))) : J γ μ R Q k n pc L (.int x :: .ref (gz γ + a) :: rest) (Rp γ v) :=
  J.putf hown hc hin hty hnm j hj w d hfin hn hfit (Nat.le_add_right _ _) (Rp.obj hs) (by rw [fvs_len]; exact (List.getElem?_eq_some_iff.mp hf).1) (Rp.put hs hf) kk
theorem J.ai {a len : Nat} {i : Int32} (d : decode μ.2.1 pc = .ok (.iaload, 1)) (hs : shape a = some (.inr len)) (hin : vp_in i len) (kk : J γ μ R Q k n (pc + 1) L (.int (v a i.toNatClampNeg) :: rest) (Rp γ v)) : J γ μ R Q k n pc L (.int i :: .ref (gz γ + a) :: rest) (Rp γ v) := J.iald d (Rp.arr hs) hin kk
theorem J.al {a len : Nat} {y : Int32} (d : decode μ.2.1 pc = .ok (.arraylength, 1)) (hs : shape a = some (.inr len)) (hv : Int32.ofNat len = y) (kk : J γ μ R Q k n (pc + 1) L (.int y :: rest) (Rp γ v)) : J γ μ R Q k n pc L (.ref (gz γ + a) :: rest) (Rp γ v) := J.alenI d (Rp.arr hs) hv kk
theorem J.as {a len : Nat} {i x : Int32} (d : decode μ.2.1 pc = .ok (.iastore, 1)) (hs : shape a = some (.inr len)) (hin : vp_in i len) (kk : J γ μ R Q k n (pc + 1) L rest (Rp γ (up2 v a i.toNatClampNeg x))) : J γ μ R Q k n pc L (.int x :: .int i :: .ref (gz γ + a) :: rest) (Rp γ v) := J.iast d (Rp.arr hs) hin (Nat.le_add_right _ _) (Rp.ast hs) kk
end JV
section JC
variable {γ : Gm} {μ : Mu} {R : Room} {Q : Fin_} {k n pc : Nat} {L : List (Option Value)} {rest : List Value} {P P' : Heap → Prop}
/-- calls that answer one thing, or nothing -/
theorem J.cV {own : String} {index d k' n' nn b : Nat} {μ' : Mu} {y : MethodName} {As st : List Value} {r : Value} (hE : Ev γ μ' y d k' n' (.ref b :: As) P (fun w H => w = some r ∧ P' H)) (hown : μ.1 = own) (w : Cond.methodLink own index y ∈ WSA) (mi : MI y μ' nn) (h0 : μ'.2.2.2.2.1 = []) (dd : decode μ.2.1 pc = .ok (.invokevirtual index, 3)) (hb : Isa γ y.cls b P) (hst : st = As.reverse ++ .ref b :: rest) (hn : As.length = nn)
    (hR : d + 1 ≤ R.frames ∧ 8 + (μ'.2.2.1 + 11) + 64 * d ≤ R.locals) (hk : k + k' ≤ R.cells ∧ n + n' ≤ R.slots) (hr : (rest.map fun v => v.category).sum ≤ 8) (kk : J γ μ R Q (k + k') (n + n') (pc + 3) L (r :: rest) P') : J γ μ R Q k n pc L st P :=
  J.callV hE hown w mi h0 dd hb hst hn hR hk hr (fun v => J.and (fun e => by subst e; exact kk))
theorem J.cV0 {own : String} {index d k' n' nn b : Nat} {μ' : Mu} {y : MethodName} {As st : List Value} (hE : Ev γ μ' y d k' n' (.ref b :: As) P (fun w H => w = none ∧ P' H)) (hown : μ.1 = own) (w : Cond.methodLink own index y ∈ WSA) (mi : MI y μ' nn) (h0 : μ'.2.2.2.2.1 = []) (dd : decode μ.2.1 pc = .ok (.invokevirtual index, 3)) (hb : Isa γ y.cls b P) (hst : st = As.reverse ++ .ref b :: rest) (hn : As.length = nn)
    (hR : d + 1 ≤ R.frames ∧ 8 + (μ'.2.2.1 + 11) + 64 * d ≤ R.locals) (hk : k + k' ≤ R.cells ∧ n + n' ≤ R.slots) (hr : (rest.map fun v => v.category).sum ≤ 8) (kk : J γ μ R Q (k + k') (n + n') (pc + 3) L rest P') : J γ μ R Q k n pc L st P :=
  J.callV hE hown w mi h0 dd hb hst hn hR hk hr (fun v => J.and (fun e => by subst e; exact kk))
theorem J.cS {own : String} {index d k' n' nn : Nat} {μ' : Mu} {y : MethodName} {As st : List Value} {r : Value} (hE : Ev γ μ' y d k' n' As P (fun w H => w = some r ∧ P' H)) (hown : μ.1 = own) (w : Cond.methodLink own index y ∈ WSA) (mi : MS y μ' nn) (h0 : μ'.2.2.2.2.1 = []) (dd : decode μ.2.1 pc = .ok (.invokestatic index, 3)) (hst : st = As.reverse ++ rest) (hn : As.length = nn)
    (hR : d + 1 ≤ R.frames ∧ 8 + (μ'.2.2.1 + 11) + 64 * d ≤ R.locals) (hk : k + k' ≤ R.cells ∧ n + n' ≤ R.slots) (hr : (rest.map fun v => v.category).sum ≤ 8) (kk : J γ μ R Q (k + k') (n + n') (pc + 3) L (r :: rest) P') : J γ μ R Q k n pc L st P :=
  J.callS hE hown w mi h0 dd hst hn hR hk hr (fun v => J.and (fun e => by subst e; exact kk))
theorem J.cS0 {own : String} {index d k' n' nn : Nat} {μ' : Mu} {y : MethodName} {As st : List Value} (hE : Ev γ μ' y d k' n' As P (fun w H => w = none ∧ P' H)) (hown : μ.1 = own) (w : Cond.methodLink own index y ∈ WSA) (mi : MS y μ' nn) (h0 : μ'.2.2.2.2.1 = []) (dd : decode μ.2.1 pc = .ok (.invokestatic index, 3)) (hst : st = As.reverse ++ rest) (hn : As.length = nn)
    (hR : d + 1 ≤ R.frames ∧ 8 + (μ'.2.2.1 + 11) + 64 * d ≤ R.locals) (hk : k + k' ≤ R.cells ∧ n + n' ≤ R.slots) (hr : (rest.map fun v => v.category).sum ≤ 8) (kk : J γ μ R Q (k + k') (n + n') (pc + 3) L rest P') : J γ μ R Q k n pc L st P :=
  J.callS hE hown w mi h0 dd hst hn hR hk hr (fun v => J.and (fun e => by subst e; exact kk))
end JC
/-- a method that reads the depot; one that changes its numbers -/
abbrev Er (γ : Gm) (μ : Mu) (y : MethodName) (d : Nat) (av : List Value) (v : Vs) (r : Value) : Prop := Ev γ μ y d 0 0 av (Rp γ v) (fun w H => w = some r ∧ Rp γ v H)
abbrev Ew (γ : Gm) (μ : Mu) (y : MethodName) (d : Nat) (av : List Value) (v : Vs) (r : Option Value) (v' : Vs) : Prop := Ev γ μ y d 0 0 av (Rp γ v) (fun w H => w = r ∧ Rp γ v' H)
