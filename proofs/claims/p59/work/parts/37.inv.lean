/-! what always holds of a stock's numbers -/
/-- a is composted before b -/
def hb (S : Zs) (a b : Nat) : Prop := S 14 b < S 14 a ∨ S 14 a = S 14 b ∧ (S 16 a < S 16 b ∨ S 16 a = S 16 b ∧ a < b)
/-- what lies on the shelf j, lot by lot; its room -/
def onZ (S : Zs) (j : Int) (i : Nat) : Int := if S 18 i = j then S 14 i else 0
def room (S : Zs) (N j : Nat) : Int := S 5 j - su (onZ S j) N
/-- is the lot on a shelf, on the heap -/
def isS (S : Zs) (i : Nat) : Int := if 0 ≤ S 18 i then 1 else 0
def isH (S : Zs) (i : Nat) : Int := if S 18 i = -1 then 1 else 0
def ShI (S : Zs) (j : Nat) : Prop := (0 ≤ S 3 j ∧ S 3 j ≤ 2) ∧ (1 ≤ S 5 j ∧ S 5 j ≤ 40) ∧ (-1 ≤ S 7 j ∧ S 7 j ≤ S 0 3)
def PlI (S : Zs) (M i : Nat) : Prop := (S 18 i = -2 ∧ S 14 i = 0) ∨ (S 18 i = -1 ∧ 0 < S 14 i ∧ S 14 i ≤ 40) ∨ ∃ j, j < M ∧ S 18 i = (j : Nat) ∧ S 3 j = S 12 i ∧ 0 < S 14 i ∧ S 14 i ≤ 40
def PaI (S : Zs) (i : Nat) : Prop := (S 20 i = -1 ∧ S 22 i = -1) ∨ ∃ a, a < i ∧ S 20 i = (a : Nat) ∧ S 16 i ≤ S 16 a ∧ (S 22 i = -1 ∨ ∃ b, b < i ∧ b ≠ a ∧ S 22 i = (b : Nat) ∧ S 16 i ≤ S 16 b)
def LotI (T : Nat) (S : Zs) (M i : Nat) : Prop := (0 ≤ S 10 i ∧ S 10 i ≤ 5) ∧ (0 ≤ S 12 i ∧ S 12 i ≤ 2) ∧ (0 ≤ S 16 i ∧ S 16 i ≤ T + 99) ∧ PlI S M i ∧ PaI S i
def HpI (S : Zs) (N H : Nat) : Prop := (H : Int) = su (isH S) N ∧ (∀ c, c < H → ∃ i, i < N ∧ S 25 c = (i : Nat) ∧ S 18 i = -1) ∧ (∀ c d, c < H → d < H → S 25 c = S 25 d → c = d) ∧ (∀ i, i < N → S 18 i = -1 → ∃ c, c < H ∧ S 25 c = (i : Nat)) ∧ (∀ c a b : Nat, 0 < c → c < H → S 25 c = (a : Nat) → S 25 ((c - 1) / 2) = (b : Nat) → hb S b a)
/-- the invariant; D: what is missing in the accounts while a command runs -/
def Inv (D : Int) (T N M H : Nat) (S : Zs) : Prop := ((S 8 7 = (N : Nat) ∧ N ≤ 20) ∧ (S 1 3 = (M : Nat) ∧ M ≤ 8) ∧ S 23 1 = (H : Nat)) ∧ ((0 ≤ S 0 3 ∧ S 0 3 ≤ T) ∧ S 0 4 ≤ T ∧ 0 ≤ S 0 5 ∧ 0 ≤ S 0 6 ∧ S 0 4 = su (S 14) N + S 0 5 + S 0 6 + D) ∧ (∀ j, j < M → ShI S j ∧ 0 ≤ room S N j) ∧ (∀ i, i < N → LotI T S M i) ∧ su (isS S) N ≤ 8 ∧ HpI S N H
theorem PlI.vo {S : Zs} {M i : Nat} (h : PlI S M i) : 0 ≤ S 14 i ∧ S 14 i ≤ 40 := by
  rcases h with ⟨-, h⟩ | ⟨-, h⟩ | ⟨j, -, -, -, h⟩ <;> omega
theorem PlI.on {S : Zs} {M i : Nat} (h : PlI S M i) (h0 : 0 ≤ S 18 i) : ∃ j, j < M ∧ S 18 i = (j : Nat) ∧ S 3 j = S 12 i ∧ 0 < S 14 i ∧ S 14 i ≤ 40 := by
  rcases h with ⟨h, -⟩ | ⟨h, -⟩ | h
  · omega
  · omega
  · exact h
theorem PlI.pos {S : Zs} {M i : Nat} (h : PlI S M i) (h0 : 0 < S 14 i) : -1 ≤ S 18 i := by
  rcases h with ⟨-, h⟩ | ⟨h, -⟩ | ⟨j, -, h, -⟩ <;> omega
theorem PlI.m8 {S : Zs} {M i : Nat} (h : PlI S M i) (h8 : M ≤ 8) : -2 ≤ S 18 i ∧ S 18 i < 8 := by
  rcases h with ⟨h, -⟩ | ⟨h, -⟩ | ⟨j, hj, h, -⟩ <;> omega
theorem PlI.congr {S S' : Zs} {M M' i : Nat} (h : PlI S M i) (hM : M ≤ M') (h3 : ∀ j, j < M → S' 3 j = S 3 j) (h18 : S' 18 i = S 18 i) (h14 : S' 14 i = S 14 i) (h12 : S' 12 i = S 12 i) : PlI S' M' i := by
  unfold PlI
  rw [h18, h14, h12]
  rcases h with h | h | ⟨j, hj, h⟩
  · exact .inl h
  · exact .inr (.inl h)
  · exact .inr (.inr ⟨j, by omega, by rw [h3 j hj]; exact h⟩)
theorem PaI.congr {S S' : Zs} {i : Nat} (h : PaI S i) (h20 : S' 20 i = S 20 i) (h22 : S' 22 i = S 22 i) (h16 : ∀ a, a ≤ i → S' 16 a = S 16 a) : PaI S' i := by
  unfold PaI
  rw [h20, h22, h16 i (Nat.le_refl i)]
  rcases h with h | ⟨a, ha, h1, h2, h3⟩
  · exact .inl h
  · refine .inr ⟨a, ha, h1, by rw [h16 a (by omega)]; exact h2, ?_⟩
    rcases h3 with h3 | ⟨b, hb, h3, h4, h5⟩
    · exact .inl h3
    · exact .inr ⟨b, hb, h3, h4, by rw [h16 b (by omega)]; exact h5⟩
/-- a lot of which nothing has changed -/
theorem LotI.congr {T T' : Nat} {S S' : Zs} {M M' i : Nat} (h : LotI T S M i) (hT : T ≤ T') (hM : M ≤ M') (h3 : ∀ j, j < M → S' 3 j = S 3 j) (h10 : S' 10 i = S 10 i) (h12 : S' 12 i = S 12 i) (h14 : S' 14 i = S 14 i) (h16 : ∀ a, a ≤ i → S' 16 a = S 16 a) (h18 : S' 18 i = S 18 i) (h20 : S' 20 i = S 20 i) (h22 : S' 22 i = S 22 i) : LotI T' S' M' i := by
  obtain ⟨a, b, c, d, e⟩ := h
  refine ⟨by rw [h10]; exact a, by rw [h12]; exact b, by rw [h16 i (Nat.le_refl i)]; omega, d.congr hM h3 h18 h14 h12, e.congr h20 h22 h16⟩
/-- a heap of which nothing has changed, and no lot has come to it or gone -/
theorem HpI.congr {S S' : Zs} {N N' H : Nat} (h : HpI S N H) (hN : N ≤ N') (h25 : ∀ c, c < H → S' 25 c = S 25 c) (h18 : ∀ i, i < N → (S' 18 i = -1 ↔ S 18 i = -1)) (hnew : ∀ i, N ≤ i → i < N' → S' 18 i ≠ -1) (h14 : ∀ i, i < N → S 18 i = -1 → S' 14 i = S 14 i ∧ S' 16 i = S 16 i) : HpI S' N' H := by
  obtain ⟨a, b, c, d, e⟩ := h
  have hsu : ∀ k, su (isH S') (N + k) = su (isH S) N ∨ N' < N + k := by
    intro k
    induction k with
    | zero => exact .inl (su_congr (fun i hi => by unfold isH; simp only [h18 i hi]))
    | succ k ih =>
      rcases Nat.lt_or_ge N' (N + (k + 1)) with q | q
      · exact .inr q
      · refine .inl ?_
        have h1 := ih.resolve_right (by omega)
        show su (isH S') (N + k) + isH S' (N + k) = _
        rw [h1, show isH S' (N + k) = 0 from if_neg (hnew _ (by omega) (by omega))]
        omega
  have hlt : ∀ x : Nat, x < H → ∀ i : Nat, S 25 x = (i : Nat) → i < N ∧ S 18 i = -1 := by
    intro x hx i hi
    obtain ⟨i', h1, h2, h3⟩ := b x hx
    have : i = i' := by omega
    subst this
    exact ⟨h1, h3⟩
  refine ⟨?_, ?_, ?_, ?_, ?_⟩
  · have := (hsu (N' - N)).resolve_right (by omega)
    rw [show N + (N' - N) = N' by omega] at this
    rw [this]; exact a
  · intro x hx
    obtain ⟨i, h1, h2, h3⟩ := b x hx
    exact ⟨i, by omega, by rw [h25 x hx]; exact h2, (h18 i h1).mpr h3⟩
  · intro x y hx hy q
    rw [h25 x hx, h25 y hy] at q
    exact c x y hx hy q
  · intro i hi q
    rcases Nat.lt_or_ge i N with q2 | q2
    · obtain ⟨x, hx, h2⟩ := d i q2 ((h18 i q2).mp q)
      exact ⟨x, hx, by rw [h25 x hx]; exact h2⟩
    · exact absurd q (hnew i q2 hi)
  · intro x p q h0 hx h1 h2
    rw [h25 x hx] at h1
    rw [h25 _ (by omega)] at h2
    have hp := hlt x hx p h1
    have hq := hlt _ (by omega) q h2
    have h3 := e x p q h0 hx h1 h2
    unfold hb at h3 ⊢
    rw [(h14 p hp.1 hp.2).1, (h14 p hp.1 hp.2).2, (h14 q hq.1 hq.2).1, (h14 q hq.1 hq.2).2]
    exact h3
theorem Inv.H20 {D : Int} {T N M H : Nat} {S : Zs} (h : Inv D T N M H S) : H ≤ N := by
  have h1 := h.2.2.2.2.2.1
  have h2 : su (isH S) N ≤ 1 * N := su_bd (fun i _ => by unfold isH; split <;> omega)
  omega
theorem Inv.mono {D : Int} {T T' N M H : Nat} {S : Zs} (h : Inv D T N M H S) (hT : T ≤ T') : Inv D T' N M H S := by
  obtain ⟨a, ⟨b1, b2, b3⟩, c, d, e⟩ := h
  exact ⟨a, ⟨by omega, by omega, b3⟩, c, fun i hi => (d i hi).congr hT (Nat.le_refl _) (fun _ _ => rfl) rfl rfl rfl (fun _ _ => rfl) rfl rfl rfl, e⟩
/-- the sum of the lots on two different places is no more than all -/
theorem Inv.stored_le {D : Int} {T N M H : Nat} {S : Zs} (h : Inv D T N M H S) : 0 ≤ su (S 14) N ∧ su (S 14) N ≤ 800 := by
  have h1 : 0 ≤ su (S 14) N := su_nonneg (fun i hi => (h.2.2.2.1 i hi).2.2.2.1.vo.1)
  have h2 : su (S 14) N ≤ 40 * N := su_bd (fun i hi => (h.2.2.2.1 i hi).2.2.2.1.vo.2)
  have h3 := h.1.1.2
  omega
/-! the commands' parts, on whole numbers -/
/-- the volume of a lot on a shelf becomes less -/
theorem Inv.less {D : Int} {T N M H : Nat} {S : Zs} (h : Inv D T N M H S) {x : Nat} (hx : x < N) (h18 : 0 ≤ S 18 x) {y : Int} (h0 : 0 < y) (hy : y ≤ S 14 x) : Inv (D + S 14 x - y) T N M H (uz S 14 x y) := by
  obtain ⟨⟨a1, a2, a3⟩, ⟨b1, b2, b3, b4, b5⟩, c, d, e, f⟩ := h
  have r14 : ∀ i, uz S 14 x y 14 i = if i = x then y else S 14 i := fun i => uz_at
  refine ⟨⟨by rw [uz_c (by decide)]; exact a1, by rw [uz_c (by decide)]; exact a2, by rw [uz_c (by decide)]; exact a3⟩, ⟨by rw [uz_c (by decide)]; exact b1, by rw [uz_c (by decide)]; exact b2, by rw [uz_c (by decide)]; exact b3, by rw [uz_c (by decide)]; exact b4, ?_⟩, ?_, ?_, ?_, ?_⟩
  · rw [uz_c (by decide), uz_c (by decide), uz_c (by decide), su_pt (g := S 14) (a := x) hx (fun i _ ne => by rw [r14, if_neg ne]), r14, if_pos rfl]
    omega
  · intro j hj
    obtain ⟨h1, h2⟩ := c j hj
    refine ⟨h1, ?_⟩
    have h3 : su (onZ (uz S 14 x y) j) N ≤ su (onZ S j) N := su_mono (fun i hi => by
      unfold onZ
      rw [uz_c (by decide), r14]
      by_cases q : i = x
      · subst q
        rw [if_pos rfl]
        split <;> omega
      · rw [if_neg q]; exact Int.le_refl _)
    show 0 ≤ uz S 14 x y 5 j - _
    have h4 : 0 ≤ S 5 j - su (onZ S j) N := h2
    rw [uz_c (by decide)]
    omega
  · intro i hi
    obtain ⟨h1, h2, h3, h4, h5⟩ := d i hi
    refine ⟨h1, h2, h3, ?_, h5⟩
    by_cases q : i = x
    · subst q
      obtain ⟨j, k1, k2, k3, k4⟩ := h4.on h18
      refine .inr (.inr ⟨j, k1, k2, k3, ?_⟩)
      rw [r14, if_pos rfl]
      omega
    · exact h4.congr (Nat.le_refl _) (fun _ _ => rfl) rfl (by rw [r14, if_neg q]) rfl
  · exact e
  · refine f.congr (Nat.le_refl _) (fun _ _ => rfl) (fun _ _ => Iff.rfl) (fun i h1 h2 => absurd h1 (by omega)) (fun i hi q => ⟨?_, rfl⟩)
    rw [r14, if_neg (fun z => by subst z; omega)]
/-- a lot on a shelf goes -/
def rmZ (S : Zs) (x : Nat) : Zs := uz (uz S 14 x 0) 18 x (-2)
theorem rmZ_14 {S : Zs} {x i : Nat} : rmZ S x 14 i = if i = x then 0 else S 14 i := by
  unfold rmZ; rw [uz_c (by decide)]; exact uz_at
theorem rmZ_18 {S : Zs} {x i : Nat} : rmZ S x 18 i = if i = x then -2 else S 18 i := by
  unfold rmZ; rw [uz_at, uz_c (by decide)]
theorem rmZ_o {S : Zs} {x c i : Nat} (h : c ≠ 14) (h2 : c ≠ 18) : rmZ S x c i = S c i := by
  unfold rmZ; rw [uz_c h2, uz_c h]
theorem Inv.gone {D : Int} {T N M H : Nat} {S : Zs} (h : Inv D T N M H S) {x : Nat} (hx : x < N) (h18 : 0 ≤ S 18 x) : Inv (D + S 14 x) T N M H (rmZ S x) := by
  obtain ⟨⟨a1, a2, a3⟩, ⟨b1, b2, b3, b4, b5⟩, c, d, e, f⟩ := h
  refine ⟨⟨a1, a2, a3⟩, ⟨b1, b2, b3, b4, ?_⟩, ?_, ?_, ?_, ?_⟩
  · show S 0 4 = su (rmZ S x 14) N + S 0 5 + S 0 6 + (D + S 14 x)
    rw [su_pt (g := S 14) (a := x) hx (fun i _ ne => by rw [rmZ_14, if_neg ne]), rmZ_14, if_pos rfl]
    omega
  · intro j hj
    obtain ⟨h1, h2⟩ := c j hj
    refine ⟨h1, ?_⟩
    have h3 : su (onZ (rmZ S x) j) N ≤ su (onZ S j) N := su_mono (fun i hi => by
      unfold onZ
      rw [rmZ_18, rmZ_14]
      by_cases q : i = x
      · subst q
        have := (d i hi).2.2.2.1.vo.1
        rw [if_pos rfl, if_pos rfl, if_neg (by omega)]
        split <;> omega
      · rw [if_neg q, if_neg q]; exact Int.le_refl _)
    have h4 : 0 ≤ S 5 j - su (onZ S j) N := h2
    show 0 ≤ S 5 j - _
    omega
  · intro i hi
    obtain ⟨h1, h2, h3, h4, h5⟩ := d i hi
    refine ⟨h1, h2, h3, ?_, h5⟩
    by_cases q : i = x
    · exact .inl ⟨by rw [rmZ_18, if_pos q], by rw [rmZ_14, if_pos q]⟩
    · exact h4.congr (Nat.le_refl _) (fun _ _ => rfl) (by rw [rmZ_18, if_neg q]) (by rw [rmZ_14, if_neg q]) rfl
  · refine Int.le_trans (su_mono (fun i hi => ?_)) e
    unfold isS
    rw [rmZ_18]
    by_cases q : i = x
    · rw [if_pos q, if_neg (by decide)]
      split <;> omega
    · rw [if_neg q]; exact Int.le_refl _
  · refine f.congr (Nat.le_refl _) (fun _ _ => rfl) (fun i hi => ?_) (fun i h1 h2 => absurd h1 (by omega)) (fun i hi q => ⟨?_, rfl⟩)
    · rw [rmZ_18]
      by_cases q : i = x
      · subst q; rw [if_pos rfl]; omega
      · rw [if_neg q]
    · rw [rmZ_14, if_neg (fun z => by subst z; omega)]
/-- a lot comes -/
def adZ (S : Zs) (N : Nat) (k z w d p p1 p2 : Int) : Zs := fun c j => if c = 8 ∧ j = 7 then (N + 1 : Nat) else if j = N then (if c = 10 then k else if c = 12 then z else if c = 14 then w else if c = 16 then d else if c = 18 then p else if c = 20 then p1 else if c = 22 then p2 else S c j) else S c j
theorem adZ_old {S : Zs} {N : Nat} {k z w d p p1 p2 : Int} {c j : Nat} (h : j ≠ N) (h8 : c ≠ 8) : adZ S N k z w d p p1 p2 c j = S c j := by
  unfold adZ; rw [if_neg (fun q => h8 q.1), if_neg h]
theorem Inv.add {D : Int} {T N M H : Nat} {S : Zs} (h : Inv D T N M H S) (hN : N < 20) {k z w d p1 p2 : Int} {p : Nat} (hk : 0 ≤ k ∧ k ≤ 5) (hw : 1 ≤ w ∧ w ≤ 40) (hd : 0 ≤ d ∧ d ≤ T + 99) (hp : p < M) (hz : S 3 p = z) (hr : w ≤ room S N p) (hs : su (isS S) N < 8)
    (hpa : (p1 = -1 ∧ p2 = -1) ∨ ∃ a, a < N ∧ p1 = (a : Nat) ∧ d ≤ S 16 a ∧ (p2 = -1 ∨ ∃ b, b < N ∧ b ≠ a ∧ p2 = (b : Nat) ∧ d ≤ S 16 b)) : Inv (D - w) T (N + 1) M H (adZ S N k z w d p p1 p2) := by
  obtain ⟨⟨a1, a2, a3⟩, ⟨b1, b2, b3, b4, b5⟩, c, dd, e, f⟩ := h
  have old : ∀ {c j : Nat}, j ≠ N → c ≠ 8 → adZ S N k z w d p p1 p2 c j = S c j := fun h h8 => adZ_old h h8
  have o1 : ∀ {c j : Nat}, c < 8 → adZ S N k z w d p p1 p2 c j = S c j := fun {c j} h => by
    unfold adZ
    rw [if_neg (by omega)]
    by_cases q : j = N
    · rw [if_pos q, if_neg (by omega), if_neg (by omega), if_neg (by omega), if_neg (by omega), if_neg (by omega), if_neg (by omega), if_neg (by omega)]
    · rw [if_neg q]
  have o2 : ∀ {c j : Nat}, 22 < c → adZ S N k z w d p p1 p2 c j = S c j := fun {c j} h => by
    unfold adZ
    rw [if_neg (by omega)]
    by_cases q : j = N
    · rw [if_pos q, if_neg (by omega), if_neg (by omega), if_neg (by omega), if_neg (by omega), if_neg (by omega), if_neg (by omega), if_neg (by omega)]
    · rw [if_neg q]
  have n10 : adZ S N k z w d p p1 p2 10 N = k := by unfold adZ; simp
  have n12 : adZ S N k z w d p p1 p2 12 N = z := by unfold adZ; simp
  have n14 : adZ S N k z w d p p1 p2 14 N = w := by unfold adZ; simp
  have n16 : adZ S N k z w d p p1 p2 16 N = d := by unfold adZ; simp
  have n18 : adZ S N k z w d p p1 p2 18 N = p := by unfold adZ; simp
  have n20 : adZ S N k z w d p p1 p2 20 N = p1 := by unfold adZ; simp
  have n22 : adZ S N k z w d p p1 p2 22 N = p2 := by unfold adZ; simp
  have sj : ∀ j : Int, su (onZ (adZ S N k z w d p p1 p2) j) (N + 1) = su (onZ S j) N + (if (p : Int) = j then w else 0) := by
    intro j
    show su _ N + onZ _ j N = _
    rw [su_congr (g' := onZ S j) (fun i hi => by unfold onZ; rw [old (by omega) (by decide), old (by omega) (by decide)])]
    unfold onZ
    rw [n18, n14]
  refine ⟨⟨⟨by unfold adZ; rw [if_pos ⟨rfl, rfl⟩], by omega⟩, by rw [o1 (by decide)]; exact a2, by rw [o2 (by decide)]; exact a3⟩, ⟨by rw [o1 (by decide)]; exact b1, by rw [o1 (by decide)]; exact b2, by rw [o1 (by decide)]; exact b3, by rw [o1 (by decide)]; exact b4, ?_⟩, ?_, ?_, ?_, ?_⟩
  · rw [o1 (by decide), o1 (by decide), o1 (by decide)]
    show S 0 4 = su _ N + _ + _ + _ + _
    rw [n14, su_congr (g' := S 14) (fun i hi => old (by omega) (by decide))]
    omega
  · intro j hj
    obtain ⟨h1, h2⟩ := c j hj
    refine ⟨by unfold ShI; rw [o1 (by decide), o1 (by decide), o1 (by decide), o1 (by decide)]; exact h1, ?_⟩
    unfold room at h2 hr ⊢
    rw [sj, o1 (by decide)]
    by_cases q : p = j
    · subst q; rw [if_pos rfl]; omega
    · rw [if_neg (by omega)]; omega
  · intro i hi
    by_cases q : i = N
    · subst q
      refine ⟨by rw [n10]; exact hk, ?_, by rw [n16]; exact hd, .inr (.inr ⟨p, hp, n18, ?_, by rw [n14]; omega⟩), ?_⟩
      · rw [n12, ← hz]; exact (c p hp).1.1
      · rw [o1 (by decide), n12]; exact hz
      · unfold PaI
        rw [n20, n22, n16]
        rcases hpa with hpa | ⟨a, ha, h1, h2, h3⟩
        · exact .inl hpa
        · refine .inr ⟨a, ha, h1, by rw [old (by omega) (by decide)]; exact h2, ?_⟩
          rcases h3 with h3 | ⟨b, hb, h4, h5, h6⟩
          · exact .inl h3
          · exact .inr ⟨b, hb, h4, h5, by rw [old (by omega) (by decide)]; exact h6⟩
    · exact (dd i (by omega)).congr (Nat.le_refl _) (Nat.le_refl _) (fun j _ => o1 (by decide)) (old q (by decide)) (old q (by decide)) (old q (by decide)) (fun a ha => old (by omega) (by decide)) (old q (by decide)) (old q (by decide)) (old q (by decide))
  · show su _ N + isS _ N ≤ 8
    rw [su_congr (g' := isS S) (fun i hi => by unfold isS; rw [old (by omega) (by decide)])]
    have e1 : isS (adZ S N k z w d p p1 p2) N ≤ 1 := by unfold isS; split <;> omega
    omega
  · refine f.congr (by omega) (fun c _ => o2 (by decide)) (fun i hi => by rw [old (by omega) (by decide)]) (fun i h1 h2 => ?_) (fun i hi _ => ⟨old (by omega) (by decide), old (by omega) (by decide)⟩)
    have : i = N := by omega
    subst this
    rw [n18]; omega
