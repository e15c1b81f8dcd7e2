/-! descent and recall, under the invariant -/
section DR
variable {D : Int} {T N M H : Nat} {v : Vs} {o : Nat}
theorem Inv.par (h : Inv D T N M H (iv v o)) {a b : Nat} (ha : a < N) (hb : b < N) : parB v o a b = true ↔ iv v o 20 b = a ∨ iv v o 22 b = a := by
  have h20 := h.1.1.2
  unfold parB
  rw [decide_eq_true_iff, t_eq, t_eq, zP1 (by omega), zP2 (by omega), t_nI (by omega)]
/-- a parent: an earlier lot, that doesn't expire before -/
theorem Inv.parlt (h : Inv D T N M H (iv v o)) {a b : Nat} (ha : a < N) (hb : b < N) (hp : parB v o a b = true) : a < b ∧ iv v o 16 b ≤ iv v o 16 a ∧ iv v o 20 b ≠ -1 := by
  rw [h.par ha hb] at hp
  rcases (h.lot hb).2.2.2.2 with ⟨h1, h2⟩ | ⟨p, p1, p2, p3, p4⟩
  · omega
  · rcases hp with hp | hp
    · have : p = a := by omega
      subst this
      exact ⟨p1, p3, by omega⟩
    · rcases p4 with p4 | ⟨q, q1, q2, q3, q4⟩
      · omega
      · have : q = a := by omega
        subst this
        exact ⟨q1, q4, by omega⟩
/-- what descends comes later, doesn't expire after, and has a parent -/
theorem Inv.fwlt (h : Inv D T N M H (iv v o)) {a b : Nat} (ha : a < N) (hb : b < N) (hp : fw (parB v o) N a b = true) : a < b ∧ iv v o 16 b ≤ iv v o 16 a ∧ iv v o 20 b ≠ -1 :=
  fw_ind (Q := fun a b => a < N → b < N → a < b ∧ iv v o 16 b ≤ iv v o 16 a ∧ iv v o 20 b ≠ -1) (n := N) (fun a b hp ha hb => h.parlt ha hb hp) (fun a c b hc q1 q2 ha hb => by
    have h1 := q1 ha hc
    have h2 := q2 hc hb
    omega) N (Nat.le_refl N) a b hp ha hb
theorem Inv.foB (h : Inv D T N M H (iv v o)) {a s : Nat} (ha : a < N) (hs : s < 2 ^ 20) (hs2 : ∀ i, s.testBit i = true → i = a) : ∃ y, y < 2 ^ 20 ∧ fo v o N 20 a (nI s) = nI y ∧ ∀ i, y.testBit i = true ↔ s.testBit i = true ∨ (i < N ∧ fw (parB v o) N a i = true) := by
  have h20 := h.1.1.2
  exact ⟨_, foN_lt h20 20 a s hs, fo_N h20 20 a s ha hs, foN_fw (fun a b ha hb hp => (h.parlt ha hb hp).1) ha (by omega) hs2⟩
theorem bN_cn {y N : Nat} {p : Nat → Bool} (h20 : N ≤ 20) (h : ∀ i, y.testBit i = true ↔ i < N ∧ p i = true) : bN y 20 = cn p N := by
  have h1 : ∀ k, bN y (N + k) = cn p N := by
    intro k
    induction k with
    | zero =>
      show cn (fun i => y.testBit i) N = cn p N
      have : ∀ n, n ≤ N → cn (fun i => y.testBit i) n = cn p n := by
        intro n
        induction n with
        | zero => intro _; rfl
        | succ n ih =>
          intro hn
          simp only [cn]
          rw [ih (by omega)]
          have := h n
          by_cases q : p n = true
          · rw [if_pos q, if_pos (this.mpr ⟨by omega, q⟩)]
          · rw [if_neg q, if_neg (fun z => q (this.mp z).2)]
      exact this N (Nat.le_refl N)
    | succ k ih =>
      show cn (fun i => y.testBit i) (N + k) + (if y.testBit (N + k) = true then 1 else 0) = _
      rw [if_neg (fun z => by have := ((h _).mp z).1; omega)]
      exact ih
  have := h1 (20 - N)
  rwa [show N + (20 - N) = 20 by omega] at this
/-- by depth first as by the table -/
theorem Inv.desc (h : Inv D T N M H (iv v o)) {a : Nat} (ha : a < N) : bcJ (fo v o N 20 a 0) = nI (cn (fun j => fw (parB v o) N a j) N) := by
  obtain ⟨y, y1, y2, y3⟩ := h.foB ha (s := 0) (by decide) (fun i q => by rw [Nat.zero_testBit] at q; exact absurd q (by decide))
  rw [show (0 : Int32) = nI 0 from rfl, y2, bcJ_bits y1, bN_cn (p := fun j => fw (parB v o) N a j) h.1.1.2 (fun i => by rw [y3 i, Nat.zero_testBit]; exact ⟨fun z => z.resolve_left (by decide), .inr⟩)]
theorem Inv.descB (h : Inv D T N M H (iv v o)) {a b : Nat} (ha : a < N) (hb : b < N) : ((fo v o N 20 a 0 >>> (nI b &&& 31)) &&& 1 = 1) ↔ fw (parB v o) N a b = true := by
  have h20 := h.1.1.2
  obtain ⟨y, y1, y2, y3⟩ := h.foB ha (s := 0) (by decide) (fun i q => by rw [Nat.zero_testBit] at q; exact absurd q (by decide))
  rw [show (0 : Int32) = nI 0 from rfl, y2]
  have := bq_nI (x := y) (i := b) (by omega) (by omega)
  unfold bq at this
  rw [this]
  have := y3 b
  rw [Nat.zero_testBit] at this
  cases q : y.testBit b with
  | true => rw [if_pos rfl]; exact ⟨fun _ => ((this.mp q).resolve_left (by decide)).2, fun _ => rfl⟩
  | false => exact ⟨fun z => absurd z (by decide), fun z => by rw [q] at this; exact absurd (this.mpr (.inr ⟨hb, z⟩)) (by decide)⟩
theorem Inv.fmB (h : Inv D T N M H (iv v o)) {s : Nat} (hs : s < 2 ^ 20) : ∀ n, n ≤ N → ∃ y, y < 2 ^ 20 ∧ fmS v o (nI s) n = nI y ∧ ∀ j, y.testBit j = (s.testBit j && (decide (n ≤ j) || decide (0 ≤ iv v o 18 j)))
  | 0, _ => ⟨s, hs, rfl, fun j => by rw [decide_eq_true (Nat.zero_le j), Bool.true_or, Bool.and_true]⟩
  | n + 1, hn => by
    have h20 := h.1.1.2
    obtain ⟨y, y1, y2, y3⟩ := h.fmB hs n (by omega)
    have e : 0 ≤ gPl v o (nI n) ↔ 0 ≤ iv v o 18 n := by rw [t_le, zPl (by omega), t_0]
    by_cases q : 0 ≤ gPl v o (nI n)
    · refine ⟨y, y1, by rw [fmS, if_pos q]; exact y2, fun j => ?_⟩
      rw [y3]
      by_cases z : j = n
      · subst z
        rw [decide_eq_true (e.mp q), Bool.or_true, Bool.or_true]
      · rw [show decide (n ≤ j) = decide (n + 1 ≤ j) from decide_eq_decide.mpr (by omega)]
    · obtain ⟨w, w1, w2, w3⟩ := clr_nI y1 (show n < 20 by omega)
      refine ⟨w, w1, by rw [fmS, if_neg q, y2]; exact w2, fun j => ?_⟩
      rw [w3, y3]
      by_cases z : j = n
      · subst z
        rw [decide_eq_false (fun u => q (e.mpr u)), decide_eq_false (show ¬ j ≠ j from fun u => u rfl), decide_eq_false (show ¬ j + 1 ≤ j by omega)]
        simp
      · rw [show decide (n ≤ j) = decide (n + 1 ≤ j) from decide_eq_decide.mpr (by omega), decide_eq_true z, Bool.and_true]
/-- the lots that are recalled with a -/
def fmP (v : Vs) (o N a : Nat) (j : Nat) : Bool := (decide (j = a) || fw (parB v o) N a j) && decide (0 ≤ iv v o 18 j)
theorem Inv.famB (h : Inv D T N M H (iv v o)) {a : Nat} (ha : a < N) : ∃ y, y < 2 ^ 20 ∧ fam v o N a = nI y ∧ ∀ j, y.testBit j = true ↔ j < N ∧ fmP v o N a j = true := by
  have h20 := h.1.1.2
  obtain ⟨y, y1, y2, y3⟩ := h.foB ha (s := 2 ^ a) (Nat.pow_lt_pow_right (by decide) (by omega)) (fun i q => by rw [Nat.testBit_two_pow] at q; exact (of_decide_eq_true q).symm)
  obtain ⟨z, z1, z2, z3⟩ := h.fmB y1 N (Nat.le_refl N)
  refine ⟨z, z1, by unfold fam; rw [bit_I a (by omega), y2]; exact z2, fun j => ?_⟩
  have := y3 j
  rw [Nat.testBit_two_pow] at this
  rw [z3, Bool.and_eq_true, this]
  unfold fmP
  rw [Bool.and_eq_true, Bool.or_eq_true, Bool.or_eq_true]
  simp only [decide_eq_true_iff]
  constructor
  · rintro ⟨h1, h2⟩
    have hj : j < N := h1.elim (fun q => by omega) (fun q => q.1)
    exact ⟨hj, h1.imp Eq.symm (fun q => q.2), h2.resolve_left (by omega)⟩
  · rintro ⟨hj, h1, h2⟩
    exact ⟨h1.imp Eq.symm (fun q => ⟨hj, q⟩), .inr h2⟩
theorem Inv.famN (h : Inv D T N M H (iv v o)) {a : Nat} (ha : a < N) : bcJ (fam v o N a) = nI (cn (fmP v o N a) N) := by
  obtain ⟨y, y1, y2, y3⟩ := h.famB ha
  rw [y2, bcJ_bits y1, bN_cn h.1.1.2 y3]
theorem cn_le_cn {p q : Nat → Bool} : ∀ {n : Nat}, (∀ i, i < n → p i = true → q i = true) → cn p n ≤ cn q n
  | 0, _ => Nat.le_refl _
  | n + 1, h => by
    have h1 := cn_le_cn (n := n) (fun i hi => h i (by omega))
    have h2 := h n (by omega)
    simp only [cn]
    by_cases z : p n = true
    · rw [if_pos z, if_pos (h2 z)]; omega
    · rw [if_neg z]; split <;> omega
theorem cn_or {a : Nat} {q : Nat → Bool} : ∀ {n : Nat}, cn (fun j => decide (j = a) || q j) n ≤ cn q n + 1 ∧ (n ≤ a → cn (fun j => decide (j = a) || q j) n = cn q n)
  | 0 => ⟨by simp [cn], fun _ => rfl⟩
  | n + 1 => by
    obtain ⟨h1, h2⟩ := cn_or (a := a) (q := q) (n := n)
    simp only [cn]
    by_cases z : n = a
    · subst z
      have h3 := h2 (Nat.le_refl n)
      refine ⟨?_, fun h => by omega⟩
      (repeat' split) <;> omega
    · have e : (if (decide (n = a) || q n) = true then 1 else 0 : Nat) = if q n = true then 1 else 0 := by simp [z]
      rw [e]
      refine ⟨?_, fun h => ?_⟩
      · omega
      · rw [h2 (by omega)]
theorem Inv.fam_le (h : Inv D T N M H (iv v o)) {a : Nat} : cn (fmP v o N a) N ≤ cn (fun j => fw (parB v o) N a j) N + 1 :=
  Nat.le_trans (cn_le_cn (q := fun j => decide (j = a) || fw (parB v o) N a j) (fun i _ hi => by unfold fmP at hi; rw [Bool.and_eq_true] at hi; exact hi.1)) cn_or.1
/-- the set's lots go to the heap, one by one -/
theorem Inv.cbZ (h : Inv D T N M H (iv v o)) {y : Nat} (hy : y < 2 ^ 20) (hon : ∀ j, j < N → y.testBit j = true → 0 ≤ iv v o 18 j) : ∀ n, n ≤ N → (cbF v o H (nI y) n).2 = H + bN y n ∧ Inv D T N M (H + bN y n) (iv (cbF v o H (nI y) n).1 o) ∧ (∀ k, k ≠ o + 25 → k ≠ o + 23 → k ≠ o + 18 → (cbF v o H (nI y) n).1 k = v k) ∧ ∀ j, j < N → iv (cbF v o H (nI y) n).1 o 18 j = if j < n ∧ y.testBit j = true then -1 else iv v o 18 j
  | 0, _ => ⟨rfl, h, fun _ _ _ _ => rfl, fun j _ => (if_neg (by omega)).symm⟩
  | n + 1, hn => by
    have h20 := h.1.1.2
    obtain ⟨i1, i2, i3, i4⟩ := h.cbZ hy hon n (by omega)
    have eb : bN y (n + 1) = bN y n + (if y.testBit n = true then 1 else 0) := rfl
    have hq := bq_nI (x := y) (i := n) (by omega) (by omega)
    by_cases q : y.testBit n = true
    · have e : cbF v o H (nI y) (n + 1) = (hpV (cbF v o H (nI y) n).1 o (cbF v o H (nI y) n).2 n, (cbF v o H (nI y) n).2 + 1) := by
        rw [cbF, if_pos (by rw [hq, if_pos q])]; rfl
      rw [e, eb, if_pos q, i1]
      have hn18 := i4 n (by omega)
      rw [if_neg (by omega)] at hn18
      obtain ⟨p1, p2⟩ := i2.push (x := n) (by omega) (by rw [hn18]; exact hon n (by omega) q)
      refine ⟨rfl, p1, fun k k1 k2 k3 => ?_, fun j hj => ?_⟩
      · show hpV _ o _ n k = _
        rw [p2 k k1, if_neg k2, if_neg k3]; exact i3 k k1 k2 k3
      · show (hpV _ o _ n (o + 18) j).toInt = _
        rw [p2 _ (by omega), if_neg (by omega), if_pos rfl]
        unfold upd
        by_cases z : j = n
        · subst z
          rw [if_pos rfl, if_pos ⟨by omega, q⟩]; exact t_m1
        · rw [if_neg z]
          show iv _ o 18 j = _
          rw [i4 j hj]
          by_cases w : j < n ∧ y.testBit j = true
          · rw [if_pos w, if_pos ⟨by omega, w.2⟩]
          · rw [if_neg w, if_neg (fun u => w ⟨by omega, u.2⟩)]
    · have e : cbF v o H (nI y) (n + 1) = cbF v o H (nI y) n := by
        rw [cbF, if_neg (by rw [hq, if_neg q]; decide)]
      rw [e, eb, if_neg q]
      refine ⟨i1, i2, i3, fun j hj => ?_⟩
      rw [i4 j hj]
      by_cases w : j < n ∧ y.testBit j = true
      · rw [if_pos w, if_pos ⟨by omega, w.2⟩]
      · rw [if_neg w, if_neg (fun u => by
          by_cases z : j = n
          · subst z; exact q u.2
          · exact w ⟨by omega, u.2⟩)]
/-- a lot is recalled -/
theorem Inv.cRecall (h : Inv 0 T N M H (iv v o)) {a : Nat} (ha : a < N) : (recV v o N H a).1 = nI (cn (fmP v o N a) N) ∧ Inv 0 T N M (H + cn (fmP v o N a) N) (iv (recV v o N H a).2 o) ∧ (∀ k, k ≠ o + 25 → k ≠ o + 23 → k ≠ o + 18 → (recV v o N H a).2 k = v k) ∧ ∀ j, j < N → iv (recV v o N H a).2 o 18 j = if fmP v o N a j = true then -1 else iv v o 18 j := by
  obtain ⟨y, y1, y2, y3⟩ := h.famB ha
  have hN : bN y N = cn (fmP v o N a) N := by
    have h1 := bN_cn (p := fmP v o N a) (N := N) h.1.1.2 y3
    have h2 : ∀ n, n ≤ N → bN y n = cn (fmP v o N a) n := by
      intro n
      induction n with
      | zero => intro _; rfl
      | succ n ih =>
        intro hn
        show bN y n + _ = cn _ n + _
        rw [ih (by omega)]
        have := y3 n
        by_cases q : fmP v o N a n = true
        · rw [if_pos q, if_pos (this.mpr ⟨by omega, q⟩)]
        · rw [if_neg q, if_neg (fun z => q (this.mp z).2)]
    exact h2 N (Nat.le_refl N)
  obtain ⟨i1, i2, i3, i4⟩ := h.cbZ y1 (fun j hj q => by
    have := ((y3 j).mp q).2
    unfold fmP at this
    rw [Bool.and_eq_true] at this
    exact of_decide_eq_true this.2) N (Nat.le_refl N)
  rw [hN] at i2
  refine ⟨?_, ?_, ?_, ?_⟩
  · show bcJ (fam v o N a) = _
    exact h.famN ha
  · show Inv 0 T N M _ (iv (cbF v o H (fam v o N a) N).1 o)
    rw [y2]; exact i2
  · intro k k1 k2 k3
    show (cbF v o H (fam v o N a) N).1 k = _
    rw [y2]; exact i3 k k1 k2 k3
  · intro j hj
    show iv (cbF v o H (fam v o N a) N).1 o 18 j = _
    rw [y2, i4 j hj]
    by_cases q : fmP v o N a j = true
    · rw [if_pos q, if_pos ⟨hj, (y3 j).mpr ⟨hj, q⟩⟩]
    · rw [if_neg q, if_neg (fun z => q ((y3 j).mp z.2).2)]
end DR
