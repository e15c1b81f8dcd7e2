/-! ranks in an order -/
/-- how many of D come before i -/
def rk (D : Nat → Bool) (r : Nat → Nat → Bool) (n i : Nat) : Nat := cn (fun j => D j && r j i) n
/-- a strict order on the D's below n -/
def Sto (D : Nat → Bool) (r : Nat → Nat → Bool) (n : Nat) : Prop := (∀ i, i < n → r i i = false) ∧ (∀ a b c, a < n → b < n → c < n → r a b = true → r b c = true → r a c = true) ∧ ∀ a b, a < n → b < n → D a = true → D b = true → a ≠ b → r a b = false → r b a = true
theorem cn_lt {p q : Nat → Bool} {a : Nat} : ∀ {n : Nat}, a < n → (∀ i, i < n → p i = true → q i = true) → p a = false → q a = true → cn p n < cn q n
  | 0, h, _, _, _ => absurd h (Nat.not_lt_zero _)
  | n + 1, h, hpq, hp, hq => by
    simp only [cn]
    by_cases e : a = n
    · subst e
      rw [if_neg (by rw [hp]; decide), if_pos hq]
      have := cn_le_cn (n := a) (fun i hi => hpq i (by omega))
      omega
    · have := cn_lt (n := n) (by omega) (fun i hi => hpq i (by omega)) hp hq
      have h2 := hpq n (by omega)
      by_cases z : p n = true
      · rw [if_pos z, if_pos (h2 z)]; omega
      · rw [if_neg z]; split <;> omega
theorem cn_congr {p q : Nat → Bool} : ∀ {n : Nat}, (∀ i, i < n → p i = q i) → cn p n = cn q n
  | 0, _ => rfl
  | n + 1, h => by
    simp only [cn]
    rw [cn_congr (fun i hi => h i (by omega)), h n (by omega)]
/-- one more -/
theorem cn_add {p : Nat → Bool} {a : Nat} : ∀ {n : Nat}, a < n → p a = false → cn (fun i => p i || decide (i = a)) n = cn p n + 1
  | 0, h, _ => absurd h (Nat.not_lt_zero _)
  | n + 1, h, hp => by
    simp only [cn]
    by_cases e : a = n
    · subst e
      have h1 : cn (fun i => p i || decide (i = a)) a = cn p a := cn_congr (fun i hi => by rw [decide_eq_false (by omega), Bool.or_false])
      rw [h1]
      simp [hp]
    · have ih := cn_add (n := n) (by omega) hp
      rw [ih]
      have e2 : (if (p n || decide (n = a)) = true then 1 else 0 : Nat) = if p n = true then 1 else 0 := by
        have : ¬ n = a := fun q => e q.symm
        simp [this]
      rw [e2]; omega
/-- the first of some -/
theorem min_of {D : Nat → Bool} {r : Nat → Nat → Bool} {n : Nat} (h : Sto D r n) {p : Nat → Bool} : ∀ m, m ≤ n → (∃ i, i < m ∧ D i = true ∧ p i = true) → ∃ i, i < m ∧ D i = true ∧ p i = true ∧ ∀ k, k < m → D k = true → p k = true → k ≠ i → r i k = true
  | 0, _, ⟨i, hi, _⟩ => absurd hi (Nat.not_lt_zero _)
  | m + 1, hm, hex => by
    by_cases q : ∃ i, i < m ∧ D i = true ∧ p i = true
    · obtain ⟨i, hi, h1, h2, h3⟩ := min_of h m (by omega) q
      by_cases z : (D m = true ∧ p m = true) ∧ r i m = false
      · have hmi := h.2.2 i m (by omega) (by omega) h1 z.1.1 (by omega) z.2
        refine ⟨m, by omega, z.1.1, z.1.2, fun k hk k1 k2 ne => ?_⟩
        by_cases e : k = i
        · subst e; exact hmi
        · exact h.2.1 m i k (by omega) (by omega) (by omega) hmi (h3 k (by omega) k1 k2 e)
      · refine ⟨i, by omega, h1, h2, fun k hk k1 k2 ne => ?_⟩
        by_cases e : k = m
        · subst e
          cases w : r i k with
          | true => rfl
          | false => exact absurd ⟨⟨k1, k2⟩, w⟩ z
        · exact h3 k (by omega) k1 k2 ne
    · obtain ⟨i, hi, h1, h2⟩ := hex
      have e : i = m := by
        rcases Nat.lt_or_ge i m with w | w
        · exact absurd ⟨i, w, h1, h2⟩ q
        · omega
      subst e
      exact ⟨i, hi, h1, h2, fun k hk k1 k2 ne => absurd ⟨k, by omega, k1, k2⟩ q⟩
theorem rk_lt {D : Nat → Bool} {r : Nat → Nat → Bool} {n a b : Nat} (h : Sto D r n) (ha : a < n) (hb : b < n) (hD : D a = true) (hab : r a b = true) : rk D r n a < rk D r n b :=
  cn_lt ha (fun i hi q => by
    simp only [Bool.and_eq_true] at q ⊢
    exact ⟨q.1, h.2.1 i a b hi ha hb q.2 hab⟩) (by rw [h.1 a ha, Bool.and_false]) (by rw [hD, hab]; rfl)
theorem rk_all {D : Nat → Bool} {r : Nat → Nat → Bool} {n a : Nat} (h : Sto D r n) (ha : a < n) (hD : D a = true) : rk D r n a < cn D n :=
  cn_lt ha (fun i hi q => by simp only [Bool.and_eq_true] at q; exact q.1) (by rw [h.1 a ha, Bool.and_false]) hD
/-- each rank is some one's -/
theorem rk_ex {D : Nat → Bool} {r : Nat → Nat → Bool} {n : Nat} (h : Sto D r n) : ∀ x, x < cn D n → ∃ i, i < n ∧ D i = true ∧ rk D r n i = x
  | 0, hx => by
    have hex : ∃ i, i < n ∧ D i = true ∧ (fun _ => true) i = true := by
      have : ∀ m, 0 < cn D m → ∃ i, i < m ∧ D i = true := by
        intro m
        induction m with
        | zero => intro z; exact absurd z (Nat.lt_irrefl 0)
        | succ m ih =>
          intro z
          by_cases q : D m = true
          · exact ⟨m, by omega, q⟩
          · simp only [cn] at z
            rw [if_neg q] at z
            obtain ⟨i, hi, w⟩ := ih (by omega)
            exact ⟨i, by omega, w⟩
      obtain ⟨i, hi, w⟩ := this n hx
      exact ⟨i, hi, w, rfl⟩
    obtain ⟨i, hi, h1, -, h3⟩ := min_of h (p := fun _ => true) n (Nat.le_refl n) hex
    refine ⟨i, hi, h1, ?_⟩
    have : rk D r n i = cn (fun _ => false) n := cn_congr (fun j hj => by
      by_cases e : j = i
      · subst e; rw [h.1 j hj, Bool.and_false]
      · cases w : D j with
        | false => rfl
        | true =>
          have h4 := h3 j hj w rfl e
          cases w2 : r j i with
          | false => rfl
          | true =>
            have := h.2.1 i j i hi hj hi h4 w2
            rw [h.1 i hi] at this; exact absurd this (by decide))
    rw [this]
    have : ∀ m, cn (fun _ => false) m = 0 := fun m => by
      induction m with
      | zero => rfl
      | succ m ih => simp only [cn]; rw [ih]; rfl
    exact this n
  | x + 1, hx => by
    obtain ⟨i, hi, h1, h2⟩ := rk_ex h x (by omega)
    have hex : ∃ k, k < n ∧ D k = true ∧ r i k = true := by
      rcases Classical.em (∃ k, k < n ∧ D k = true ∧ r i k = true) with q | q
      · exact q
      · exfalso
        have : cn D n = rk D r n i + 1 := by
          unfold rk
          rw [← cn_add hi (p := fun j => D j && r j i) (by rw [h.1 i hi, Bool.and_false])]
          refine cn_congr (fun j hj => ?_)
          by_cases e : j = i
          · subst e; rw [h1]; simp
          · rw [decide_eq_false e, Bool.or_false]
            cases w : D j with
            | false => rfl
            | true =>
              cases w2 : r j i with
              | true => rfl
              | false =>
                exact absurd ⟨j, hj, w, h.2.2 j i hj hi w h1 e w2⟩ q
        omega
    obtain ⟨k, hk, k1, k2, k3⟩ := min_of h (p := fun k => r i k) n (Nat.le_refl n) hex
    refine ⟨k, hk, k1, ?_⟩
    have hki : k ≠ i := fun q => by subst q; rw [h.1 k hk] at k2; exact absurd k2 (by decide)
    have : rk D r n k = rk D r n i + 1 := by
      unfold rk
      rw [← cn_add hi (p := fun j => D j && r j i) (by rw [h.1 i hi, Bool.and_false])]
      refine cn_congr (fun j hj => ?_)
      by_cases e : j = i
      · subst e; rw [h1, k2]; simp
      · rw [decide_eq_false e, Bool.or_false]
        cases w : D j with
        | false => rfl
        | true =>
          cases w2 : r j i with
          | true => rw [h.2.1 j i k hj hi hk w2 k2]
          | false =>
            have hij := h.2.2 j i hj hi w h1 e w2
            cases w3 : r j k with
            | false => rfl
            | true =>
              by_cases e2 : j = k
              · subst e2; rw [h.1 j hj] at w3; exact absurd w3 (by decide)
              · have := h.2.1 k j k hk hj hk (k3 j hj w hij e2) w3
                rw [h.1 k hk] at this; exact absurd this (by decide)
    rw [this, h2]
theorem fdr_le (p : Nat → Bool) : ∀ n, fd p n ≤ n
  | 0 => Nat.le_refl 0
  | n + 1 => by
    have := fdr_le p n
    simp only [fd]
    (repeat' split) <;> omega
theorem fdr_p (p : Nat → Bool) : ∀ n, fd p n < n → p (fd p n) = true
  | 0, h => absurd h (Nat.not_lt_zero _)
  | n + 1, h => by
    simp only [fd] at h ⊢
    by_cases q : fd p n < n
    · rw [if_pos q]; exact fdr_p p n q
    · rw [if_neg q] at h ⊢
      by_cases z : p n = true
      · rw [if_pos z]; exact z
      · rw [if_neg z] at h; omega
theorem fdr_ex (p : Nat → Bool) : ∀ n i, i < n → p i = true → fd p n < n ∧ fd p n ≤ i
  | 0, i, h, _ => absurd h (Nat.not_lt_zero _)
  | n + 1, i, h, hp => by
    simp only [fd]
    by_cases e : i = n
    · subst e
      have := fdr_le p i
      by_cases q : fd p i < i
      · rw [if_pos q]; omega
      · rw [if_neg q, if_pos hp]; omega
    · have ih := fdr_ex p n i (by omega) hp
      rw [if_pos ih.1]; omega
/-- who has the rank x, as the program finds it -/
theorem fdI_y {D : Nat → Bool} {r : Nat → Nat → Bool} {n x : Nat} (h : Sto D r n) {p : Nat → Bool} (hp : ∀ i, i < n → (p i = true ↔ D i = true ∧ rk D r n i = x)) (hx : x < cn D n) : ∃ i, i < n ∧ D i = true ∧ rk D r n i = x ∧ fdI p n = nI i := by
  obtain ⟨i, hi, h1, h2⟩ := rk_ex h x hx
  obtain ⟨f1, -⟩ := fdr_ex p n i hi ((hp i hi).mpr ⟨h1, h2⟩)
  have h3 := (hp _ f1).mp (fdr_p p n f1)
  exact ⟨fd p n, f1, h3.1, h3.2, by unfold fdI; rw [if_pos f1]⟩
theorem fdI_n {n : Nat} {p : Nat → Bool} (hp : ∀ i, i < n → p i = false) : fdI p n = -1 := by
  unfold fdI
  rw [if_neg]
  intro q
  have := fdr_p p n q
  rw [hp _ q] at this
  exact absurd this (by decide)
/-- two ranks, one behind the other -/
theorem rk_next {D : Nat → Bool} {r : Nat → Nat → Bool} {n a b : Nat} (h : Sto D r n) (ha : a < n) (hb : b < n) (hDa : D a = true) (hDb : D b = true) (hl : rk D r n a < rk D r n b) : r a b = true := by
  cases w : r a b with
  | true => rfl
  | false =>
    have hne : a ≠ b := fun q => by subst q; omega
    have := rk_lt h hb ha hDb (h.2.2 a b ha hb hDa hDb hne w)
    omega
