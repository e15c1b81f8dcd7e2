/-! the numbers of a stock as whole numbers; sums -/
abbrev Zs : Type := Nat → Nat → Int
def iv (v : Vs) (o : Nat) : Zs := fun c j => (v (o + c) j).toInt
/-- the place j of c is x -/
def uz (S : Zs) (c j : Nat) (x : Int) : Zs := fun c' j' => if c' = c ∧ j' = j then x else S c' j'
theorem uz_s {S : Zs} {c j : Nat} {x : Int} : uz S c j x c j = x := if_pos ⟨rfl, rfl⟩
theorem uz_c {S : Zs} {c j c' j' : Nat} {x : Int} (h : c' ≠ c) : uz S c j x c' j' = S c' j' := if_neg (fun q => h q.1)
theorem uz_j {S : Zs} {c j c' j' : Nat} {x : Int} (h : j' ≠ j) : uz S c j x c' j' = S c' j' := if_neg (fun q => h q.2)
theorem uz_at {S : Zs} {c j j' : Nat} {x : Int} : uz S c j x c j' = if j' = j then x else S c j' := by
  unfold uz
  by_cases h : j' = j
  · rw [if_pos ⟨rfl, h⟩, if_pos h]
  · rw [if_neg (fun q => h q.2), if_neg h]
theorem iv_up2 {v : Vs} {o c j : Nat} {x : Int32} : iv (up2 v (o + c) j x) o = uz (iv v o) c j x.toInt := by
  funext c' j'
  unfold iv uz
  by_cases h : c' = c
  · subst h
    rw [up2_s]
    unfold upd
    by_cases h2 : j' = j
    · rw [if_pos h2, if_pos ⟨rfl, h2⟩]
    · rw [if_neg h2, if_neg (fun q => h2 q.2)]
  · rw [up2_o _ _ _ (by omega), if_neg (fun q => h q.1)]
theorem iv_up2' {v : Vs} {o k j : Nat} {x : Int32} (h : k < o ∨ o + 26 ≤ k) {c : Nat} (hc : c < 26) : iv (up2 v k j x) o c = iv v o c := by
  funext j'
  unfold iv
  rw [up2_o _ _ _ (by omega)]
theorem iv_rs {v : Vs} {o c n j : Nat} {x : Int32} (hj : j < n) (hn : n ≤ 1000) : iv (rs v (o + c) n (nI j) x) o = uz (iv v o) c j x.toInt := by
  rw [rs_nI hj hn]; exact iv_up2
theorem iv_rg {v : Vs} {o c n j : Nat} (hj : j < n) (hn : n ≤ 1000) : (rg (v (o + c)) n (nI j)).toInt = iv v o c j := by
  rw [rg_nI hj hn]; rfl
/-! signs and sizes -/
theorem t_eq {x y : Int32} : x = y ↔ x.toInt = y.toInt := Int32.toInt_inj.symm
theorem t_lt {x y : Int32} : x < y ↔ x.toInt < y.toInt := Int32.lt_iff_toInt_lt
theorem t_le {x y : Int32} : x ≤ y ↔ x.toInt ≤ y.toInt := Int32.le_iff_toInt_le
theorem t_nI {n : Nat} (h : n < 2147483648) : (nI n).toInt = n := nI_toInt h
theorem t_add {x y : Int32} (h1 : -2147483648 ≤ x.toInt + y.toInt) (h2 : x.toInt + y.toInt < 2147483648) : (x + y).toInt = x.toInt + y.toInt := by
  rw [Int32.toInt_add, Int.bmod_eq_of_le (by omega) (by omega)]
theorem t_sub {x y : Int32} (h1 : -2147483648 ≤ x.toInt - y.toInt) (h2 : x.toInt - y.toInt < 2147483648) : (x - y).toInt = x.toInt - y.toInt := by
  rw [Int32.toInt_sub, Int.bmod_eq_of_le (by omega) (by omega)]
theorem t_0 : (0 : Int32).toInt = 0 := rfl
theorem t_1 : (1 : Int32).toInt = 1 := rfl
theorem t_m1 : (-1 : Int32).toInt = -1 := by decide
theorem t_m2 : (-2 : Int32).toInt = -2 := by decide
theorem t_m3 : (-3 : Int32).toInt = -3 := by decide
/-- a number from 0 on, as nI of its own -/
theorem t_of {x : Int32} (h : 0 ≤ x.toInt) : x = nI x.toInt.toNat := by
  have hl : x.toInt < 2147483648 := x.toInt_lt
  rw [t_eq, t_nI (by omega)]
  omega
/-! sums -/
def su (g : Nat → Int) : Nat → Int
  | 0 => 0
  | n + 1 => su g n + g n
theorem su_congr {g g' : Nat → Int} : ∀ {n : Nat}, (∀ i, i < n → g i = g' i) → su g n = su g' n
  | 0, _ => rfl
  | n + 1, h => by
    show su g n + g n = su g' n + g' n
    rw [su_congr (fun i hi => h i (by omega)), h n (by omega)]
theorem su_nonneg {g : Nat → Int} : ∀ {n : Nat}, (∀ i, i < n → 0 ≤ g i) → 0 ≤ su g n
  | 0, _ => Int.le_refl 0
  | n + 1, h => by
    have h1 := su_nonneg (n := n) (fun i hi => h i (by omega))
    have h2 := h n (by omega)
    show 0 ≤ su g n + g n
    omega
theorem su_mono {g g' : Nat → Int} : ∀ {n : Nat}, (∀ i, i < n → g i ≤ g' i) → su g n ≤ su g' n
  | 0, _ => Int.le_refl 0
  | n + 1, h => by
    have h1 := su_mono (n := n) (fun i hi => h i (by omega))
    have h2 := h n (by omega)
    show su g n + g n ≤ su g' n + g' n
    omega
theorem su_bd {g : Nat → Int} {b : Int} : ∀ {n : Nat}, (∀ i, i < n → g i ≤ b) → su g n ≤ b * n
  | 0, _ => by show (0 : Int) ≤ b * 0; omega
  | n + 1, h => by
    have h1 := su_bd (n := n) (b := b) (fun i hi => h i (by omega))
    have h2 := h n (by omega)
    show su g n + g n ≤ b * (n + 1 : Nat)
    have h3 : b * ((n + 1 : Nat) : Int) = b * n + b := by rw [Int.natCast_add, Int.mul_add]; simp
    omega
theorem su_add {g g' : Nat → Int} : ∀ {n : Nat}, su (fun i => g i + g' i) n = su g n + su g' n
  | 0 => rfl
  | n + 1 => by
    show su (fun i => g i + g' i) n + (g n + g' n) = (su g n + g n) + (su g' n + g' n)
    rw [su_add]; omega
theorem su_zero : ∀ {n : Nat}, su (fun _ => 0) n = 0
  | 0 => rfl
  | n + 1 => by show su (fun _ => 0) n + 0 = 0; rw [su_zero]; rfl
/-- one summand is another -/
theorem su_pt {g g' : Nat → Int} {a : Nat} : ∀ {n : Nat}, a < n → (∀ i, i < n → i ≠ a → g' i = g i) → su g' n = su g n + (g' a - g a)
  | 0, h, _ => absurd h (Nat.not_lt_zero _)
  | n + 1, h, hg => by
    show su g' n + g' n = su g n + g n + (g' a - g a)
    by_cases e : a = n
    · subst e
      rw [su_congr (g := g') (g' := g) (fun i hi => hg i (by omega) (by omega))]
      omega
    · rw [su_pt (n := n) (by omega) (fun i hi ne => hg i (by omega) ne), hg n (by omega) (fun q => e q.symm)]
      omega
/-- .. two of them -/
theorem su_pt2 {g g' : Nat → Int} {a b n : Nat} (ha : a < n) (hb : b < n) (hab : a ≠ b) (h : ∀ i, i < n → i ≠ a → i ≠ b → g' i = g i) : su g' n = su g n + (g' a - g a) + (g' b - g b) := by
  have h1 := su_pt (g := g) (g' := fun i => if i = a then g' i else g i) ha (fun i _ ne => if_neg ne)
  have h2 := su_pt (g := fun i => if i = a then g' i else g i) (g' := g') hb (fun i hi ne => by
    by_cases e : i = a
    · rw [if_pos e]
    · rw [if_neg e]; exact h i hi e ne)
  rw [if_pos rfl] at h1
  rw [if_neg (fun q => hab q.symm)] at h2
  rw [h2, h1]
theorem su_le_of {g : Nat → Int} {a n : Nat} (ha : a < n) (h : ∀ i, i < n → 0 ≤ g i) : g a ≤ su g n := by
  have h1 := su_pt (g := fun i => if i = a then g i else 0) (g' := g) ha
  have h2 : su (fun i => if i = a then g i else 0) n = g a := by
    have h3 := su_pt (g := fun _ => 0) (g' := fun i => if i = a then g i else 0) ha (fun i _ ne => if_neg ne)
    rw [h3, su_zero, if_pos rfl]
    omega
  have h4 : su (fun i => if i = a then g i else 0) n ≤ su g n := su_mono (fun i hi => by
    split
    · exact Int.le_refl _
    · exact h i hi)
  omega
/-- a sum of two places -/
theorem su_le_of2 {g : Nat → Int} {a b n : Nat} (ha : a < n) (hb : b < n) (hab : a ≠ b) (h : ∀ i, i < n → 0 ≤ g i) : g a + g b ≤ su g n := by
  have h3 := su_pt2 (g := fun _ => 0) (g' := fun i => if i = a ∨ i = b then g i else 0) ha hb hab (fun i _ ne ne2 => if_neg (fun q => q.elim ne ne2))
  have h4 : su (fun i => if i = a ∨ i = b then g i else 0) n ≤ su g n := su_mono (fun i hi => by
    split
    · exact Int.le_refl _
    · exact h i hi)
  rw [su_zero, if_pos (.inl rfl), if_pos (.inr rfl)] at h3
  omega
/-- a positive sum has a positive summand -/
theorem su_pos {g : Nat → Int} : ∀ {n : Nat}, 0 < su g n → ∃ i, i < n ∧ 0 < g i
  | 0, h => absurd (show (0 : Int) < 0 from h) (Int.lt_irrefl 0)
  | n + 1, h => by
    have h' : 0 < su g n + g n := h
    by_cases h1 : 0 < g n
    · exact ⟨n, by omega, h1⟩
    · obtain ⟨i, hi, h2⟩ := su_pos (g := g) (n := n) (by omega)
      exact ⟨i, by omega, h2⟩
theorem cn_Z (p : Nat → Bool) : ∀ n, ((cn p n : Nat) : Int) = su (fun i => if p i = true then 1 else 0) n
  | 0 => rfl
  | n + 1 => by
    show ((cn p n + (if p n = true then 1 else 0) : Nat) : Int) = su _ n + (if p n = true then 1 else 0)
    rw [← cn_Z p n]
    split <;> simp
theorem sm_Z {p : Nat → Bool} {f : Nat → Int32} {B : Nat} : ∀ {n : Nat}, (∀ i, i < n → p i = true → 0 ≤ (f i).toInt ∧ (f i).toInt ≤ B) → B * n < 2000000000 → (sm p f n).toInt = su (fun i => if p i = true then (f i).toInt else 0) n
  | 0, _, _ => rfl
  | n + 1, h, hb => by
    have hb' : B * n + B < 2000000000 := by rw [← Nat.mul_succ]; exact hb
    have ih := sm_Z (p := p) (f := f) (B := B) (n := n) (fun i hi => h i (by omega)) (by omega)
    have h0 : 0 ≤ su (fun i => if p i = true then (f i).toInt else 0) n := su_nonneg (fun i hi => by
      show 0 ≤ if p i = true then (f i).toInt else 0
      by_cases q : p i = true
      · rw [if_pos q]; exact (h i (by omega) q).1
      · rw [if_neg q]; exact Int.le_refl 0)
    have h1 : su (fun i => if p i = true then (f i).toInt else 0) n ≤ (B : Int) * n := su_bd (fun i hi => by
      show (if p i = true then (f i).toInt else 0) ≤ (B : Int)
      by_cases q : p i = true
      · rw [if_pos q]; exact (h i (by omega) q).2
      · rw [if_neg q]; omega)
    have h2 : ((B * n : Nat) : Int) = (B : Int) * n := Int.natCast_mul B n
    show (if p n = true then sm p f n + f n else sm p f n).toInt = su _ n + (if p n = true then (f n).toInt else 0)
    by_cases q : p n = true
    · have h3 := h n (by omega) q
      rw [if_pos q, if_pos q, t_add (by omega) (by omega), ih]
    · rw [if_neg q, if_neg q, ih]; omega
theorem sd_Z {p : Nat → Bool} {f : Nat → Int32} {c : Int32} {B : Nat} : ∀ {n : Nat}, (∀ i, i < n → p i = true → 0 ≤ (f i).toInt ∧ (f i).toInt ≤ B) → B * n < 1000000000 → -1000000000 ≤ c.toInt → c.toInt ≤ 1000000000 → (sd p f c n).toInt = c.toInt - su (fun i => if p i = true then (f i).toInt else 0) n
  | 0, _, _, _, _ => by show c.toInt = c.toInt - 0; omega
  | n + 1, h, hb, c0, c1 => by
    have hb' : B * n + B < 1000000000 := by rw [← Nat.mul_succ]; exact hb
    have ih := sd_Z (p := p) (f := f) (c := c) (B := B) (n := n) (fun i hi => h i (by omega)) (by omega) c0 c1
    have h0 : 0 ≤ su (fun i => if p i = true then (f i).toInt else 0) n := su_nonneg (fun i hi => by
      show 0 ≤ if p i = true then (f i).toInt else 0
      by_cases q : p i = true
      · rw [if_pos q]; exact (h i (by omega) q).1
      · rw [if_neg q]; exact Int.le_refl 0)
    have h1 : su (fun i => if p i = true then (f i).toInt else 0) n ≤ (B : Int) * n := su_bd (fun i hi => by
      show (if p i = true then (f i).toInt else 0) ≤ (B : Int)
      by_cases q : p i = true
      · rw [if_pos q]; exact (h i (by omega) q).2
      · rw [if_neg q]; omega)
    have h2 : ((B * n : Nat) : Int) = (B : Int) * n := Int.natCast_mul B n
    show (if p n = true then sd p f c n - f n else sd p f c n).toInt = c.toInt - (su _ n + (if p n = true then (f n).toInt else 0))
    by_cases q : p n = true
    · have h3 := h n (by omega) q
      rw [if_pos q, if_pos q, t_sub (by omega) (by omega), ih]
      omega
    · rw [if_neg q, if_neg q, ih]; omega
