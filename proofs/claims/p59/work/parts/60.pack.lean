/-! packing, on numbers: sets of lots, shelf by shelf -/
def sn (g : Nat → Nat) : Nat → Nat
  | 0 => 0
  | n + 1 => sn g n + g n
theorem sn_congr {g g' : Nat → Nat} : ∀ {n : Nat}, (∀ i, i < n → g i = g' i) → sn g n = sn g' n
  | 0, _ => rfl
  | n + 1, h => by
    show sn g n + g n = sn g' n + g' n
    rw [sn_congr (fun i hi => h i (by omega)), h n (by omega)]
theorem sn_pt {g g' : Nat → Nat} {a : Nat} : ∀ {n : Nat}, a < n → (∀ i, i < n → i ≠ a → g' i = g i) → sn g' n + g a = sn g n + g' a
  | 0, h, _ => absurd h (Nat.not_lt_zero _)
  | n + 1, h, hg => by
    show sn g' n + g' n + g a = sn g n + g n + g' a
    by_cases e : a = n
    · subst e
      rw [sn_congr (g := g') (g' := g) (fun i hi => hg i (by omega) (by omega))]
      omega
    · have := sn_pt (n := n) (by omega) (fun i hi ne => hg i (by omega) ne)
      have h2 := hg n (by omega) (fun q => e q.symm)
      omega
theorem sn_zero {g : Nat → Nat} : ∀ {n : Nat}, (∀ i, i < n → g i = 0) → sn g n = 0
  | 0, _ => rfl
  | n + 1, h => by
    show sn g n + g n = 0
    rw [sn_zero (fun i hi => h i (by omega)), h n (by omega)]
theorem sn_le {g : Nat → Nat} {a : Nat} : ∀ {n : Nat}, a < n → g a ≤ sn g n
  | 0, h => absurd h (Nat.not_lt_zero _)
  | n + 1, h => by
    show g a ≤ sn g n + g n
    by_cases e : a = n
    · subst e; omega
    · have := sn_le (g := g) (a := a) (n := n) (by omega)
      omega
theorem sn_pos {g : Nat → Nat} : ∀ {n : Nat}, 0 < sn g n → ∃ i, i < n ∧ 0 < g i
  | 0, h => absurd (show (0 : Nat) < 0 from h) (Nat.lt_irrefl 0)
  | n + 1, h => by
    have h' : 0 < sn g n + g n := h
    by_cases q : 0 < g n
    · exact ⟨n, by omega, q⟩
    · obtain ⟨i, hi, h2⟩ := sn_pos (g := g) (n := n) (by omega)
      exact ⟨i, by omega, h2⟩
/-- what the lots of the set s put on shelf j, laid as a says -/
def ld (w a : Nat → Nat) (T s j : Nat) : Nat := sn (fun i => if s.testBit i = true ∧ a i = j then w i else 0) T
/-- the set s can be laid on the shelves up to k, with u on the last -/
def Pkd (c w : Nat → Nat) (T s k u : Nat) : Prop := k < 8 ∧ ∃ a : Nat → Nat, (∀ i, i < T → s.testBit i = true → a i ≤ k) ∧ (∀ j, j ≤ k → ld w a T s j ≤ c j) ∧ ld w a T s k = u
def fwN (c : Nat → Nat) (fl w : Nat) : Nat := if fl % 64 + w ≤ c (fl / 64) then fl + w else if w ≤ c (fl / 64 + 1) then (fl / 64 + 1) * 64 + w else 512
def lfN (c w F : Nat → Nat) (s : Nat) : Nat → Nat
  | 0 => 512
  | i + 1 => if s.testBit i = true then (if fwN c (F (s ^^^ 2 ^ i)) (w i) < lfN c w F s i then fwN c (F (s ^^^ 2 ^ i)) (w i) else lfN c w F s i) else lfN c w F s i
theorem lfN_le {c w F : Nat → Nat} {s : Nat} : ∀ {n i : Nat}, i < n → s.testBit i = true → lfN c w F s n ≤ fwN c (F (s ^^^ 2 ^ i)) (w i)
  | 0, _, h, _ => absurd h (Nat.not_lt_zero _)
  | n + 1, i, h, hb => by
    simp only [lfN]
    by_cases e : i = n
    · subst e
      rw [if_pos hb]
      split <;> omega
    · have ih := lfN_le (c := c) (w := w) (F := F) (n := n) (by omega) hb
      (repeat' split) <;> omega
theorem lfN_is {c w F : Nat → Nat} {s : Nat} : ∀ n, lfN c w F s n = 512 ∨ ∃ i, i < n ∧ s.testBit i = true ∧ lfN c w F s n = fwN c (F (s ^^^ 2 ^ i)) (w i)
  | 0 => .inl rfl
  | n + 1 => by
    simp only [lfN]
    by_cases q : s.testBit n = true
    · rw [if_pos q]
      by_cases q2 : fwN c (F (s ^^^ 2 ^ n)) (w n) < lfN c w F s n
      · rw [if_pos q2]; exact .inr ⟨n, by omega, q, rfl⟩
      · rw [if_neg q2]
        rcases lfN_is (c := c) (w := w) (F := F) (s := s) n with h | ⟨i, hi, h1, h2⟩
        · exact .inl h
        · exact .inr ⟨i, by omega, h1, h2⟩
    · rw [if_neg q]
      rcases lfN_is (c := c) (w := w) (F := F) (s := s) n with h | ⟨i, hi, h1, h2⟩
      · exact .inl h
      · exact .inr ⟨i, by omega, h1, h2⟩
theorem off_bit {s i j : Nat} (hb : s.testBit i = true) : (s ^^^ 2 ^ i).testBit j = (s.testBit j && decide (j ≠ i)) := by
  rw [Nat.testBit_xor, Nat.testBit_two_pow]
  by_cases e : i = j
  · subst e; simp [hb]
  · have : j ≠ i := fun q => e q.symm
    simp [e, this]
theorem off_lt {s i : Nat} (hb : s.testBit i = true) : s ^^^ 2 ^ i < s := by
  have e : s = (s ^^^ 2 ^ i) ||| 2 ^ i := by
    apply Nat.eq_of_testBit_eq
    intro j
    rw [or_bit, off_bit hb]
    by_cases q : j = i
    · subst q; simp [hb]
    · have : ¬ i = j := fun z => q z.symm
      simp [q, this]
  have h1 : s ^^^ 2 ^ i ≤ (s ^^^ 2 ^ i) ||| 2 ^ i := Nat.left_le_or
  have h2 : s ^^^ 2 ^ i ≠ s := fun z => by
    have h3 : (s ^^^ 2 ^ i).testBit i = s.testBit i := by rw [z]
    rw [off_bit hb, hb] at h3
    simp at h3
  omega
theorem bit_ex {s T : Nat} (h0 : 0 < s) (hs : s < 2 ^ T) : ∃ i, i < T ∧ s.testBit i = true := by
  rcases Classical.em (∃ i, i < T ∧ s.testBit i = true) with q | q
  · exact q
  · exfalso
    have : s = 0 := by
      apply Nat.eq_of_testBit_eq
      intro j
      rw [Nat.zero_testBit]
      rcases Nat.lt_or_ge j T with z | z
      · cases w : s.testBit j with
        | false => rfl
        | true => exact absurd ⟨j, z, w⟩ q
      · exact Nat.testBit_lt_two_pow (Nat.lt_of_lt_of_le hs (Nat.pow_le_pow_right (by decide) z))
    omega
/-- one lot less in the set -/
theorem ld_off {w a : Nat → Nat} {T s i : Nat} (hi : i < T) (hb : s.testBit i = true) (j : Nat) : ld w a T (s ^^^ 2 ^ i) j + (if a i = j then w i else 0) = ld w a T s j := by
  unfold ld
  have h := sn_pt (g := fun k => if s.testBit k = true ∧ a k = j then w k else 0) (g' := fun k => if (s ^^^ 2 ^ i).testBit k = true ∧ a k = j then w k else 0) hi (fun k _ ne => by
    show (if _ then _ else _) = if _ then _ else _
    rw [off_bit hb, decide_eq_true ne, Bool.and_true])
  have e1 : (if (s ^^^ 2 ^ i).testBit i = true ∧ a i = j then w i else 0) = 0 := if_neg (fun q => by
    have := q.1
    rw [off_bit hb] at this
    simp at this)
  have e2 : (if s.testBit i = true ∧ a i = j then w i else 0) = if a i = j then w i else 0 := by
    by_cases q : a i = j
    · rw [if_pos q, if_pos ⟨hb, q⟩]
    · rw [if_neg q, if_neg (fun z => q z.2)]
  rw [e1, e2] at h
  omega
theorem ld_upd {w a : Nat → Nat} {T s i k : Nat} (hs : s.testBit i = false) (j : Nat) : ld w (fun x => if x = i then k else a x) T s j = ld w a T s j := by
  unfold ld
  refine sn_congr (fun x _ => ?_)
  by_cases e : x = i
  · subst e
    rw [if_neg (fun q => by rw [hs] at q; exact absurd q.1 (by decide)), if_neg (fun q => by rw [hs] at q; exact absurd q.1 (by decide))]
  · show (if s.testBit x = true ∧ (if x = i then k else a x) = j then w x else 0) = _
    rw [if_neg e]
section PK
variable {c w F : Nat → Nat} {T : Nat}
/-- the fillings, sets by sets: what is told can be laid -/
theorem F_snd (hc : ∀ j, c j ≤ 40) (h8 : ∀ j, 8 ≤ j → c j = 0) (hw : ∀ i, i < T → 0 < w i) (h0 : F 0 = 0) (hF : ∀ s, 0 < s → s < 2 ^ T → F s = lfN c w F s T) : ∀ s, s < 2 ^ T → F s < 512 → Pkd c w T s (F s / 64) (F s % 64) := by
  intro s
  induction s using Nat.strongRecOn with
  | _ s ih =>
    intro hs h
    rcases Nat.eq_zero_or_pos s with z | hp
    · subst z
      rw [h0]
      refine ⟨by decide, fun _ => 0, fun i _ q => Nat.zero_le _, fun j hj => ?_, ?_⟩
      · have : ld w (fun _ => 0) T 0 j = 0 := sn_zero (fun i _ => if_neg (fun q => by have := q.1; rw [Nat.zero_testBit] at this; exact absurd this (by decide)))
        rw [this]; omega
      · exact sn_zero (fun i _ => if_neg (fun q => by have := q.1; rw [Nat.zero_testBit] at this; exact absurd this (by decide)))
    · rw [hF s hp hs] at h ⊢
      rcases lfN_is (c := c) (w := w) (F := F) (s := s) T with e | ⟨i, hi, hb, e⟩
      · omega
      · rw [e] at h ⊢
        have hlt := off_lt hb
        have hwi := hw i hi
        have no : (s ^^^ 2 ^ i).testBit i = false := by rw [off_bit hb]; simp
        unfold fwN at h ⊢
        by_cases q1 : F (s ^^^ 2 ^ i) % 64 + w i ≤ c (F (s ^^^ 2 ^ i) / 64)
        · rw [if_pos q1] at h ⊢
          obtain ⟨k1, a, k2, k3, k4⟩ := ih _ hlt (by omega) (by omega)
          have c40 := hc (F (s ^^^ 2 ^ i) / 64)
          generalize F (s ^^^ 2 ^ i) = f at *
          have e1 : (f + w i) / 64 = f / 64 := by omega
          have e2 : (f + w i) % 64 = f % 64 + w i := by omega
          rw [e1, e2]
          have hl : ∀ j, ld w (fun x => if x = i then f / 64 else a x) T s j = ld w a T (s ^^^ 2 ^ i) j + (if f / 64 = j then w i else 0) := fun j => by
            rw [← ld_off (a := fun x => if x = i then f / 64 else a x) hi hb j, ld_upd no, if_pos rfl]
          refine ⟨k1, fun x => if x = i then f / 64 else a x, fun x hx hbx => ?_, fun j hj => ?_, ?_⟩
          · show (if x = i then f / 64 else a x) ≤ _
            by_cases q : x = i
            · rw [if_pos q]; omega
            · rw [if_neg q]; exact k2 x hx (by rw [off_bit hb, hbx, decide_eq_true q]; rfl)
          · rw [hl]
            by_cases q : f / 64 = j
            · rw [if_pos q]; subst q; omega
            · rw [if_neg q]; exact k3 j hj
          · rw [hl, if_pos rfl, k4]
        · rw [if_neg q1] at h ⊢
          by_cases q2 : w i ≤ c (F (s ^^^ 2 ^ i) / 64 + 1)
          · rw [if_pos q2] at h ⊢
            have hk8 : F (s ^^^ 2 ^ i) / 64 + 1 < 8 := by
              rcases Nat.lt_or_ge (F (s ^^^ 2 ^ i) / 64 + 1) 8 with z | z
              · exact z
              · have := h8 _ z; omega
            obtain ⟨k1, a, k2, k3, k4⟩ := ih _ hlt (by omega) (by omega)
            have c40 := hc (F (s ^^^ 2 ^ i) / 64 + 1)
            generalize F (s ^^^ 2 ^ i) = f at *
            have e1 : ((f / 64 + 1) * 64 + w i) / 64 = f / 64 + 1 := by omega
            have e2 : ((f / 64 + 1) * 64 + w i) % 64 = w i := by omega
            rw [e1, e2]
            have hl : ∀ j, ld w (fun x => if x = i then f / 64 + 1 else a x) T s j = ld w a T (s ^^^ 2 ^ i) j + (if f / 64 + 1 = j then w i else 0) := fun j => by
              rw [← ld_off (a := fun x => if x = i then f / 64 + 1 else a x) hi hb j, ld_upd no, if_pos rfl]
            have hz : ld w a T (s ^^^ 2 ^ i) (f / 64 + 1) = 0 := sn_zero (fun x hx => if_neg (fun q => by have := k2 x hx q.1; omega))
            refine ⟨hk8, fun x => if x = i then f / 64 + 1 else a x, fun x hx hbx => ?_, fun j hj => ?_, ?_⟩
            · show (if x = i then f / 64 + 1 else a x) ≤ _
              by_cases q : x = i
              · rw [if_pos q]; omega
              · rw [if_neg q]
                have := k2 x hx (by rw [off_bit hb, hbx, decide_eq_true q]; rfl)
                omega
            · rw [hl]
              by_cases q : f / 64 + 1 = j
              · rw [if_pos q]; subst q; rw [hz]; omega
              · rw [if_neg q]; exact k3 j (by omega)
            · rw [hl, if_pos rfl, hz]; omega
          · rw [if_neg q2] at h; omega
/-- .. and what can be laid is told, or less -/
theorem F_cmp (hc : ∀ j, c j ≤ 40) (hd : ∀ i j, i ≤ j → c j ≤ c i) (h0 : F 0 = 0) (hF : ∀ s, 0 < s → s < 2 ^ T → F s = lfN c w F s T) : ∀ s, s < 2 ^ T → ∀ k u, Pkd c w T s k u → F s ≤ 64 * k + u := by
  intro s
  induction s using Nat.strongRecOn with
  | _ s ih =>
    intro hs
    have step : ∀ (k u i : Nat) (a : Nat → Nat), k < 8 → (∀ i, i < T → s.testBit i = true → a i ≤ k) → (∀ j, j ≤ k → ld w a T s j ≤ c j) → ld w a T s k = u → i < T → s.testBit i = true → a i = k → F s ≤ 64 * k + u := by
      intro k u i a k8 k1 k2 k3 hi hb hai
      have hp : 0 < s := by
        rcases Nat.eq_zero_or_pos s with z | z
        · subst z; rw [Nat.zero_testBit] at hb; exact absurd hb (by decide)
        · exact z
      have hlt := off_lt hb
      have o1 := ld_off (w := w) (a := a) hi hb
      have ok := o1 k
      rw [if_pos hai] at ok
      have hP : Pkd c w T (s ^^^ 2 ^ i) k (u - w i) := ⟨k8, a, fun x hx hbx => by
        rw [off_bit hb, Bool.and_eq_true] at hbx
        exact k1 x hx hbx.1, fun j hj => by
        have h1 := o1 j
        have h2 := k2 j hj
        omega, by omega⟩
      have hf := ih _ hlt (by omega) k _ hP
      rw [hF s hp hs]
      refine Nat.le_trans (lfN_le hi hb) ?_
      have ck := k2 k (Nat.le_refl k)
      have c40 := hc k
      generalize F (s ^^^ 2 ^ i) = f at hf ⊢
      have hfk : f / 64 ≤ k := by omega
      unfold fwN
      by_cases q1 : f % 64 + w i ≤ c (f / 64)
      · rw [if_pos q1]; omega
      · rw [if_neg q1]
        have hne : f / 64 ≠ k := fun z => by
          rw [z] at q1
          omega
        have hc2 := hd (f / 64 + 1) k (by omega)
        rw [if_pos (by omega)]
        omega
    intro k
    induction k with
    | zero =>
      intro u ⟨k8, a, k1, k2, k3⟩
      rcases Nat.eq_zero_or_pos s with z | hp
      · subst z; rw [h0]; omega
      · obtain ⟨i, hi, hb⟩ := bit_ex hp hs
        have := k1 i hi hb
        exact step 0 u i a k8 k1 k2 k3 hi hb (by omega)
    | succ k ihk =>
      intro u ⟨k8, a, k1, k2, k3⟩
      rcases Classical.em (∃ i, i < T ∧ s.testBit i = true ∧ a i = k + 1) with ⟨i, hi, hb, hai⟩ | q
      · exact step (k + 1) u i a k8 k1 k2 k3 hi hb hai
      · have h1 := ihk (ld w a T s k) ⟨by omega, a, fun i hi hb => by
          have h2 := k1 i hi hb
          have h3 : a i ≠ k + 1 := fun z => q ⟨i, hi, hb, z⟩
          omega, fun j hj => k2 j (by omega), rfl⟩
        have h2 := k2 k (by omega)
        have h3 := hc k
        omega
end PK
