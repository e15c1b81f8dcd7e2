/-! the heap, as a function on cells -/
/-- two cells change places -/
def swG (f : Nat → Nat) (c d : Nat) : Nat → Nat := fun e => if e = c then f d else if e = d then f c else f e
theorem swG_l {f : Nat → Nat} {c d : Nat} : swG f c d c = f d := if_pos rfl
theorem swG_r {f : Nat → Nat} {c d : Nat} : swG f c d d = f c := by
  unfold swG
  by_cases h : d = c
  · rw [if_pos h, h]
  · rw [if_neg h, if_pos rfl]
theorem swG_o {f : Nat → Nat} {c d e : Nat} (h1 : e ≠ c) (h2 : e ≠ d) : swG f c d e = f e := by
  unfold swG; rw [if_neg h1, if_neg h2]
/-- the cells below n hold each of A once, and nothing else -/
def Bij (f : Nat → Nat) (n : Nat) (A : Nat → Prop) : Prop := (∀ c, c < n → A (f c)) ∧ (∀ c d, c < n → d < n → f c = f d → c = d) ∧ ∀ i, A i → ∃ c, c < n ∧ f c = i
theorem Bij.sw {f : Nat → Nat} {n : Nat} {A : Nat → Prop} (h : Bij f n A) {c d : Nat} (hc : c < n) (hd : d < n) : Bij (swG f c d) n A := by
  obtain ⟨h1, h2, h3⟩ := h
  have t : ∀ e, e < n → ∃ e', e' < n ∧ swG f c d e = f e' ∧ swG f c d e' = f e := by
    intro e he
    by_cases q1 : e = c
    · subst q1; exact ⟨d, hd, swG_l, swG_r⟩
    · by_cases q2 : e = d
      · subst q2; exact ⟨c, hc, swG_r, swG_l⟩
      · exact ⟨e, he, swG_o q1 q2, swG_o q1 q2⟩
  refine ⟨fun e he => ?_, fun a b ha hb q => ?_, fun i hi => ?_⟩
  · obtain ⟨e', k1, k2, -⟩ := t e he
    rw [k2]; exact h1 e' k1
  · by_cases a1 : a = c <;> by_cases a2 : a = d <;> by_cases b1 : b = c <;> by_cases b2 : b = d
    all_goals first
      | omega
      | (exfalso
         first
          | (subst a1; rw [swG_l] at q
             first
              | (subst b2; rw [swG_r] at q; have := h2 _ _ (by omega) (by omega) q; omega)
              | (rw [swG_o b1 b2] at q; have := h2 _ _ (by omega) (by omega) q; omega))
          | (subst a2; rw [swG_r] at q
             first
              | (subst b1; rw [swG_l] at q; have := h2 _ _ (by omega) (by omega) q; omega)
              | (rw [swG_o b1 b2] at q; have := h2 _ _ (by omega) (by omega) q; omega))
          | (rw [swG_o a1 a2] at q
             first
              | (subst b1; rw [swG_l] at q; have := h2 _ _ (by omega) (by omega) q; omega)
              | (subst b2; rw [swG_r] at q; have := h2 _ _ (by omega) (by omega) q; omega)
              | (rw [swG_o b1 b2] at q; have := h2 _ _ (by omega) (by omega) q; omega)))
      | (rw [swG_o a1 a2, swG_o b1 b2] at q; exact h2 _ _ ha hb q)
  · obtain ⟨e, k1, k2⟩ := h3 i hi
    obtain ⟨e', k3, -, k5⟩ := t e k1
    exact ⟨e', k3, by rw [k5]; exact k2⟩
/-- an order of lots -/
def Ordr (r : Nat → Nat → Prop) : Prop := (∀ a b c, r a b → r b c → r a c) ∧ ∀ a b, a ≠ b → ¬ r a b → r b a
/-- every cell's parent comes before it, but cells of which p is told -/
def HO (r : Nat → Nat → Prop) (f : Nat → Nat) (n : Nat) (p : Nat → Prop) : Prop := ∀ d, 0 < d → d < n → p d → r (f ((d - 1) / 2)) (f d)
def upG (r : Nat → Nat → Bool) : Nat → (Nat → Nat) → Nat → (Nat → Nat)
  | 0, f, _ => f
  | k + 1, f, c => if 0 < c ∧ r (f c) (f ((c - 1) / 2)) = true then upG r k (swG f c ((c - 1) / 2)) ((c - 1) / 2) else f
theorem upG_ok {r : Nat → Nat → Bool} (ho : Ordr (fun a b => r a b = true)) {n : Nat} {A : Nat → Prop} : ∀ (k : Nat) (f : Nat → Nat) (c : Nat), c ≤ k → c < n → Bij f n A → HO (fun a b => r a b = true) f n (fun d => d ≠ c) → (0 < c → ∀ d, 0 < d → d < n → (d - 1) / 2 = c → r (f ((c - 1) / 2)) (f d) = true) → Bij (upG r k f c) n A ∧ HO (fun a b => r a b = true) (upG r k f c) n (fun _ => True)
  | 0, f, c, h0, hc, hB, hO, hg => by
    have : c = 0 := by omega
    subst this
    exact ⟨hB, fun d h1 h2 _ => hO d h1 h2 (by omega)⟩
  | k + 1, f, c, h0, hc, hB, hO, hg => by
    unfold upG
    by_cases q : 0 < c ∧ r (f c) (f ((c - 1) / 2)) = true
    · rw [if_pos q]
      obtain ⟨q1, q2⟩ := q
      generalize hp : (c - 1) / 2 = p at *
      have hpc : p < c := by omega
      refine upG_ok ho k (swG f c p) p (by omega) (by omega) (hB.sw hc (by omega)) ?_ ?_
      · intro d h1 h2 h3
        show r (swG f c p ((d - 1) / 2)) (swG f c p d) = true
        by_cases e1 : d = c
        · subst e1
          rw [hp, swG_r, swG_l]; exact q2
        · rw [swG_o e1 h3]
          by_cases e2 : (d - 1) / 2 = c
          · rw [e2, swG_l]; exact hg q1 d h1 h2 e2
          · by_cases e3 : (d - 1) / 2 = p
            · rw [e3, swG_r]
              have := hO d h1 h2 e1
              rw [e3] at this
              exact ho.1 _ _ _ q2 this
            · rw [swG_o e2 e3]; exact hO d h1 h2 e1
      · intro hp0 d h1 h2 h3
        have o1 : r (f ((p - 1) / 2)) (f p) = true := hO p hp0 (by omega) (by omega)
        rw [swG_o (by omega) (by omega)]
        by_cases e1 : d = c
        · subst e1
          rw [swG_l]; exact o1
        · rw [swG_o e1 (by omega)]
          have := hO d h1 h2 e1
          rw [h3] at this
          exact ho.1 _ _ _ o1 this
    · rw [if_neg q]
      refine ⟨hB, fun d h1 h2 _ => ?_⟩
      by_cases e1 : d = c
      · subst e1
        have hne : f d ≠ f ((d - 1) / 2) := fun z => by
          have := hB.2.1 _ _ h2 (by omega) z
          omega
        exact ho.2 _ _ hne (fun z => q ⟨h1, z⟩)
      · exact hO d h1 h2 e1
/-- the first of a cell and the two below it -/
def f3aG (r : Nat → Nat → Bool) (f : Nat → Nat) (n c : Nat) : Nat := if 2 * c + 1 < n ∧ r (f (2 * c + 1)) (f c) = true then 2 * c + 1 else c
def f3G (r : Nat → Nat → Bool) (f : Nat → Nat) (n c : Nat) : Nat := if 2 * c + 2 < n ∧ r (f (2 * c + 2)) (f (f3aG r f n c)) = true then 2 * c + 2 else f3aG r f n c
def dnG (r : Nat → Nat → Bool) (n : Nat) : Nat → (Nat → Nat) → Nat → (Nat → Nat)
  | 0, f, _ => f
  | k + 1, f, c => if c < n ∧ c < f3G r f n c then dnG r n k (swG f c (f3G r f n c)) (f3G r f n c) else f
/-- what f3G gives: c or one below it, and nothing of the three comes before it -/
theorem f3G_ok {r : Nat → Nat → Bool} (ho : Ordr (fun a b => r a b = true)) {f : Nat → Nat} {n c : Nat} {A : Nat → Prop} (hB : Bij f n A) (hc : c < n) : (f3G r f n c = c ∨ (f3G r f n c = 2 * c + 1 ∨ f3G r f n c = 2 * c + 2) ∧ r (f (f3G r f n c)) (f c) = true) ∧ f3G r f n c < n ∧ ∀ d, 0 < d → d < n → (d - 1) / 2 = c → d ≠ f3G r f n c → r (f (f3G r f n c)) (f d) = true := by
  have inj : ∀ a b, a < n → b < n → a ≠ b → f a ≠ f b := fun a b ha hb ne q => ne (hB.2.1 a b ha hb q)
  have ha : (f3aG r f n c = c ∨ f3aG r f n c = 2 * c + 1 ∧ r (f (2 * c + 1)) (f c) = true) ∧ f3aG r f n c < n ∧ (2 * c + 1 < n → 2 * c + 1 ≠ f3aG r f n c → r (f (f3aG r f n c)) (f (2 * c + 1)) = true) := by
    unfold f3aG
    by_cases q : 2 * c + 1 < n ∧ r (f (2 * c + 1)) (f c) = true
    · rw [if_pos q]
      exact ⟨.inr ⟨rfl, q.2⟩, q.1, fun _ h => absurd rfl h⟩
    · rw [if_neg q]
      exact ⟨.inl rfl, hc, fun h _ => ho.2 _ _ (inj _ _ h hc (by omega)) (fun z => q ⟨h, z⟩)⟩
  unfold f3G
  generalize f3aG r f n c = m at *
  obtain ⟨h1, h2, h3⟩ := ha
  by_cases q : 2 * c + 2 < n ∧ r (f (2 * c + 2)) (f m) = true
  · rw [if_pos q]
    refine ⟨.inr ⟨.inr rfl, ?_⟩, q.1, fun d d0 d1 d2 d3 => ?_⟩
    · rcases h1 with h1 | ⟨h1, h4⟩
      · rw [← h1]; exact (h1 ▸ q.2)
      · rw [h1] at q; exact ho.1 _ _ _ q.2 h4
    · have : d = 2 * c + 1 := by omega
      subst this
      by_cases e : 2 * c + 1 = m
      · rw [e]; exact q.2
      · exact ho.1 _ _ _ q.2 (h3 d1 e)
  · rw [if_neg q]
    refine ⟨h1.imp id (fun ⟨a, b⟩ => ⟨.inl a, by rw [a]; exact b⟩), h2, fun d d0 d1 d2 d3 => ?_⟩
    by_cases e : d = 2 * c + 1
    · subst e; exact h3 d1 d3
    · have : d = 2 * c + 2 := by omega
      subst this
      exact ho.2 _ _ (inj _ _ d1 h2 d3) (fun z => q ⟨d1, z⟩)
theorem dnG_ok {r : Nat → Nat → Bool} (ho : Ordr (fun a b => r a b = true)) {n : Nat} {A : Nat → Prop} : ∀ (k : Nat) (f : Nat → Nat) (c : Nat), n ≤ c + k → Bij f n A → HO (fun a b => r a b = true) f n (fun d => (d - 1) / 2 ≠ c) → (0 < c → ∀ d, 0 < d → d < n → (d - 1) / 2 = c → r (f ((c - 1) / 2)) (f d) = true) → Bij (dnG r n k f c) n A ∧ HO (fun a b => r a b = true) (dnG r n k f c) n (fun _ => True)
  | 0, f, c, h0, hB, hO, hg => ⟨hB, fun d h1 h2 _ => hO d h1 h2 (by omega)⟩
  | k + 1, f, c, h0, hB, hO, hg => by
    unfold dnG
    by_cases q : c < n ∧ c < f3G r f n c
    · rw [if_pos q]
      obtain ⟨g1, g2, g3⟩ := f3G_ok ho hB q.1
      obtain ⟨q1, q2⟩ := q
      generalize f3G r f n c = m at *
      obtain ⟨g4, g5⟩ := g1.resolve_left (by omega)
      have hpm : (m - 1) / 2 = c := by omega
      refine dnG_ok ho k (swG f c m) m (by omega) (hB.sw q1 g2) ?_ ?_
      · intro d h1 h2 h3
        show r (swG f c m ((d - 1) / 2)) (swG f c m d) = true
        by_cases e1 : d = m
        · subst e1
          rw [hpm, swG_l, swG_r]; exact g5
        · by_cases e2 : (d - 1) / 2 = c
          · rw [e2, swG_l, swG_o (by omega) e1]
            exact g3 d h1 h2 e2 e1
          · by_cases e3 : d = c
            · subst e3
              rw [swG_o (by omega) (by omega), swG_l]
              exact hg h1 m (by omega) g2 hpm
            · rw [swG_o e2 h3, swG_o e3 e1]
              exact hO d h1 h2 e2
      · intro hm0 d h1 h2 h3
        rw [hpm, swG_l, swG_o (by omega) (by omega)]
        have := hO d h1 h2 (by omega)
        rw [h3] at this
        exact this
    · rw [if_neg q]
      refine ⟨hB, fun d h1 h2 _ => ?_⟩
      by_cases e : (d - 1) / 2 = c
      · have hc : c < n := by omega
        obtain ⟨g1, g2, g3⟩ := f3G_ok ho hB hc
        have hm : f3G r f n c = c := by omega
        rw [hm] at g3
        have := g3 d h1 h2 e (by omega)
        rw [e]; exact this
      · exact hO d h1 h2 e
/-- the top comes before all others -/
theorem HO.top {r : Nat → Nat → Prop} (ht : ∀ a b c, r a b → r b c → r a c) {f : Nat → Nat} {n : Nat} (h : HO r f n (fun _ => True)) : ∀ c, 0 < c → c < n → r (f 0) (f c) := by
  intro c
  induction c using Nat.strongRecOn with
  | _ c ih =>
    intro h0 hc
    by_cases e : (c - 1) / 2 = 0
    · have := h c h0 hc trivial
      rw [e] at this; exact this
    · exact ht _ _ _ (ih ((c - 1) / 2) (by omega) (by omega) (by omega)) (h c h0 hc trivial)
