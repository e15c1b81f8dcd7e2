/-! descent, by depth first and by table -/
theorem fw_tr (par : Nat → Nat → Bool) : ∀ (m a c b : Nat), c < m → fw par m a c = true → fw par m c b = true → fw par m a b = true
  | 0, _, _, _, h, _, _ => absurd h (Nat.not_lt_zero _)
  | m + 1, a, c, b, hc, h1, h2 => by
    simp only [fw, Bool.or_eq_true, Bool.and_eq_true] at h1 h2 ⊢
    by_cases e : c = m
    · subst e
      have h3 : fw par c a c = true := h1.elim id (fun z => z.1)
      have h4 : fw par c c b = true := h2.elim id (fun z => z.2)
      exact .inr ⟨h3, h4⟩
    · have ih := fw_tr par m
      rcases h1 with h1 | ⟨h1, h1'⟩ <;> rcases h2 with h2 | ⟨h2, h2'⟩
      · exact .inl (ih a c b (by omega) h1 h2)
      · exact .inr ⟨ih a c m (by omega) h1 h2, h2'⟩
      · exact .inr ⟨h1, ih m c b (by omega) h1' h2⟩
      · exact .inr ⟨h1, h2'⟩
theorem fw_par (par : Nat → Nat → Bool) {a b : Nat} (h : par a b = true) : ∀ m, fw par m a b = true
  | 0 => h
  | m + 1 => by simp only [fw, Bool.or_eq_true]; exact .inl (fw_par par h m)
/-- what holds of parents and goes on holds of descent -/
theorem fw_ind {par : Nat → Nat → Bool} {Q : Nat → Nat → Prop} {n : Nat} (hp : ∀ a b, par a b = true → Q a b) (ht : ∀ a c b, c < n → Q a c → Q c b → Q a b) : ∀ m, m ≤ n → ∀ a b, fw par m a b = true → Q a b
  | 0, _, a, b, h => hp a b h
  | m + 1, hm, a, b, h => by
    simp only [fw, Bool.or_eq_true, Bool.and_eq_true] at h
    have ih := fw_ind hp ht m (by omega)
    rcases h with h | ⟨h1, h2⟩
    · exact ih a b h
    · exact ht a m b (by omega) (ih a m h1) (ih m b h2)
/-- depth first, on sets as numbers -/
def foSN (p : Nat → Nat → Nat) (a : Nat) : Nat → Nat → Nat
  | 0, s => s
  | i + 1, s => p (a + 1 + i) (foSN p a i s)
def foN (par : Nat → Nat → Bool) (N : Nat) : Nat → Nat → Nat → Nat
  | 0, _, s => s
  | f + 1, a, s => foSN (fun i t => if par a i = true ∧ t.testBit i = false then foN par N f i (t ||| 2 ^ i) else t) a (N - (a + 1)) s
theorem or_bit {t i j : Nat} : (t ||| 2 ^ i).testBit j = (t.testBit j || decide (i = j)) := by
  rw [Nat.testBit_or, Nat.testBit_two_pow]
/-- what depth first gives -/
theorem foN_ok {par : Nat → Nat → Bool} {N : Nat} (hlt : ∀ a b, a < N → b < N → par a b = true → a < b) : ∀ (f a s : Nat), a < N → N ≤ a + f → (∀ i, s.testBit i = true → (foN par N f a s).testBit i = true) ∧ (∀ i, (foN par N f a s).testBit i = true → s.testBit i = true ∨ (i < N ∧ fw par N a i = true)) ∧ (∀ i, i < N → par a i = true → (foN par N f a s).testBit i = true) ∧ (∀ x, (foN par N f a s).testBit x = true → s.testBit x = false → ∀ i, i < N → par x i = true → (foN par N f a s).testBit i = true)
  | 0, a, s, ha, hf => by
    refine ⟨fun i h => h, fun i h => .inl h, fun i hi h => ?_, fun x h1 h2 => ?_⟩
    · omega
    · have h1 : s.testBit x = true := h1
      rw [h1] at h2; exact absurd h2 (by decide)
  | f + 1, a, s, ha, hf => by
    have step : ∀ k, k ≤ N - (a + 1) → (∀ i, s.testBit i = true → (foSN (fun i t => if par a i = true ∧ t.testBit i = false then foN par N f i (t ||| 2 ^ i) else t) a k s).testBit i = true) ∧ (∀ i, (foSN (fun i t => if par a i = true ∧ t.testBit i = false then foN par N f i (t ||| 2 ^ i) else t) a k s).testBit i = true → s.testBit i = true ∨ (i < N ∧ fw par N a i = true)) ∧ (∀ i, i < a + 1 + k → i < N → par a i = true → (foSN (fun i t => if par a i = true ∧ t.testBit i = false then foN par N f i (t ||| 2 ^ i) else t) a k s).testBit i = true) ∧ (∀ x, (foSN (fun i t => if par a i = true ∧ t.testBit i = false then foN par N f i (t ||| 2 ^ i) else t) a k s).testBit x = true → s.testBit x = false → ∀ i, i < N → par x i = true → (foSN (fun i t => if par a i = true ∧ t.testBit i = false then foN par N f i (t ||| 2 ^ i) else t) a k s).testBit i = true) := by
      intro k
      induction k with
      | zero =>
        intro _
        refine ⟨fun i h => h, fun i h => .inl h, fun i h1 h2 h3 => ?_, fun x h1 h2 => ?_⟩
        · have := hlt a i ha h2 h3
          omega
        · have h1 : s.testBit x = true := h1
          rw [h1] at h2; exact absurd h2 (by decide)
      | succ k ih =>
        intro hk
        obtain ⟨i1, i2, i3, i4⟩ := ih (by omega)
        simp only [foSN]
        generalize foSN (fun i t => if par a i = true ∧ t.testBit i = false then foN par N f i (t ||| 2 ^ i) else t) a k s = t at i1 i2 i3 i4 ⊢
        by_cases q : par a (a + 1 + k) = true ∧ t.testBit (a + 1 + k) = false
        · rw [if_pos q]
          generalize hc : a + 1 + k = c at *
          have hcN : c < N := by omega
          obtain ⟨r1, r2, r3, r4⟩ := foN_ok hlt f c (t ||| 2 ^ c) hcN (by omega)
          generalize foN par N f c (t ||| 2 ^ c) = u at r1 r2 r3 r4 ⊢
          have tu : ∀ i, t.testBit i = true → u.testBit i = true := fun i h => r1 i (by rw [or_bit, h]; rfl)
          have cu : u.testBit c = true := r1 c (by rw [or_bit, decide_eq_true rfl, Bool.or_true])
          have ac : fw par N a c = true := fw_par par q.1 N
          refine ⟨fun i h => tu i (i1 i h), fun i h => ?_, fun i h1 h2 h3 => ?_, fun x h1 h2 i h3 h4 => ?_⟩
          · rcases r2 i h with h | ⟨h5, h6⟩
            · rw [or_bit, Bool.or_eq_true] at h
              rcases h with h | h
              · exact i2 i h
              · have := of_decide_eq_true h
                subst this
                exact .inr ⟨hcN, ac⟩
            · exact .inr ⟨h5, fw_tr par N a c i hcN ac h6⟩
          · by_cases e : i = c
            · subst e; exact cu
            · exact tu i (i3 i (by omega) h2 h3)
          · by_cases e : (t ||| 2 ^ c).testBit x = true
            · rw [or_bit, Bool.or_eq_true] at e
              rcases e with e | e
              · exact tu i (i4 x e h2 i h3 h4)
              · have := of_decide_eq_true e
                subst this
                exact r3 i h3 h4
            · exact r4 x h1 (by simpa using e) i h3 h4
        · rw [if_neg q]
          refine ⟨i1, i2, fun i h1 h2 h3 => ?_, i4⟩
          by_cases e : i = a + 1 + k
          · subst e
            cases h : t.testBit (a + 1 + k) with
            | true => rfl
            | false => exact absurd ⟨h3, h⟩ q
          · exact i3 i (by omega) h2 h3
    obtain ⟨i1, i2, i3, i4⟩ := step (N - (a + 1)) (Nat.le_refl _)
    refine ⟨i1, i2, fun i h1 h2 => ?_, i4⟩
    have := hlt a i ha h1 h2
    exact i3 i (by omega) h1 h2
/-- .. from the empty set, or from the lot alone: the lots that descend -/
theorem foN_fw {par : Nat → Nat → Bool} {N : Nat} (hlt : ∀ a b, a < N → b < N → par a b = true → a < b) {f a s : Nat} (ha : a < N) (hf : N ≤ a + f) (hs : ∀ i, s.testBit i = true → i = a) (i : Nat) : (foN par N f a s).testBit i = true ↔ s.testBit i = true ∨ (i < N ∧ fw par N a i = true) := by
  obtain ⟨r1, r2, r3, r4⟩ := foN_ok hlt f a s ha hf
  generalize foN par N f a s = t at *
  refine ⟨r2 i, fun h => ?_⟩
  rcases h with h | ⟨h1, h2⟩
  · exact r1 i h
  · exact fw_ind (Q := fun c x => x < N → (c = a ∨ t.testBit c = true) → t.testBit x = true) (n := N) (fun c x hp hx hc => by
      by_cases e : c = a
      · subst e; exact r3 x hx hp
      · have hc := hc.resolve_left e
        cases hsc : s.testBit c with
        | true => exact absurd (hs c hsc) e
        | false => exact r4 c hc hsc x hx hp) (fun b c x hc q1 q2 hx hb => q2 hx (.inr (q1 hc hb))) N (Nat.le_refl N) a i h2 h1 (.inl rfl)
theorem foN_lt {par : Nat → Nat → Bool} {N : Nat} (h20 : N ≤ 20) : ∀ (f a s : Nat), s < 2 ^ 20 → foN par N f a s < 2 ^ 20
  | 0, _, _, h => h
  | f + 1, a, s, h => by
    have step : ∀ k, k ≤ N - (a + 1) → foSN (fun i t => if par a i = true ∧ t.testBit i = false then foN par N f i (t ||| 2 ^ i) else t) a k s < 2 ^ 20 := by
      intro k
      induction k with
      | zero => intro _; exact h
      | succ k ih =>
        intro hk
        have ih := ih (by omega)
        simp only [foSN]
        split
        · exact foN_lt h20 f _ _ (Nat.or_lt_two_pow ih (Nat.pow_lt_pow_right (by decide) (by omega)))
        · exact ih
    exact step _ (Nat.le_refl _)
/-- the program's depth first is the one on numbers -/
theorem fo_N {v : Vs} {o N : Nat} (h20 : N ≤ 20) : ∀ (f a s : Nat), a < N → s < 2 ^ 20 → fo v o N f a (nI s) = nI (foN (parB v o) N f a s)
  | 0, _, _, _, _ => rfl
  | f + 1, a, s, ha, h => by
    have step : ∀ k, k ≤ N - (a + 1) → foS (fun i t => if (gP1 v o (nI i) = nI a ∨ gP2 v o (nI i) = nI a) ∧ bq t i = 0 then fo v o N f i (t ||| 1 <<< (nI i &&& 31)) else t) a k (nI s) = nI (foSN (fun i t => if parB v o a i = true ∧ t.testBit i = false then foN (parB v o) N f i (t ||| 2 ^ i) else t) a k s) ∧ foSN (fun i t => if parB v o a i = true ∧ t.testBit i = false then foN (parB v o) N f i (t ||| 2 ^ i) else t) a k s < 2 ^ 20 := by
      intro k
      induction k with
      | zero => intro _; exact ⟨rfl, h⟩
      | succ k ih =>
        intro hk
        obtain ⟨ih, hl⟩ := ih (by omega)
        simp only [foS, foSN]
        rw [ih]
        generalize foSN (fun i t => if parB v o a i = true ∧ t.testBit i = false then foN (parB v o) N f i (t ||| 2 ^ i) else t) a k s = t at hl ⊢
        have e : ((gP1 v o (nI (a + 1 + k)) = nI a ∨ gP2 v o (nI (a + 1 + k)) = nI a) ∧ bq (nI t) (a + 1 + k) = 0) ↔ (parB v o a (a + 1 + k) = true ∧ t.testBit (a + 1 + k) = false) := by
          rw [show parB v o a (a + 1 + k) = true ↔ (gP1 v o (nI (a + 1 + k)) = nI a ∨ gP2 v o (nI (a + 1 + k)) = nI a) from decide_eq_true_iff, bq_nI (by omega) (by omega)]
          cases t.testBit (a + 1 + k) with
          | true => exact ⟨fun z => absurd z.2 (by decide), fun z => absurd z.2 (by decide)⟩
          | false => exact ⟨fun z => ⟨z.1, rfl⟩, fun z => ⟨z.1, rfl⟩⟩
        by_cases q : parB v o a (a + 1 + k) = true ∧ t.testBit (a + 1 + k) = false
        · have hl2 : t ||| 2 ^ (a + 1 + k) < 2 ^ 20 := Nat.or_lt_two_pow hl (Nat.pow_lt_pow_right (by decide) (by omega))
          rw [if_pos (e.mpr q), if_pos q, set_nI (by omega)]
          exact ⟨fo_N h20 f _ _ (by omega) hl2, foN_lt h20 f _ _ hl2⟩
        · rw [if_neg (fun z => q (e.mp z)), if_neg q]
          exact ⟨rfl, hl⟩
    exact (step _ (Nat.le_refl _)).1
