/-! what is gathered, is sorted -/
theorem ins_ok : ∀ (u : Nat) (f : Nat → Int32) (x : Int32), ∃ p, p ≤ u ∧ (∀ j, insF f u x j = if j < p then f j else if j = p then x else if j ≤ u then f (j - 1) else f j) ∧ (∀ j, p ≤ j → j < u → f j < x) ∧ (0 < p → ¬ f (p - 1) < x)
  | 0, f, x => ⟨0, Nat.le_refl _, fun j => by
      show upd f 0 x j = _
      unfold upd
      by_cases q : j = 0
      · rw [if_pos q, if_neg (by omega), if_pos q]
      · rw [if_neg q, if_neg (by omega), if_neg q, if_neg (by omega)], fun j h1 h2 => absurd h2 (Nat.not_lt_zero _), fun h => absurd h (Nat.lt_irrefl 0)⟩
  | u + 1, f, x => by
    unfold insF
    by_cases q : f u < x
    · rw [if_pos q]
      obtain ⟨p, p1, p2, p3, p4⟩ := ins_ok u (upd f (u + 1) (f u)) x
      have e : ∀ j, upd f (u + 1) (f u) j = if j = u + 1 then f u else f j := fun j => rfl
      refine ⟨p, by omega, fun j => ?_, fun j h1 h2 => ?_, fun h => ?_⟩
      · rw [p2 j, e, e]
        by_cases a : j < p
        · rw [if_pos a, if_pos a, if_neg (by omega)]
        · rw [if_neg a, if_neg a]
          by_cases b : j = p
          · rw [if_pos b, if_pos b]
          · rw [if_neg b, if_neg b]
            by_cases c : j ≤ u
            · rw [if_pos c, if_neg (show ¬ j - 1 = u + 1 by omega), if_pos (show j ≤ u + 1 by omega)]
            · rw [if_neg c]
              by_cases d : j = u + 1
              · subst d; rw [if_pos rfl, if_pos (Nat.le_refl _)]; rfl
              · rw [if_neg d, if_neg (by omega)]
      · by_cases a : j = u
        · subst a; exact q
        · have := p3 j h1 (by omega)
          rw [e, if_neg (by omega)] at this; exact this
      · have := p4 h
        rw [e, if_neg (by omega)] at this; exact this
    · rw [if_neg q]
      refine ⟨u + 1, Nat.le_refl _, fun j => ?_, fun j h1 h2 => by omega, fun _ => q⟩
      show (if j = u + 1 then x else f j) = _
      by_cases a : j < u + 1
      · rw [if_pos a, if_neg (by omega)]
      · rw [if_neg a]
        by_cases b : j = u + 1
        · rw [if_pos b, if_pos b]
        · rw [if_neg b, if_neg b, if_neg (by omega)]
/-- the chosen ones' values in descending order, and whose each is -/
def Gth (sel : Nat → Bool) (val : Nat → Int32) (m : Nat) (f : Nat → Int32) (u : Nat) : Prop := u ≤ m ∧ (∀ j, u ≤ j → f j = 0) ∧ (∀ a b, a < b → b < u → (f b).toInt ≤ (f a).toInt) ∧ ∃ e : Nat → Nat, (∀ p, p < u → e p < m ∧ sel (e p) = true ∧ f p = val (e p)) ∧ (∀ p q, p < u → q < u → e p = e q → p = q) ∧ ∀ i, i < m → sel i = true → ∃ p, p < u ∧ e p = i
theorem Gth.zero {sel : Nat → Bool} {val : Nat → Int32} : Gth sel val 0 (fun _ => 0) 0 := ⟨Nat.le_refl _, fun _ _ => rfl, fun a b h1 h2 => absurd h2 (Nat.not_lt_zero _), fun _ => 0, fun p h => absurd h (Nat.not_lt_zero _), fun p q h => absurd h (Nat.not_lt_zero _), fun i h => absurd h (Nat.not_lt_zero _)⟩
theorem Gth.skip {sel : Nat → Bool} {val : Nat → Int32} {m u : Nat} {f : Nat → Int32} (h : Gth sel val m f u) (hs : sel m = false) : Gth sel val (m + 1) f u := by
  obtain ⟨h1, h2, h3, e, h4, h5, h6⟩ := h
  refine ⟨by omega, h2, h3, e, fun p hp => ⟨by have := (h4 p hp).1; omega, (h4 p hp).2⟩, h5, fun i hi q => ?_⟩
  by_cases z : i = m
  · subst z; rw [hs] at q; exact absurd q (by decide)
  · exact h6 i (by omega) q
theorem Gth.step {sel : Nat → Bool} {val : Nat → Int32} {m u : Nat} {f : Nat → Int32} (h : Gth sel val m f u) (hs : sel m = true) : Gth sel val (m + 1) (insF f u (val m)) (u + 1) := by
  obtain ⟨h1, h2, h3, e, h4, h5, h6⟩ := h
  obtain ⟨p, p1, p2, p3, p4⟩ := ins_ok u f (val m)
  have hi : ∀ j, p ≤ j → j < u → (f j).toInt < (val m).toInt := fun j a b => t_lt.mp (p3 j a b)
  have lo : ∀ j, j < p → (val m).toInt ≤ (f j).toInt := fun j a => by
    have h7 := p4 (by omega)
    rw [t_lt] at h7
    by_cases z : j = p - 1
    · subst z; omega
    · have := h3 j (p - 1) (by omega) (by omega)
      omega
  have v1 : ∀ j, j < p → insF f u (val m) j = f j := fun j a => by rw [p2, if_pos a]
  have v2 : insF f u (val m) p = val m := by rw [p2, if_neg (Nat.lt_irrefl _), if_pos rfl]
  have v3 : ∀ j, p < j → j ≤ u → insF f u (val m) j = f (j - 1) := fun j a b => by rw [p2, if_neg (by omega), if_neg (by omega), if_pos b]
  have v4 : ∀ j, u < j → insF f u (val m) j = f j := fun j a => by rw [p2, if_neg (by omega), if_neg (by omega), if_neg (by omega)]
  have e1 : ∀ j, j < p → (fun j => if j < p then e j else if j = p then m else e (j - 1)) j = e j := fun j a => if_pos a
  have e2 : (fun j => if j < p then e j else if j = p then m else e (j - 1)) p = m := by
    show (if p < p then e p else if p = p then m else e (p - 1)) = m
    rw [if_neg (Nat.lt_irrefl _), if_pos rfl]
  have e3 : ∀ j, p < j → (fun j => if j < p then e j else if j = p then m else e (j - 1)) j = e (j - 1) := fun j a => by
    show (if j < p then e j else if j = p then m else e (j - 1)) = e (j - 1)
    rw [if_neg (by omega), if_neg (by omega)]
  generalize (fun j => if j < p then e j else if j = p then m else e (j - 1)) = e' at e1 e2 e3
  refine ⟨by omega, fun j hj => by rw [v4 j (by omega)]; exact h2 j (by omega), fun a b hab hb => ?_, e', fun q hq => ?_, fun a b ha hb hab => ?_, fun i hi2 q => ?_⟩
  · rcases Nat.lt_trichotomy a p with z | z | z
    · rw [v1 a z]
      rcases Nat.lt_trichotomy b p with y | y | y
      · rw [v1 b y]; exact h3 a b hab (by omega)
      · subst y; rw [v2]; exact lo a z
      · rw [v3 b y (by omega)]
        by_cases x : a = b - 1
        · omega
        · exact h3 a (b - 1) (by omega) (by omega)
    · subst z
      rw [v2, v3 b hab (by omega)]
      have := hi (b - 1) (by omega) (by omega)
      omega
    · rw [v3 a z (by omega), v3 b (by omega) (by omega)]
      exact h3 (a - 1) (b - 1) (by omega) (by omega)
  · rcases Nat.lt_trichotomy q p with z | z | z
    · rw [e1 q z, v1 q z]
      have := h4 q (by omega)
      exact ⟨by omega, this.2⟩
    · subst z; rw [e2, v2]; exact ⟨by omega, hs, rfl⟩
    · rw [e3 q z, v3 q z (by omega)]
      have := h4 (q - 1) (by omega)
      exact ⟨by omega, this.2⟩
  · rcases Nat.lt_trichotomy a p with z | z | z <;> rcases Nat.lt_trichotomy b p with y | y | y
    · rw [e1 a z, e1 b y] at hab; exact h5 a b (by omega) (by omega) hab
    · subst y; rw [e1 a z, e2] at hab; have := (h4 a (by omega)).1; omega
    · rw [e1 a z, e3 b y] at hab; have := h5 a (b - 1) (by omega) (by omega) hab; omega
    · subst z; rw [e2, e1 b y] at hab; have := (h4 b (by omega)).1; omega
    · omega
    · subst z; rw [e2, e3 b y] at hab; have := (h4 (b - 1) (by omega)).1; omega
    · rw [e3 a z, e1 b y] at hab; have := h5 (a - 1) b (by omega) (by omega) hab; omega
    · subst y; rw [e3 a z, e2] at hab; have := (h4 (a - 1) (by omega)).1; omega
    · rw [e3 a z, e3 b y] at hab; have := h5 (a - 1) (b - 1) (by omega) (by omega) hab; omega
  · by_cases z : i = m
    · subst z; exact ⟨p, by omega, e2⟩
    · obtain ⟨r, r1, r2⟩ := h6 i (by omega) q
      rcases Nat.lt_or_ge r p with y | y
      · exact ⟨r, by omega, by rw [e1 r y]; exact r2⟩
      · exact ⟨r + 1, by omega, by rw [e3 (r + 1) (by omega)]; exact r2⟩
section GG
variable {D : Int} {T N M H : Nat} {v : Vs} {o : Nat}
theorem gC_ok (v : Vs) (o : Nat) (z : Int32) : ∀ m, Gth (fun j => decide (gZn v o (nI j) = z)) (fun j => gCp v o (nI j)) m (gC v o z m).1 (gC v o z m).2
  | 0 => Gth.zero
  | m + 1 => by
    have ih := gC_ok v o z m
    unfold gC
    by_cases q : gZn v o (nI m) = z
    · rw [if_pos q]; exact ih.step (decide_eq_true q)
    · rw [if_neg q]; exact ih.skip (decide_eq_false q)
theorem Gth.cnt {sel sel2 : Nat → Bool} {val : Nat → Int32} {f : Nat → Int32} : ∀ {m u : Nat}, Gth sel val m f u → u ≤ m := fun h => h.1
theorem Inv.gL_ok (h : Inv D T N M H (iv v o)) (z : Int32) : ∀ m, m ≤ N → Gth (fun j => decide (0 ≤ gPl v o (nI j) ∧ gLz v o (nI j) = z)) (fun j => gVo v o (nI j)) m (gL v o z m).1 (gL v o z m).2 ∧ ((gL v o z m).2 : Int) ≤ su (isS (iv v o)) m
  | 0, _ => ⟨Gth.zero, Int.le_refl _⟩
  | m + 1, hm => by
    obtain ⟨ih, ic⟩ := h.gL_ok z m (by omega)
    have h20 := h.1.1.2
    have hp : 0 ≤ gPl v o (nI m) ↔ 0 ≤ iv v o 18 m := by rw [t_le, zPl (by omega), t_0]
    have e1 : su (isS (iv v o)) (m + 1) = su (isS (iv v o)) m + isS (iv v o) m := rfl
    have e2 : 0 ≤ isS (iv v o) m := by unfold isS; split <;> omega
    unfold gL
    by_cases q : 0 ≤ gPl v o (nI m) ∧ gLz v o (nI m) = z
    · have e3 : isS (iv v o) m = 1 := if_pos (hp.mp q.1)
      have e4 : su (isS (iv v o)) (m + 1) ≤ su (isS (iv v o)) N := by
        have : ∀ k, su (isS (iv v o)) (m + 1) ≤ su (isS (iv v o)) (m + 1 + k) := fun k => by
          induction k with
          | zero => exact Int.le_refl _
          | succ k ih =>
            have : su (isS (iv v o)) (m + 1 + (k + 1)) = su (isS (iv v o)) (m + 1 + k) + isS (iv v o) (m + 1 + k) := rfl
            have e5 : 0 ≤ isS (iv v o) (m + 1 + k) := by unfold isS; split <;> omega
            omega
        have := this (N - (m + 1))
        rwa [show m + 1 + (N - (m + 1)) = N by omega] at this
      have e6 := h.2.2.2.2.1
      rw [if_pos ⟨by omega, q⟩]
      exact ⟨ih.step (decide_eq_true q), by
        show (((gL v o z m).2 + 1 : Nat) : Int) ≤ _
        omega⟩
    · rw [if_neg (fun w => q w.2)]
      exact ⟨ih.skip (decide_eq_false q), by omega⟩
end GG
