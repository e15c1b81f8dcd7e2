/-! the commands' parts, on whole numbers, 2 -/
/-- the room of a shelf, two lots left out -/
def rX (S : Zs) (N j : Nat) (a b : Int) : Int := S 5 j - su (fun i => if (i : Int) = a ∨ (i : Int) = b then 0 else onZ S j i) N
theorem rX_none {S : Zs} {N j : Nat} {a b : Int} (ha : a < 0) (hb : b < 0) : rX S N j a b = room S N j := by
  unfold rX room
  rw [su_congr (g' := onZ S j) (fun i _ => if_neg (fun q => by omega))]
theorem Inv.moved {D : Int} {T N M H : Nat} {S : Zs} (h : Inv D T N M H S) {x y : Nat} (hx : x < N) (h18 : 0 ≤ S 18 x) (hy : y < M) (hz : S 3 y = S 12 x) (hr : S 14 x ≤ rX S N y x (-1)) : Inv D T N M H (uz S 18 x y) := by
  obtain ⟨a, b, c, d, e, f⟩ := h
  have r18 : ∀ i, uz S 18 x y 18 i = if i = x then (y : Int) else S 18 i := fun i => uz_at
  have s0 : ∀ i, i < N → 0 ≤ onZ S y i := fun i hi => by
    unfold onZ; split
    · exact (d i hi).2.2.2.1.vo.1
    · exact Int.le_refl _
  refine ⟨a, b, ?_, ?_, ?_, ?_⟩
  · intro j hj
    obtain ⟨h1, h2⟩ := c j hj
    refine ⟨h1, ?_⟩
    show 0 ≤ S 5 j - su (onZ (uz S 18 x y) j) N
    by_cases q : j = y
    · subst q
      have h3 := su_pt (g := fun i => if (i : Int) = (x : Int) ∨ (i : Int) = -1 then 0 else onZ S j i) (g' := onZ (uz S 18 x j) j) hx (fun i _ ne => by
        show onZ (uz S 18 x j) j i = if (i : Int) = (x : Int) ∨ (i : Int) = -1 then 0 else onZ S j i
        rw [if_neg (show ¬ ((i : Int) = (x : Int) ∨ (i : Int) = -1) by omega)]
        unfold onZ
        rw [r18, if_neg ne]
        rfl)
      rw [h3]
      have h4 : onZ (uz S 18 x j) j x = S 14 x := by unfold onZ; rw [r18, if_pos rfl, if_pos rfl]; rfl
      have h5 : (if (x : Int) = (x : Int) ∨ (x : Int) = -1 then 0 else onZ S j x) = 0 := if_pos (.inl rfl)
      rw [h4, h5]
      unfold rX at hr
      omega
    · have h3 : su (onZ (uz S 18 x y) j) N ≤ su (onZ S j) N := su_mono (fun i hi => by
        unfold onZ
        rw [r18, uz_c (by decide)]
        by_cases z : i = x
        · subst z
          have := (d i hi).2.2.2.1.vo.1
          rw [if_pos rfl, if_neg (by omega)]
          split <;> omega
        · rw [if_neg z]; exact Int.le_refl _)
      have h4 : 0 ≤ S 5 j - su (onZ S j) N := h2
      omega
  · intro i hi
    obtain ⟨h1, h2, h3, h4, h5⟩ := d i hi
    refine ⟨h1, h2, h3, ?_, h5⟩
    by_cases q : i = x
    · subst q
      obtain ⟨j, k1, k2, k3, k4⟩ := h4.on h18
      exact .inr (.inr ⟨y, hy, by rw [r18, if_pos rfl], hz, k4⟩)
    · exact h4.congr (Nat.le_refl _) (fun _ _ => rfl) (by rw [r18, if_neg q]) rfl rfl
  · have : su (isS (uz S 18 x y)) N = su (isS S) N := su_congr (fun i _ => by
      unfold isS
      rw [r18]
      by_cases q : i = x
      · subst q; rw [if_pos rfl, if_pos h18, if_pos (by omega)]
      · rw [if_neg q])
    rw [this]; exact e
  · refine f.congr (Nat.le_refl _) (fun _ _ => rfl) (fun i hi => ?_) (fun i h1 h2 => absurd h1 (by omega)) (fun i hi q => ⟨rfl, rfl⟩)
    rw [r18]
    by_cases q : i = x
    · subst q; rw [if_pos rfl]; omega
    · rw [if_neg q]
theorem Inv.day {D : Int} {T N M H : Nat} {S : Zs} (h : Inv D T N M H S) {y : Int} (h0 : S 0 3 ≤ y) (h9 : y ≤ S 0 3 + 99) : Inv D (T + 99) N M H (uz S 0 3 y) := by
  obtain ⟨a, ⟨b1, b2, b3⟩, c, d, e⟩ := h
  have r3 : uz S 0 3 y 0 3 = y := uz_s
  refine ⟨a, ⟨by rw [r3]; omega, ?_, ?_⟩, ?_, fun i hi => (d i hi).congr (by omega) (Nat.le_refl _) (fun _ _ => rfl) rfl rfl rfl (fun _ _ => rfl) rfl rfl rfl, e⟩
  · show S 0 4 ≤ _; omega
  · exact b3
  · intro j hj
    obtain ⟨⟨h1, h2, h3⟩, h4⟩ := c j hj
    refine ⟨⟨h1, h2, ?_⟩, h4⟩
    rw [r3]
    show -1 ≤ S 7 j ∧ S 7 j ≤ y
    omega
theorem Inv.counted {D : Int} {T N M H : Nat} {S : Zs} (h : Inv D T N M H S) {x : Nat} : Inv D T N M H (uz S 7 x (S 0 3)) := by
  obtain ⟨a, b, c, d, e⟩ := h
  refine ⟨a, b, ?_, fun i hi => (d i hi).congr (Nat.le_refl _) (Nat.le_refl _) (fun _ _ => rfl) rfl rfl rfl (fun _ _ => rfl) rfl rfl rfl, e⟩
  intro j hj
  obtain ⟨⟨h1, h2, h3⟩, h4⟩ := c j hj
  refine ⟨⟨h1, h2, ?_⟩, h4⟩
  show -1 ≤ uz S 7 x (S 0 3) 7 j ∧ uz S 7 x (S 0 3) 7 j ≤ S 0 3
  rw [uz_at]
  split
  · omega
  · exact h3
/-- the accounts become others -/
theorem Inv.acc {D D' : Int} {T T' N M H : Nat} {S S' : Zs} (h : Inv D T N M H S) (hT : T ≤ T') (hS : ∀ c j, c ≠ 0 ∨ j = 3 → S' c j = S c j) (h1 : S' 0 4 ≤ T' ∧ 0 ≤ S' 0 5 ∧ 0 ≤ S' 0 6) (h2 : S' 0 4 - S' 0 5 - S' 0 6 - D' = S 0 4 - S 0 5 - S 0 6 - D) : Inv D' T' N M H S' := by
  obtain ⟨⟨a1, a2, a3⟩, ⟨b1, b2, b3⟩, c, d, e, f⟩ := h
  have hc : ∀ c, c ≠ 0 → S' c = S c := fun c hc => funext fun j => hS c j (.inl hc)
  refine ⟨⟨by rw [hc 8 (by decide)]; exact a1, by rw [hc 1 (by decide)]; exact a2, by rw [hc 23 (by decide)]; exact a3⟩, ⟨by rw [hS 0 3 (.inr rfl)]; omega, h1.1, h1.2.1, h1.2.2, by rw [hc 14 (by decide)]; omega⟩, ?_, ?_, ?_, ?_⟩
  · intro j hj
    unfold ShI room onZ
    rw [hc 3 (by decide), hc 5 (by decide), hc 7 (by decide), hc 18 (by decide), hc 14 (by decide), hS 0 3 (.inr rfl)]
    exact c j hj
  · intro i hi
    exact (d i hi).congr hT (Nat.le_refl _) (fun j _ => by rw [hc 3 (by decide)]) (by rw [hc 10 (by decide)]) (by rw [hc 12 (by decide)]) (by rw [hc 14 (by decide)]) (fun _ _ => by rw [hc 16 (by decide)]) (by rw [hc 18 (by decide)]) (by rw [hc 20 (by decide)]) (by rw [hc 22 (by decide)])
  · have : isS S' = isS S := by funext i; unfold isS; rw [hc 18 (by decide)]
    rw [this]; exact e
  · exact f.congr (Nat.le_refl _) (fun c _ => by rw [hc 25 (by decide)]) (fun i _ => by rw [hc 18 (by decide)]) (fun i h1 h2 => absurd h1 (by omega)) (fun i _ _ => ⟨by rw [hc 14 (by decide)], by rw [hc 16 (by decide)]⟩)
/-- a shelf comes -/
def ashZ (S : Zs) (M : Nat) (z w : Int) : Zs := fun c j => if c = 1 ∧ j = 3 then (M + 1 : Nat) else if j = M then (if c = 3 then z else if c = 5 then w else if c = 7 then -1 else S c j) else S c j
theorem Inv.shelf {D : Int} {T N M H : Nat} {S : Zs} (h : Inv D T N M H S) (hM : M < 8) {z w : Int} (hz : 0 ≤ z ∧ z ≤ 2) (hw : 1 ≤ w ∧ w ≤ 40) : Inv D T N (M + 1) H (ashZ S M z w) := by
  obtain ⟨⟨a1, a2, a3⟩, ⟨b1, b2, b3⟩, c, d, e, f⟩ := h
  have hc : ∀ c, c ≠ 1 → c ≠ 3 → c ≠ 5 → c ≠ 7 → ashZ S M z w c = S c := fun c h1 h2 h3 h4 => by
    funext j
    unfold ashZ
    rw [if_neg (fun q => h1 q.1), if_neg h2, if_neg h3, if_neg h4, ite_self]
  have old : ∀ {c j : Nat}, j ≠ M → c ≠ 1 → ashZ S M z w c j = S c j := fun {c j} h h1 => by unfold ashZ; rw [if_neg (fun q => h1 q.1), if_neg h]
  have n3 : ashZ S M z w 3 M = z := by unfold ashZ; simp
  have n5 : ashZ S M z w 5 M = w := by unfold ashZ; simp
  have n7 : ashZ S M z w 7 M = -1 := by unfold ashZ; simp
  have on : ∀ j : Int, onZ (ashZ S M z w) j = onZ S j := fun j => by funext i; unfold onZ; rw [hc 18 (by decide) (by decide) (by decide) (by decide), hc 14 (by decide) (by decide) (by decide) (by decide)]
  refine ⟨⟨by rw [hc 8 (by decide) (by decide) (by decide) (by decide)]; exact a1, ⟨by unfold ashZ; rw [if_pos ⟨rfl, rfl⟩], by omega⟩, by rw [hc 23 (by decide) (by decide) (by decide) (by decide)]; exact a3⟩, by rw [hc 0 (by decide) (by decide) (by decide) (by decide), hc 14 (by decide) (by decide) (by decide) (by decide)]; exact ⟨b1, b2, b3⟩, ?_, ?_, ?_, ?_⟩
  · intro j hj
    unfold ShI room
    rw [hc 0 (by decide) (by decide) (by decide) (by decide), on]
    by_cases q : j = M
    · subst q
      rw [n3, n5, n7]
      have : su (onZ S j) N = 0 := by
        rw [su_congr (g' := fun _ => 0) (fun i hi => ?_), su_zero]
        unfold onZ
        rcases (d i hi).2.2.2.1 with ⟨k, -⟩ | ⟨k, -⟩ | ⟨k0, k1, k, -⟩ <;> rw [if_neg (by omega)]
      rw [this]
      omega
    · rw [old q (by decide), old q (by decide), old q (by decide)]
      exact c j (by omega)
  · intro i hi
    exact (d i hi).congr (Nat.le_refl _) (by omega) (fun j hj => old (by omega) (by decide)) (by rw [hc 10 (by decide) (by decide) (by decide) (by decide)]) (by rw [hc 12 (by decide) (by decide) (by decide) (by decide)]) (by rw [hc 14 (by decide) (by decide) (by decide) (by decide)]) (fun _ _ => by rw [hc 16 (by decide) (by decide) (by decide) (by decide)]) (by rw [hc 18 (by decide) (by decide) (by decide) (by decide)]) (by rw [hc 20 (by decide) (by decide) (by decide) (by decide)]) (by rw [hc 22 (by decide) (by decide) (by decide) (by decide)])
  · have : isS (ashZ S M z w) = isS S := by funext i; unfold isS; rw [hc 18 (by decide) (by decide) (by decide) (by decide)]
    rw [this]; exact e
  · exact f.congr (Nat.le_refl _) (fun c _ => by rw [hc 25 (by decide) (by decide) (by decide) (by decide)]) (fun i _ => by rw [hc 18 (by decide) (by decide) (by decide) (by decide)]) (fun i h1 h2 => absurd h1 (by omega)) (fun i _ _ => ⟨by rw [hc 14 (by decide) (by decide) (by decide) (by decide)], by rw [hc 16 (by decide) (by decide) (by decide) (by decide)]⟩)
