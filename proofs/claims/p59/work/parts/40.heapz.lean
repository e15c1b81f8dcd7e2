/-! the heap's invariant, kept -/
theorem hb_ord (S : Zs) : (∀ a b c, hb S a b → hb S b c → hb S a c) ∧ ∀ a b, a ≠ b → ¬ hb S a b → hb S b a := by
  unfold hb
  exact ⟨fun a b c h1 h2 => by omega, fun a b h1 h2 => by omega⟩
def hbB (S : Zs) (a b : Nat) : Bool := decide (S 14 b < S 14 a ∨ S 14 a = S 14 b ∧ (S 16 a < S 16 b ∨ S 16 a = S 16 b ∧ a < b))
theorem hbB_iff {S : Zs} {a b : Nat} : hbB S a b = true ↔ hb S a b := by unfold hbB hb; exact decide_eq_true_iff
theorem hbB_ord (S : Zs) : Ordr (fun a b => hbB S a b = true) := by
  simp only [hbB_iff]; exact hb_ord S
theorem HpI.toG {S : Zs} {N H : Nat} (h : HpI S N H) : ∃ f : Nat → Nat, (∀ c, c < H → S 25 c = (f c : Nat)) ∧ Bij f H (fun i => i < N ∧ S 18 i = -1) ∧ HO (fun a b => hbB S a b = true) f H (fun _ => True) := by
  obtain ⟨-, b, c, d, e⟩ := h
  have hf : ∀ x, x < H → S 25 x = ((S 25 x).toNat : Nat) := fun x hx => by
    obtain ⟨i, -, h2, -⟩ := b x hx
    omega
  refine ⟨fun x => (S 25 x).toNat, hf, ⟨fun x hx => ?_, fun x y hx hy q => ?_, fun i hi => ?_⟩, fun x h0 hx _ => ?_⟩
  · obtain ⟨i, h1, h2, h3⟩ := b x hx
    have : (S 25 x).toNat = i := by omega
    simp only [this]
    exact ⟨h1, h3⟩
  · refine c x y hx hy ?_
    rw [hf x hx, hf y hy]
    exact congrArg Int.ofNat q
  · obtain ⟨x, hx, h2⟩ := d i hi.1 hi.2
    exact ⟨x, hx, by show (S 25 x).toNat = i; omega⟩
  · exact hbB_iff.mpr (e x _ _ h0 hx (hf x hx) (hf _ (by omega)))
theorem HpI.ofG {S : Zs} {N H : Nat} {f : Nat → Nat} (hn : (H : Int) = su (isH S) N) (hf : ∀ c, c < H → S 25 c = (f c : Nat)) (hB : Bij f H (fun i => i < N ∧ S 18 i = -1)) (hO : HO (fun a b => hbB S a b = true) f H (fun _ => True)) : HpI S N H := by
  obtain ⟨b1, b2, b3⟩ := hB
  refine ⟨hn, fun c hc => ⟨f c, (b1 c hc).1, hf c hc, (b1 c hc).2⟩, fun c d hc hd q => ?_, fun i hi q => ?_, fun c a b h0 hc q1 q2 => ?_⟩
  · rw [hf c hc, hf d hd] at q
    exact b2 c d hc hd (by omega)
  · obtain ⟨c, hc, h⟩ := b3 i ⟨hi, q⟩
    exact ⟨c, hc, by rw [hf c hc, h]⟩
  · rw [hf c hc] at q1
    rw [hf _ (by omega)] at q2
    have h1 : f c = a := by omega
    have h2 : f ((c - 1) / 2) = b := by omega
    have := hbB_iff.mp (hO c h0 hc trivial)
    rw [h1, h2] at this
    exact this
/-- a lot on a shelf is on the heap -/
theorem Inv.heaped {D : Int} {T N M H : Nat} {S S' : Zs} (h : Inv D T N M H S) {x : Nat} (hx : x < N) (h18 : 0 ≤ S 18 x) (hS : ∀ c j, c ≠ 25 → ¬ (c = 23 ∧ j = 1) → ¬ (c = 18 ∧ j = x) → S' c j = S c j) (h23 : S' 23 1 = (H + 1 : Nat)) (hx2 : S' 18 x = -1) {f : Nat → Nat} (hf : ∀ c, c < H + 1 → S' 25 c = (f c : Nat)) (hB : Bij f (H + 1) (fun i => i < N ∧ S' 18 i = -1)) (hO : HO (fun a b => hbB S a b = true) f (H + 1) (fun _ => True)) : Inv D T N M (H + 1) S' := by
  obtain ⟨⟨a1, a2, a3⟩, ⟨b1, b2, b3, b4, b5⟩, c, d, e, g⟩ := h
  have hc : ∀ c, c ≠ 25 → c ≠ 23 → c ≠ 18 → S' c = S c := fun c h1 h2 h3 => funext fun j => hS c j h1 (fun q => h2 q.1) (fun q => h3 q.1)
  have r18 : ∀ i, i ≠ x → S' 18 i = S 18 i := fun i hi => hS 18 i (by decide) (by omega) (fun q => hi q.2)
  have e14 : S' 14 = S 14 := hc 14 (by decide) (by decide) (by decide)
  have e0 : S' 0 = S 0 := hc 0 (by decide) (by decide) (by decide)
  refine ⟨⟨by rw [hc 8 (by decide) (by decide) (by decide)]; exact a1, by rw [hc 1 (by decide) (by decide) (by decide)]; exact a2, h23⟩, by rw [e0, e14]; exact ⟨b1, b2, b3, b4, b5⟩, ?_, ?_, ?_, ?_⟩
  · intro j hj
    obtain ⟨h1, h2⟩ := c j hj
    refine ⟨by unfold ShI; rw [e0, hc 3 (by decide) (by decide) (by decide), hc 5 (by decide) (by decide) (by decide), hc 7 (by decide) (by decide) (by decide)]; exact h1, ?_⟩
    have h3 : su (onZ S' j) N ≤ su (onZ S j) N := su_mono (fun i hi => by
      unfold onZ
      rw [e14]
      by_cases q : i = x
      · subst q
        have := (d i hi).2.2.2.1.vo.1
        rw [hx2, if_neg (by omega)]
        split <;> omega
      · rw [r18 i q]; exact Int.le_refl _)
    unfold room at h2 ⊢
    rw [hc 5 (by decide) (by decide) (by decide)]
    omega
  · intro i hi
    obtain ⟨h1, h2, h3, h4, h5⟩ := d i hi
    refine ⟨by rw [hc 10 (by decide) (by decide) (by decide)]; exact h1, by rw [hc 12 (by decide) (by decide) (by decide)]; exact h2, by rw [hc 16 (by decide) (by decide) (by decide)]; exact h3, ?_, h5.congr (by rw [hc 20 (by decide) (by decide) (by decide)]) (by rw [hc 22 (by decide) (by decide) (by decide)]) (fun a _ => by rw [hc 16 (by decide) (by decide) (by decide)])⟩
    by_cases q : i = x
    · subst q
      obtain ⟨j, k1, k2, k3, k4⟩ := h4.on h18
      exact .inr (.inl ⟨hx2, by rw [e14]; exact k4⟩)
    · exact h4.congr (Nat.le_refl _) (fun _ _ => by rw [hc 3 (by decide) (by decide) (by decide)]) (r18 i q) (by rw [e14]) (by rw [hc 12 (by decide) (by decide) (by decide)])
  · refine Int.le_trans (su_mono (fun i hi => ?_)) e
    unfold isS
    by_cases q : i = x
    · subst q
      rw [hx2, if_neg (by decide)]
      split <;> omega
    · rw [r18 i q]; exact Int.le_refl _
  · have he : hbB S' = hbB S := by funext a b; unfold hbB; rw [e14, hc 16 (by decide) (by decide) (by decide)]
    refine HpI.ofG ?_ hf hB (by rw [he]; exact hO)
    have h1 := su_pt (g := isH S) (g' := isH S') hx (fun i _ ne => by unfold isH; rw [r18 i ne])
    have h2 : isH S x = 0 := if_neg (by omega)
    have h3 : isH S' x = 1 := if_pos hx2
    have h4 := g.1
    rw [h1, h2, h3]
    omega
/-- the top of the heap goes -/
theorem Inv.popped {D : Int} {T N M H : Nat} {S S' : Zs} (h : Inv D T N M (H + 1) S) {x : Nat} (hx : x < N) (h18 : S 18 x = -1) (hS : ∀ c j, c ≠ 25 → ¬ (c = 23 ∧ j = 1) → ¬ (c = 18 ∧ j = x) → ¬ (c = 14 ∧ j = x) → S' c j = S c j) (h23 : S' 23 1 = (H : Nat)) (hx2 : S' 18 x = -2) (hx3 : S' 14 x = 0) {f : Nat → Nat} (hf : ∀ c, c < H → S' 25 c = (f c : Nat)) (hB : Bij f H (fun i => i < N ∧ S' 18 i = -1)) (hO : HO (fun a b => hbB S a b = true) f H (fun _ => True)) : Inv (D + S 14 x) T N M H S' := by
  obtain ⟨⟨a1, a2, a3⟩, ⟨b1, b2, b3, b4, b5⟩, c, d, e, g⟩ := h
  have hc : ∀ c, c ≠ 25 → c ≠ 23 → c ≠ 18 → c ≠ 14 → S' c = S c := fun c h1 h2 h3 h4 => funext fun j => hS c j h1 (fun q => h2 q.1) (fun q => h3 q.1) (fun q => h4 q.1)
  have r18 : ∀ i, i ≠ x → S' 18 i = S 18 i := fun i hi => hS 18 i (by decide) (by omega) (fun q => hi q.2) (by omega)
  have r14 : ∀ i, i ≠ x → S' 14 i = S 14 i := fun i hi => hS 14 i (by decide) (by omega) (by omega) (fun q => hi q.2)
  have e0 : S' 0 = S 0 := hc 0 (by decide) (by decide) (by decide) (by decide)
  refine ⟨⟨by rw [hc 8 (by decide) (by decide) (by decide) (by decide)]; exact a1, by rw [hc 1 (by decide) (by decide) (by decide) (by decide)]; exact a2, h23⟩, ?_, ?_, ?_, ?_, ?_⟩
  · rw [e0]
    refine ⟨b1, b2, b3, b4, ?_⟩
    rw [su_pt (g := S 14) (a := x) hx (fun i _ ne => r14 i ne), hx3]
    omega
  · intro j hj
    obtain ⟨h1, h2⟩ := c j hj
    refine ⟨by unfold ShI; rw [e0, hc 3 (by decide) (by decide) (by decide) (by decide), hc 5 (by decide) (by decide) (by decide) (by decide), hc 7 (by decide) (by decide) (by decide) (by decide)]; exact h1, ?_⟩
    have h3 : su (onZ S' j) N = su (onZ S j) N := su_congr (fun i hi => by
      unfold onZ
      by_cases q : i = x
      · subst q
        rw [hx2, h18, if_neg (by omega), if_neg (by omega)]
      · rw [r18 i q, r14 i q])
    unfold room at h2 ⊢
    rw [hc 5 (by decide) (by decide) (by decide) (by decide), h3]
    exact h2
  · intro i hi
    obtain ⟨h1, h2, h3, h4, h5⟩ := d i hi
    refine ⟨by rw [hc 10 (by decide) (by decide) (by decide) (by decide)]; exact h1, by rw [hc 12 (by decide) (by decide) (by decide) (by decide)]; exact h2, by rw [hc 16 (by decide) (by decide) (by decide) (by decide)]; exact h3, ?_, h5.congr (by rw [hc 20 (by decide) (by decide) (by decide) (by decide)]) (by rw [hc 22 (by decide) (by decide) (by decide) (by decide)]) (fun a _ => by rw [hc 16 (by decide) (by decide) (by decide) (by decide)])⟩
    by_cases q : i = x
    · subst q
      exact .inl ⟨hx2, hx3⟩
    · exact h4.congr (Nat.le_refl _) (fun _ _ => by rw [hc 3 (by decide) (by decide) (by decide) (by decide)]) (r18 i q) (r14 i q) (by rw [hc 12 (by decide) (by decide) (by decide) (by decide)])
  · refine Int.le_trans (su_mono (fun i hi => ?_)) e
    unfold isS
    by_cases q : i = x
    · subst q
      rw [hx2, if_neg (by decide)]
      split <;> omega
    · rw [r18 i q]; exact Int.le_refl _
  · refine HpI.ofG ?_ hf hB (fun y h0 hy _ => ?_)
    · have h1 := su_pt (g := isH S) (g' := isH S') hx (fun i _ ne => by unfold isH; rw [r18 i ne])
      have h2 : isH S x = 1 := if_pos h18
      have h3 : isH S' x = 0 := if_neg (by omega)
      have h4 := g.1
      rw [h1, h2, h3]
      omega
    · have hy1 := (hB.1 y hy).2
      have hy2 := (hB.1 ((y - 1) / 2) (by omega)).2
      have n1 : f y ≠ x := fun q => by rw [q, hx2] at hy1; omega
      have n2 : f ((y - 1) / 2) ≠ x := fun q => by rw [q, hx2] at hy2; omega
      have := hO y h0 hy trivial
      show hbB S' _ _ = true
      unfold hbB at this ⊢
      rw [r14 _ n1, r14 _ n2, hc 16 (by decide) (by decide) (by decide) (by decide)]
      exact this
