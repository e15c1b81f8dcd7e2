/-! every command keeps the invariant -/
theorem Inv.cg {D : Int} {T N M H : Nat} {S S' : Zs} (h : Inv D T N M H S) (hS : ∀ c, c < 26 → S' c = S c) : Inv D T N M H S' := by
  have e : (fun c => if c < 26 then S' c else S c) = S := by
    funext c
    by_cases q : c < 26
    · rw [if_pos q]; exact hS c q
    · rw [if_neg q]
  have h2 : Inv D T N M H (fun c => if c < 26 then S' c else S c) := by rw [e]; exact h
  exact h2
/-- a stock is as it should be -/
def SI (T : Nat) (v : Vs) (o : Nat) : Prop := ∃ N M H, Inv 0 T N M H (iv v o)
theorem SI.mono {T T' : Nat} {v : Vs} {o : Nat} (h : SI T v o) (hT : T ≤ T') : SI T' v o := by
  obtain ⟨N, M, H, h⟩ := h
  exact ⟨N, M, H, h.mono hT⟩
/-- the stock at o of w is the one at o2 of v -/
def Stq (v w : Vs) (o2 o : Nat) : Prop := ∀ c, c < 26 → w (o + c) = v (o2 + c)
theorem Stq.rf {v : Vs} {o : Nat} : Stq v v o o := fun _ _ => rfl
theorem Stq.tr {u v w : Vs} {o1 o2 o3 : Nat} (h : Stq u v o1 o2) (h2 : Stq v w o2 o3) : Stq u w o1 o3 := fun c hc => (h2 c hc).trans (h c hc)
theorem Stq.sy {v w : Vs} {o2 o : Nat} (h : Stq v w o2 o) : Stq w v o o2 := fun c hc => (h c hc).symm
theorem Inv.sq {D : Int} {T N M H : Nat} {v w : Vs} {o2 o : Nat} (h : Inv D T N M H (iv v o2)) (hq : Stq v w o2 o) : Inv D T N M H (iv w o) := h.cg (fun c hc => by funext j; unfold iv; rw [hq c hc])
theorem SI.sq {T : Nat} {v w : Vs} {o2 o : Nat} (h : SI T v o2) (hq : Stq v w o2 o) : SI T w o := by
  obtain ⟨N, M, H, h⟩ := h
  exact ⟨N, M, H, h.sq hq⟩
theorem Out.sq {v w : Vs} {o o' : Nat} (h : Out v w o) (ha : apart o o') : Stq v w o' o' := fun c hc => h _ (by unfold apart at ha; omega)
theorem cpR_sq {v : Vs} {a b : Nat} : Stq v (cpR v a b 26) b a := fun c hc => by
  unfold cpR
  rw [if_pos (by omega), show b + (a + c - a) = b + c by omega]
theorem cpR_ot {v : Vs} {a b o : Nat} (h : apart a o) : Stq v (cpR v a b 26) o o := fun c hc => by
  unfold cpR
  rw [if_neg (by unfold apart at h; omega)]
section PA
variable {T N M H : Nat} {v : Vs} {o : Nat}
theorem Inv.pf (h : Inv 0 T N M H (iv v o)) (hT : T ≤ 1000000000) {c a b e f : Int32} (hv : (vdOf v o N M c a b e f).1 = 0) : SI (T + 99) (pfOf v o N M H c a b e f).2 o ∧ Out v (pfOf v o N M H c a b e f).2 o ∧ -1000 ≤ (pfOf v o N M H c a b e f).1.toInt ∧ (c = 6 → hasL v o a) ∧ (c = 7 → 0 < H) := by
  have h20 := h.1.1.2
  have h8 := h.1.2.1.2
  have hH := h.H20
  unfold vdOf at hv
  unfold pfOf
  by_cases c0 : c = 0
  · rw [if_pos c0] at hv ⊢
    obtain ⟨k1, k2, k3⟩ := h.cShelf hv
    refine ⟨⟨N, M + 1, H, k2.mono (by omega)⟩, k3, ?_, fun q => ?_, fun q => ?_⟩
    · show -1000 ≤ (v (o + 1) 3).toInt
      rw [h.vM, t_nI (by omega)]; omega
    · rw [c0] at q; exact absurd q (by decide)
    · rw [c0] at q; exact absurd q (by decide)
  rw [if_neg c0] at hv ⊢
  by_cases c1 : c = 1
  · rw [if_pos c1] at hv ⊢
    obtain ⟨k1, k2, k3, k4, k5⟩ := h.cRecv hT hv
    refine ⟨⟨N + 1, M, H, k4⟩, k5, ?_, fun q => ?_, fun q => ?_⟩
    · rw [k3, t_nI (by omega)]; omega
    · rw [c1] at q; exact absurd q (by decide)
    · rw [c1] at q; exact absurd q (by decide)
  rw [if_neg c1] at hv ⊢
  by_cases c2 : c = 2
  · rw [if_pos c2] at hv ⊢
    obtain ⟨k1, k2, k3, k4, k5⟩ := h.cSplit hv
    refine ⟨⟨N + 1, M, H, k4.mono (by omega)⟩, k5, ?_, fun q => ?_, fun q => ?_⟩
    · rw [k3, t_nI (by omega)]; omega
    · rw [c2] at q; exact absurd q (by decide)
    · rw [c2] at q; exact absurd q (by decide)
  rw [if_neg c2] at hv ⊢
  by_cases c3 : c = 3
  · rw [if_pos c3] at hv ⊢
    obtain ⟨k1, k2, k3, k4, k5⟩ := h.cMix hv
    refine ⟨⟨N + 1, M, H, k4.mono (by omega)⟩, k5, ?_, fun q => ?_, fun q => ?_⟩
    · rw [k3, t_nI (by omega)]; omega
    · rw [c3] at q; exact absurd q (by decide)
    · rw [c3] at q; exact absurd q (by decide)
  rw [if_neg c3] at hv ⊢
  by_cases c4 : c = 4
  · rw [if_pos c4] at hv ⊢
    obtain ⟨⟨i, j, -, -, -, -, -, -, k3⟩, k4, k5⟩ := h.cMove hv
    refine ⟨⟨N, M, H, k4.mono (by omega)⟩, k5, by omega, fun q => ?_, fun q => ?_⟩
    · rw [c4] at q; exact absurd q (by decide)
    · rw [c4] at q; exact absurd q (by decide)
  rw [if_neg c4] at hv ⊢
  by_cases c5 : c = 5
  · rw [if_pos c5] at hv ⊢
    obtain ⟨k1, k2, k3, ⟨n, n1, n2, k4⟩, k5⟩ := h.cShip hT hv
    refine ⟨⟨N, M, H, k1.mono (by omega)⟩, k2, ?_, fun q => ?_, fun q => ?_⟩
    · rw [k4, t_nI (by omega)]; omega
    · rw [c5] at q; exact absurd q (by decide)
    · rw [c5] at q; exact absurd q (by decide)
  rw [if_neg c5] at hv ⊢
  by_cases c6 : c = 6
  · rw [if_pos c6] at hv ⊢
    obtain ⟨hl, -⟩ := ite0 (by decide) hv
    obtain ⟨i, hi, rfl⟩ := h.hsL.mp hl
    rw [nI_clamp (by omega)]
    obtain ⟨k1, k2, k3, -⟩ := h.cRecall hi
    refine ⟨⟨N, M, _, k2.mono (by omega)⟩, fun k hk => k3 k (by omega) (by omega) (by omega), ?_, fun _ => hl, fun q => ?_⟩
    · have := cn_le (fmP v o N i) N
      rw [k1, t_nI (by omega)]; omega
    · rw [c6] at q; exact absurd q (by decide)
  rw [if_neg c6] at hv ⊢
  by_cases c7 : c = 7
  · rw [if_pos c7] at hv ⊢
    obtain ⟨hl, -⟩ := ite0 (by decide) hv
    rw [h.vH, t_lt, t_0, t_nI (by omega)] at hl
    obtain ⟨h', rfl⟩ : ∃ h', H = h' + 1 := ⟨H - 1, by omega⟩
    obtain ⟨t, k1, k2, k3, k4, k5, k6, k7, k8⟩ := h.cCompost hT
    have hb := (h.lot k1).2.2.2.1.vo
    rw [show h' + 1 - 1 = h' by omega]
    exact ⟨⟨N, M, h', k7.mono (by omega)⟩, k8, by omega, fun q => absurd q c6, fun _ => by omega⟩
  rw [if_neg c7] at hv ⊢
  by_cases c8 : c = 8
  · rw [if_pos c8] at hv ⊢
    obtain ⟨hl, -⟩ := ite0 (by decide) hv
    obtain ⟨k1, k2, k3, k4⟩ := h.cCount hl
    exact ⟨⟨N, M, H, k2.mono (by omega)⟩, k3, by omega, fun q => absurd q c6, fun q => absurd q c7⟩
  rw [if_neg c8] at hv ⊢
  obtain ⟨hl, -⟩ := ite0 (by decide) hv
  obtain ⟨k1, k2, k3, k4⟩ := h.cPass hT hl
  exact ⟨⟨N, M, H, k2⟩, k3, k4, fun q => absurd q c6, fun q => absurd q c7⟩
/-- a verdict touches the detail of the gate alone -/
theorem vdOf_k {c a b e f : Int32} {k : Nat} (hk : k ≠ 289) : (vdOf v o N M c a b e f).2 k = v k := by
  have dk : ∀ (u : Vs) (x : Int32), dt u x k = u k := fun u x => up2_o _ _ _ hk
  have it : ∀ {p : Prop} [Decidable p] {x y : Int32 × Vs}, x.2 k = v k → y.2 k = v k → (if p then x else y).2 k = v k := fun {p} _ {x y} h1 h2 => by
    by_cases q : p
    · rw [if_pos q]; exact h1
    · rw [if_neg q]; exact h2
  unfold vdOf vdShelf vdRecv vdSplit vdMix vdMove vdShip
  repeat' apply it
  all_goals first | rfl | exact dk _ _
end PA
