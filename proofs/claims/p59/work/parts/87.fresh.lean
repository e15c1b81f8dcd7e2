/-! the fresh depot; the law from its entry -/
theorem inv_zero {S : Zs} (h : ∀ c j, c < 26 → S c j = 0) : Inv 0 0 0 0 0 S := by
  refine ⟨⟨⟨h 8 7 (by decide), by decide⟩, ⟨h 1 3 (by decide), by decide⟩, h 23 1 (by decide)⟩, ⟨⟨?_, ?_⟩, ?_, ?_, ?_, ?_⟩, fun j hj => absurd hj (Nat.not_lt_zero j), fun i hi => absurd hi (Nat.not_lt_zero i), by show (0 : Int) ≤ 8; decide, rfl, fun c hc => absurd hc (Nat.not_lt_zero c), fun c d hc => absurd hc (Nat.not_lt_zero c), fun i hi => absurd hi (Nat.not_lt_zero i), fun c a b _ hc => absurd hc (Nat.not_lt_zero c)⟩
  · rw [h 0 3 (by decide)]; exact Int.le_refl _
  · rw [h 0 3 (by decide)]; exact Int.le_refl _
  · rw [h 0 4 (by decide)]; exact Int.le_refl _
  · rw [h 0 5 (by decide)]; exact Int.le_refl _
  · rw [h 0 6 (by decide)]; exact Int.le_refl _
  · rw [h 0 4 (by decide), h 0 5 (by decide), h 0 6 (by decide)]; rfl
theorem si_00 {o : Nat} (h1 : 1 ≤ o) (h2 : o + 26 ≤ 302) : SI 0 v00 o := ⟨0, 0, 0, inv_zero (fun c j hc => by
  show (v00 (o + c) j).toInt = 0
  rw [v00_z _ (by omega) (by omega)]
  rfl)⟩
theorem di_00 : DI 0 v00 0 0 := ⟨⟨si_00 (by decide) (by decide), si_00 (by decide) (by decide), fun j hj => si_00 (by omega) (by omega)⟩, ⟨by decide, by rw [v00_z 79 (by decide) (by decide)]; rfl⟩, ⟨by decide, by rw [v00_z 79 (by decide) (by decide)]; rfl⟩,
  ⟨by rw [v00_302]; rfl, by decide, fun j hj => absurd hj (Nat.not_lt_zero j), fun c hc => by cases hc⟩⟩
theorem law_s {γ : Gm} {Q : Fin_} (hfin : ∀ (k n : Nat) (L : List (Option Value)) (P : Heap → Prop), k ≤ 600000 → n ≤ 5000000 → J γ mL_law room_1 Q k n 340 L [.int 1] P) (hL : go γ 1004 ≤ 260) : J γ mL_law room_1 Q 0 0 0 [some (.ref (go γ 1003)), none, none, none, none, none, none, none, none] [] (fun H => H.size = gz γ) := by
  refine J.nw (μ := mL_law) (pc := 0) (T := TX11) (ci := 14) (fs0 := [.null, .null, .null, .null, .null, .null, .null, .null, .null, .int 0, .int 0, .int 0, .int 0]) (ty0 := tyX11) rfl rfl in_X11 tyX11_ok (fun j hj => by rcases (show j = 0 ∨ j = 1 ∨ j = 2 ∨ j = 3 ∨ j = 4 ∨ j = 5 ∨ j = 6 ∨ j = 7 ∨ j = 8 ∨ j = 9 ∨ j = 10 ∨ j = 11 ∨ j = 12 by omega) with rfl | rfl | rfl | rfl | rfl | rfl | rfl | rfl | rfl | rfl | rfl | rfl | rfl <;> rfl) wk_L_12 wj_X11 wn_X11 dL_law_0 (Nat.le_of_ble_eq_true rfl) (Nat.le_of_ble_eq_true rfl) (fun H0 hH => ?_)
  rw [show H0.size = gz γ + 0 from hH]
  refine J.of (P' := Cn γ v00 H0 0 14 [.null, .null, .null, .null, .null, .null, .null, .null, .null, .int 0, .int 0, .int 0, .int 0] 1) (fun H h => ⟨h.1, fun q hq => h.2.1 q hq, h.2.2, fun k x a b _ => by omega⟩) ?_
  refine J.dup (μ := mL_law) (pc := 3) dL_law_3 rfl ?_
  refine J.callC (μ := mL_law) (pc := 4) c_X11 rfl wm_L_306 mi_X11_init rfl rfl dL_law_4 rfl rfl ⟨(Nat.le_of_ble_eq_true rfl), (Nat.le_of_ble_eq_true rfl)⟩ ⟨(Nat.le_of_ble_eq_true rfl), (Nat.le_of_ble_eq_true rfl)⟩ (Nat.le_of_ble_eq_true rfl) (fun w => J.and fun e => ?_)
  subst e
  refine J.astore_n (μ := mL_law) (pc := 7) dL_law_7 (Nat.le_of_ble_eq_true rfl) rfl ?_
  exact law_0 hfin hL di_00 (Nat.le_of_ble_eq_true rfl) (Nat.le_of_ble_eq_true rfl)
