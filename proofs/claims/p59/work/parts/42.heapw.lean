/-! the heap's top goes -/
def poV (v : Vs) (o h : Nat) : Vs := rmv (remV v o h) o (gHp v o 0)
theorem Inv.pop {D : Int} {T N M h : Nat} {v : Vs} {o : Nat} (hI : Inv D T N M (h + 1) (iv v o)) : ∃ t, t < N ∧ gHp v o 0 = nI t ∧ iv v o 18 t = -1 ∧ (∀ i, i < N → iv v o 18 i = -1 → i ≠ t → hb (iv v o) t i) ∧ Inv (D + iv v o 14 t) T N M h (iv (poV v o h) o) ∧ ∀ k, k ≠ o + 25 → poV v o h k = if k = o + 23 then upd (v (o + 23)) 1 (nI h) else if k = o + 18 then upd (v (o + 18)) t (-2) else if k = o + 14 then upd (v (o + 14)) t 0 else v k := by
  have hN := hI.1.1.2
  have hHN := hI.H20
  obtain ⟨f, f1, f2, f3⟩ := hI.2.2.2.2.2.toG
  have hlt : ∀ c, c < h + 1 → f c < 20 := fun c hc => by have := (f2.1 c hc).1; omega
  have c0 := HC.of hlt f1
  have hg0 : gHp v o 0 = nI (f 0) := c0.get (by omega) (show 0 < h + 1 by omega)
  have ht := f2.1 0 (by omega)
  have htop : ∀ i, i < N → iv v o 18 i = -1 → i ≠ f 0 → hb (iv v o) (f 0) i := fun i hi q ne => by
    obtain ⟨c, hc, e⟩ := f2.2.2 i ⟨hi, q⟩
    have hc0 : c ≠ 0 := fun z => by subst z; exact ne e.symm
    have := f3.top (hbB_ord _).1 c (by omega) hc
    rw [e] at this
    exact hbB_iff.mp this
  let f' : Nat → Nat := fun e => if e = 0 then f h else f e
  have hf'0 : f' 0 = f h := if_pos rfl
  have hf' : ∀ e, e ≠ 0 → f' e = f e := fun e he => if_neg he
  have h20 : ∀ c, c < h → f' c < 20 := fun c hc => by
    by_cases q : c = 0
    · subst q; rw [hf'0]; exact hlt h (by omega)
    · rw [hf' c q]; exact hlt c (by omega)
  let v0 := up2 v (o + 23) 1 (nI h)
  have hv0 : HC v0 o (h + 1) f := fun c hc => by
    show up2 v (o + 23) 1 (nI h) (o + 25) c = _
    rw [up2_o _ _ _ (by omega)]; exact c0 c hc
  have hgh : gHp v0 o (nI h) = nI (f h) := hv0.get (by omega) (by omega)
  let v1 := sHp v0 o 0 (nI (f h))
  have e1 : v1 = up2 v0 (o + 25) 0 (nI (f h)) := by
    show rs v0 (o + 25) 20 (nI 0) _ = _
    rw [rs_nI (by omega) (by omega)]
  have hv1 : HC v1 o h f' := fun c hc => by
    rw [e1]
    by_cases q : c = 0
    · subst q; rw [up2_ss, hf'0]
    · rw [up2_sn q, hf' c q]; exact hv0 c (by omega)
  obtain ⟨g1, g2⟩ := rtF_ok (v0 := v1) (n := h) (by omega) h v1 f' 0 (fun _ _ => rfl) hv1 h20
  have hrem : remV v o h = rtF o h h v1 0 := by
    show rtF o h h (sHp v0 o 0 (gHp v0 o (nI h))) 0 = _
    rw [hgh]
  have hbe : hbB (iv v1 o) = hbB (iv v o) := by
    have e2 : v1 (o + 14) = v (o + 14) := by
      rw [e1, up2_o _ _ _ (by omega)]
      show up2 v (o + 23) 1 (nI h) (o + 14) = _
      rw [up2_o _ _ _ (by omega)]
    have e3 : v1 (o + 16) = v (o + 16) := by
      rw [e1, up2_o _ _ _ (by omega)]
      show up2 v (o + 23) 1 (nI h) (o + 16) = _
      rw [up2_o _ _ _ (by omega)]
    funext a b
    unfold hbB iv
    rw [e2, e3]
  rw [hbe] at g1
  have hB' : Bij f' h (fun i => (i < N ∧ iv v o 18 i = -1) ∧ i ≠ f 0) := by
    obtain ⟨b1, b2, b3⟩ := f2
    refine ⟨fun c hc => ?_, fun c d hc hd q => ?_, fun i hi => ?_⟩
    · by_cases q : c = 0
      · subst q
        rw [hf'0]
        exact ⟨b1 h (by omega), fun z => by have := b2 _ _ (by omega) (by omega) z; omega⟩
      · rw [hf' c q]
        exact ⟨b1 c (by omega), fun z => by have := b2 _ _ (by omega) (by omega) z; omega⟩
    · by_cases q1 : c = 0 <;> by_cases q2 : d = 0
      · omega
      · subst q1; rw [hf'0, hf' d q2] at q; have := b2 _ _ (by omega) (by omega) q; omega
      · subst q2; rw [hf'0, hf' c q1] at q; have := b2 _ _ (by omega) (by omega) q; omega
      · rw [hf' c q1, hf' d q2] at q; exact b2 c d (by omega) (by omega) q
    · obtain ⟨c, hc, e⟩ := b3 i hi.1
      have hc0 : c ≠ 0 := fun z => by subst z; exact hi.2 e.symm
      by_cases q : c = h
      · subst q; exact ⟨0, by omega, by rw [hf'0]; exact e⟩
      · exact ⟨c, by omega, by rw [hf' c hc0]; exact e⟩
  have hU := dnG_ok (r := hbB (iv v o)) (hbB_ord _) (n := h) h f' 0 (by omega) hB' (fun d h1 h2 h3 => by
    show hbB (iv v o) (f' ((d - 1) / 2)) (f' d) = true
    rw [hf' d (by omega), hf' _ h3]
    exact f3 d h1 (by omega) trivial) (fun h0 => absurd h0 (by omega))
  have hlt2 : ∀ c, c < h → dnG (hbB (iv v o)) h h f' 0 c < 20 := fun c hc => by have := (hU.1.1 c hc).1.1; omega
  have hat : ∀ k, k ≠ o + 25 → poV v o h k = if k = o + 23 then upd (v (o + 23)) 1 (nI h) else if k = o + 18 then upd (v (o + 18)) (f 0) (-2) else if k = o + 14 then upd (v (o + 14)) (f 0) 0 else v k := by
    intro k hk
    unfold poV rmv sPl sVo
    rw [hg0, hrem, rs_nI (by omega) (by omega), rs_nI (by omega) (by omega)]
    have hr : ∀ k, k ≠ o + 25 → rtF o h h v1 0 k = up2 v (o + 23) 1 (nI h) k := fun k hk => by
      rw [g2 k hk, e1, up2_o _ _ _ hk]
    by_cases q1 : k = o + 18
    · subst q1
      rw [if_neg (by omega), if_pos rfl, up2_s, up2_o _ _ _ (by omega), hr _ (by omega), up2_o _ _ _ (by omega)]
    · rw [up2_o _ _ _ q1]
      by_cases q2 : k = o + 14
      · subst q2
        rw [if_neg (by omega), if_neg (by omega), if_pos rfl, up2_s, hr _ (by omega), up2_o _ _ _ (by omega)]
      · rw [up2_o _ _ _ q2, hr _ hk]
        by_cases q3 : k = o + 23
        · subst q3; rw [if_pos rfl, up2_s]
        · rw [if_neg q3, if_neg q1, if_neg q2, up2_o _ _ _ q3]
  have h25 : poV v o h (o + 25) = rtF o h h v1 0 (o + 25) := by
    unfold poV rmv sPl sVo
    rw [hrem, rs_o (by omega), rs_o (by omega)]
  have w18 : ∀ i, iv (poV v o h) o 18 i = if i = f 0 then -2 else iv v o 18 i := by
    intro i
    unfold iv
    rw [hat (o + 18) (by omega), if_neg (by omega), if_pos rfl]
    unfold upd
    by_cases q : i = f 0
    · rw [if_pos q, if_pos q]; exact t_m2
    · rw [if_neg q, if_neg q]
  have w14 : ∀ i, iv (poV v o h) o 14 i = if i = f 0 then 0 else iv v o 14 i := by
    intro i
    unfold iv
    rw [hat (o + 14) (by omega), if_neg (by omega), if_neg (by omega), if_pos rfl]
    unfold upd
    by_cases q : i = f 0
    · rw [if_pos q, if_pos q]; rfl
    · rw [if_neg q, if_neg q]
  have wS : ∀ c j, c ≠ 25 → ¬ (c = 23 ∧ j = 1) → ¬ (c = 18 ∧ j = f 0) → ¬ (c = 14 ∧ j = f 0) → iv (poV v o h) o c j = iv v o c j := by
    intro c j h1 h2 h3 h4
    by_cases q : c = 18
    · subst q; rw [w18, if_neg (fun z => h3 ⟨rfl, z⟩)]
    by_cases q2 : c = 14
    · subst q2; rw [w14, if_neg (fun z => h4 ⟨rfl, z⟩)]
    unfold iv
    rw [hat (o + c) (by omega)]
    by_cases q3 : c = 23
    · subst q3
      rw [if_pos rfl]
      unfold upd
      rw [if_neg (fun z => h2 ⟨rfl, z⟩)]
    · rw [if_neg (by omega), if_neg (by omega), if_neg (by omega)]
  have w23 : iv (poV v o h) o 23 1 = (h : Nat) := by
    unfold iv
    rw [hat (o + 23) (by omega), if_pos rfl]
    unfold upd
    rw [if_pos rfl, t_nI (by omega)]
  have w25 : ∀ c, c < h → iv (poV v o h) o 25 c = (dnG (hbB (iv v o)) h h f' 0 c : Nat) := fun c hc => by
    show (poV v o h (o + 25) c).toInt = _
    rw [h25]
    exact HC.iv hlt2 g1 c hc
  have hBB : Bij (dnG (hbB (iv v o)) h h f' 0) h (fun i => i < N ∧ iv (poV v o h) o 18 i = -1) := by
    have hA : ∀ i, ((i < N ∧ iv v o 18 i = -1) ∧ i ≠ f 0) ↔ (i < N ∧ iv (poV v o h) o 18 i = -1) := by
      intro i
      rw [w18]
      by_cases q : i = f 0
      · rw [if_pos q]; exact ⟨fun z => absurd q z.2, fun z => absurd z.2 (by decide)⟩
      · rw [if_neg q]; exact ⟨fun z => z.1, fun z => ⟨z, q⟩⟩
    exact ⟨fun c hc => (hA _).mp (hU.1.1 c hc), hU.1.2.1, fun i hi => hU.1.2.2 i ((hA i).mpr hi)⟩
  exact ⟨f 0, ht.1, hg0, ht.2, htop, hI.popped ht.1 ht.2 wS w23 (by rw [w18, if_pos rfl]) (by rw [w14, if_pos rfl]) w25 hBB hU.2, hat⟩
