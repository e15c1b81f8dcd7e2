/-! undo, the snapshot, texts: what becomes of the depot -/
/-- a change is undone: stock 1 is what the history held -/
def Gvn (v u : Vs) (n s : Nat) : Prop := Stq v u (rng ((n + 7) % 8)) 1 ∧ (∀ j, j < 8 → Stq v u (rng j) (rng j)) ∧ Stq v u 53 53 ∧ u 79 1 = nI ((n + 7) % 8) ∧ u 79 2 = nI (s - 1) ∧ u 0 9 = v 0 9
theorem giveV_gvn {v : Vs} {n s : Nat} : Gvn v (giveV v n s) n s ∧ ∀ k, 289 ≤ k → giveV v n s k = v k := by
  have e : ∀ k, k ≠ 79 → giveV v n s k = cpR v 1 (rng ((n + 7) % 8)) 26 k := fun k hk => by
    unfold giveV cpR rng
    by_cases q : 1 ≤ k ∧ k < 1 + 26
    · rw [if_pos q, if_pos q, up2_o _ _ _ (by omega), up2_o _ _ _ (by omega)]
    · rw [if_neg q, if_neg q, up2_o _ _ _ hk, up2_o _ _ _ hk]
  refine ⟨⟨fun c hc => ?_, fun j hj c hc => ?_, fun c hc => ?_, ?_, ?_, ?_⟩, fun k hk => ?_⟩
  · rw [e _ (by omega)]; exact cpR_sq c hc
  · rw [e _ (by unfold rng; omega)]
    unfold cpR rng
    rw [if_neg (by omega)]
  · rw [e _ (by omega)]
    unfold cpR
    rw [if_neg (by omega)]
  · unfold giveV
    rw [cpR_out (.inr (by decide)), up2_sn (by decide), up2_ss]
  · exact giveV_79
  · rw [e _ (by decide)]
    unfold cpR
    rw [if_neg (by decide)]
  · rw [e _ (by omega)]
    unfold cpR
    rw [if_neg (by omega)]
theorem DI.undo {T : Nat} {v : Vs} {n s : Nat} (h : DI T v n s) : DI T (giveV v n s) ((n + 7) % 8) (s - 1) := by
  obtain ⟨⟨g1, g2, g3, g4, g5, g6⟩, hk⟩ := giveV_gvn (v := v) (n := n) (s := s)
  obtain ⟨⟨h1, h2, h3⟩, ⟨h4, h5⟩, ⟨h6, h7⟩, h8⟩ := h
  exact ⟨⟨(h3 _ (by omega)).sq g1, h2.sq g3, fun j hj => (h3 j hj).sq (g2 j hj)⟩, ⟨by omega, g4⟩, ⟨by omega, g5⟩, tx_k (by rw [hk 302 (by decide)]) (hk 304 (by decide)) h8⟩
theorem DI.save {T : Nat} {v : Vs} {n s : Nat} (h : DI T v n s) : DI T (saveV v) n s ∧ Stq v (saveV v) 1 53 ∧ Stq v (saveV v) 1 1 ∧ (∀ j, j < 8 → Stq v (saveV v) (rng j) (rng j)) ∧ saveV v 0 9 = 1 := by
  have e : ∀ k, k ≠ 0 → saveV v k = cpR v 53 1 26 k := fun k hk => by unfold saveV; rw [up2_o _ _ _ hk]
  have e2 : ∀ k, k ≠ 0 → (k < 53 ∨ 79 ≤ k) → saveV v k = v k := fun k h1 h2 => by
    rw [e k h1]; unfold cpR; rw [if_neg (by omega)]
  have s53 : Stq v (saveV v) 1 53 := fun c hc => by rw [e _ (by omega)]; exact cpR_sq c hc
  have s1 : Stq v (saveV v) 1 1 := fun c hc => e2 _ (by omega) (by omega)
  have sr : ∀ j, j < 8 → Stq v (saveV v) (rng j) (rng j) := fun j hj c hc => e2 _ (by unfold rng; omega) (by unfold rng; omega)
  obtain ⟨⟨h1, h2, h3⟩, ⟨h4, h5⟩, ⟨h6, h7⟩, h8⟩ := h
  exact ⟨⟨⟨h1.sq s1, h1.sq s53, fun j hj => (h3 j hj).sq (sr j hj)⟩, ⟨h4, by rw [e2 79 (by decide) (by decide)]; exact h5⟩, ⟨h6, by rw [e2 79 (by decide) (by decide)]; exact h7⟩, tx_k (by rw [e2 302 (by decide) (by decide)]) (e2 304 (by decide) (by decide)) h8⟩, s53, s1, sr, by unfold saveV; rw [up2_ss]⟩
theorem DI.rest {T : Nat} {v : Vs} {n s : Nat} (h : DI T v n s) : DI T (restV v) n 0 ∧ Stq v (restV v) 53 1 ∧ Stq v (restV v) 53 53 ∧ restV v 0 9 = v 0 9 := by
  have e : ∀ k, k ≠ 79 → restV v k = cpR v 1 53 26 k := fun k hk => by unfold restV; rw [up2_o _ _ _ hk]
  have e2 : ∀ k, k ≠ 79 → (k < 1 ∨ 27 ≤ k) → restV v k = v k := fun k h1 h2 => by
    rw [e k h1]; unfold cpR; rw [if_neg (by omega)]
  have s1 : Stq v (restV v) 53 1 := fun c hc => by rw [e _ (by omega)]; exact cpR_sq c hc
  have s53 : Stq v (restV v) 53 53 := fun c hc => e2 _ (by omega) (by omega)
  have sr : ∀ j, j < 8 → Stq v (restV v) (rng j) (rng j) := fun j hj c hc => e2 _ (by unfold rng; omega) (by unfold rng; omega)
  obtain ⟨⟨h1, h2, h3⟩, ⟨h4, h5⟩, ⟨h6, h7⟩, h8⟩ := h
  refine ⟨⟨⟨h2.sq s1, h2.sq s53, fun j hj => (h3 j hj).sq (sr j hj)⟩, ⟨h4, ?_⟩, ⟨by decide, ?_⟩, tx_k (by rw [e2 302 (by decide) (by decide)]) (e2 304 (by decide) (by decide)) h8⟩, s1, s53, by rw [e2 0 (by decide) (by decide)]⟩
  · unfold restV
    rw [up2_sn (by decide), cpR_out (.inr (by decide))]; exact h5
  · unfold restV
    rw [up2_ss]; rfl
/-- a typed text: all but the text is the same -/
theorem Ty.sam {v u : Vs} (h : Ty v u) : (∀ k, k < 302 → u k = v k) := fun k hk => h k (by omega) (by omega)
/-- a text is executed after it has been typed: denied, or made and kept -/
theorem DI.exec {T : Nat} {v v1 u0 : Vs} {n s : Nat} (h : DI T v n s) (hy : ∀ k, k < 302 → v1 k = v k) (hd : Dr v1 u0) : (Sam v (up2 u0 302 2 0) ∧ DI T (up2 u0 302 2 0) n s) ∧ (SI (T + 5940) u0 27 → Kpt v (exV u0 n s) n s ∧ DI (T + 5940) (exV u0 n s) ((n + 1) % 8) (min (s + 1) 8)) := by
  have e0 : ∀ k, k ≠ 0 → (k < 27 ∨ 53 ≤ k) → k < 289 → up2 u0 302 2 0 k = v k := fun k h1 h2 h3 => by
    rw [up2_o _ _ _ (by omega), hd.1 k h1 (by omega) (by omega) (by omega) h2, hy k (by omega)]
  have hS : Sam v (up2 u0 302 2 0) := ⟨fun k h1 h2 h3 => e0 k (by omega) h2 h3, fun _ => tx_clear _, by rw [up2_o _ _ _ (by decide), hd.2.2 9 (by decide), hy 0 (by decide)]⟩
  refine ⟨⟨hS, h.sam hS⟩, fun h27 => ?_⟩
  have hn := h.2.1.1
  obtain ⟨k1, k2⟩ := keepV_kpt (v := up2 u0 302 2 0) (s := s) hn
  have ho : Out (keepV (up2 u0 302 2 0) n s) (exV u0 n s) 1 := fun k hk => by
    unfold exV cpR
    rw [if_neg (by omega)]
  have hk := k1.out hn ho
  have hk2 : Kpt v (exV u0 n s) n s := by
    obtain ⟨a1, a2, a3, a4, a5, a6⟩ := hk
    refine ⟨fun c hc => (a1 c hc).trans (e0 _ (by omega) (by omega) (by omega)), fun j hj ne c hc => (a2 j hj ne c hc).trans (e0 _ (by unfold rng; omega) (by unfold rng; omega) (by unfold rng; omega)), fun c hc => (a3 c hc).trans (e0 _ (by omega) (by omega) (by omega)), a4, a5, a6.trans hS.2.2⟩
  have h1 : SI (T + 5940) (exV u0 n s) 1 := by
    refine h27.sq (fun c hc => ?_)
    have : Stq (keepV (up2 u0 302 2 0) n s) (exV u0 n s) 27 1 := cpR_sq
    rw [this c hc, keepV_at (by omega)]
    unfold cpR rng
    rw [if_neg (by omega), up2_o _ _ _ (by omega)]
  refine ⟨hk2, h.kpt (by omega) hk2 h1 ?_⟩
  have e3 : ∀ k, 289 ≤ k → exV u0 n s k = up2 u0 302 2 0 k := fun k hk => by
    rw [ho k (by omega), keepV_at (by omega)]
    unfold cpR rng
    rw [if_neg (by omega)]
  exact tx_k (by rw [e3 302 (by decide)]) (e3 304 (by decide)) (tx_clear _)
/-- what was kept comes back -/
theorem Kpt.back {v u w : Vs} {n s n' s' : Nat} (h : Kpt v u n s) (hn : n < 8) (hn' : n' = (n + 1) % 8) (g : Gvn u w n' s') : Stq v w 1 1 := by
  have e : (n' + 7) % 8 = n := by omega
  have := g.1
  rw [e] at this
  exact h.1.tr this
