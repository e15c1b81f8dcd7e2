/-! the whole depot: what always holds, and what each call does to it -/
/-- the thirty texts can be typed, and they match the grammar -/
def txB (i : Nat) : Bool := match SKs[27 + i]? with
  | some q => decide (q.2.2.2.length ≤ 60) && q.2.2.2.all (fun c => decide (c < 128)) && (pz q.2.2.2 60 0).isSome
  | none => false
theorem txB_all : ∀ i, i < 30 → txB i = true := by decide +kernel
theorem txt_ok {i : Nat} (hi : i < 30) : ∃ bs, SK (27 + i) bs ∧ bs.length ≤ 60 ∧ (∀ c ∈ bs, c < 128) ∧ pz bs 60 0 ≠ none := by
  have h := txB_all i hi
  unfold txB at h
  cases hq : SKs[27 + i]? with
  | none => rw [hq] at h; exact absurd h (by decide)
  | some q =>
    rw [hq] at h
    simp only [Bool.and_eq_true, decide_eq_true_iff, List.all_eq_true] at h
    obtain ⟨own, ix, tx, bs⟩ := q
    exact ⟨bs, ⟨own, ix, tx, hq⟩, h.1.1, fun c hc => h.1.2 c hc, fun z => by
      have h2 := h.2
      rw [z] at h2; exact absurd h2 (by decide)⟩
/-- the depot is as it should be: n is where the history goes on, s how many changes it holds -/
def DI (T : Nat) (v : Vs) (n s : Nat) : Prop := (SI T v 1 ∧ SI T v 53 ∧ ∀ j, j < 8 → SI T v (81 + 26 * j)) ∧ (n < 8 ∧ v 79 1 = nI n) ∧ (s ≤ 8 ∧ v 79 2 = nI s) ∧ tx v []
theorem DI.mono {T T' : Nat} {v : Vs} {n s : Nat} (h : DI T v n s) (hT : T ≤ T') : DI T' v n s :=
  ⟨⟨h.1.1.mono hT, h.1.2.1.mono hT, fun j hj => (h.1.2.2 j hj).mono hT⟩, h.2⟩
theorem DI.ok {T : Nat} {v : Vs} {n s : Nat} (h : DI T v n s) : ∃ N M H, Inv 0 T N M H (iv v 1) ∧ OK v N M H n s := by
  obtain ⟨⟨⟨N, M, H, hI⟩, -⟩, ⟨h1, h2⟩, ⟨h3, h4⟩, -⟩ := h
  have := hI.H20
  have := hI.1.1.2
  exact ⟨N, M, H, hI, ⟨hI.vN, hI.1.1.2⟩, ⟨hI.vM, hI.1.2.1.2⟩, ⟨hI.vH, by omega⟩, ⟨h2, h1⟩, ⟨h4, h3⟩⟩
/-- two depots alike, but for what is told of denials, and for what questions write on -/
def Sam (v u : Vs) : Prop := (∀ k, 1 ≤ k → (k < 27 ∨ 53 ≤ k) → k < 289 → u k = v k) ∧ (tx v [] → tx u []) ∧ u 0 9 = v 0 9
theorem Sam.rf {v : Vs} : Sam v v := ⟨fun _ _ _ _ => rfl, id, rfl⟩
theorem Sam.tr {u v w : Vs} (h : Sam u v) (h2 : Sam v w) : Sam u w := ⟨fun k a b c => (h2.1 k a b c).trans (h.1 k a b c), fun z => h2.2.1 (h.2.1 z), h2.2.2.trans h.2.2⟩
theorem Sam.sq {v u : Vs} (h : Sam v u) {o : Nat} (h1 : 1 ≤ o) (h2 : o + 26 ≤ 27 ∨ 53 ≤ o) (h3 : o + 26 ≤ 289) : Stq v u o o := fun c hc => h.1 _ (by omega) (by omega) (by omega)
theorem tx_k {v u : Vs} {t : List Nat} (h1 : u 302 2 = v 302 2) (h2 : u 304 = v 304) (ht : tx v t) : tx u t := ⟨h1.trans ht.1, ht.2.1, fun j hj => by rw [h2]; exact ht.2.2.1 j hj, ht.2.2.2⟩
theorem DI.sam {T : Nat} {v u : Vs} {n s : Nat} (h : DI T v n s) (q : Sam v u) : DI T u n s := by
  obtain ⟨⟨h1, h2, h3⟩, ⟨h4, h5⟩, ⟨h6, h7⟩, h8⟩ := h
  exact ⟨⟨h1.sq (q.sq (by decide) (by decide) (by decide)), h2.sq (q.sq (by decide) (by decide) (by decide)), fun j hj => (h3 j hj).sq (q.sq (by omega) (by omega) (by omega))⟩, ⟨h4, by rw [q.1 79 (by decide) (by decide) (by decide)]; exact h5⟩, ⟨h6, by rw [q.1 79 (by decide) (by decide) (by decide)]; exact h7⟩, q.2.1 h8⟩
theorem Sam.deny {v w : Vs} {x : Int32} (h : ∀ k, k ≠ 289 → w k = v k) : Sam v (rfV w x) := by
  have hk : Sam v w := ⟨fun k a b c => h k (by omega), tx_k (by rw [h 302 (by decide)]) (h 304 (by decide)), by rw [h 0 (by decide)]⟩
  have hd : ∀ a b c : Int32, Sam w (kdV w a b c) := fun a b c => by
    have hh : ∀ k, k ≠ 0 → kdV w a b c k = w k := fun k hk => by unfold kdV; rw [up2_o _ _ _ hk, up2_o _ _ _ hk, up2_o _ _ _ hk]
    exact ⟨fun k h1 _ _ => hh k (by omega), tx_k (by rw [hh 302 (by decide)]) (hh 304 (by decide)), by unfold kdV; rw [up2_sn (by decide), up2_sn (by decide), up2_sn (by decide)]⟩
  unfold rfV
  repeat' split
  · exact hk
  · exact hk
  · exact hk
  · exact hk.tr (hd _ _ _)
theorem it2 {p : Prop} [Decidable p] {x y x' y' : Int32 × Vs} (h1 : x.1 = x'.1) (h2 : y.1 = y'.1) : (if p then x else y).1 = (if p then x' else y').1 := by
  by_cases q : p
  · rw [if_pos q, if_pos q]; exact h1
  · rw [if_neg q, if_neg q]; exact h2
/-- a verdict is of the stock alone -/
theorem vd_sq {v w : Vs} {o N M : Nat} (q : Stq v w o o) {c a b e f : Int32} : (vdOf w o N M c a b e f).1 = (vdOf v o N M c a b e f).1 := by
  have g3 : ∀ x, gZn w o x = gZn v o x := fun x => by unfold gZn; rw [q 3 (by decide)]
  have g5 : ∀ x, gCp w o x = gCp v o x := fun x => by unfold gCp; rw [q 5 (by decide)]
  have g10 : ∀ x, gKi w o x = gKi v o x := fun x => by unfold gKi; rw [q 10 (by decide)]
  have g12 : ∀ x, gLz w o x = gLz v o x := fun x => by unfold gLz; rw [q 12 (by decide)]
  have g14 : ∀ x, gVo w o x = gVo v o x := fun x => by unfold gVo; rw [q 14 (by decide)]
  have g16 : ∀ x, gEp w o x = gEp v o x := fun x => by unfold gEp; rw [q 16 (by decide)]
  have g18 : ∀ x, gPl w o x = gPl v o x := fun x => by unfold gPl; rw [q 18 (by decide)]
  have g0 : w o = v o := q 0 (by decide)
  have g1 : w (o + 1) = v (o + 1) := q 1 (by decide)
  have g8 : w (o + 8) = v (o + 8) := q 8 (by decide)
  have g23 : w (o + 23) = v (o + 23) := q 23 (by decide)
  have hr : ∀ x y z, roomW w o N x y z = roomW v o N x y z := fun x y z => by
    unfold roomW
    simp only [g5, g14, g18]
  have hp : ∀ z y a b m, pfs w o N z y a b m = pfs v o N z y a b m := fun z y a b m => by
    induction m with
    | zero => rfl
    | succ m ih => simp only [pfs, g3, hr, ih]
  have hs : shN w o N = shN v o N := by unfold shN; simp only [g18]
  have hv : ∀ k, shpV w o N k = shpV v o N k := fun k => by unfold shpV; simp only [shipP, g18, g10, g16, g14, g0]
  unfold vdOf vdShelf vdRecv vdSplit vdMix vdMove vdShip
  simp only [hasL, hasS, expd, g0, g1, g8, g23, g3, g10, g12, g14, g16, g18, hr, hp, hs, hv]
  repeat' first | rfl | apply it2
/-- the history's places -/
def rng (j : Nat) : Nat := 81 + 26 * j
/-- a change has been kept: stock 1 is new, the history holds the old one at n -/
def Kpt (v u : Vs) (n s : Nat) : Prop := Stq v u 1 (rng n) ∧ (∀ j, j < 8 → j ≠ n → Stq v u (rng j) (rng j)) ∧ Stq v u 53 53 ∧ u 79 1 = nI ((n + 1) % 8) ∧ u 79 2 = nI (min (s + 1) 8) ∧ u 0 9 = v 0 9
theorem keepV_at {v : Vs} {n s k : Nat} (h : k ≠ 79) : keepV v n s k = cpR v (rng n) 1 26 k := by
  unfold keepV
  rw [up2_o _ _ _ h, up2_o _ _ _ h]; rfl
theorem keepV_kpt {v : Vs} {n s : Nat} (hn : n < 8) : Kpt v (keepV v n s) n s ∧ Stq v (keepV v n s) 1 1 := by
  refine ⟨⟨fun c hc => ?_, fun j hj ne c hc => ?_, fun c hc => ?_, ?_, ?_, ?_⟩, fun c hc => ?_⟩
  · rw [keepV_at (by unfold rng; omega)]; exact cpR_sq c hc
  · rw [keepV_at (by unfold rng; omega)]
    unfold cpR rng
    rw [if_neg (by omega)]
  · rw [keepV_at (by omega)]
    unfold cpR rng
    rw [if_neg (by omega)]
  · unfold keepV
    rw [up2_sn (by decide), up2_ss]
  · unfold keepV
    rw [up2_ss]
  · rw [keepV_at (by decide)]
    unfold cpR rng
    rw [if_neg (by omega)]
  · rw [keepV_at (by omega)]
    unfold cpR rng
    rw [if_neg (by omega)]
theorem Kpt.out {v w u : Vs} {n s : Nat} (h : Kpt v w n s) (hn : n < 8) (q : Out w u 1) : Kpt v u n s := by
  obtain ⟨h1, h2, h3, h4, h5, h6⟩ := h
  exact ⟨fun c hc => (q _ (by unfold rng; omega)).trans (h1 c hc), fun j hj ne c hc => (q _ (by unfold rng; omega)).trans (h2 j hj ne c hc), fun c hc => (q _ (by omega)).trans (h3 c hc), by rw [q 79 (by omega)]; exact h4, by rw [q 79 (by omega)]; exact h5, by rw [q 0 (by omega)]; exact h6⟩
theorem DI.kpt {T T' : Nat} {v u : Vs} {n s : Nat} (h : DI T v n s) (hT : T ≤ T') (hk : Kpt v u n s) (h1 : SI T' u 1) (ht : tx u []) : DI T' u ((n + 1) % 8) (min (s + 1) 8) := by
  obtain ⟨⟨g1, g2, g3⟩, ⟨g4, g5⟩, ⟨g6, g7⟩, g8⟩ := h
  obtain ⟨k1, k2, k3, k4, k5, k6⟩ := hk
  refine ⟨⟨h1, (g2.sq k3).mono hT, fun j hj => ?_⟩, ⟨by omega, k4⟩, ⟨by omega, k5⟩, ht⟩
  by_cases q : j = n
  · subst q; exact (g1.sq k1).mono hT
  · exact ((g3 j hj).sq (k2 j hj q)).mono hT
/-- a change of the law: denied, and all is as it was, or made and kept -/
theorem DI.cmd {T : Nat} {v u : Vs} {n s N M H : Nat} (h : DI T v n s) (hT : T ≤ 1000000000) (hI : Inv 0 T N M H (iv v 1)) {c a b e f r : Int32} (hC : CmdR v N M H n s c a b e f r u) : (r = -100000000 ∧ Sam v u ∧ DI T u n s) ∨ (-1000 ≤ r.toInt ∧ Kpt v u n s ∧ DI (T + 99) u ((n + 1) % 8) (min (s + 1) 8)) := by
  rcases hC with ⟨h1, rfl, rfl⟩ | ⟨h1, rfl, rfl⟩
  · obtain ⟨k1, k2⟩ := keepV_kpt (v := v) (s := s) h.2.1.1
    have hI2 := hI.sq k2
    obtain ⟨f1, f2, f3, -, -⟩ := hI2.pf hT (c := c) (a := a) (b := b) (e := e) (f := f) (by rw [vd_sq k2]; exact h1)
    have hk := k1.out h.2.1.1 f2
    refine .inr ⟨f3, hk, h.kpt (by omega) hk f1 ?_⟩
    have ht := h.2.2.2
    have e1 : ∀ k, 289 ≤ k → (pfOf (keepV v n s) 1 N M H c a b e f).2 k = v k := fun k hk => by
      have := h.2.1.1
      rw [f2 k (by omega), keepV_at (by omega)]
      unfold cpR rng
      rw [if_neg (by omega)]
    exact ⟨by rw [e1 302 (by decide)]; exact ht.1, ht.2.1, fun j hj => by rw [e1 304 (by decide)]; exact ht.2.2.1 j hj, ht.2.2.2⟩
  · have hs : Sam v (rfV (vdOf v 1 N M c a b e f).2 (vdOf v 1 N M c a b e f).1) := Sam.deny (fun k hk => vdOf_k hk)
    exact .inl ⟨rfl, hs, h.sam hs⟩
