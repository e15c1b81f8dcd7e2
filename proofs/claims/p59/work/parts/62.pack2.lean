/-! packing: both ways tell the same -/
theorem full_bit {T i : Nat} : (2 ^ T - 1).testBit i = decide (i < T) := Nat.testBit_two_pow_sub_one T i
theorem ld_full {w a : Nat → Nat} {T j : Nat} : ld w a T (2 ^ T - 1) j = lg w a T 0 j := by
  unfold ld lg
  refine sn_congr (fun i hi => ?_)
  rw [full_bit, decide_eq_true hi]
  by_cases q : a i = j
  · rw [if_pos ⟨rfl, q⟩, if_pos ⟨Nat.zero_le _, q⟩]
  · rw [if_neg (fun z => q z.2), if_neg (fun z => q z.2)]
theorem Pkd.lay {c w : Nat → Nat} {T k u : Nat} (h : Pkd c w T (2 ^ T - 1) k u) : Lay w T (k + 1) 0 c := by
  obtain ⟨k8, a, k1, k2, k3⟩ := h
  exact ⟨a, fun i _ hi => by have := k1 i hi (by rw [full_bit]; exact decide_eq_true hi); omega, fun j hj => by rw [← ld_full]; exact k2 j (by omega)⟩
theorem Lay.pkd {c w : Nat → Nat} {T K : Nat} (hK : 0 < K) (h8 : K ≤ 8) (h : Lay w T K 0 c) : ∃ u, u ≤ c (K - 1) ∧ Pkd c w T (2 ^ T - 1) (K - 1) u := by
  obtain ⟨a, a1, a2⟩ := h
  exact ⟨ld w a T (2 ^ T - 1) (K - 1), by rw [ld_full]; exact a2 _ (by omega), by omega, a, fun i hi _ => by have := a1 i (Nat.zero_le _) hi; omega, fun j hj => by rw [ld_full]; exact a2 j (by omega), rfl⟩
/-- the least number of shelves, by sets and by search -/
theorem pk_both {c w F : Nat → Nat} {T S : Nat} (hT : 0 < T) (hc : ∀ j, c j ≤ 40) (h8 : ∀ j, S ≤ j → c j = 0) (hS : S ≤ 8) (hd : ∀ i j, i ≤ j → c j ≤ c i) (hw : ∀ i, i < T → 0 < w i) (h0 : F 0 = 0) (hF : ∀ s, 0 < s → s < 2 ^ T → F s = lfN c w F s T) (hT8 : T ≤ 8) (hex : ∃ K, K ≤ S ∧ Lay w T K 0 c) : F (2 ^ T - 1) / 64 + 1 = fd (fun k => layN w T k 8 0 c) S ∧ ∀ K, K ≤ S → Lay w T K 0 c → F (2 ^ T - 1) / 64 + 1 ≤ K := by
  have hok : ∀ K, layN w T K 8 0 c = true ↔ Lay w T K 0 c := fun K => layN_ok 8 0 c (by omega)
  have hpow : 0 < 2 ^ T := Nat.pow_pos (by decide)
  have hle : ∀ K, K ≤ S → Lay w T K 0 c → F (2 ^ T - 1) ≤ 64 * (K - 1) + 40 ∧ 0 < K := by
    intro K hK hL
    have hK0 : 0 < K := by
      rcases Nat.eq_zero_or_pos K with z | z
      · subst z
        obtain ⟨a, a1, -⟩ := hL
        have := a1 0 (Nat.le_refl 0) hT
        omega
      · exact z
    obtain ⟨u, u1, u2⟩ := hL.pkd hK0 (by omega)
    have h1 := F_cmp hc hd h0 hF (2 ^ T - 1) (by omega) _ _ u2
    have h2 := hc (K - 1)
    exact ⟨by omega, hK0⟩
  obtain ⟨K1, hK1, hL1⟩ := hex
  have hfd : ∀ K, K ≤ S → Lay w T K 0 c → fd (fun k => layN w T k 8 0 c) S ≤ K := by
    intro K hK hL
    rcases Nat.lt_or_ge K S with z | z
    · exact (fdr_ex (fun k => layN w T k 8 0 c) S K z ((hok K).mpr hL)).2
    · exact Nat.le_trans (fdr_le _ _) z
  have hfS : fd (fun k => layN w T k 8 0 c) S ≤ S := fdr_le _ _
  have hLf : Lay w T (fd (fun k => layN w T k 8 0 c) S) 0 c := by
    rcases Nat.lt_or_ge (fd (fun k => layN w T k 8 0 c) S) S with z | z
    · exact (hok _).mp (fdr_p (fun k => layN w T k 8 0 c) S z)
    · have h1 := hfd K1 hK1 hL1
      have : fd (fun k => layN w T k 8 0 c) S = K1 := by omega
      rw [this]; exact hL1
  have h1 := hle _ hfS hLf
  have hlt : F (2 ^ T - 1) < 512 := by omega
  have hP := F_snd hc (fun j hj => h8 j (by omega)) hw h0 hF (2 ^ T - 1) (by omega) hlt
  have hL2 := hP.lay
  have hge : fd (fun k => layN w T k 8 0 c) S ≤ F (2 ^ T - 1) / 64 + 1 := by
    rcases Nat.lt_or_ge S (F (2 ^ T - 1) / 64 + 1) with z | z
    · omega
    · exact hfd _ z hL2
  have e : F (2 ^ T - 1) / 64 + 1 = fd (fun k => layN w T k 8 0 c) S := by omega
  exact ⟨e, fun K hK hL => by rw [e]; exact hfd K hK hL⟩
/-! the program's fillings -/
theorem div64 : ∀ f, f < 553 → nI f / 64 = nI (f / 64) := by decide +kernel
theorem fwV_N {fc : Nat → Int32} {c : Nat → Nat} (hc : ∀ j, fc j = nI (c j) ∧ c j ≤ 40) (h8 : ∀ j, 8 ≤ j → c j = 0) {f x : Nat} (hf : f ≤ 512) (hx : x ≤ 1000) : fwV fc (nI f) (nI x) = nI (fwN c f x) := by
  have hr : ∀ q, q < 1000 → rg fc 8 (nI q) = nI (c q) := fun q hq => by
    rcases Nat.lt_or_ge q 8 with z | z
    · rw [rg_nI z (by omega)]; exact (hc q).1
    · rw [h8 q z]
      unfold rg
      exact if_neg (fun w => nI_nlt_of (a := q) (b := 8) z (by omega) w.2)
  have e1 : nI f - nI (f / 64) * 64 + nI x = nI (f % 64 + x) := by
    rw [show (64 : Int32) = nI 64 from rfl, nI_mul, nI_subN (by omega), nI_add]
    congr 1
    omega
  have e2 : nI (f / 64) + 1 = nI (f / 64 + 1) := nI_1 _
  have le : ∀ a b, a < 3000 → b < 3000 → (nI a ≤ nI b ↔ a ≤ b) := fun a b ha hb => by rw [t_le, t_nI (by omega), t_nI (by omega)]; omega
  have c1 := (hc (f / 64)).2
  have c2 := (hc (f / 64 + 1)).2
  unfold fwV fwN
  rw [div64 f (by omega), e1, e2, hr _ (by omega), hr _ (by omega)]
  by_cases q1 : f % 64 + x ≤ c (f / 64)
  · rw [if_pos q1, if_pos ((le _ _ (by omega) (by omega)).mpr q1), nI_add]
  · rw [if_neg q1, if_neg (fun z => q1 ((le _ _ (by omega) (by omega)).mp z))]
    by_cases q2 : x ≤ c (f / 64 + 1)
    · rw [if_pos q2, if_pos ((le _ _ (by omega) (by omega)).mpr q2), show (64 : Int32) = nI 64 from rfl, nI_mul, nI_add]
    · rw [if_neg q2, if_neg (fun z => q2 ((le _ _ (by omega) (by omega)).mp z))]; rfl
theorem fwN_le {c : Nat → Nat} (hc : ∀ j, c j ≤ 40) {f x : Nat} (hf : f ≤ 512) : fwN c f x ≤ 1000 := by
  have h1 := hc (f / 64)
  have h2 := hc (f / 64 + 1)
  unfold fwN
  (repeat' split) <;> omega
theorem lfN_512 {c w F : Nat → Nat} {s : Nat} : ∀ n, lfN c w F s n ≤ 512
  | 0 => Nat.le_refl _
  | n + 1 => by
    have := lfN_512 (c := c) (w := w) (F := F) (s := s) n
    simp only [lfN]
    (repeat' split) <;> omega
theorem lfF_N {fc fv : Nat → Int32} {c w : Nat → Nat} (hc : ∀ j, fc j = nI (c j) ∧ c j ≤ 40) (h8 : ∀ j, 8 ≤ j → c j = 0) {T : Nat} (hw : ∀ i, i < T → fv i = nI (w i) ∧ w i ≤ 1000) {ff : Nat → Int32} {F : Nat → Nat} {s : Nat} (hF : ∀ i, i < T → s.testBit i = true → ff (s ^^^ 2 ^ i) = nI (F (s ^^^ 2 ^ i)) ∧ F (s ^^^ 2 ^ i) ≤ 512) : ∀ n, n ≤ T → lfF fc fv ff s n = nI (lfN c w F s n)
  | 0, _ => rfl
  | n + 1, hn => by
    have ih := lfF_N hc h8 hw hF n (by omega)
    simp only [lfF, lfN]
    by_cases q : s.testBit n = true
    · rw [if_pos q, if_pos q]
      obtain ⟨f1, f2⟩ := hF n (by omega) q
      obtain ⟨w1, w2⟩ := hw n (by omega)
      have b1 := fwN_le (fun j => (hc j).2) f2 (x := w n)
      have b2 := lfN_512 (c := c) (w := w) (F := F) (s := s) n
      rw [f1, w1, fwV_N hc h8 f2 w2, ih]
      have lt : nI (fwN c (F (s ^^^ 2 ^ n)) (w n)) < nI (lfN c w F s n) ↔ fwN c (F (s ^^^ 2 ^ n)) (w n) < lfN c w F s n := by
        rw [t_lt, t_nI (by omega), t_nI (by omega)]; omega
      by_cases z : fwN c (F (s ^^^ 2 ^ n)) (w n) < lfN c w F s n
      · rw [if_pos z, if_pos (lt.mpr z)]
      · rw [if_neg z, if_neg (fun y => z (lt.mp y))]
    · rw [if_neg q, if_neg q]; exact ih
/-- what the program's fillings are -/
theorem filled_N {fc fv ff : Nat → Int32} {c w : Nat → Nat} (hc : ∀ j, fc j = nI (c j) ∧ c j ≤ 40) (h8 : ∀ j, 8 ≤ j → c j = 0) {T : Nat} (hw : ∀ i, i < T → fv i = nI (w i) ∧ w i ≤ 1000) (h : filled fc fv ff T) : ∃ F : Nat → Nat, F 0 = 0 ∧ (∀ s, 0 < s → s < 2 ^ T → F s = lfN c w F s T) ∧ ∀ s, s < 2 ^ T → ff s = nI (F s) ∧ F s ≤ 512 := by
  have key : ∀ s, s < 2 ^ T → ff s = nI (ff s).toInt.toNat ∧ (ff s).toInt.toNat ≤ 512 ∧ (0 < s → (ff s).toInt.toNat = lfN c w (fun s => (ff s).toInt.toNat) s T) := by
    intro s
    induction s using Nat.strongRecOn with
    | _ s ih =>
      intro hs
      rcases Nat.eq_zero_or_pos s with z | z
      · subst z
        rw [h.1]
        exact ⟨rfl, by decide, fun q => absurd q (Nat.lt_irrefl 0)⟩
      · have h1 := h.2 s z hs
        have h2 := lfF_N (F := fun s => (ff s).toInt.toNat) (ff := ff) (s := s) hc h8 hw (fun i hi hb => by
          have := ih _ (off_lt hb) (Nat.lt_trans (off_lt hb) hs)
          exact ⟨this.1, this.2.1⟩) T (Nat.le_refl T)
        have b := lfN_512 (c := c) (w := w) (F := fun s => (ff s).toInt.toNat) (s := s) T
        rw [h2] at h1
        have h3 : (ff s).toInt = (lfN c w (fun s => (ff s).toInt.toNat) s T : Nat) := by rw [h1, t_nI (by omega)]
        exact ⟨t_of (by omega), by omega, fun _ => by omega⟩
  refine ⟨fun s => (ff s).toInt.toNat, by show (ff 0).toInt.toNat = 0; rw [h.1]; rfl, fun s hp hs => (key s hs).2.2 hp, fun s hs => ⟨(key s hs).1, (key s hs).2.1⟩⟩
