/-! packing, under the invariant -/
theorem sn_inj {e : Nat → Nat} {n : Nat} : ∀ (t : Nat) (g : Nat → Nat), (∀ i, i < t → e i < n) → (∀ i j, i < t → j < t → e i = e j → i = j) → sn (fun i => g (e i)) t ≤ sn g n
  | 0, _, _, _ => Nat.zero_le _
  | t + 1, g, h1, h2 => by
    have he := h1 t (by omega)
    have h3 := sn_pt (g := g) (g' := fun k => if k = e t then 0 else g k) he (fun k _ ne => if_neg ne)
    have h4 := sn_inj t (fun k => if k = e t then 0 else g k) (fun i hi => h1 i (by omega)) (fun i j hi hj => h2 i j (by omega) (by omega))
    have h5 : sn (fun i => (fun k => if k = e t then 0 else g k) (e i)) t = sn (fun i => g (e i)) t := sn_congr (fun i hi => if_neg (fun q => by have := h2 i t (by omega) (by omega) q; omega))
    have h6 : (fun k => if k = e t then 0 else g k) (e t) = 0 := if_pos rfl
    rw [h5] at h4
    rw [if_pos rfl] at h3
    show sn (fun i => g (e i)) t + g (e t) ≤ sn g n
    omega
theorem cn_sn (p : Nat → Bool) : ∀ n, cn p n = sn (fun i => if p i = true then 1 else 0) n
  | 0 => rfl
  | n + 1 => by show cn p n + _ = sn _ n + _; rw [cn_sn p n]
theorem su_sn {g : Nat → Nat} : ∀ n, su (fun i => (g i : Int)) n = (sn g n : Nat)
  | 0 => rfl
  | n + 1 => by show su _ n + (g n : Int) = ((sn g n + g n : Nat) : Int); rw [su_sn n]; omega
theorem cn_mono {p : Nat → Bool} {a b : Nat} (h : a ≤ b) : cn p a ≤ cn p b := by
  obtain ⟨k, rfl⟩ : ∃ k, b = a + k := ⟨b - a, by omega⟩
  induction k with
  | zero => exact Nat.le_refl _
  | succ k ih =>
    have := ih (by omega)
    show cn p a ≤ cn p (a + k) + _
    omega
/-- used places, one behind the other -/
theorem Lay.used {c w : Nat → Nat} {T S : Nat} (hd : ∀ i j, i ≤ j → c j ≤ c i) {a : Nat → Nat} (h1 : ∀ i, i < T → a i < S) (h2 : ∀ j, j < S → lg w a T 0 j ≤ c j) {U : Nat → Bool} (hU : ∀ i, i < T → U (a i) = true) : Lay w T (cn U S) 0 c := by
  have inj : ∀ q q', q < q' → U q = true → cn U q < cn U q' := fun q q' h hq => by
    have e : cn U (q + 1) = cn U q + 1 := by show cn U q + _ = _; rw [if_pos hq]
    have := cn_mono (p := U) (a := q + 1) (b := q') (by omega)
    omega
  refine ⟨fun i => cn U (a i), fun i _ hi => inj _ _ (h1 i hi) (hU i hi), fun j hj => ?_⟩
  rcases Classical.em (∃ i, i < T ∧ cn U (a i) = j) with ⟨i, hi, q⟩ | q
  · have e : lg w (fun i => cn U (a i)) T 0 j = lg w a T 0 (a i) := lg_congr (fun k _ hk => by
      show cn U (a k) = j ↔ a k = a i
      constructor
      · intro z
        rcases Nat.lt_trichotomy (a k) (a i) with y | y | y
        · have := inj _ _ y (hU k hk); omega
        · exact y
        · have := inj _ _ y (hU i hi); omega
      · intro z; rw [z]; exact q)
    rw [e]
    have h3 := h2 (a i) (h1 i hi)
    have h4 : cn U (a i) ≤ a i := cn_le _ _
    have h5 := hd (cn U (a i)) (a i) h4
    rw [q] at h5
    omega
  · have e : lg w (fun i => cn U (a i)) T 0 j = 0 := sn_zero (fun i hi => if_neg (fun z => q ⟨i, hi, z.2⟩))
    rw [e]; exact Nat.zero_le _
section PZ
variable {D : Int} {T0 N M H : Nat} {v : Vs} {o : Nat}
/-- lies a lot on the shelf -/
def usd (v : Vs) (o N : Nat) (z : Int32) (j : Nat) : Bool := decide (gZn v o (nI j) = z) && decide (0 < cn (fun i => decide (gPl v o (nI i) = nI j)) N)
theorem Inv.fewest (h : Inv D T0 N M H (iv v o)) (z : Int32) {ff : Nat → Int32} (hf : filled (gC v o z M).1 (gL v o z N).1 ff (gL v o z N).2) :
    ∃ R : Nat, (if (gL v o z N).2 = 0 then 0 else ff (2 ^ (gL v o z N).2 - 1) / 64 + 1) = nI R ∧ fd (fun k => layB (gL v o z N).1 (gL v o z N).2 k 8 0 (gC v o z M).1) (gC v o z M).2 = R ∧ R ≤ cn (usd v o N z) M ∧ (0 < R ↔ 0 < cn (usd v o N z) M) ∧ R ≤ 8 := by
  have h20 := h.1.1.2
  have hM8 := h.1.2.1.2
  have hC := gC_ok v o z M
  obtain ⟨hL, hLc⟩ := h.gL_ok z N (Nat.le_refl N)
  have h88 := h.2.2.2.2.1
  generalize (gC v o z M).1 = fc at *
  generalize (gC v o z M).2 = S at *
  generalize (gL v o z N).1 = fv at *
  generalize (gL v o z N).2 = T at *
  obtain ⟨c1, c2, c3, ec, c4, c5, c6⟩ := hC
  obtain ⟨l1, l2, l3, el, l4, l5, l6⟩ := hL
  have hcv : ∀ j, j < S → (fc j).toInt = iv v o 5 (ec j) := fun j hj => by
    obtain ⟨k1, k2, k3⟩ := c4 j hj
    rw [k3]; exact zCp (by omega)
  have hlv : ∀ i, i < T → (fv i).toInt = iv v o 14 (el i) := fun i hi => by
    obtain ⟨k1, k2, k3⟩ := l4 i hi
    rw [k3]; exact zVo (by omega)
  have hcb : ∀ j, 0 ≤ (fc j).toInt ∧ (fc j).toInt ≤ 40 := fun j => by
    rcases Nat.lt_or_ge j S with q | q
    · rw [hcv j q]
      have := (h.shf (c4 j q).1).1.2.1
      omega
    · rw [c2 j q]; exact ⟨by decide, by decide⟩
  have hlb : ∀ i, i < T → 1 ≤ (fv i).toInt ∧ (fv i).toInt ≤ 40 := fun i hi => by
    obtain ⟨k1, k2, k3⟩ := l4 i hi
    have k2 := of_decide_eq_true k2
    have hp : 0 ≤ iv v o 18 (el i) := by have := k2.1; rwa [t_le, zPl (by omega), t_0] at this
    obtain ⟨j, -, -, -, j4, j5⟩ := (h.lot k1).2.2.2.1.on hp
    rw [hlv i hi]; omega
  have hc : ∀ j, fc j = nI (fc j).toInt.toNat ∧ (fc j).toInt.toNat ≤ 40 := fun j => ⟨t_of (hcb j).1, by have := hcb j; omega⟩
  have hw : ∀ i, i < T → fv i = nI (fv i).toInt.toNat ∧ (fv i).toInt.toNat ≤ 1000 := fun i hi => ⟨t_of (by have := hlb i hi; omega), by have := hlb i hi; omega⟩
  have h8 : ∀ j, S ≤ j → (fc j).toInt.toNat = 0 := fun j hj => by rw [c2 j hj]; rfl
  have hd : ∀ i j, i ≤ j → (fc j).toInt.toNat ≤ (fc i).toInt.toNat := fun i j hij => by
    rcases Nat.lt_or_ge j S with q | q
    · by_cases e : i = j
      · subst e; exact Nat.le_refl _
      · have := c3 i j (by omega) q
        omega
    · rw [h8 j q]; exact Nat.zero_le _
  -- how the lots lie
  have hpos : ∀ i, ∃ q, i < T → q < S ∧ iv v o 18 (el i) = (ec q : Nat) := fun i => by
    rcases Nat.lt_or_ge i T with q | q
    · obtain ⟨k1, k2, k3⟩ := l4 i q
      have k2 := of_decide_eq_true k2
      have hp : 0 ≤ iv v o 18 (el i) := by have := k2.1; rwa [t_le, zPl (by omega), t_0] at this
      obtain ⟨j, j1, j2, j3, -⟩ := (h.lot k1).2.2.2.1.on hp
      have hz : gZn v o (nI j) = z := by
        rw [← k2.2, t_eq, zZn (by omega), zLz (by omega)]; exact j3
      obtain ⟨r, r1, r2⟩ := c6 j j1 (decide_eq_true hz)
      exact ⟨r, fun _ => ⟨r1, by rw [r2]; exact j2⟩⟩
    · exact ⟨0, fun w => by omega⟩
  obtain ⟨a, ha⟩ := Classical.axiomOfChoice hpos
  have hload : ∀ j, j < S → lg (fun i => (fv i).toInt.toNat) a T 0 j ≤ (fc j).toInt.toNat := fun j hj => by
    have hr := (h.shf (c4 j hj).1).2
    unfold room at hr
    have e1 : su (onZ (iv v o) (ec j : Nat)) N = (sn (fun i => (onZ (iv v o) (ec j : Nat) i).toNat) N : Nat) := by
      rw [← su_sn]
      refine su_congr (fun i hi => ?_)
      have : 0 ≤ onZ (iv v o) (ec j : Nat) i := by
        unfold onZ; split
        · exact (h.lot hi).2.2.2.1.vo.1
        · exact Int.le_refl _
      omega
    have e2 : lg (fun i => (fv i).toInt.toNat) a T 0 j = sn (fun i => (fun k => (onZ (iv v o) (ec j : Nat) k).toNat) (el i)) T := by
      unfold lg
      refine sn_congr (fun i hi => ?_)
      obtain ⟨a1, a2⟩ := ha i hi
      show (if 0 ≤ i ∧ a i = j then (fv i).toInt.toNat else 0) = (onZ (iv v o) (ec j : Nat) (el i)).toNat
      unfold onZ
      by_cases q : a i = j
      · subst q
        rw [if_pos ⟨Nat.zero_le _, rfl⟩, if_pos a2, hlv i hi]
      · rw [if_neg (fun y => q y.2), if_neg (fun y => q (by
          rw [a2] at y
          exact c5 _ _ a1 hj (by omega)))]
        rfl
    rw [e2]
    refine Nat.le_trans (sn_inj (e := el) T (fun k => (onZ (iv v o) (ec j : Nat) k).toNat) (fun i hi => (l4 i hi).1) l5) ?_
    have := hcv j hj
    omega
  have hLayS : Lay (fun i => (fv i).toInt.toNat) T S 0 (fun j => (fc j).toInt.toNat) := ⟨a, fun i _ hi => (ha i hi).1, hload⟩
  have hus : ∀ i, i < T → usd v o N z (ec (a i)) = true := fun i hi => by
    obtain ⟨a1, a2⟩ := ha i hi
    obtain ⟨k1, k2, -⟩ := c4 _ a1
    unfold usd
    rw [Bool.and_eq_true]
    refine ⟨k2, decide_eq_true ?_⟩
    have hl := (l4 i hi).1
    have : decide (gPl v o (nI (el i)) = nI (ec (a i))) = true := decide_eq_true (by rw [t_eq, zPl (by omega), t_nI (by omega)]; exact a2)
    have h9 := cn_lt (p := fun _ => false) (q := fun i' => decide (gPl v o (nI i') = nI (ec (a i)))) (n := N) hl (fun _ _ y => absurd y (by decide)) rfl this
    omega
  have hLayU := Lay.used hd (fun i hi => (ha i hi).1) hload (U := fun q => usd v o N z (ec q)) hus
  have hcu : cn (fun q => usd v o N z (ec q)) S ≤ cn (usd v o N z) M := by
    rw [cn_sn, cn_sn]
    exact sn_inj (e := ec) S (fun j => if usd v o N z j = true then 1 else 0) (fun i hi => (c4 i hi).1) c5
  have hUS : cn (fun q => usd v o N z (ec q)) S ≤ S := cn_le _ _
  have hlay : ∀ k, layB fv T k 8 0 fc = layN (fun i => (fv i).toInt.toNat) T k 8 0 (fun j => (fc j).toInt.toNat) := fun k => lay_N hw 8 0 fc _ (fun j => ⟨(hc j).1, by have := (hc j).2; omega⟩)
  simp only [hlay]
  have hUpos : 0 < cn (usd v o N z) M → 0 < T := fun hp => by
    rcases Nat.eq_zero_or_pos T with q | q
    · exfalso
      subst q
      rw [cn_sn] at hp
      obtain ⟨j, hj, q1⟩ := sn_pos hp
      have q2 : usd v o N z j = true := by
        cases w : usd v o N z j with
        | true => rfl
        | false => rw [w] at q1; exact absurd q1 (by decide)
      unfold usd at q2
      rw [Bool.and_eq_true] at q2
      have q3 := of_decide_eq_true q2.1
      have q4 := of_decide_eq_true q2.2
      rw [cn_sn] at q4
      obtain ⟨i, hi, q5⟩ := sn_pos q4
      have q6 : gPl v o (nI i) = nI j := by
        by_cases w : gPl v o (nI i) = nI j
        · exact w
        · rw [decide_eq_false w] at q5; exact absurd q5 (by decide)
      have q7 : iv v o 18 i = (j : Nat) := by rw [t_eq, zPl (by omega), t_nI (by omega)] at q6; exact q6
      obtain ⟨j', j1, j2, j3, -⟩ := (h.lot hi).2.2.2.1.on (by omega)
      have : j' = j := by omega
      subst this
      obtain ⟨p, hp2, -⟩ := l6 i hi (decide_eq_true ⟨by rw [q6, t_le, t_nI (by omega), t_0]; omega, by rw [← q3, t_eq, zLz (by omega), zZn (by omega)]; exact j3.symm⟩)
      omega
    · exact q
  rcases Nat.eq_zero_or_pos T with q | q
  · subst q
    refine ⟨0, by rw [if_pos rfl]; rfl, ?_, Nat.zero_le _, ⟨fun w => absurd w (Nat.lt_irrefl 0), fun w => absurd (hUpos w) (Nat.lt_irrefl 0)⟩, by decide⟩
    rcases Nat.eq_zero_or_pos S with y | y
    · subst y; rfl
    · have := (fdr_ex (fun k => layN (fun i => (fv i).toInt.toNat) 0 k 8 0 (fun j => (fc j).toInt.toNat)) S 0 y (by unfold layN; rw [if_pos (Nat.le_refl _)])).2
      omega
  · obtain ⟨F, F1, F2, F3⟩ := filled_N hc (fun j hj => h8 j (by omega)) hw hf
    obtain ⟨r1, r2⟩ := pk_both (c := fun j => (fc j).toInt.toNat) (w := fun i => (fv i).toInt.toNat) q (fun j => (hc j).2) h8 (by omega) hd (fun i hi => by have := hlb i hi; omega) F1 F2 (by omega) ⟨S, Nat.le_refl S, hLayS⟩
    have hpow : 0 < 2 ^ T := Nat.pow_pos (by decide)
    obtain ⟨F4, F5⟩ := F3 (2 ^ T - 1) (by omega)
    have r3 := r2 _ hUS hLayU
    refine ⟨F (2 ^ T - 1) / 64 + 1, ?_, r1.symm, by omega, ⟨fun _ => by omega, fun _ => by omega⟩, by omega⟩
    rw [if_neg (by omega), F4, div64 _ (by omega), nI_1]
end PZ
