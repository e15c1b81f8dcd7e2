/-! the two orders that the law reads -/
theorem cn_true : ∀ n, cn (fun _ => true) n = n
  | 0 => rfl
  | n + 1 => by show cn (fun _ => true) n + 1 = n + 1; rw [cn_true n]
section OZ
variable {T N M H : Nat} {v : Vs}
def dueR (v : Vs) (N : Nat) (j i : Nat) : Bool := decide (dueB v 1 N (nI j) (nI i))
theorem due_Z {j i : Nat} (hj : j < 1000) (hi : i < 1000) : dueR v N j i = true ↔ (gCd v 1 (nI j)).toInt < (gCd v 1 (nI i)).toInt ∨ (gCd v 1 (nI j)).toInt = (gCd v 1 (nI i)).toInt ∧ ((cA v 1 N (nI i)).toInt < (cA v 1 N (nI j)).toInt ∨ (cA v 1 N (nI j)).toInt = (cA v 1 N (nI i)).toInt ∧ j < i) := by
  unfold dueR dueB
  rw [decide_eq_true_iff, t_lt, t_eq, t_lt, t_eq, t_lt, t_nI (n := j) (by omega), t_nI (n := i) (by omega)]
  omega
theorem due_sto (hM : M ≤ 8) : Sto (fun _ => true) (dueR v N) M := by
  refine ⟨fun i hi => ?_, fun a b c ha hb hc h1 h2 => ?_, fun a b ha hb _ _ ne h1 => ?_⟩
  · cases w : dueR v N i i with
    | false => rfl
    | true => rw [due_Z (by omega) (by omega)] at w; omega
  · rw [due_Z (by omega) (by omega)] at h1 h2 ⊢; omega
  · have h2 : ¬ dueR v N a b = true := by rw [h1]; decide
    rw [due_Z (by omega) (by omega)] at h2 ⊢; omega
/-- the shelf of a rank, as it is found -/
def shAt (v : Vs) (N M : Nat) (x : Int32) : Int32 := fdI (fun i => decide (nI (cn (fun j => decide (dueB v 1 N (nI j) (nI i))) M) = x)) M
theorem rk_due {i : Nat} : rk (fun _ => true) (dueR v N) M i = cn (fun j => decide (dueB v 1 N (nI j) (nI i))) M := by
  unfold rk dueR
  exact cn_congr (fun j _ => Bool.true_and _)
theorem shAt_y (hM : M ≤ 8) {x : Nat} (hx : x < M) : ∃ i, i < M ∧ rk (fun _ => true) (dueR v N) M i = x ∧ shAt v N M (nI x) = nI i := by
  obtain ⟨i, hi, -, h2, h3⟩ := fdI_y (x := x) (due_sto (v := v) (N := N) hM) (p := fun i => decide (nI (cn (fun j => decide (dueB v 1 N (nI j) (nI i))) M) = nI x)) (fun i hi => by
    have := cn_le (fun j => decide (dueB v 1 N (nI j) (nI i))) M
    rw [rk_due, decide_eq_true_iff, t_eq, t_nI (by omega), t_nI (by omega)]
    exact ⟨fun q => ⟨rfl, by omega⟩, fun q => by have := q.2; omega⟩) (by rw [cn_true]; exact hx)
  exact ⟨i, hi, h2, h3⟩
theorem shAt_n (hM : M ≤ 8) {x : Int32} (hx : x.toInt < 0 ∨ (M : Int) ≤ x.toInt) : shAt v N M x = -1 := by
  refine fdI_n (fun i hi => decide_eq_false ?_)
  have h1 := rk_all (due_sto (v := v) (N := N) hM) hi rfl
  rw [rk_due, cn_true] at h1
  rw [t_eq, t_nI (by omega)]
  omega
/-- two shelves of neighbouring ranks, in the law's words -/
theorem due_law (h : Inv 0 T N M H (iv v 1)) (hT : T ≤ 1000000000) {a b : Nat} (ha : a < M) (hb : b < M) (hab : dueR v N a b = true) : 0 < nz (gCd v 1 (nI b)) - nz (gCd v 1 (nI a)) ∨ (nz (gCd v 1 (nI b)) - nz (gCd v 1 (nI a)) = 0 ∧ (0 < cA v 1 N (nI a) - cA v 1 N (nI b) ∨ (cA v 1 N (nI a) - cA v 1 N (nI b) = 0 ∧ nI a < nI b))) := by
  have h8 := h.1.2.1.2
  have h20 := h.1.1.2
  rw [due_Z (by omega) (by omega)] at hab
  have nzt : ∀ i, i < M → (nz (gCd v 1 (nI i))).toInt = (if (gCd v 1 (nI i)).toInt < 0 then -1000 else (gCd v 1 (nI i)).toInt) ∧ -1 ≤ (gCd v 1 (nI i)).toInt ∧ (gCd v 1 (nI i)).toInt ≤ T := fun i hi => by
    have e : (gCd v 1 (nI i)).toInt = iv v 1 7 i := zCd (by omega)
    have b1 := (h.shf hi).1.2.2
    have b2 := h.2.1.1
    refine ⟨?_, by rw [e]; omega, by rw [e]; omega⟩
    by_cases q : gCd v 1 (nI i) < 0
    · rw [nz_n q, if_pos (by rw [t_lt, t_0] at q; exact q)]; decide
    · rw [nz_p q, if_neg (by rw [t_lt, t_0] at q; exact q)]
  have cAt : ∀ x, 0 ≤ (cA v 1 N x).toInt ∧ (cA v 1 N x).toInt ≤ 20 := fun x => by
    have := cn_le (fun i => decide (gPl v 1 (nI i) = x)) N
    show 0 ≤ (nI _).toInt ∧ (nI _).toInt ≤ 20
    rw [t_nI (by omega)]
    omega
  obtain ⟨a1, a2, a3⟩ := nzt a ha
  obtain ⟨b1, b2, b3⟩ := nzt b hb
  have ca := cAt (nI a)
  have cb := cAt (nI b)
  have nb : -1000 ≤ (nz (gCd v 1 (nI b))).toInt ∧ (nz (gCd v 1 (nI b))).toInt ≤ T := by rw [b1]; split <;> omega
  have na : -1000 ≤ (nz (gCd v 1 (nI a))).toInt ∧ (nz (gCd v 1 (nI a))).toInt ≤ T := by rw [a1]; split <;> omega
  have s1 : (nz (gCd v 1 (nI b)) - nz (gCd v 1 (nI a))).toInt = (nz (gCd v 1 (nI b))).toInt - (nz (gCd v 1 (nI a))).toInt := t_sub (by omega) (by omega)
  have s2 : (cA v 1 N (nI a) - cA v 1 N (nI b)).toInt = (cA v 1 N (nI a)).toInt - (cA v 1 N (nI b)).toInt := t_sub (by omega) (by omega)
  rw [t_lt, s1, t_eq, s1, t_lt, s2, t_eq, s2, t_lt, t_nI (n := a) (by omega), t_nI (n := b) (by omega), t_0]
  generalize (nz (gCd v 1 (nI a))).toInt = x at *
  generalize (nz (gCd v 1 (nI b))).toInt = y at *
  split at a1 <;> split at b1 <;> omega
/-- the lots on shelves, by expiry -/
def onS (v : Vs) (i : Nat) : Bool := decide (0 ≤ gPl v 1 (nI i))
def expR (v : Vs) (j i : Nat) : Bool := decide (expB v 1 (nI j) (nI i))
theorem exp_Z {j i : Nat} (hj : j < 1000) (hi : i < 1000) : expR v j i = true ↔ (gEp v 1 (nI j)).toInt < (gEp v 1 (nI i)).toInt ∨ (gEp v 1 (nI j)).toInt = (gEp v 1 (nI i)).toInt ∧ j < i := by
  unfold expR expB
  rw [decide_eq_true_iff, t_lt, t_eq, t_lt, t_nI (n := j) (by omega), t_nI (n := i) (by omega)]
  omega
theorem exp_sto (hN : N ≤ 20) : Sto (onS v) (expR v) N := by
  refine ⟨fun i hi => ?_, fun a b c ha hb hc h1 h2 => ?_, fun a b ha hb _ _ ne h1 => ?_⟩
  · cases w : expR v i i with
    | false => rfl
    | true => rw [exp_Z (by omega) (by omega)] at w; omega
  · rw [exp_Z (by omega) (by omega)] at h1 h2 ⊢; omega
  · have h2 : ¬ expR v a b = true := by rw [h1]; decide
    rw [exp_Z (by omega) (by omega)] at h2 ⊢; omega
def ltAt (v : Vs) (N : Nat) (x : Int32) : Int32 := fdI (fun i => decide (0 ≤ gPl v 1 (nI i) ∧ nI (cn (fun j => decide (0 ≤ gPl v 1 (nI j) ∧ expB v 1 (nI j) (nI i))) N) = x)) N
theorem rk_exp {i : Nat} : rk (onS v) (expR v) N i = cn (fun j => decide (0 ≤ gPl v 1 (nI j) ∧ expB v 1 (nI j) (nI i))) N := by
  unfold rk onS expR
  exact cn_congr (fun j _ => by simp)
theorem ltAt_p (hN : N ≤ 20) {x : Nat} (hx : x ≤ 20) (i : Nat) : decide (0 ≤ gPl v 1 (nI i) ∧ nI (cn (fun j => decide (0 ≤ gPl v 1 (nI j) ∧ expB v 1 (nI j) (nI i))) N) = nI x) = true ↔ onS v i = true ∧ rk (onS v) (expR v) N i = x := by
  have := cn_le (fun j => decide (0 ≤ gPl v 1 (nI j) ∧ expB v 1 (nI j) (nI i))) N
  rw [rk_exp, decide_eq_true_iff, t_eq (x := nI _), t_nI (by omega), t_nI (n := x) (by omega)]
  unfold onS
  rw [decide_eq_true_iff]
  exact ⟨fun q => ⟨q.1, by have := q.2; omega⟩, fun q => ⟨q.1, by have := q.2; omega⟩⟩
theorem ltAt_y (hN : N ≤ 20) {x : Nat} (hx : x < cn (onS v) N) : ∃ i, i < N ∧ onS v i = true ∧ rk (onS v) (expR v) N i = x ∧ ltAt v N (nI x) = nI i :=
  fdI_y (exp_sto hN) (fun i _ => ltAt_p hN (by have := cn_le (onS v) N; omega) i) hx
theorem ltAt_n (hN : N ≤ 20) : ltAt v N (nI (cn (onS v) N)) = -1 := by
  refine fdI_n (fun i hi => ?_)
  have hc := cn_le (onS v) N
  cases w : decide (0 ≤ gPl v 1 (nI i) ∧ nI (cn (fun j => decide (0 ≤ gPl v 1 (nI j) ∧ expB v 1 (nI j) (nI i))) N) = nI (cn (onS v) N)) with
  | false => rfl
  | true =>
    obtain ⟨h1, h2⟩ := (ltAt_p hN (x := cn (onS v) N) (by omega) i).mp w
    have := rk_all (exp_sto (v := v) hN) hi h1
    omega
end OZ
