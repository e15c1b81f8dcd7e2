/-! packing by search -/
def hrN (fr : Nat → Nat) (k : Nat) : Bool := an (fun j => decide (fr j = fr k)) k
def layN (w : Nat → Nat) (T K : Nat) : Nat → Nat → (Nat → Nat) → Bool
  | 0, _, _ => true
  | f + 1, l, fr => if T ≤ l then true else an (fun k => decide (w l ≤ fr k) && !hrN fr k && layN w T K f (l + 1) (fun j => if j = k then fr k - w l else fr j)) K
/-- what the lots from l on put on shelf j -/
def lg (w a : Nat → Nat) (T l j : Nat) : Nat := sn (fun i => if l ≤ i ∧ a i = j then w i else 0) T
def Lay (w : Nat → Nat) (T K l : Nat) (fr : Nat → Nat) : Prop := ∃ a : Nat → Nat, (∀ i, l ≤ i → i < T → a i < K) ∧ ∀ j, j < K → lg w a T l j ≤ fr j
theorem lg_one {w a : Nat → Nat} {T l : Nat} (hl : l < T) (j : Nat) : lg w a T l j = lg w a T (l + 1) j + (if a l = j then w l else 0) := by
  unfold lg
  have h := sn_pt (g := fun i => if l + 1 ≤ i ∧ a i = j then w i else 0) (g' := fun i => if l ≤ i ∧ a i = j then w i else 0) hl (fun i _ ne => by
    show (if l ≤ i ∧ a i = j then w i else 0) = if l + 1 ≤ i ∧ a i = j then w i else 0
    by_cases q : l ≤ i ∧ a i = j
    · rw [if_pos q, if_pos ⟨by omega, q.2⟩]
    · rw [if_neg q, if_neg (fun z => q ⟨by omega, z.2⟩)])
  have e1 : (if l + 1 ≤ l ∧ a l = j then w l else 0) = 0 := if_neg (by omega)
  have e2 : (if l ≤ l ∧ a l = j then w l else 0) = if a l = j then w l else 0 := by
    by_cases q : a l = j
    · rw [if_pos q, if_pos ⟨Nat.le_refl _, q⟩]
    · rw [if_neg q, if_neg (fun z => q z.2)]
  rw [e1, e2] at h
  omega
theorem lg_congr {w a b : Nat → Nat} {T l j j' : Nat} (h : ∀ i, l ≤ i → i < T → (a i = j ↔ b i = j')) : lg w a T l j = lg w b T l j' := by
  unfold lg
  refine sn_congr (fun i hi => ?_)
  by_cases q : l ≤ i ∧ a i = j
  · rw [if_pos q, if_pos ⟨q.1, (h i q.1 hi).mp q.2⟩]
  · rw [if_neg q, if_neg (fun z => q ⟨z.1, (h i z.1 hi).mpr z.2⟩)]
theorem layN_ok {w : Nat → Nat} {T K : Nat} : ∀ (f l : Nat) (fr : Nat → Nat), T ≤ l + f → (layN w T K f l fr = true ↔ Lay w T K l fr)
  | 0, l, fr, h => ⟨fun _ => ⟨fun _ => 0, fun i h1 h2 => by omega, fun j _ => by
      have : lg w (fun _ => 0) T l j = 0 := sn_zero (fun i hi => if_neg (fun q => by omega))
      omega⟩, fun _ => rfl⟩
  | f + 1, l, fr, h => by
    unfold layN
    by_cases hl : T ≤ l
    · rw [if_pos hl]
      exact ⟨fun _ => ⟨fun _ => 0, fun i h1 h2 => by omega, fun j _ => by
        have : lg w (fun _ => 0) T l j = 0 := sn_zero (fun i hi => if_neg (fun q => by omega))
        omega⟩, fun _ => rfl⟩
    · rw [if_neg hl, an_iff]
      constructor
      · rintro ⟨k, hk, hp⟩
        simp only [Bool.and_eq_true, decide_eq_true_iff] at hp
        obtain ⟨⟨h1, -⟩, h2⟩ := hp
        obtain ⟨a, a1, a2⟩ := (layN_ok f (l + 1) _ (by omega)).mp h2
        refine ⟨fun i => if i = l then k else a i, fun i i1 i2 => ?_, fun j hj => ?_⟩
        · show (if i = l then k else a i) < K
          by_cases q : i = l
          · rw [if_pos q]; exact hk
          · rw [if_neg q]; exact a1 i (by omega) i2
        · rw [lg_one (by omega), if_pos rfl, lg_congr (b := a) (j' := j) (fun i i1 i2 => by
            show (if i = l then k else a i) = j ↔ _
            rw [if_neg (by omega)])]
          have h3 : lg w a T (l + 1) j ≤ if j = k then fr k - w l else fr j := a2 j hj
          by_cases q : k = j
          · subst q
            rw [if_pos rfl] at h3 ⊢
            omega
          · rw [if_neg (fun z => q z.symm)] at h3
            rw [if_neg q]; omega
      · rintro ⟨a, a1, a2⟩
        have hk0 := a1 l (Nat.le_refl l) (by omega)
        -- the first shelf with the same room
        obtain ⟨k, hkk, hks, hkm⟩ : ∃ k, k ≤ a l ∧ fr k = fr (a l) ∧ ∀ j, j < k → fr j ≠ fr k := by
          have h1 := fd_spec (fun j => decide (fr j = fr (a l))) (a l + 1)
          have h2 := fdr_ex (fun j => decide (fr j = fr (a l))) (a l + 1) (a l) (by omega) (decide_eq_true rfl)
          have h3 := of_decide_eq_true (h1.2 h2.1)
          exact ⟨fd (fun j => decide (fr j = fr (a l))) (a l + 1), h2.2, h3, fun j hj z => by
            have := h1.1 j hj
            rw [h3] at z
            rw [decide_eq_true z] at this; exact absurd this (by decide)⟩
        have o1 := lg_one (w := w) (a := a) (T := T) (l := l) (by omega)
        have ok0 := o1 (a l)
        rw [if_pos rfl] at ok0
        have ak0 := a2 (a l) hk0
        refine ⟨k, by omega, ?_⟩
        simp only [Bool.and_eq_true, decide_eq_true_iff]
        refine ⟨⟨by omega, ?_⟩, (layN_ok f (l + 1) _ (by omega)).mpr ?_⟩
        · have : hrN fr k = false := by
            cases w2 : hrN fr k with
            | false => rfl
            | true =>
              unfold hrN at w2
              obtain ⟨j, hj, q⟩ := an_iff.mp w2
              exact absurd (of_decide_eq_true q) (hkm j hj)
          rw [this]; rfl
        · generalize hk0e : a l = k0 at *
          refine ⟨fun i => if a i = k then k0 else if a i = k0 then k else a i, fun i i1 i2 => ?_, fun j hj => ?_⟩
          · show (if a i = k then k0 else if a i = k0 then k else a i) < K
            have := a1 i (by omega) i2
            (repeat' split) <;> omega
          · show _ ≤ if j = k then fr k - w l else fr j
            by_cases q : j = k
            · subst q
              rw [if_pos rfl, lg_congr (b := a) (j' := k0) (fun i i1 i2 => by
                show (if a i = j then k0 else if a i = k0 then j else a i) = j ↔ _
                (repeat' split) <;> omega)]
              omega
            · rw [if_neg q]
              by_cases q2 : j = k0
              · subst q2
                rw [lg_congr (b := a) (j' := k) (fun i i1 i2 => by
                  show (if a i = k then j else if a i = j then k else a i) = j ↔ _
                  (repeat' split) <;> omega)]
                have h4 := o1 k
                rw [if_neg (by omega)] at h4
                have h5 := a2 k (by omega)
                omega
              · rw [lg_congr (b := a) (j' := j) (fun i i1 i2 => by
                  show (if a i = k then k0 else if a i = k0 then k else a i) = j ↔ _
                  (repeat' split) <;> omega)]
                have h4 := o1 j
                rw [if_neg (by omega)] at h4
                have h5 := a2 j hj
                omega
/-- the program's search is the one on numbers -/
theorem lay_N {w : Nat → Nat} {fv : Nat → Int32} {T K : Nat} (hw : ∀ i, i < T → fv i = nI (w i) ∧ w i ≤ 1000) : ∀ (f l : Nat) (fr : Nat → Int32) (g : Nat → Nat), (∀ j, fr j = nI (g j) ∧ g j ≤ 1000) → layB fv T K f l fr = layN w T K f l g
  | 0, _, _, _, _ => rfl
  | f + 1, l, fr, g, hg => by
    unfold layB layN
    by_cases hl : T ≤ l
    · rw [if_pos hl, if_pos hl]
    · rw [if_neg hl, if_neg hl]
      have hb : ∀ k, hrb fr k = hrN g k := fun k => by
        unfold hrb hrN
        congr 1
        funext j
        refine decide_eq_decide.mpr ?_
        rw [(hg j).1, (hg k).1]
        exact nI_eq (by have := (hg j).2; omega) (by have := (hg k).2; omega)
      congr 1
      funext k
      have e1 : decide (fv l ≤ fr k) = decide (w l ≤ g k) := decide_eq_decide.mpr (by
        have h1 := (hw l (by omega)).2
        have h2 := (hg k).2
        rw [(hw l (by omega)).1, (hg k).1, t_le, t_nI (by omega), t_nI (by omega)]
        omega)
      rw [hb, e1]
      by_cases q : w l ≤ g k
      · rw [lay_N hw f (l + 1) (upd fr k (fr k - fv l)) (fun j => if j = k then g k - w l else g j) (fun j => by
          unfold upd
          by_cases z : j = k
          · rw [if_pos z, if_pos z, (hg k).1, (hw l (by omega)).1, nI_subN q]
            exact ⟨rfl, by have := (hg k).2; omega⟩
          · rw [if_neg z, if_neg z]; exact hg j)]
      · rw [decide_eq_false q, Bool.false_and, Bool.false_and, Bool.false_and]
