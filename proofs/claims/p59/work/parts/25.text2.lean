/-! the text: patterns, read, commandsOrFault, append, clear -/
def patL (c : Nat) : List Nat := ((SKs[4 + c]?).map (fun q => q.2.2.2)).getD []
theorem patL_ok : ∀ c, c < 10 → (patL c).length ≤ 100 ∧ (∀ x ∈ patL c, x < 128) ∧ wc (patL c) ≤ 4 := by decide +kernel
theorem patL_K {c : Nat} (h : c < 10) : SK (4 + c) (patL c) := by
  rcases (show c = 0 ∨ c = 1 ∨ c = 2 ∨ c = 3 ∨ c = 4 ∨ c = 5 ∨ c = 6 ∨ c = 7 ∨ c = 8 ∨ c = 9 by omega) with rfl | rfl | rfl | rfl | rfl | rfl | rfl | rfl | rfl | rfl <;> exact ⟨_, _, _, rfl⟩
theorem s_X10_pattern {γ : Gm} {P : Heap → Prop} {c : Nat} (h : c < 10) : Ep γ mX10_pattern yX10_pattern 0 [.int (nI c)] P (some (.ref (go γ (2 * (4 + c))))) := by
  refine Ev.ofJ (by decide) rfl (fun h => by cases h) (Nat.le_of_ble_eq_true rfl) ?_
  rcases (show c = 0 ∨ c = 1 ∨ c = 2 ∨ c = 3 ∨ c = 4 ∨ c = 5 ∨ c = 6 ∨ c = 7 ∨ c = 8 ∨ c = 9 by omega) with rfl | rfl | rfl | rfl | rfl | rfl | rfl | rfl | rfl | rfl
  · refine J.iload_n (μ := mX10_pattern) (pc := 0) dX10_pattern_0 rfl ?_
    refine J.tableIn (μ := mX10_pattern) (pc := 1) 52 dX10_pattern_1 (by decide) (by decide) rfl (by decide) ?_
    refine J.ldcS (μ := mX10_pattern) (pc := 52) (si := 4) rfl rfl dX10_pattern_52 ?_
    exact J.aret (μ := mX10_pattern) (pc := 54) dX10_pattern_54 rfl (.inl ⟨_, rfl⟩) (.inr ⟨_, rfl⟩) (Nat.le_of_ble_eq_true rfl) (Nat.le_of_ble_eq_true rfl) (fun H h => ⟨rfl, h⟩)
  · refine J.iload_n (μ := mX10_pattern) (pc := 0) dX10_pattern_0 rfl ?_
    refine J.tableIn (μ := mX10_pattern) (pc := 1) 55 dX10_pattern_1 (by decide) (by decide) rfl (by decide) ?_
    refine J.ldcS (μ := mX10_pattern) (pc := 55) (si := 5) rfl rfl dX10_pattern_55 ?_
    exact J.aret (μ := mX10_pattern) (pc := 57) dX10_pattern_57 rfl (.inl ⟨_, rfl⟩) (.inr ⟨_, rfl⟩) (Nat.le_of_ble_eq_true rfl) (Nat.le_of_ble_eq_true rfl) (fun H h => ⟨rfl, h⟩)
  · refine J.iload_n (μ := mX10_pattern) (pc := 0) dX10_pattern_0 rfl ?_
    refine J.tableIn (μ := mX10_pattern) (pc := 1) 58 dX10_pattern_1 (by decide) (by decide) rfl (by decide) ?_
    refine J.ldcS (μ := mX10_pattern) (pc := 58) (si := 6) rfl rfl dX10_pattern_58 ?_
    exact J.aret (μ := mX10_pattern) (pc := 60) dX10_pattern_60 rfl (.inl ⟨_, rfl⟩) (.inr ⟨_, rfl⟩) (Nat.le_of_ble_eq_true rfl) (Nat.le_of_ble_eq_true rfl) (fun H h => ⟨rfl, h⟩)
  · refine J.iload_n (μ := mX10_pattern) (pc := 0) dX10_pattern_0 rfl ?_
    refine J.tableIn (μ := mX10_pattern) (pc := 1) 61 dX10_pattern_1 (by decide) (by decide) rfl (by decide) ?_
    refine J.ldcS (μ := mX10_pattern) (pc := 61) (si := 7) rfl rfl dX10_pattern_61 ?_
    exact J.aret (μ := mX10_pattern) (pc := 63) dX10_pattern_63 rfl (.inl ⟨_, rfl⟩) (.inr ⟨_, rfl⟩) (Nat.le_of_ble_eq_true rfl) (Nat.le_of_ble_eq_true rfl) (fun H h => ⟨rfl, h⟩)
  · refine J.iload_n (μ := mX10_pattern) (pc := 0) dX10_pattern_0 rfl ?_
    refine J.tableIn (μ := mX10_pattern) (pc := 1) 64 dX10_pattern_1 (by decide) (by decide) rfl (by decide) ?_
    refine J.ldcS (μ := mX10_pattern) (pc := 64) (si := 8) rfl rfl dX10_pattern_64 ?_
    exact J.aret (μ := mX10_pattern) (pc := 66) dX10_pattern_66 rfl (.inl ⟨_, rfl⟩) (.inr ⟨_, rfl⟩) (Nat.le_of_ble_eq_true rfl) (Nat.le_of_ble_eq_true rfl) (fun H h => ⟨rfl, h⟩)
  · refine J.iload_n (μ := mX10_pattern) (pc := 0) dX10_pattern_0 rfl ?_
    refine J.tableIn (μ := mX10_pattern) (pc := 1) 67 dX10_pattern_1 (by decide) (by decide) rfl (by decide) ?_
    refine J.ldcS (μ := mX10_pattern) (pc := 67) (si := 9) rfl rfl dX10_pattern_67 ?_
    exact J.aret (μ := mX10_pattern) (pc := 69) dX10_pattern_69 rfl (.inl ⟨_, rfl⟩) (.inr ⟨_, rfl⟩) (Nat.le_of_ble_eq_true rfl) (Nat.le_of_ble_eq_true rfl) (fun H h => ⟨rfl, h⟩)
  · refine J.iload_n (μ := mX10_pattern) (pc := 0) dX10_pattern_0 rfl ?_
    refine J.tableIn (μ := mX10_pattern) (pc := 1) 70 dX10_pattern_1 (by decide) (by decide) rfl (by decide) ?_
    refine J.ldcS (μ := mX10_pattern) (pc := 70) (si := 10) rfl rfl dX10_pattern_70 ?_
    exact J.aret (μ := mX10_pattern) (pc := 72) dX10_pattern_72 rfl (.inl ⟨_, rfl⟩) (.inr ⟨_, rfl⟩) (Nat.le_of_ble_eq_true rfl) (Nat.le_of_ble_eq_true rfl) (fun H h => ⟨rfl, h⟩)
  · refine J.iload_n (μ := mX10_pattern) (pc := 0) dX10_pattern_0 rfl ?_
    refine J.tableIn (μ := mX10_pattern) (pc := 1) 73 dX10_pattern_1 (by decide) (by decide) rfl (by decide) ?_
    refine J.ldcS (μ := mX10_pattern) (pc := 73) (si := 11) rfl rfl dX10_pattern_73 ?_
    exact J.aret (μ := mX10_pattern) (pc := 75) dX10_pattern_75 rfl (.inl ⟨_, rfl⟩) (.inr ⟨_, rfl⟩) (Nat.le_of_ble_eq_true rfl) (Nat.le_of_ble_eq_true rfl) (fun H h => ⟨rfl, h⟩)
  · refine J.iload_n (μ := mX10_pattern) (pc := 0) dX10_pattern_0 rfl ?_
    refine J.tableIn (μ := mX10_pattern) (pc := 1) 76 dX10_pattern_1 (by decide) (by decide) rfl (by decide) ?_
    refine J.ldcS (μ := mX10_pattern) (pc := 76) (si := 12) rfl rfl dX10_pattern_76 ?_
    exact J.aret (μ := mX10_pattern) (pc := 78) dX10_pattern_78 rfl (.inl ⟨_, rfl⟩) (.inr ⟨_, rfl⟩) (Nat.le_of_ble_eq_true rfl) (Nat.le_of_ble_eq_true rfl) (fun H h => ⟨rfl, h⟩)
  · refine J.iload_n (μ := mX10_pattern) (pc := 0) dX10_pattern_0 rfl ?_
    refine J.tableOut (μ := mX10_pattern) (pc := 1) 79 dX10_pattern_1 (by decide) (by decide) ?_
    refine J.ldcS (μ := mX10_pattern) (pc := 79) (si := 13) rfl rfl dX10_pattern_79 ?_
    exact J.aret (μ := mX10_pattern) (pc := 81) dX10_pattern_81 rfl (.inl ⟨_, rfl⟩) (.inr ⟨_, rfl⟩) (Nat.le_of_ble_eq_true rfl) (Nat.le_of_ble_eq_true rfl) (fun H h => ⟨rfl, h⟩)
/-- the command at s, if there is one: whether, the place behind it or of its fault, which, its values -/
def rdF (t : List Nat) (s : Nat) : Nat → Nat → Nat → Bool × Nat × Nat × List Nat
  | 0, _, fu => (false, fu, 0, [])
  | f + 1, c, fu => if (fitF t (patL c) s []).1 = true then (true, (fitF t (patL c) s []).2.1, c, (fitF t (patL c) s []).2.2) else rdF t s f (c + 1) (max fu (fitF t (patL c) s []).2.1)
def rd (t : List Nat) (s : Nat) : Bool × Nat × Nat × List Nat := rdF t s 10 0 s
theorem rdF_le {t : List Nat} {s : Nat} (hs : s ≤ t.length) : ∀ f c fu, fu ≤ t.length → (rdF t s f c fu).2.1 ≤ t.length
  | 0, _, _, h => h
  | f + 1, c, fu, h => by
    have h1 := fitF_le (patL c) s [] hs
    unfold rdF
    split
    · exact h1
    · exact rdF_le hs f _ _ (by omega)
theorem rdF_c {t : List Nat} {s : Nat} : ∀ f c fu, c + f ≤ 10 → (rdF t s f c fu).2.2.1 < 10
  | 0, _, _, _ => by simp [rdF]
  | f + 1, c, fu, h => by
    unfold rdF
    split
    · show c < 10; omega
    · exact rdF_c f _ _ (by omega)
theorem s_X10_read {γ : Gm} {u : Vs} {t : List Nat} (ht : tx u t) {s : Nat} (hs : s ≤ t.length) : Ev γ mX10_read yX10_read 5 0 0 [.ref (gz γ + 302), .int (nI s)] (Rp γ u) (fun w H => w = some (.int (bi (rd t s).1)) ∧ ∃ u', (tq u u' ∧ u' 302 5 = nI (rd t s).2.1 ∧ ((rd t s).1 = true → u' 302 4 = nI (rd t s).2.2.1 ∧ ∀ j, j < (rd t s).2.2.2.length → u' 306 j = nI ((rd t s).2.2.2.getD j 0))) ∧ Rp γ u' H) := by
  have h60 := ht.2.1
  refine Ev.ofJ (by decide) rfl (fun h => by cases h) (Nat.le_of_ble_eq_true rfl) ?_
  generalize hR : rd t s = R
  have key : ∀ (f c fu : Nat) (w : Vs), c + f = 10 → fu ≤ t.length → tq u w → rdF t s f c fu = R → J γ mX10_read (rmD 5 0 0) (fEv γ 0 0 (fun w H => w = some (.int (bi R.1)) ∧ ∃ u', (tq u u' ∧ u' 302 5 = nI R.2.1 ∧ (R.1 = true → u' 302 4 = nI R.2.2.1 ∧ ∀ j, j < R.2.2.2.length → u' 306 j = nI (R.2.2.2.getD j 0))) ∧ Rp γ u' H)) 0 0 4 [some (.ref (gz γ + 302)), some (.int (nI s)), some (.int (nI fu)), some (.int (nI c))] [] (Rp γ w) := by
    intro f
    induction f with
    | zero =>
      intro c fu w hc hf h1 he
      have hc10 : c = 10 := by omega
      subst hc10
      refine J.iload_n (μ := mX10_read) (pc := 4) dX10_read_4 rfl ?_
      refine J.bipush (μ := mX10_read) (pc := 5) (v := 10) dX10_read_5 (by decide) ?_
      refine J.icmp_ge (μ := mX10_read) (pc := 7) 44 dX10_read_7 (by decide) (fun h2 => ?_) (fun h2 => ?_)
      · refine J.aload_n (μ := mX10_read) (pc := 44) dX10_read_44 rfl ?_
        refine J.iload_n (μ := mX10_read) (pc := 45) dX10_read_45 rfl ?_
        refine J.pi (μ := mX10_read) (pc := 46) (T := TX10) (ci := 13) (ty0 := tyX10) (fks := _) rfl rfl in_X10 tyX10_ok nmX10 5 (by decide) wf_X10_33 dX10_read_46 rfl rfl rfl sh302 rfl ?_
        refine J.iconst (μ := mX10_read) (pc := 49) (v := 0) dX10_read_49 (by decide) ?_
        exact J.zret (μ := mX10_read) (pc := 50) dX10_read_50 rfl rfl (Nat.le_of_ble_eq_true rfl) (Nat.le_of_ble_eq_true rfl) (fun H h => by rw [← he]; exact ⟨rfl, _, ⟨h1.tr tq_5, up2_ss, fun z => absurd z (by simp [rdF])⟩, h⟩)
      · exact absurd h2 (by decide)
    | succ f ih =>
      intro c fu w hc hf h1 he
      have hc10 : c < 10 := by omega
      obtain ⟨q1, q2, q3⟩ := patL_ok c hc10
      have hfl := fitF_le (patL c) s [] hs
      refine J.iload_n (μ := mX10_read) (pc := 4) dX10_read_4 rfl ?_
      refine J.bipush (μ := mX10_read) (pc := 5) (v := 10) dX10_read_5 (by decide) ?_
      refine J.icmp_ge (μ := mX10_read) (pc := 7) 44 dX10_read_7 (by decide) (fun h2 => ?_) (fun h2 => ?_)
      · exact absurd h2 (nI_nle_of (b := 10) hc10 (by omega))
      · refine J.aload_n (μ := mX10_read) (pc := 10) dX10_read_10 rfl ?_
        refine J.iload_n (μ := mX10_read) (pc := 11) dX10_read_11 rfl ?_
        refine J.cS (μ := mX10_read) (pc := 12) (s_X10_pattern hc10) rfl wm_X10_48 mi_X10_pattern rfl dX10_read_12 rfl rfl ⟨(Nat.le_of_ble_eq_true rfl), (Nat.le_of_ble_eq_true rfl)⟩ ⟨(Nat.le_of_ble_eq_true rfl), (Nat.le_of_ble_eq_true rfl)⟩ (Nat.le_of_ble_eq_true rfl) ?_
        refine J.iload_n (μ := mX10_read) (pc := 15) dX10_read_15 rfl ?_
        refine J.callV (μ := mX10_read) (pc := 16) (s_X10_fits (ht.q h1) (patL_K hc10) q1 q2 q3 hs) rfl wm_X10_52 mi_X10_fits rfl dX10_read_16 (Rp.isa (T := TX10) rfl sh302) rfl rfl ⟨(Nat.le_of_ble_eq_true rfl), (Nat.le_of_ble_eq_true rfl)⟩ ⟨(Nat.le_of_ble_eq_true rfl), (Nat.le_of_ble_eq_true rfl)⟩ (Nat.le_of_ble_eq_true rfl) (fun w => J.and (fun e => ?_))
        subst e
        refine J.ex fun w2 => J.and fun hw2 => ?_
        by_cases hb : (fitF t (patL c) s []).1 = true
        · have he2 : rdF t s (f + 1) c fu = (true, (fitF t (patL c) s []).2.1, c, (fitF t (patL c) s []).2.2) := if_pos hb
          rw [he2] at he
          refine J.if_eq (μ := mX10_read) (pc := 19) 29 dX10_read_19 (by decide) (fun q => absurd q (by rw [hb]; decide)) (fun _ => ?_)
          refine J.aload_n (μ := mX10_read) (pc := 22) dX10_read_22 rfl ?_
          refine J.iload_n (μ := mX10_read) (pc := 23) dX10_read_23 rfl ?_
          refine J.pi (μ := mX10_read) (pc := 24) (T := TX10) (ci := 13) (ty0 := tyX10) (fks := _) rfl rfl in_X10 tyX10_ok nmX10 4 (by decide) wf_X10_30 dX10_read_24 rfl rfl rfl sh302 rfl ?_
          refine J.iconst (μ := mX10_read) (pc := 27) (v := 1) dX10_read_27 (by decide) ?_
          exact J.zret (μ := mX10_read) (pc := 28) dX10_read_28 rfl rfl (Nat.le_of_ble_eq_true rfl) (Nat.le_of_ble_eq_true rfl) (fun H h => by rw [← he]; exact ⟨rfl, _, ⟨(h1.tr hw2.1).tr tq_4, by rw [up2_sn (by decide)]; exact hw2.2.1, fun _ => ⟨up2_ss, fun j hj => by rw [up2_o _ _ _ (by decide)]; exact hw2.2.2 j hj⟩⟩, h⟩)
        · have hb2 : (fitF t (patL c) s []).1 = false := by simpa using hb
          have he2 : rdF t s (f + 1) c fu = rdF t s f (c + 1) (max fu (fitF t (patL c) s []).2.1) := if_neg hb
          rw [he2] at he
          refine J.if_eq (μ := mX10_read) (pc := 19) 29 dX10_read_19 (by decide) (fun _ => ?_) (fun q => absurd (show bi (fitF t (patL c) s []).1 = 0 by rw [hb2]; rfl) q)
          refine J.iload_n (μ := mX10_read) (pc := 29) dX10_read_29 rfl ?_
          refine J.aload_n (μ := mX10_read) (pc := 30) dX10_read_30 rfl ?_
          refine J.gi (μ := mX10_read) (pc := 31) (T := TX10) (ci := 13) (fks := _) rfl rfl in_X10 5 (by decide) wf_X10_33 dX10_read_31 sh302 rfl ?_
          rw [hw2.2.1]
          refine J.mmax (μ := mX10_read) (pc := 34) rfl wm_X10_56 dX10_read_34 ⟨(Nat.le_of_ble_eq_true rfl), (Nat.le_of_ble_eq_true rfl)⟩ ⟨(Nat.le_of_ble_eq_true rfl), (Nat.le_of_ble_eq_true rfl)⟩ ?_
          rw [show (if nI fu < nI (fitF t (patL c) s []).2.1 then nI (fitF t (patL c) s []).2.1 else nI fu) = nI (max fu (fitF t (patL c) s []).2.1) by
            by_cases z : fu < (fitF t (patL c) s []).2.1
            · rw [if_pos (nI_lt_of z (by omega)), Nat.max_eq_right (by omega)]
            · rw [if_neg (nI_nlt_of (by omega) (by omega)), Nat.max_eq_left (by omega)]]
          refine J.istore_n (μ := mX10_read) (pc := 37) dX10_read_37 (Nat.le_of_ble_eq_true rfl) rfl ?_
          refine J.iinc (μ := mX10_read) (pc := 38) (v := 1) dX10_read_38 rfl (by decide) (Nat.le_of_ble_eq_true rfl) rfl ?_
          refine J.goto (μ := mX10_read) (pc := 41) 4 dX10_read_41 (by decide) ?_
          refine J.sub ?_ (ih (c + 1) _ w2 (by omega) (by omega) (h1.tr hw2.1) he)
          exact ⟨rfl, rfl, rfl, by rw [nI_1], trivial⟩
  refine J.iload_n (μ := mX10_read) (pc := 0) dX10_read_0 rfl ?_
  refine J.istore_n (μ := mX10_read) (pc := 1) dX10_read_1 (Nat.le_of_ble_eq_true rfl) rfl ?_
  refine J.iconst (μ := mX10_read) (pc := 2) (v := 0) dX10_read_2 (by decide) ?_
  refine J.istore_n (μ := mX10_read) (pc := 3) dX10_read_3 (Nat.le_of_ble_eq_true rfl) rfl ?_
  refine J.sub ?_ (key 10 0 s u rfl hs tq.rf hR)
  exact ⟨rfl, rfl, rfl, rfl, trivial⟩
/-- the commands of a text from s on -/
def pz (t : List Nat) : Nat → Nat → Option (List (Nat × List Nat))
  | 0, _ => none
  | f + 1, s => if (rd t s).1 = true then (if (rd t s).2.1 = t.length then some [((rd t s).2.2.1, (rd t s).2.2.2)] else if (rd t s).2.1 < t.length ∧ t.getD (rd t s).2.1 0 = 59 then (pz t f ((rd t s).2.1 + 1)).map (fun l => ((rd t s).2.2.1, (rd t s).2.2.2) :: l) else none) else none
def pzR (c : Nat) : Option (List (Nat × List Nat)) → Int32
  | some l => nI (c - 1 + l.length)
  | none => -1
theorem s_X10_commandsOrFault {γ : Gm} {u : Vs} {t : List Nat} (ht : tx u t) : Ev γ mX10_commandsOrFault yX10_commandsOrFault 6 0 0 [.ref (gz γ + 302)] (Rp γ u) (fun w H => w = some (.int (pzR 1 (pz t 60 0))) ∧ ∃ u', tq u u' ∧ Rp γ u' H) := by
  have h60 := ht.2.1
  refine Ev.ofJ (by decide) rfl (fun h => by cases h) (Nat.le_of_ble_eq_true rfl) ?_
  generalize hA : pzR 1 (pz t 60 0) = A
  have out : ∀ (w : Vs) (x y : Int32), tq u w → A = -1 → J γ mX10_commandsOrFault (rmD 6 0 0) (fEv γ 0 0 (fun w H => w = some (.int A) ∧ ∃ u', tq u u' ∧ Rp γ u' H)) 0 0 63 [some (.ref (gz γ + 302)), some (.int x), some (.int y)] [] (Rp γ w) := by
    intro w x y h1 hA1
    rw [hA1]
    refine J.aload_n (μ := mX10_commandsOrFault) (pc := 63) dX10_commandsOrFault_63 rfl ?_
    refine J.aload_n (μ := mX10_commandsOrFault) (pc := 64) dX10_commandsOrFault_64 rfl ?_
    refine J.gi (μ := mX10_commandsOrFault) (pc := 65) (T := TX10) (ci := 13) (fks := _) rfl rfl in_X10 5 (by decide) wf_X10_33 dX10_commandsOrFault_65 sh302 rfl ?_
    refine J.pi (μ := mX10_commandsOrFault) (pc := 68) (T := TX10) (ci := 13) (ty0 := tyX10) (fks := _) rfl rfl in_X10 tyX10_ok nmX10 3 (by decide) wf_X10_27 dX10_commandsOrFault_68 rfl rfl rfl sh302 rfl ?_
    refine J.iconst (μ := mX10_commandsOrFault) (pc := 71) (v := -1) dX10_commandsOrFault_71 (by decide) ?_
    exact J.iret (μ := mX10_commandsOrFault) (pc := 72) dX10_commandsOrFault_72 rfl (Nat.le_of_ble_eq_true rfl) (Nat.le_of_ble_eq_true rfl) (fun H h => ⟨rfl, _, h1.tr tq_3, h⟩)
  have key : ∀ (f c s : Nat) (w : Vs), c + f = 61 → 1 ≤ c → s ≤ t.length → tq u w → pzR c (pz t f s) = A → J γ mX10_commandsOrFault (rmD 6 0 0) (fEv γ 0 0 (fun w H => w = some (.int A) ∧ ∃ u', tq u u' ∧ Rp γ u' H)) 0 0 4 [some (.ref (gz γ + 302)), some (.int (nI s)), some (.int (nI c))] [] (Rp γ w) := by
    intro f
    induction f with
    | zero =>
      intro c s w hc hc1 hs h1 he
      refine J.iload_n (μ := mX10_commandsOrFault) (pc := 4) dX10_commandsOrFault_4 rfl ?_
      refine J.bipush (μ := mX10_commandsOrFault) (pc := 5) (v := 60) dX10_commandsOrFault_5 (by decide) ?_
      refine J.icmp_gt (μ := mX10_commandsOrFault) (pc := 7) 63 dX10_commandsOrFault_7 (by decide) (fun h2 => ?_) (fun h2 => ?_)
      · exact out w _ _ h1 he.symm
      · exact absurd h2 (nI_nle_of (a := 60) (by omega) (by omega))
    | succ f ih =>
      intro c s w hc hc1 hs h1 he
      have hle := rdF_le hs 10 0 s hs
      refine J.iload_n (μ := mX10_commandsOrFault) (pc := 4) dX10_commandsOrFault_4 rfl ?_
      refine J.bipush (μ := mX10_commandsOrFault) (pc := 5) (v := 60) dX10_commandsOrFault_5 (by decide) ?_
      refine J.icmp_gt (μ := mX10_commandsOrFault) (pc := 7) 63 dX10_commandsOrFault_7 (by decide) (fun h2 => ?_) (fun h2 => ?_)
      · exact absurd h2 (nI_nlt_of (a := 60) (by omega) (by omega))
      · refine J.aload_n (μ := mX10_commandsOrFault) (pc := 10) dX10_commandsOrFault_10 rfl ?_
        refine J.iload_n (μ := mX10_commandsOrFault) (pc := 11) dX10_commandsOrFault_11 rfl ?_
        refine J.callV (μ := mX10_commandsOrFault) (pc := 12) (s_X10_read (ht.q h1) hs) rfl wm_X10_40 mi_X10_read rfl dX10_commandsOrFault_12 (Rp.isa (T := TX10) rfl sh302) rfl rfl ⟨(Nat.le_of_ble_eq_true rfl), (Nat.le_of_ble_eq_true rfl)⟩ ⟨(Nat.le_of_ble_eq_true rfl), (Nat.le_of_ble_eq_true rfl)⟩ (Nat.le_of_ble_eq_true rfl) (fun w => J.and (fun e => ?_))
        subst e
        refine J.ex fun w2 => J.and fun hw2 => ?_
        have hq2 := h1.tr hw2.1
        by_cases hb : (rd t s).1 = true
        · have he2 : pz t (f + 1) s = (if (rd t s).2.1 = t.length then some [((rd t s).2.2.1, (rd t s).2.2.2)] else if (rd t s).2.1 < t.length ∧ t.getD (rd t s).2.1 0 = 59 then (pz t f ((rd t s).2.1 + 1)).map (fun l => ((rd t s).2.2.1, (rd t s).2.2.2) :: l) else none) := if_pos hb
          rw [he2] at he
          refine J.if_ne (μ := mX10_commandsOrFault) (pc := 15) 21 dX10_commandsOrFault_15 (by decide) (fun _ => ?_) (fun q => absurd q (by rw [hb]; decide))
          refine J.aload_n (μ := mX10_commandsOrFault) (pc := 21) dX10_commandsOrFault_21 rfl ?_
          refine J.gi (μ := mX10_commandsOrFault) (pc := 22) (T := TX10) (ci := 13) (fks := _) rfl rfl in_X10 5 (by decide) wf_X10_33 dX10_commandsOrFault_22 sh302 rfl ?_
          refine J.aload_n (μ := mX10_commandsOrFault) (pc := 25) dX10_commandsOrFault_25 rfl ?_
          refine J.gi (μ := mX10_commandsOrFault) (pc := 26) (T := TX10) (ci := 13) (fks := _) rfl rfl in_X10 2 (by decide) wf_X10_23 dX10_commandsOrFault_26 sh302 rfl ?_
          rw [hw2.2.1, (ht.q hq2).1]
          refine J.icmp_ne (μ := mX10_commandsOrFault) (pc := 29) 34 dX10_commandsOrFault_29 (by decide) (fun h3 => ?_) (fun h3 => ?_)
          · have h4 : ¬ (rd t s).2.1 = t.length := fun z => h3 (by rw [z])
            rw [if_neg h4] at he
            refine J.aload_n (μ := mX10_commandsOrFault) (pc := 34) dX10_commandsOrFault_34 rfl ?_
            refine J.aload_n (μ := mX10_commandsOrFault) (pc := 35) dX10_commandsOrFault_35 rfl ?_
            refine J.gi (μ := mX10_commandsOrFault) (pc := 36) (T := TX10) (ci := 13) (fks := _) rfl rfl in_X10 5 (by decide) wf_X10_33 dX10_commandsOrFault_36 sh302 rfl ?_
            rw [hw2.2.1]
            refine J.cV (μ := mX10_commandsOrFault) (pc := 39) (s_X10_characterAt (ht.q hq2) (by show (rdF t s 10 0 s).2.1 ≤ 100; omega)) rfl wm_X10_44 mi_X10_characterAt rfl dX10_commandsOrFault_39 (Rp.isa (T := TX10) rfl sh302) rfl rfl ⟨(Nat.le_of_ble_eq_true rfl), (Nat.le_of_ble_eq_true rfl)⟩ ⟨(Nat.le_of_ble_eq_true rfl), (Nat.le_of_ble_eq_true rfl)⟩ (Nat.le_of_ble_eq_true rfl) ?_
            refine J.bipush (μ := mX10_commandsOrFault) (pc := 42) (v := 59) dX10_commandsOrFault_42 (by decide) ?_
            refine J.icmp_eq (μ := mX10_commandsOrFault) (pc := 44) 50 dX10_commandsOrFault_44 (by decide) (fun h5 => ?_) (fun h5 => ?_)
            · have h6 := (cAt_eq (c := 59) ht.2.2.2 (by decide)).mp h5
              rw [if_pos h6] at he
              refine J.aload_n (μ := mX10_commandsOrFault) (pc := 50) dX10_commandsOrFault_50 rfl ?_
              refine J.gi (μ := mX10_commandsOrFault) (pc := 51) (T := TX10) (ci := 13) (fks := _) rfl rfl in_X10 5 (by decide) wf_X10_33 dX10_commandsOrFault_51 sh302 rfl ?_
              rw [hw2.2.1]
              refine J.iconst (μ := mX10_commandsOrFault) (pc := 54) (v := 1) dX10_commandsOrFault_54 (by decide) ?_
              refine J.iadd (μ := mX10_commandsOrFault) (pc := 55) dX10_commandsOrFault_55 ?_
              rw [nI_1]
              refine J.istore_n (μ := mX10_commandsOrFault) (pc := 56) dX10_commandsOrFault_56 (Nat.le_of_ble_eq_true rfl) rfl ?_
              refine J.iinc (μ := mX10_commandsOrFault) (pc := 57) (v := 1) dX10_commandsOrFault_57 rfl (by decide) (Nat.le_of_ble_eq_true rfl) rfl ?_
              refine J.goto (μ := mX10_commandsOrFault) (pc := 60) 4 dX10_commandsOrFault_60 (by decide) ?_
              refine J.sub ?_ (ih (c + 1) ((rd t s).2.1 + 1) w2 (by omega) (by omega) (by omega) hq2 ?_)
              · exact ⟨rfl, rfl, by rw [nI_1], trivial⟩
              · rw [← he]
                cases pz t f ((rd t s).2.1 + 1) with
                | none => rfl
                | some l => simp only [pzR, Option.map_some, List.length_cons]; congr 1; omega
            · have h6 : ¬ ((rd t s).2.1 < t.length ∧ t.getD (rd t s).2.1 0 = 59) := fun z => h5 ((cAt_eq (c := 59) ht.2.2.2 (by decide)).mpr z)
              rw [if_neg h6] at he
              refine J.goto (μ := mX10_commandsOrFault) (pc := 47) 63 dX10_commandsOrFault_47 (by decide) ?_
              exact out w2 _ _ hq2 he.symm
          · have h4 : (rd t s).2.1 = t.length := (nI_eq (by show (rdF t s 10 0 s).2.1 < _; omega) (by omega)).mp h3
            rw [if_pos h4] at he
            refine J.iload_n (μ := mX10_commandsOrFault) (pc := 32) dX10_commandsOrFault_32 rfl ?_
            exact J.iret (μ := mX10_commandsOrFault) (pc := 33) dX10_commandsOrFault_33 rfl (Nat.le_of_ble_eq_true rfl) (Nat.le_of_ble_eq_true rfl) (fun H h => ⟨by rw [← he]; simp only [pzR, List.length_cons, List.length_nil]; rw [show c - 1 + (0 + 1) = c by omega], w2, hq2, h⟩)
        · have hb2 : (rd t s).1 = false := by simpa using hb
          have he2 : pz t (f + 1) s = none := if_neg hb
          rw [he2] at he
          refine J.if_ne (μ := mX10_commandsOrFault) (pc := 15) 21 dX10_commandsOrFault_15 (by decide) (fun q => absurd (show bi (rd t s).1 = 0 by rw [hb2]; rfl) q) (fun _ => ?_)
          refine J.goto (μ := mX10_commandsOrFault) (pc := 18) 63 dX10_commandsOrFault_18 (by decide) ?_
          exact out w2 _ _ hq2 he.symm
  refine J.iconst (μ := mX10_commandsOrFault) (pc := 0) (v := 0) dX10_commandsOrFault_0 (by decide) ?_
  refine J.istore_n (μ := mX10_commandsOrFault) (pc := 1) dX10_commandsOrFault_1 (Nat.le_of_ble_eq_true rfl) rfl ?_
  refine J.iconst (μ := mX10_commandsOrFault) (pc := 2) (v := 1) dX10_commandsOrFault_2 (by decide) ?_
  refine J.istore_n (μ := mX10_commandsOrFault) (pc := 3) dX10_commandsOrFault_3 (Nat.le_of_ble_eq_true rfl) rfl ?_
  refine J.sub ?_ (key 60 1 0 u rfl (Nat.le_refl 1) (Nat.zero_le _) tq.rf hA)
  exact ⟨rfl, rfl, rfl, trivial⟩
def apV (v : Vs) (x : Int32) : Vs := up2 (rs v 304 60 (v 302 2) x) 302 2 (v 302 2 + 1)
theorem s_X10_append {γ : Gm} {v : Vs} (x : Int32) : Ew γ mX10_append yX10_append 1 [.ref (gz γ + 302), .int x] v none (apV v x) := by
  refine Ev.ofJ (by decide) rfl (fun h => by cases h) (Nat.le_of_ble_eq_true rfl) ?_
  refine J.aload_n (μ := mX10_append) (pc := 0) dX10_append_0 rfl ?_
  refine J.gr (μ := mX10_append) (pc := 1) (T := TX10) (ci := 13) (fks := _) rfl rfl in_X10 0 (by decide) wf_X10_14 dX10_append_1 sh302 rfl ?_
  refine J.aload_n (μ := mX10_append) (pc := 4) dX10_append_4 rfl ?_
  refine J.gi (μ := mX10_append) (pc := 5) (T := TX10) (ci := 13) (fks := _) rfl rfl in_X10 2 (by decide) wf_X10_23 dX10_append_5 sh302 rfl ?_
  refine J.iload_n (μ := mX10_append) (pc := 8) dX10_append_8 rfl ?_
  refine J.cV0 (μ := mX10_append) (pc := 9) (s_X7_set row303 _ _) rfl wm_X10_36 mi_X7_set rfl dX10_append_9 (Rp.isa (T := TX7) rfl row303.1) rfl rfl ⟨(Nat.le_of_ble_eq_true rfl), (Nat.le_of_ble_eq_true rfl)⟩ ⟨(Nat.le_of_ble_eq_true rfl), (Nat.le_of_ble_eq_true rfl)⟩ (Nat.le_of_ble_eq_true rfl) ?_
  refine J.aload_n (μ := mX10_append) (pc := 12) dX10_append_12 rfl ?_
  refine J.dup (μ := mX10_append) (pc := 13) dX10_append_13 rfl ?_
  refine J.gi (μ := mX10_append) (pc := 14) (T := TX10) (ci := 13) (fks := _) rfl rfl in_X10 2 (by decide) wf_X10_23 dX10_append_14 sh302 rfl ?_
  rw [show rs v (303 + 1) 60 (v 302 2) x 302 2 = v 302 2 by rw [rs_o (by decide)]]
  refine J.iconst (μ := mX10_append) (pc := 17) (v := 1) dX10_append_17 (by decide) ?_
  refine J.iadd (μ := mX10_append) (pc := 18) dX10_append_18 ?_
  refine J.pi (μ := mX10_append) (pc := 19) (T := TX10) (ci := 13) (ty0 := tyX10) (fks := _) rfl rfl in_X10 tyX10_ok nmX10 2 (by decide) wf_X10_23 dX10_append_19 rfl rfl rfl sh302 rfl ?_
  exact J.vret (μ := mX10_append) (pc := 22) dX10_append_22 rfl (Nat.le_of_ble_eq_true rfl) (Nat.le_of_ble_eq_true rfl) (fun H h => ⟨rfl, h⟩)
theorem s_X10_clear {γ : Gm} {v : Vs} : Ew γ mX10_clear yX10_clear 0 [.ref (gz γ + 302)] v none (up2 v 302 2 0) := by
  refine Ev.ofJ (by decide) rfl (fun h => by cases h) (Nat.le_of_ble_eq_true rfl) ?_
  refine J.aload_n (μ := mX10_clear) (pc := 0) dX10_clear_0 rfl ?_
  refine J.iconst (μ := mX10_clear) (pc := 1) (v := 0) dX10_clear_1 (by decide) ?_
  refine J.pi (μ := mX10_clear) (pc := 2) (T := TX10) (ci := 13) (ty0 := tyX10) (fks := _) rfl rfl in_X10 tyX10_ok nmX10 2 (by decide) wf_X10_23 dX10_clear_2 rfl rfl rfl sh302 rfl ?_
  exact J.vret (μ := mX10_clear) (pc := 5) dX10_clear_5 rfl (Nat.le_of_ble_eq_true rfl) (Nat.le_of_ble_eq_true rfl) (fun H h => ⟨rfl, h⟩)
theorem tx_ap {v : Vs} {t : List Nat} (ht : tx v t) {c : Nat} (hc : c < 128) (hl : t.length < 60) : tx (apV v (nI c)) (t ++ [c]) := by
  have e : rs v 304 60 (v 302 2) (nI c) = up2 v 304 t.length (nI c) := by rw [ht.1, rs_nI hl (by omega)]
  refine ⟨?_, by simp; omega, fun j hj => ?_, fun x hx => ?_⟩
  · unfold apV
    rw [up2_ss, ht.1, nI_1]
    simp
  · unfold apV
    rw [up2_o _ _ _ (by decide), e]
    simp only [List.length_append, List.length_cons, List.length_nil] at hj
    by_cases h : j = t.length
    · subst h
      rw [up2_ss]
      simp [List.getD_eq_getElem?_getD]
    · rw [up2_sn h, ht.2.2.1 j (by omega), List.getD_eq_getElem?_getD, List.getD_eq_getElem?_getD, List.getElem?_append_left (by omega)]
  · rcases List.mem_append.mp hx with h | h
    · exact ht.2.2.2 x h
    · rw [List.mem_singleton.mp h]; exact hc
theorem tx_clear (v : Vs) : tx (up2 v 302 2 0) [] := ⟨up2_ss, by simp, fun j hj => absurd hj (Nat.not_lt_zero j), fun c hc => by cases hc⟩
