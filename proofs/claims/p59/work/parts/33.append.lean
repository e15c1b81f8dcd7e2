/-! appending: a letter, a number; the line of a lot -/
/-- the room behind the line when m letters are in it; how many new rows it took -/
def gcap (c m : Nat) : Nat := if m ≤ c then c else 34
def gk (c m : Nat) : Nat := if m ≤ c then 0 else 1
theorem gk_le (c m : Nat) : gk c m ≤ 1 := by unfold gk; split <;> omega
theorem gcap_ok {c m : Nat} (hc : c = 16 ∨ c = 34) : gcap c m = 16 ∨ gcap c m = 34 := by unfold gcap; split <;> omega
theorem gcap_ge {c m : Nat} (hm : m ≤ 34) : m ≤ gcap c m := by unfold gcap; split <;> omega
theorem gcap_2 {c m1 m2 : Nat} (hc : c = 16 ∨ c = 34) (h : m1 ≤ m2) (h2 : m2 ≤ 34) : gcap (gcap c m1) m2 = gcap c m2 := by unfold gcap; split <;> split <;> (try split) <;> omega
theorem gk_2 {c m1 m2 : Nat} (hc : c = 16 ∨ c = 34) (h : m1 ≤ m2) (h2 : m2 ≤ 34) : gk c m1 + gk (gcap c m1) m2 = gk c m2 := by unfold gk gcap; split <;> split <;> (try split) <;> omega
theorem gk_mono {c m1 m2 : Nat} (h : m1 ≤ m2) : gk c m1 ≤ gk c m2 := by unfold gk; split <;> split <;> omega
/-- a method that puts len letters behind the line -/
def Ap (γ : Gm) (v : Vs) (μ : Mu) (y : MethodName) (d : Nat) (av : List Value) (r : Option Value) (len : Nat) : Prop :=
  ∀ (q cap cnt : Nat) (ml : Int32) (f : Nat → Int32), cap = 16 ∨ cap = 34 → cnt ≤ cap → cnt + len ≤ 34 → Ev γ μ y d (gk cap (cnt + len)) (34 * gk cap (cnt + len)) av (Bq γ v q cap cnt ml f) (fun w H => w = r ∧ ∃ q' f', Bq γ v q' (gcap cap (cnt + len)) (cnt + len) ml f' H)
theorem Ap.of {γ : Gm} {v : Vs} {μ : Mu} {y : MethodName} {d : Nat} {av : List Value} {r : Option Value} {len : Nat}
    (h0 : ∀ (q cap cnt : Nat) (ml : Int32) (f : Nat → Int32), cap < 60 → cnt + len ≤ cap → Ev γ μ y d 0 0 av (Bq γ v q cap cnt ml f) (fun w H => w = r ∧ ∃ q' f', Bq γ v q' cap (cnt + len) ml f' H))
    (h1 : ∀ (q cnt : Nat) (ml : Int32) (f : Nat → Int32), cnt ≤ 16 → 16 < cnt + len → cnt + len < 35 → Ev γ μ y d 1 34 av (Bq γ v q 16 cnt ml f) (fun w H => w = r ∧ ∃ q' f', Bq γ v q' 34 (cnt + len) ml f' H)) : Ap γ v μ y d av r len := by
  intro q cap cnt ml f hc hn hl
  by_cases h : cnt + len ≤ cap
  · have e1 : gk cap (cnt + len) = 0 := if_pos h
    have e2 : gcap cap (cnt + len) = cap := if_pos h
    rw [e1, e2]
    exact h0 q cap cnt ml f (by omega) h
  · have hc16 : cap = 16 := by omega
    subst hc16
    have e1 : gk 16 (cnt + len) = 1 := if_neg h
    have e2 : gcap 16 (cnt + len) = 34 := if_neg h
    rw [e1, e2]
    exact h1 q cnt ml f hn (by omega) (by omega)
theorem J.app {γ : Gm} {v : Vs} {μ μ' : Mu} {R : Room} {Q : Fin_} {pc c0 m len d index nn b : Nat} {L : List (Option Value)} {rest As st : List Value} {y : MethodName} {r : Option Value} {own : String} {q : Nat} {ml : Int32} {f : Nat → Int32} (hA : Ap γ v μ' y d (.ref b :: As) r len) (hc0 : c0 = 16 ∨ c0 = 34) (hm : m + len ≤ 34) (hown : μ.1 = own) (w : Cond.methodLink own index y ∈ WSA) (mi : MI y μ' nn) (h0 : μ'.2.2.2.2.1 = []) (dd : decode μ.2.1 pc = .ok (.invokevirtual index, 3)) (hb : ∀ q cap cnt ml f, Isa γ y.cls b (Bq γ v q cap cnt ml f)) (hst : st = As.reverse ++ .ref b :: rest) (hn : As.length = nn)
    (hR : d + 1 ≤ R.frames ∧ 8 + (μ'.2.2.1 + 11) + 64 * d ≤ R.locals) (hk : gk c0 (m + len) ≤ R.cells ∧ 34 * gk c0 (m + len) ≤ R.slots) (hr : (rest.map fun v => v.category).sum ≤ 8) (kk : ∀ q' f', J γ μ R Q (gk c0 (m + len)) (34 * gk c0 (m + len)) (pc + 3) L (r.toList ++ rest) (Bq γ v q' (gcap c0 (m + len)) (m + len) ml f')) : J γ μ R Q (gk c0 m) (34 * gk c0 m) pc L st (Bq γ v q (gcap c0 m) m ml f) := by
  have e1 := gk_2 hc0 (Nat.le_add_right m len) hm
  have e2 := gcap_2 hc0 (Nat.le_add_right m len) hm
  refine J.callV (hA q (gcap c0 m) m ml f (gcap_ok hc0) (gcap_ge (by omega)) hm) hown w mi h0 dd (hb _ _ _ _ _) hst hn hR ⟨by rw [e1]; exact hk.1, by rw [← Nat.mul_add, e1]; exact hk.2⟩ hr (fun v => J.and fun e => J.ex fun q' => J.ex fun f' => ?_)
  subst e
  rw [e2, ← Nat.mul_add, e1]
  exact kk q' f'

theorem s_J5_appendI0 {γ : Gm} {v : Vs} {q cap cnt : Nat} {ml : Int32} {f : Nat → Int32} {w : Nat} (hw : w < 1000000000) (hcap : cap < 60) (hl : cnt + sb_dg w ≤ cap) : Ev γ mJ5_append_c97b9 yJ5_append_c97b9 4 0 0 [.ref (gz γ + 307), .int (nI w)] (Bq γ v q cap cnt ml f) (fun r H => r = some (.ref (gz γ + 307)) ∧ ∃ q' f', Bq γ v q' cap (cnt + sb_dg w) ml f' H) := by
  refine Ev.ofJ (by decide) rfl (fun h => by cases h) (Nat.le_of_ble_eq_true rfl) ?_
  refine J.aload_n (μ := mJ5_append_c97b9) (pc := 0) dJ5_append_c97b9_0 rfl ?_
  refine J.bN (μ := mJ5_append_c97b9) (pc := 1) rfl wf_J5_79 dJ5_append_c97b9_1 ?_
  refine J.istore_n (μ := mJ5_append_c97b9) (pc := 4) dJ5_append_c97b9_4 (Nat.le_of_ble_eq_true rfl) rfl ?_
  refine J.iload_n (μ := mJ5_append_c97b9) (pc := 5) dJ5_append_c97b9_5 rfl ?_
  refine J.iload_n (μ := mJ5_append_c97b9) (pc := 6) dJ5_append_c97b9_6 rfl ?_
  refine J.cS (μ := mJ5_append_c97b9) (pc := 7) (s_J6_stringSize hw) rfl wm_J5_245 mi_J6_stringSize_0f7a4 rfl dJ5_append_c97b9_7 rfl rfl ⟨(Nat.le_of_ble_eq_true rfl), (Nat.le_of_ble_eq_true rfl)⟩ ⟨(Nat.le_of_ble_eq_true rfl), (Nat.le_of_ble_eq_true rfl)⟩ (Nat.le_of_ble_eq_true rfl) ?_
  refine J.iadd (μ := mJ5_append_c97b9) (pc := 10) dJ5_append_c97b9_10 ?_
  rw [nI_add]
  refine J.istore_n (μ := mJ5_append_c97b9) (pc := 11) dJ5_append_c97b9_11 (Nat.le_of_ble_eq_true rfl) rfl ?_
  refine J.aload_n (μ := mJ5_append_c97b9) (pc := 12) dJ5_append_c97b9_12 rfl ?_
  refine J.iload_n (μ := mJ5_append_c97b9) (pc := 13) dJ5_append_c97b9_13 rfl ?_
  refine J.callU (μ := mJ5_append_c97b9) (pc := 14) (s_J5_ensure0 (m := cnt + sb_dg w) hl hcap) rfl wm_J5_100 mu_ens (sel_p rfl ⟨by decide, by decide⟩ wi_J5_ensureCapacityInternal_d00df pv_ens) rfl dJ5_append_c97b9_14 bq_isa rfl rfl ⟨(Nat.le_of_ble_eq_true rfl), (Nat.le_of_ble_eq_true rfl)⟩ ⟨(Nat.le_of_ble_eq_true rfl), (Nat.le_of_ble_eq_true rfl)⟩ (Nat.le_of_ble_eq_true rfl) (fun w => J.and fun e => ?_)
  subst e
  refine J.aload_n (μ := mJ5_append_c97b9) (pc := 17) dJ5_append_c97b9_17 rfl ?_
  refine J.callU (μ := mJ5_append_c97b9) (pc := 18) s_J5_isLatin1 rfl wm_J5_83 mu_isl (sel_w se_isl) rfl dJ5_append_c97b9_18 bq_isa rfl rfl ⟨(Nat.le_of_ble_eq_true rfl), (Nat.le_of_ble_eq_true rfl)⟩ ⟨(Nat.le_of_ble_eq_true rfl), (Nat.le_of_ble_eq_true rfl)⟩ (Nat.le_of_ble_eq_true rfl) (fun w => J.and fun e => ?_)
  subst e
  refine J.if_eq (μ := mJ5_append_c97b9) (pc := 21) 37 dJ5_append_c97b9_21 (by decide) (fun h => absurd h (by decide)) (fun _ => ?_)
  refine J.iload_n (μ := mJ5_append_c97b9) (pc := 24) dJ5_append_c97b9_24 rfl ?_
  refine J.iload_n (μ := mJ5_append_c97b9) (pc := 25) dJ5_append_c97b9_25 rfl ?_
  refine J.aload_n (μ := mJ5_append_c97b9) (pc := 26) dJ5_append_c97b9_26 rfl ?_
  refine J.bV (μ := mJ5_append_c97b9) (pc := 27) rfl wf_J5_15 dJ5_append_c97b9_27 ?_
  refine J.callS (μ := mJ5_append_c97b9) (pc := 30) (s_J6_getChars hcap (w := w) (p := cnt + sb_dg w) (by omega) (Nat.le_add_left _ _) hl) rfl wm_J5_248 mi_J6_getChars_ba4f3 rfl dJ5_append_c97b9_30 rfl rfl ⟨(Nat.le_of_ble_eq_true rfl), (Nat.le_of_ble_eq_true rfl)⟩ ⟨(Nat.le_of_ble_eq_true rfl), (Nat.le_of_ble_eq_true rfl)⟩ (Nat.le_of_ble_eq_true rfl) (fun w => J.ex fun y => J.ex fun f9 => J.and fun e => ?_)
  subst e
  refine J.pop (μ := mJ5_append_c97b9) (pc := 33) dJ5_append_c97b9_33 rfl ?_
  refine J.goto (μ := mJ5_append_c97b9) (pc := 34) 48 dJ5_append_c97b9_34 (by decide) ?_
  refine J.aload_n (μ := mJ5_append_c97b9) (pc := 48) dJ5_append_c97b9_48 rfl ?_
  refine J.iload_n (μ := mJ5_append_c97b9) (pc := 49) dJ5_append_c97b9_49 rfl ?_
  refine J.bpN (μ := mJ5_append_c97b9) (pc := 50) rfl wf_J5_79 dJ5_append_c97b9_50 ?_
  refine J.aload_n (μ := mJ5_append_c97b9) (pc := 53) dJ5_append_c97b9_53 rfl ?_
  exact J.aretO (μ := mJ5_append_c97b9) (pc := 54) dJ5_append_c97b9_54 rfl (.inl ⟨_, rfl⟩) (Nat.le_of_ble_eq_true rfl) (Nat.le_of_ble_eq_true rfl) (fun H h => ⟨rfl, _, f9, h⟩)

theorem s_J5_appendI1 {γ : Gm} {v : Vs} {q cnt : Nat} {ml : Int32} {f : Nat → Int32} {w : Nat} (hw : w < 1000000000) (h1 : 16 < cnt + sb_dg w) (h2 : cnt + sb_dg w < 35) : Ev γ mJ5_append_c97b9 yJ5_append_c97b9 4 1 34 [.ref (gz γ + 307), .int (nI w)] (Bq γ v q 16 cnt ml f) (fun r H => r = some (.ref (gz γ + 307)) ∧ ∃ q' f', Bq γ v q' 34 (cnt + sb_dg w) ml f' H) := by
  refine Ev.ofJ (by decide) rfl (fun h => by cases h) (Nat.le_of_ble_eq_true rfl) ?_
  refine J.aload_n (μ := mJ5_append_c97b9) (pc := 0) dJ5_append_c97b9_0 rfl ?_
  refine J.bN (μ := mJ5_append_c97b9) (pc := 1) rfl wf_J5_79 dJ5_append_c97b9_1 ?_
  refine J.istore_n (μ := mJ5_append_c97b9) (pc := 4) dJ5_append_c97b9_4 (Nat.le_of_ble_eq_true rfl) rfl ?_
  refine J.iload_n (μ := mJ5_append_c97b9) (pc := 5) dJ5_append_c97b9_5 rfl ?_
  refine J.iload_n (μ := mJ5_append_c97b9) (pc := 6) dJ5_append_c97b9_6 rfl ?_
  refine J.cS (μ := mJ5_append_c97b9) (pc := 7) (s_J6_stringSize hw) rfl wm_J5_245 mi_J6_stringSize_0f7a4 rfl dJ5_append_c97b9_7 rfl rfl ⟨(Nat.le_of_ble_eq_true rfl), (Nat.le_of_ble_eq_true rfl)⟩ ⟨(Nat.le_of_ble_eq_true rfl), (Nat.le_of_ble_eq_true rfl)⟩ (Nat.le_of_ble_eq_true rfl) ?_
  refine J.iadd (μ := mJ5_append_c97b9) (pc := 10) dJ5_append_c97b9_10 ?_
  rw [nI_add]
  refine J.istore_n (μ := mJ5_append_c97b9) (pc := 11) dJ5_append_c97b9_11 (Nat.le_of_ble_eq_true rfl) rfl ?_
  refine J.aload_n (μ := mJ5_append_c97b9) (pc := 12) dJ5_append_c97b9_12 rfl ?_
  refine J.iload_n (μ := mJ5_append_c97b9) (pc := 13) dJ5_append_c97b9_13 rfl ?_
  refine J.callU (μ := mJ5_append_c97b9) (pc := 14) (s_J5_ensure1 (m := cnt + sb_dg w) h1 h2) rfl wm_J5_100 mu_ens (sel_p rfl ⟨by decide, by decide⟩ wi_J5_ensureCapacityInternal_d00df pv_ens) rfl dJ5_append_c97b9_14 bq_isa rfl rfl ⟨(Nat.le_of_ble_eq_true rfl), (Nat.le_of_ble_eq_true rfl)⟩ ⟨(Nat.le_of_ble_eq_true rfl), (Nat.le_of_ble_eq_true rfl)⟩ (Nat.le_of_ble_eq_true rfl) (fun w => J.and fun e => J.ex fun q2 => J.ex fun f2 => ?_)
  subst e
  refine J.aload_n (μ := mJ5_append_c97b9) (pc := 17) dJ5_append_c97b9_17 rfl ?_
  refine J.callU (μ := mJ5_append_c97b9) (pc := 18) s_J5_isLatin1 rfl wm_J5_83 mu_isl (sel_w se_isl) rfl dJ5_append_c97b9_18 bq_isa rfl rfl ⟨(Nat.le_of_ble_eq_true rfl), (Nat.le_of_ble_eq_true rfl)⟩ ⟨(Nat.le_of_ble_eq_true rfl), (Nat.le_of_ble_eq_true rfl)⟩ (Nat.le_of_ble_eq_true rfl) (fun w => J.and fun e => ?_)
  subst e
  refine J.if_eq (μ := mJ5_append_c97b9) (pc := 21) 37 dJ5_append_c97b9_21 (by decide) (fun h => absurd h (by decide)) (fun _ => ?_)
  refine J.iload_n (μ := mJ5_append_c97b9) (pc := 24) dJ5_append_c97b9_24 rfl ?_
  refine J.iload_n (μ := mJ5_append_c97b9) (pc := 25) dJ5_append_c97b9_25 rfl ?_
  refine J.aload_n (μ := mJ5_append_c97b9) (pc := 26) dJ5_append_c97b9_26 rfl ?_
  refine J.bV (μ := mJ5_append_c97b9) (pc := 27) rfl wf_J5_15 dJ5_append_c97b9_27 ?_
  refine J.callS (μ := mJ5_append_c97b9) (pc := 30) (s_J6_getChars (cap := 34) (by decide) (w := w) (p := cnt + sb_dg w) (by omega) (Nat.le_add_left _ _) (by omega)) rfl wm_J5_248 mi_J6_getChars_ba4f3 rfl dJ5_append_c97b9_30 rfl rfl ⟨(Nat.le_of_ble_eq_true rfl), (Nat.le_of_ble_eq_true rfl)⟩ ⟨(Nat.le_of_ble_eq_true rfl), (Nat.le_of_ble_eq_true rfl)⟩ (Nat.le_of_ble_eq_true rfl) (fun w => J.ex fun y => J.ex fun f9 => J.and fun e => ?_)
  subst e
  refine J.pop (μ := mJ5_append_c97b9) (pc := 33) dJ5_append_c97b9_33 rfl ?_
  refine J.goto (μ := mJ5_append_c97b9) (pc := 34) 48 dJ5_append_c97b9_34 (by decide) ?_
  refine J.aload_n (μ := mJ5_append_c97b9) (pc := 48) dJ5_append_c97b9_48 rfl ?_
  refine J.iload_n (μ := mJ5_append_c97b9) (pc := 49) dJ5_append_c97b9_49 rfl ?_
  refine J.bpN (μ := mJ5_append_c97b9) (pc := 50) rfl wf_J5_79 dJ5_append_c97b9_50 ?_
  refine J.aload_n (μ := mJ5_append_c97b9) (pc := 53) dJ5_append_c97b9_53 rfl ?_
  exact J.aretO (μ := mJ5_append_c97b9) (pc := 54) dJ5_append_c97b9_54 rfl (.inl ⟨_, rfl⟩) (Nat.le_of_ble_eq_true rfl) (Nat.le_of_ble_eq_true rfl) (fun H h => ⟨rfl, _, f9, h⟩)

theorem s_J4_append_bf812 {γ : Gm} {v : Vs} {w : Nat} (hw : w < 1000000000) : Ap γ v mJ4_append_bf812 yJ4_append_bf812 5 [.ref (gz γ + 307), .int (nI w)] (some (.ref (gz γ + 307))) (sb_dg w) := by
  refine Ap.of (fun q cap cnt ml f h1 h2 => ?_) (fun q cnt ml f h0 h1 h2 => ?_)
  · refine Ev.ofJ (by decide) rfl (fun h => by cases h) (Nat.le_of_ble_eq_true rfl) ?_
    refine J.aload_n (μ := mJ4_append_bf812) (pc := 0) dJ4_append_bf812_0 rfl ?_
    refine J.iload_n (μ := mJ4_append_bf812) (pc := 1) dJ4_append_bf812_1 rfl ?_
    refine J.callSU (μ := mJ4_append_bf812) (pc := 2) (s_J5_appendI0 hw h1 h2) rfl wm_J4_53 mu_api sup_sb (by decide) rfl dJ4_append_bf812_2 (C := sbC) (fun H h => ⟨1, _, _, h.2.1, rfl, rfl⟩) rfl rfl ⟨(Nat.le_of_ble_eq_true rfl), (Nat.le_of_ble_eq_true rfl)⟩ ⟨(Nat.le_of_ble_eq_true rfl), (Nat.le_of_ble_eq_true rfl)⟩ (Nat.le_of_ble_eq_true rfl) (fun w => J.and fun e => J.ex fun q' => J.ex fun f' => ?_)
    subst e
    refine J.pop (μ := mJ4_append_bf812) (pc := 5) dJ4_append_bf812_5 rfl ?_
    refine J.aload_n (μ := mJ4_append_bf812) (pc := 6) dJ4_append_bf812_6 rfl ?_
    exact J.aretO (μ := mJ4_append_bf812) (pc := 7) dJ4_append_bf812_7 rfl (.inl ⟨_, rfl⟩) (Nat.le_of_ble_eq_true rfl) (Nat.le_of_ble_eq_true rfl) (fun H h => ⟨rfl, q', f', h⟩)
  · refine Ev.ofJ (by decide) rfl (fun h => by cases h) (Nat.le_of_ble_eq_true rfl) ?_
    refine J.aload_n (μ := mJ4_append_bf812) (pc := 0) dJ4_append_bf812_0 rfl ?_
    refine J.iload_n (μ := mJ4_append_bf812) (pc := 1) dJ4_append_bf812_1 rfl ?_
    refine J.callSU (μ := mJ4_append_bf812) (pc := 2) (s_J5_appendI1 hw h1 h2) rfl wm_J4_53 mu_api sup_sb (by decide) rfl dJ4_append_bf812_2 (C := sbC) (fun H h => ⟨1, _, _, h.2.1, rfl, rfl⟩) rfl rfl ⟨(Nat.le_of_ble_eq_true rfl), (Nat.le_of_ble_eq_true rfl)⟩ ⟨(Nat.le_of_ble_eq_true rfl), (Nat.le_of_ble_eq_true rfl)⟩ (Nat.le_of_ble_eq_true rfl) (fun w => J.and fun e => J.ex fun q' => J.ex fun f' => ?_)
    subst e
    refine J.pop (μ := mJ4_append_bf812) (pc := 5) dJ4_append_bf812_5 rfl ?_
    refine J.aload_n (μ := mJ4_append_bf812) (pc := 6) dJ4_append_bf812_6 rfl ?_
    exact J.aretO (μ := mJ4_append_bf812) (pc := 7) dJ4_append_bf812_7 rfl (.inl ⟨_, rfl⟩) (Nat.le_of_ble_eq_true rfl) (Nat.le_of_ble_eq_true rfl) (fun H h => ⟨rfl, q', f', h⟩)

theorem s_J4_append_cf468 {γ : Gm} {v : Vs} {c : Nat} (hc : c < 128) : Ap γ v mJ4_append_cf468 yJ4_append_cf468 5 [.ref (gz γ + 307), .int (nI c)] (some (.ref (gz γ + 307))) (1) := by
  refine Ap.of (fun q cap cnt ml f h1 h2 => ?_) (fun q cnt ml f h0 h1 h2 => ?_)
  · refine Ev.ofJ (by decide) rfl (fun h => by cases h) (Nat.le_of_ble_eq_true rfl) ?_
    refine J.aload_n (μ := mJ4_append_cf468) (pc := 0) dJ4_append_cf468_0 rfl ?_
    refine J.iload_n (μ := mJ4_append_cf468) (pc := 1) dJ4_append_cf468_1 rfl ?_
    refine J.callSU (μ := mJ4_append_cf468) (pc := 2) (s_J5_appendC0 hc h2 h1) rfl wm_J4_50 mu_apc sup_sb (by decide) rfl dJ4_append_cf468_2 (C := sbC) (fun H h => ⟨1, _, _, h.2.1, rfl, rfl⟩) rfl rfl ⟨(Nat.le_of_ble_eq_true rfl), (Nat.le_of_ble_eq_true rfl)⟩ ⟨(Nat.le_of_ble_eq_true rfl), (Nat.le_of_ble_eq_true rfl)⟩ (Nat.le_of_ble_eq_true rfl) (fun w => J.and fun e => J.ex fun q' => J.ex fun f' => ?_)
    subst e
    refine J.pop (μ := mJ4_append_cf468) (pc := 5) dJ4_append_cf468_5 rfl ?_
    refine J.aload_n (μ := mJ4_append_cf468) (pc := 6) dJ4_append_cf468_6 rfl ?_
    exact J.aretO (μ := mJ4_append_cf468) (pc := 7) dJ4_append_cf468_7 rfl (.inl ⟨_, rfl⟩) (Nat.le_of_ble_eq_true rfl) (Nat.le_of_ble_eq_true rfl) (fun H h => ⟨rfl, q', f', h⟩)
  · have e16 : cnt = 16 := (by omega)
    subst e16
    refine Ev.ofJ (by decide) rfl (fun h => by cases h) (Nat.le_of_ble_eq_true rfl) ?_
    refine J.aload_n (μ := mJ4_append_cf468) (pc := 0) dJ4_append_cf468_0 rfl ?_
    refine J.iload_n (μ := mJ4_append_cf468) (pc := 1) dJ4_append_cf468_1 rfl ?_
    refine J.callSU (μ := mJ4_append_cf468) (pc := 2) (s_J5_appendC1 hc) rfl wm_J4_50 mu_apc sup_sb (by decide) rfl dJ4_append_cf468_2 (C := sbC) (fun H h => ⟨1, _, _, h.2.1, rfl, rfl⟩) rfl rfl ⟨(Nat.le_of_ble_eq_true rfl), (Nat.le_of_ble_eq_true rfl)⟩ ⟨(Nat.le_of_ble_eq_true rfl), (Nat.le_of_ble_eq_true rfl)⟩ (Nat.le_of_ble_eq_true rfl) (fun w => J.and fun e => J.ex fun q' => J.ex fun f' => ?_)
    subst e
    refine J.pop (μ := mJ4_append_cf468) (pc := 5) dJ4_append_cf468_5 rfl ?_
    refine J.aload_n (μ := mJ4_append_cf468) (pc := 6) dJ4_append_cf468_6 rfl ?_
    exact J.aretO (μ := mJ4_append_cf468) (pc := 7) dJ4_append_cf468_7 rfl (.inl ⟨_, rfl⟩) (Nat.le_of_ble_eq_true rfl) (Nat.le_of_ble_eq_true rfl) (fun H h => ⟨rfl, q', f', h⟩)

theorem s_J5_setLength {γ : Gm} {v : Vs} {q cap cnt : Nat} {ml : Int32} {f : Nat → Int32} (hcap : cap < 60) (hcn : cnt ≤ cap) : Ev γ mJ5_setLength_d00df yJ5_setLength_d00df 4 0 0 [.ref (gz γ + 307), .int 0] (Bq γ v q cap cnt ml f) (fun w H => w = none ∧ ∃ ml', Bq γ v q cap 0 ml' f H) := by
  refine Ev.ofJ (by decide) rfl (fun h => by cases h) (Nat.le_of_ble_eq_true rfl) ?_
  refine J.iload_n (μ := mJ5_setLength_d00df) (pc := 0) dJ5_setLength_d00df_0 rfl ?_
  refine J.if_ge (μ := mJ5_setLength_d00df) (pc := 1) 13 dJ5_setLength_d00df_1 (by decide) (fun h1 => ?_) (fun h1 => ?_)
  · refine J.aload_n (μ := mJ5_setLength_d00df) (pc := 13) dJ5_setLength_d00df_13 rfl ?_
    refine J.iload_n (μ := mJ5_setLength_d00df) (pc := 14) dJ5_setLength_d00df_14 rfl ?_
    refine J.callU (μ := mJ5_setLength_d00df) (pc := 15) (s_J5_ensure0 (m := 0) (Nat.zero_le _) hcap) rfl wm_J5_100 mu_ens (sel_p rfl ⟨by decide, by decide⟩ wi_J5_ensureCapacityInternal_d00df pv_ens) rfl dJ5_setLength_d00df_15 bq_isa rfl rfl ⟨(Nat.le_of_ble_eq_true rfl), (Nat.le_of_ble_eq_true rfl)⟩ ⟨(Nat.le_of_ble_eq_true rfl), (Nat.le_of_ble_eq_true rfl)⟩ (Nat.le_of_ble_eq_true rfl) (fun w => J.and fun e => ?_)
    subst e
    refine J.aload_n (μ := mJ5_setLength_d00df) (pc := 18) dJ5_setLength_d00df_18 rfl ?_
    refine J.bN (μ := mJ5_setLength_d00df) (pc := 19) rfl wf_J5_79 dJ5_setLength_d00df_19 ?_
    refine J.iload_n (μ := mJ5_setLength_d00df) (pc := 22) dJ5_setLength_d00df_22 rfl ?_
    refine J.icmp_ge (μ := mJ5_setLength_d00df) (pc := 23) 63 dJ5_setLength_d00df_23 (by decide) (fun h2 => ?_) (fun h2 => ?_)
    · refine J.aload_n (μ := mJ5_setLength_d00df) (pc := 63) dJ5_setLength_d00df_63 rfl ?_
      refine J.bN (μ := mJ5_setLength_d00df) (pc := 64) rfl wf_J5_79 dJ5_setLength_d00df_64 ?_
      refine J.iload_n (μ := mJ5_setLength_d00df) (pc := 67) dJ5_setLength_d00df_67 rfl ?_
      refine J.icmp_le (μ := mJ5_setLength_d00df) (pc := 68) 76 dJ5_setLength_d00df_68 (by decide) (fun h3 => ?_) (fun h3 => ?_)
      · refine J.aload_n (μ := mJ5_setLength_d00df) (pc := 76) dJ5_setLength_d00df_76 rfl ?_
        refine J.iload_n (μ := mJ5_setLength_d00df) (pc := 77) dJ5_setLength_d00df_77 rfl ?_
        refine J.bpN (c' := 0) (μ := mJ5_setLength_d00df) (pc := 78) rfl wf_J5_79 dJ5_setLength_d00df_78 ?_
        exact J.vret (μ := mJ5_setLength_d00df) (pc := 81) dJ5_setLength_d00df_81 rfl (Nat.le_of_ble_eq_true rfl) (Nat.le_of_ble_eq_true rfl) (fun H h => ⟨rfl, ml, h⟩)
      · refine J.aload_n (μ := mJ5_setLength_d00df) (pc := 71) dJ5_setLength_d00df_71 rfl ?_
        refine J.iconst (μ := mJ5_setLength_d00df) (pc := 72) (v := 1) dJ5_setLength_d00df_72 (by decide) ?_
        refine J.bpM (μ := mJ5_setLength_d00df) (pc := 73) rfl wf_J5_73 dJ5_setLength_d00df_73 ?_
        refine J.aload_n (μ := mJ5_setLength_d00df) (pc := 76) dJ5_setLength_d00df_76 rfl ?_
        refine J.iload_n (μ := mJ5_setLength_d00df) (pc := 77) dJ5_setLength_d00df_77 rfl ?_
        refine J.bpN (c' := 0) (μ := mJ5_setLength_d00df) (pc := 78) rfl wf_J5_79 dJ5_setLength_d00df_78 ?_
        exact J.vret (μ := mJ5_setLength_d00df) (pc := 81) dJ5_setLength_d00df_81 rfl (Nat.le_of_ble_eq_true rfl) (Nat.le_of_ble_eq_true rfl) (fun H h => ⟨rfl, 1, h⟩)
    · exact absurd h2 (nI_pos (by omega))
  · exact absurd h1 (by decide)
theorem s_J4_setLength {γ : Gm} {v : Vs} {q cap cnt : Nat} {ml : Int32} {f : Nat → Int32} (hcap : cap < 60) (hcn : cnt ≤ cap) : Ev γ mJ4_setLength_d00df yJ4_setLength_d00df 5 0 0 [.ref (gz γ + 307), .int 0] (Bq γ v q cap cnt ml f) (fun w H => w = none ∧ ∃ ml', Bq γ v q cap 0 ml' f H) := by
  refine Ev.ofJ (by decide) rfl (fun h => by cases h) (Nat.le_of_ble_eq_true rfl) ?_
  refine J.aload_n (μ := mJ4_setLength_d00df) (pc := 0) dJ4_setLength_d00df_0 rfl ?_
  refine J.iload_n (μ := mJ4_setLength_d00df) (pc := 1) dJ4_setLength_d00df_1 rfl ?_
  refine J.callSU (μ := mJ4_setLength_d00df) (pc := 2) (s_J5_setLength hcap hcn) rfl wm_J4_333 mu_set sup_sb (by decide) rfl dJ4_setLength_d00df_2 (C := sbC) (fun H h => ⟨1, _, _, h.2.1, rfl, rfl⟩) rfl rfl ⟨(Nat.le_of_ble_eq_true rfl), (Nat.le_of_ble_eq_true rfl)⟩ ⟨(Nat.le_of_ble_eq_true rfl), (Nat.le_of_ble_eq_true rfl)⟩ (Nat.le_of_ble_eq_true rfl) (fun w => J.and fun e => ?_)
  subst e
  exact J.vret (μ := mJ4_setLength_d00df) (pc := 5) dJ4_setLength_d00df_5 rfl (Nat.le_of_ble_eq_true rfl) (Nat.le_of_ble_eq_true rfl) (fun H h => ⟨rfl, h⟩)
theorem s_J5_length {γ : Gm} {v : Vs} {q cap cnt : Nat} {ml : Int32} {f : Nat → Int32} : Ep γ mJ5_length_8abf5 yJ5_length_8abf5 0 [.ref (gz γ + 307)] (Bq γ v q cap cnt ml f) (some (.int (nI cnt))) := by
  refine Ev.ofJ (by decide) rfl (fun h => by cases h) (Nat.le_of_ble_eq_true rfl) ?_
  refine J.aload_n (μ := mJ5_length_8abf5) (pc := 0) dJ5_length_8abf5_0 rfl ?_
  refine J.bN (μ := mJ5_length_8abf5) (pc := 1) rfl wf_J5_79 dJ5_length_8abf5_1 ?_
  exact J.iret (μ := mJ5_length_8abf5) (pc := 4) dJ5_length_8abf5_4 rfl (Nat.le_of_ble_eq_true rfl) (Nat.le_of_ble_eq_true rfl) (fun H h => ⟨rfl, h⟩)
theorem s_J4_length {γ : Gm} {v : Vs} {q cap cnt : Nat} {ml : Int32} {f : Nat → Int32} : Ep γ mJ4_length_8abf5 yJ4_length_8abf5 1 [.ref (gz γ + 307)] (Bq γ v q cap cnt ml f) (some (.int (nI cnt))) := by
  refine Ev.ofJ (by decide) rfl (fun h => by cases h) (Nat.le_of_ble_eq_true rfl) ?_
  refine J.aload_n (μ := mJ4_length_8abf5) (pc := 0) dJ4_length_8abf5_0 rfl ?_
  refine J.callSU (μ := mJ4_length_8abf5) (pc := 1) s_J5_length rfl wm_J4_343 mu_len sup_sb (by decide) rfl dJ4_length_8abf5_1 (C := sbC) (fun H h => ⟨1, _, _, h.2.1, rfl, rfl⟩) rfl rfl ⟨(Nat.le_of_ble_eq_true rfl), (Nat.le_of_ble_eq_true rfl)⟩ ⟨(Nat.le_of_ble_eq_true rfl), (Nat.le_of_ble_eq_true rfl)⟩ (Nat.le_of_ble_eq_true rfl) (fun w => J.and fun e => ?_)
  subst e
  exact J.iret (μ := mJ4_length_8abf5) (pc := 4) dJ4_length_8abf5_4 rfl (Nat.le_of_ble_eq_true rfl) (Nat.le_of_ble_eq_true rfl) (fun H h => ⟨rfl, h⟩)
