/-! the line of a lot -/
theorem J.grB {γ : Gm} {μ : Mu} {R : Room} {Q : Fin_} {k n pc : Nat} {L : List (Option Value)} {rest : List Value} {v : Vs} {P : Heap → Prop} {own : String} {index : Nat} (hP : ∀ H, P H → Rc γ v H) (hown : μ.1 = own) (w : Cond.fieldLink own index "PromiseDepot" "line" "Ljava/lang/StringBuilder;" ∈ WSA) (d : decode μ.2.1 pc = .ok (.getfield index, 3)) (kk : J γ μ R Q k n (pc + 3) L (.ref (gz γ + 307) :: rest) P) : J γ μ R Q k n pc L (.ref (gz γ + 0) :: rest) P :=
  J.grP (T := TX11) (ci := 14) (fks := _) hP hown rfl in_X11 8 (by decide) w d sh0 rfl kk
/-- the letters that tell a place, a parent -/
def plLen (x : Int32) : Nat := if x = -2 then 1 else if x = -1 then 1 else 1 + sb_dg x.toNatClampNeg
def paLen (x : Int32) : Nat := if x = -1 then 0 else 1 + sb_dg x.toNatClampNeg

theorem s_X11_appendParent {γ : Gm} {v : Vs} {x : Int32} (hx : x = -1 ∨ ∃ p, p < 1000000000 ∧ x = nI p) : Ap γ v mX11_appendParent yX11_appendParent 6 [.ref (gz γ + 0), .int x] none (paLen x) := by
  intro q c0 cnt ml f hc0 hcn hl
  refine Ev.ofJ (by decide) rfl (fun h => by cases h) (Nat.le_of_ble_eq_true rfl) ?_
  have e0 : gcap c0 cnt = c0 := if_pos hcn
  have e1 : gk c0 cnt = 0 := if_pos hcn
  have K0 : J γ mX11_appendParent (rmD 6 (gk c0 (cnt + paLen x)) (34 * gk c0 (cnt + paLen x))) (fEv γ (gk c0 (cnt + paLen x)) (34 * gk c0 (cnt + paLen x)) (fun w H => w = none ∧ ∃ q' f', Bq γ v q' (gcap c0 (cnt + paLen x)) (cnt + paLen x) ml f' H)) (gk c0 cnt) (34 * gk c0 cnt) 0 (startL [.ref (gz γ + 0), .int x] 2) [] (Bq γ v q (gcap c0 cnt) cnt ml f) := by
    refine J.iload_n (μ := mX11_appendParent) (pc := 0) dX11_appendParent_0 rfl ?_
    refine J.iconst (μ := mX11_appendParent) (pc := 1) (v := -1) dX11_appendParent_1 (by decide) ?_
    refine J.icmp_eq (μ := mX11_appendParent) (pc := 2) 19 dX11_appendParent_2 (by decide) (fun h1 => ?_) (fun h1 => ?_)
    · have e : paLen x = 0 := if_pos h1
      rw [e, Nat.add_zero]
      exact J.vret (μ := mX11_appendParent) (pc := 19) dX11_appendParent_19 rfl (Nat.le_refl _) (Nat.le_refl _) (fun H h => ⟨rfl, q, f, h⟩)
    · obtain ⟨p, hp, rfl⟩ := hx.resolve_left h1
      have e : paLen (nI p) = 1 + sb_dg p := by unfold paLen; rw [if_neg h1, nI_clamp (by omega)]
      rw [e] at hl ⊢
      refine J.aload_n (μ := mX11_appendParent) (pc := 5) dX11_appendParent_5 rfl ?_
      refine J.grB (μ := mX11_appendParent) (pc := 6) (fun H h => h.1) rfl wf_X11_60 dX11_appendParent_6 ?_
      refine J.bipush (μ := mX11_appendParent) (pc := 9) (v := 60) dX11_appendParent_9 (by decide) ?_
      refine J.app (μ := mX11_appendParent) (pc := 11) (s_J4_append_cf468 (c := 60) (by decide)) hc0 (by omega) rfl wm_X11_282 mi_J4_append_cf468 rfl dX11_appendParent_11 (fun _ _ _ _ _ => bq_isa) rfl rfl ⟨(Nat.le_of_ble_eq_true rfl), (Nat.le_of_ble_eq_true rfl)⟩ ⟨Nat.le_trans (gk_mono (by omega)) (Nat.le_refl _), Nat.mul_le_mul_left 34 (gk_mono (by omega))⟩ (Nat.le_of_ble_eq_true rfl) (fun q f => ?_)
      refine J.iload_n (μ := mX11_appendParent) (pc := 14) dX11_appendParent_14 rfl ?_
      refine J.app (μ := mX11_appendParent) (pc := 15) (s_J4_append_bf812 hp) hc0 (by omega) rfl wm_X11_279 mi_J4_append_bf812 rfl dX11_appendParent_15 (fun _ _ _ _ _ => bq_isa) rfl rfl ⟨(Nat.le_of_ble_eq_true rfl), (Nat.le_of_ble_eq_true rfl)⟩ ⟨Nat.le_trans (gk_mono (by omega)) (Nat.le_refl _), Nat.mul_le_mul_left 34 (gk_mono (by omega))⟩ (Nat.le_of_ble_eq_true rfl) (fun q f => ?_)
      refine J.pop (μ := mX11_appendParent) (pc := 18) dX11_appendParent_18 rfl ?_
      rw [show cnt + 1 + sb_dg p = cnt + (1 + sb_dg p) by omega]
      exact J.vret (μ := mX11_appendParent) (pc := 19) dX11_appendParent_19 rfl (Nat.le_refl _) (Nat.le_refl _) (fun H h => ⟨rfl, q, f, h⟩)
  rw [e0, e1] at K0
  exact K0

theorem s_X11_appendPlace {γ : Gm} {v : Vs} {x : Int32} (hx : x = -2 ∨ x = -1 ∨ ∃ p, p < 1000000000 ∧ x = nI p) : Ap γ v mX11_appendPlace yX11_appendPlace 6 [.ref (gz γ + 0), .int x] none (plLen x) := by
  intro q c0 cnt ml f hc0 hcn hl
  refine Ev.ofJ (by decide) rfl (fun h => by cases h) (Nat.le_of_ble_eq_true rfl) ?_
  have e0 : gcap c0 cnt = c0 := if_pos hcn
  have e1 : gk c0 cnt = 0 := if_pos hcn
  have K0 : J γ mX11_appendPlace (rmD 6 (gk c0 (cnt + plLen x)) (34 * gk c0 (cnt + plLen x))) (fEv γ (gk c0 (cnt + plLen x)) (34 * gk c0 (cnt + plLen x)) (fun w H => w = none ∧ ∃ q' f', Bq γ v q' (gcap c0 (cnt + plLen x)) (cnt + plLen x) ml f' H)) (gk c0 cnt) (34 * gk c0 cnt) 0 (startL [.ref (gz γ + 0), .int x] 2) [] (Bq γ v q (gcap c0 cnt) cnt ml f) := by
    refine J.iload_n (μ := mX11_appendPlace) (pc := 0) dX11_appendPlace_0 rfl ?_
    refine J.bipush (μ := mX11_appendPlace) (pc := 1) (v := -2) dX11_appendPlace_1 (by decide) ?_
    refine J.icmp_ne (μ := mX11_appendPlace) (pc := 3) 19 dX11_appendPlace_3 (by decide) (fun h1 => ?_) (fun h1 => ?_)
    · refine J.iload_n (μ := mX11_appendPlace) (pc := 19) dX11_appendPlace_19 rfl ?_
      refine J.iconst (μ := mX11_appendPlace) (pc := 20) (v := -1) dX11_appendPlace_20 (by decide) ?_
      refine J.icmp_ne (μ := mX11_appendPlace) (pc := 21) 37 dX11_appendPlace_21 (by decide) (fun h2 => ?_) (fun h2 => ?_)
      · obtain ⟨p, hp, rfl⟩ := (hx.resolve_left h1).resolve_left h2
        have e : plLen (nI p) = 1 + sb_dg p := by unfold plLen; rw [if_neg h1, if_neg h2, nI_clamp (by omega)]
        rw [e] at hl ⊢
        refine J.aload_n (μ := mX11_appendPlace) (pc := 37) dX11_appendPlace_37 rfl ?_
        refine J.grB (μ := mX11_appendPlace) (pc := 38) (fun H h => h.1) rfl wf_X11_60 dX11_appendPlace_38 ?_
        refine J.bipush (μ := mX11_appendPlace) (pc := 41) (v := 64) dX11_appendPlace_41 (by decide) ?_
        refine J.app (μ := mX11_appendPlace) (pc := 43) (s_J4_append_cf468 (c := 64) (by decide)) hc0 (by omega) rfl wm_X11_282 mi_J4_append_cf468 rfl dX11_appendPlace_43 (fun _ _ _ _ _ => bq_isa) rfl rfl ⟨(Nat.le_of_ble_eq_true rfl), (Nat.le_of_ble_eq_true rfl)⟩ ⟨Nat.le_trans (gk_mono (by omega)) (Nat.le_refl _), Nat.mul_le_mul_left 34 (gk_mono (by omega))⟩ (Nat.le_of_ble_eq_true rfl) (fun q f => ?_)
        refine J.iload_n (μ := mX11_appendPlace) (pc := 46) dX11_appendPlace_46 rfl ?_
        refine J.app (μ := mX11_appendPlace) (pc := 47) (s_J4_append_bf812 hp) hc0 (by omega) rfl wm_X11_279 mi_J4_append_bf812 rfl dX11_appendPlace_47 (fun _ _ _ _ _ => bq_isa) rfl rfl ⟨(Nat.le_of_ble_eq_true rfl), (Nat.le_of_ble_eq_true rfl)⟩ ⟨Nat.le_trans (gk_mono (by omega)) (Nat.le_refl _), Nat.mul_le_mul_left 34 (gk_mono (by omega))⟩ (Nat.le_of_ble_eq_true rfl) (fun q f => ?_)
        rw [show cnt + 1 + sb_dg p = cnt + (1 + sb_dg p) by omega]
        refine J.pop (μ := mX11_appendPlace) (pc := 50) dX11_appendPlace_50 rfl ?_
        exact J.vret (μ := mX11_appendPlace) (pc := 51) dX11_appendPlace_51 rfl (Nat.le_refl _) (Nat.le_refl _) (fun H h => ⟨rfl, q, f, h⟩)
      · have e : plLen x = 1 := by unfold plLen; rw [if_neg h1, if_pos h2]
        rw [e] at hl ⊢
        refine J.aload_n (μ := mX11_appendPlace) (pc := 24) dX11_appendPlace_24 rfl ?_
        refine J.grB (μ := mX11_appendPlace) (pc := 25) (fun H h => h.1) rfl wf_X11_60 dX11_appendPlace_25 ?_
        refine J.bipush (μ := mX11_appendPlace) (pc := 28) (v := 104) dX11_appendPlace_28 (by decide) ?_
        refine J.app (μ := mX11_appendPlace) (pc := 30) (s_J4_append_cf468 (c := 104) (by decide)) hc0 (by omega) rfl wm_X11_282 mi_J4_append_cf468 rfl dX11_appendPlace_30 (fun _ _ _ _ _ => bq_isa) rfl rfl ⟨(Nat.le_of_ble_eq_true rfl), (Nat.le_of_ble_eq_true rfl)⟩ ⟨Nat.le_trans (gk_mono (by omega)) (Nat.le_refl _), Nat.mul_le_mul_left 34 (gk_mono (by omega))⟩ (Nat.le_of_ble_eq_true rfl) (fun q f => ?_)
        refine J.pop (μ := mX11_appendPlace) (pc := 33) dX11_appendPlace_33 rfl ?_
        refine J.goto (μ := mX11_appendPlace) (pc := 34) 51 dX11_appendPlace_34 (by decide) ?_
        exact J.vret (μ := mX11_appendPlace) (pc := 51) dX11_appendPlace_51 rfl (Nat.le_refl _) (Nat.le_refl _) (fun H h => ⟨rfl, q, f, h⟩)
    · have e : plLen x = 1 := if_pos h1
      rw [e] at hl ⊢
      refine J.aload_n (μ := mX11_appendPlace) (pc := 6) dX11_appendPlace_6 rfl ?_
      refine J.grB (μ := mX11_appendPlace) (pc := 7) (fun H h => h.1) rfl wf_X11_60 dX11_appendPlace_7 ?_
      refine J.bipush (μ := mX11_appendPlace) (pc := 10) (v := 45) dX11_appendPlace_10 (by decide) ?_
      refine J.app (μ := mX11_appendPlace) (pc := 12) (s_J4_append_cf468 (c := 45) (by decide)) hc0 (by omega) rfl wm_X11_282 mi_J4_append_cf468 rfl dX11_appendPlace_12 (fun _ _ _ _ _ => bq_isa) rfl rfl ⟨(Nat.le_of_ble_eq_true rfl), (Nat.le_of_ble_eq_true rfl)⟩ ⟨Nat.le_trans (gk_mono (by omega)) (Nat.le_refl _), Nat.mul_le_mul_left 34 (gk_mono (by omega))⟩ (Nat.le_of_ble_eq_true rfl) (fun q f => ?_)
      refine J.pop (μ := mX11_appendPlace) (pc := 15) dX11_appendPlace_15 rfl ?_
      refine J.goto (μ := mX11_appendPlace) (pc := 16) 51 dX11_appendPlace_16 (by decide) ?_
      exact J.vret (μ := mX11_appendPlace) (pc := 51) dX11_appendPlace_51 rfl (Nat.le_refl _) (Nat.le_refl _) (fun H h => ⟨rfl, q, f, h⟩)
  rw [e0, e1] at K0
  exact K0

theorem g_kiP {γ : Gm} {v : Vs} {P : Heap → Prop} (hP : ∀ H, P H → Rc γ v H) {o : Nat} (ho : IsStk o) (x : Int32) : Ep γ mX7_get yX7_get 0 [.ref (gz γ + (o + 9)), .int x] P (some (.int (gKi v o x))) := s_X7_getP hP ho.ki x
theorem g_lzP {γ : Gm} {v : Vs} {P : Heap → Prop} (hP : ∀ H, P H → Rc γ v H) {o : Nat} (ho : IsStk o) (x : Int32) : Ep γ mX7_get yX7_get 0 [.ref (gz γ + (o + 11)), .int x] P (some (.int (gLz v o x))) := s_X7_getP hP ho.lz x
theorem g_voP {γ : Gm} {v : Vs} {P : Heap → Prop} (hP : ∀ H, P H → Rc γ v H) {o : Nat} (ho : IsStk o) (x : Int32) : Ep γ mX7_get yX7_get 0 [.ref (gz γ + (o + 13)), .int x] P (some (.int (gVo v o x))) := s_X7_getP hP ho.vo x
theorem g_epP {γ : Gm} {v : Vs} {P : Heap → Prop} (hP : ∀ H, P H → Rc γ v H) {o : Nat} (ho : IsStk o) (x : Int32) : Ep γ mX7_get yX7_get 0 [.ref (gz γ + (o + 15)), .int x] P (some (.int (gEp v o x))) := s_X7_getP hP ho.ep x
theorem g_plP {γ : Gm} {v : Vs} {P : Heap → Prop} (hP : ∀ H, P H → Rc γ v H) {o : Nat} (ho : IsStk o) (x : Int32) : Ep γ mX7_get yX7_get 0 [.ref (gz γ + (o + 17)), .int x] P (some (.int (gPl v o x))) := s_X7_getP hP ho.pl x
theorem g_p1P {γ : Gm} {v : Vs} {P : Heap → Prop} (hP : ∀ H, P H → Rc γ v H) {o : Nat} (ho : IsStk o) (x : Int32) : Ep γ mX7_get yX7_get 0 [.ref (gz γ + (o + 19)), .int x] P (some (.int (gP1 v o x))) := s_X7_getP hP ho.p1 x
theorem g_p2P {γ : Gm} {v : Vs} {P : Heap → Prop} (hP : ∀ H, P H → Rc γ v H) {o : Nat} (ho : IsStk o) (x : Int32) : Ep γ mX7_get yX7_get 0 [.ref (gz γ + (o + 21)), .int x] P (some (.int (gP2 v o x))) := s_X7_getP hP ho.p2 x
theorem dg10 {w : Nat} (h : w < 10) : sb_dg w = 1 := if_pos h
theorem dg100 {w : Nat} (h : w < 100) : sb_dg w ≤ 2 := by rw [dg_small h]; split <;> omega
theorem dg7 {w : Nat} (h : w < 10000000) : sb_dg w ≤ 7 := by unfold sb_dg; (repeat' split) <;> omega
/-- how long the line of a lot is -/
def lnLen (v : Vs) (a : Nat) : Nat := sb_dg a + 1 + sb_dg (gKi v 1 (nI a)).toNatClampNeg + 1 + sb_dg (gLz v 1 (nI a)).toNatClampNeg + 1 + sb_dg (gVo v 1 (nI a)).toNatClampNeg + 1 + sb_dg (gEp v 1 (nI a)).toNatClampNeg + (if expd v 1 (nI a) then 1 else 0) + plLen (gPl v 1 (nI a)) + paLen (gP1 v 1 (nI a)) + paLen (gP2 v 1 (nI a))

set_option maxHeartbeats 1000000 in
theorem s_X11_writeLot {γ : Gm} {v : Vs} {N : Nat} {a K Z V E : Nat} {pl p1 p2 : Int32} (h : hasL v 1 (nI a)) (ha : a < 100) (hK : gKi v 1 (nI a) = nI K) (hK9 : K < 10) (hZ : gLz v 1 (nI a) = nI Z) (hZ9 : Z < 10) (hV : gVo v 1 (nI a) = nI V) (hV9 : V < 100) (hE : gEp v 1 (nI a) = nI E) (hE9 : E < 10000000) (hpl : gPl v 1 (nI a) = -2 ∨ gPl v 1 (nI a) = -1 ∨ ∃ p, p < 10 ∧ gPl v 1 (nI a) = nI p) (hp1 : gP1 v 1 (nI a) = -1 ∨ ∃ p, p < 100 ∧ gP1 v 1 (nI a) = nI p) (hp2 : gP2 v 1 (nI a) = -1 ∨ ∃ p, p < 100 ∧ gP2 v 1 (nI a) = nI p) : Ev γ mX11_writeLot yX11_writeLot 30 1 34 [.ref (gz γ + 0), .int (nI a)] (Rp γ v) (fun w H => w = some (.int (nI (lnLen v a))) ∧ Rp γ v H) := by
  have b1 := dg100 (w := a) (by omega)
  have b2 := dg10 hK9
  have b3 := dg10 hZ9
  have b4 := dg100 hV9
  have b5 := dg7 hE9
  have b6 : plLen (gPl v 1 (nI a)) ≤ 2 := by
    unfold plLen
    split
    · omega
    · split
      · omega
      · rename_i z1 z2
        obtain ⟨p, hp, e⟩ := (hpl.resolve_left z1).resolve_left z2
        rw [e, nI_clamp (by omega), dg10 hp]
        omega
  have pb : ∀ x : Int32, (x = -1 ∨ ∃ p, p < 100 ∧ x = nI p) → paLen x ≤ 3 := by
    intro x hx
    unfold paLen
    split
    · omega
    · rename_i z1
      obtain ⟨p, hp, e⟩ := hx.resolve_left z1
      rw [e, nI_clamp (by omega)]
      have := dg100 hp
      omega
  have b7 := pb _ hp1
  have b8 := pb _ hp2
  have eK : sb_dg (gKi v 1 (nI a)).toNatClampNeg = sb_dg K := by rw [hK, nI_clamp (by omega)]
  have eZ : sb_dg (gLz v 1 (nI a)).toNatClampNeg = sb_dg Z := by rw [hZ, nI_clamp (by omega)]
  have eV : sb_dg (gVo v 1 (nI a)).toNatClampNeg = sb_dg V := by rw [hV, nI_clamp (by omega)]
  have eE : sb_dg (gEp v 1 (nI a)).toNatClampNeg = sb_dg E := by rw [hE, nI_clamp (by omega)]
  refine Ev.ofJ (by decide) rfl (fun h => by cases h) (Nat.le_of_ble_eq_true rfl) ?_
  refine J.aload_n (μ := mX11_writeLot) (pc := 0) dX11_writeLot_0 rfl ?_
  refine J.iload_n (μ := mX11_writeLot) (pc := 1) dX11_writeLot_1 rfl ?_
  refine J.cV0 (μ := mX11_writeLot) (pc := 2) (s_X11_requireLot0 _ h) rfl wm_X11_143 mi_X11_requireLot rfl dX11_writeLot_2 (Rp.isa (T := TX11) rfl sh0) rfl rfl ⟨(Nat.le_of_ble_eq_true rfl), (Nat.le_of_ble_eq_true rfl)⟩ ⟨(Nat.le_of_ble_eq_true rfl), (Nat.le_of_ble_eq_true rfl)⟩ (Nat.le_of_ble_eq_true rfl) ?_
  refine J.of (P' := fun H => ∃ q cap cnt ml f, ((cap = 16 ∨ cap = 34) ∧ cnt ≤ cap) ∧ Bq γ v q cap cnt ml f H) (fun H h => h.bq) (J.ex fun q => J.ex fun c0 => J.ex fun cnt => J.ex fun ml => J.ex fun f => J.and fun hc => ?_)
  have hc0 := hc.1
  refine J.aload_n (μ := mX11_writeLot) (pc := 5) dX11_writeLot_5 rfl ?_
  refine J.grB (μ := mX11_writeLot) (pc := 6) (fun H h => h.1) rfl wf_X11_60 dX11_writeLot_6 ?_
  refine J.iconst (μ := mX11_writeLot) (pc := 9) (v := 0) dX11_writeLot_9 (by decide) ?_
  refine J.callV (μ := mX11_writeLot) (pc := 10) (s_J4_setLength (by omega) hc.2) rfl wm_X11_276 mi_J4_setLength_d00df rfl dX11_writeLot_10 bq_isa rfl rfl ⟨(Nat.le_of_ble_eq_true rfl), (Nat.le_of_ble_eq_true rfl)⟩ ⟨(Nat.le_of_ble_eq_true rfl), (Nat.le_of_ble_eq_true rfl)⟩ (Nat.le_of_ble_eq_true rfl) (fun w => J.and fun e => J.ex fun ml => ?_)
  subst e
  have g0 : gcap c0 0 = c0 := if_pos (Nat.zero_le _)
  have g1 : gk c0 0 = 0 := if_pos (Nat.zero_le _)
  suffices KK : J γ mX11_writeLot (rmD 30 1 34) (fEv γ 1 34 (fun w H => w = some (.int (nI (lnLen v a))) ∧ Rp γ v H)) (gk c0 0) (34 * gk c0 0) 13 (startL [.ref (gz γ + 0), .int (nI a)] mX11_writeLot.2.2.1) [] (Bq γ v q (gcap c0 0) 0 ml f) by
    rw [g0, g1] at KK
    exact KK
  refine J.aload_n (μ := mX11_writeLot) (pc := 13) dX11_writeLot_13 rfl ?_
  refine J.grB (μ := mX11_writeLot) (pc := 14) (fun H h => h.1) rfl wf_X11_60 dX11_writeLot_14 ?_
  refine J.iload_n (μ := mX11_writeLot) (pc := 17) dX11_writeLot_17 rfl ?_
  refine J.app (μ := mX11_writeLot) (pc := 18) (s_J4_append_bf812 (w := a) (by omega)) hc0 (by omega) rfl wm_X11_279 mi_J4_append_bf812 rfl dX11_writeLot_18 (fun _ _ _ _ _ => bq_isa) rfl rfl ⟨(Nat.le_of_ble_eq_true rfl), (Nat.le_of_ble_eq_true rfl)⟩ ⟨gk_le _ _, Nat.mul_le_mul_left 34 (gk_le _ _)⟩ (Nat.le_of_ble_eq_true rfl) (fun q f => ?_)
  refine J.pop (μ := mX11_writeLot) (pc := 21) dX11_writeLot_21 rfl ?_
  refine J.aload_n (μ := mX11_writeLot) (pc := 22) dX11_writeLot_22 rfl ?_
  refine J.grB (μ := mX11_writeLot) (pc := 23) (fun H h => h.1) rfl wf_X11_60 dX11_writeLot_23 ?_
  refine J.bipush (μ := mX11_writeLot) (pc := 26) (v := 107) dX11_writeLot_26 (by decide) ?_
  refine J.app (μ := mX11_writeLot) (pc := 28) (s_J4_append_cf468 (c := 107) (by decide)) hc0 (by omega) rfl wm_X11_282 mi_J4_append_cf468 rfl dX11_writeLot_28 (fun _ _ _ _ _ => bq_isa) rfl rfl ⟨(Nat.le_of_ble_eq_true rfl), (Nat.le_of_ble_eq_true rfl)⟩ ⟨gk_le _ _, Nat.mul_le_mul_left 34 (gk_le _ _)⟩ (Nat.le_of_ble_eq_true rfl) (fun q f => ?_)
  refine J.aload_n (μ := mX11_writeLot) (pc := 31) dX11_writeLot_31 rfl ?_
  refine J.grP (μ := mX11_writeLot) (pc := 32) (fun H h => h.1) (T := TX11) (ci := 14) (fks := _) rfl rfl in_X11 0 (by decide) wf_X11_10 dX11_writeLot_32 sh0 rfl ?_
  refine J.grP (μ := mX11_writeLot) (pc := 35) (fun H h => h.1) (T := TX9) (ci := 12) (fks := _) rfl rfl in_X9 1 (by decide) wf_X11_109 dX11_writeLot_35 (st1 0 (by decide)) rfl ?_
  refine J.grP (μ := mX11_writeLot) (pc := 38) (fun H h => h.1) (T := TX5) (ci := 8) (fks := _) rfl rfl in_X5 0 (by decide) wf_X11_285 dX11_writeLot_38 (st1 8 (by decide)) rfl ?_
  refine J.iload_n (μ := mX11_writeLot) (pc := 41) dX11_writeLot_41 rfl ?_
  refine J.cV (μ := mX11_writeLot) (pc := 42) (g_kiP (fun H h => h.1) st1 (nI a)) rfl wm_X11_99 mi_X7_get rfl dX11_writeLot_42 (Rc.isa (fun H h => h.1) (T := TX7) rfl (st1 9 (by decide))) rfl rfl ⟨(Nat.le_of_ble_eq_true rfl), (Nat.le_of_ble_eq_true rfl)⟩ ⟨gk_le _ _, Nat.mul_le_mul_left 34 (gk_le _ _)⟩ (Nat.le_of_ble_eq_true rfl) ?_
  rw [hK]
  refine J.app (μ := mX11_writeLot) (pc := 45) (s_J4_append_bf812 (w := K) (by omega)) hc0 (by omega) rfl wm_X11_279 mi_J4_append_bf812 rfl dX11_writeLot_45 (fun _ _ _ _ _ => bq_isa) rfl rfl ⟨(Nat.le_of_ble_eq_true rfl), (Nat.le_of_ble_eq_true rfl)⟩ ⟨gk_le _ _, Nat.mul_le_mul_left 34 (gk_le _ _)⟩ (Nat.le_of_ble_eq_true rfl) (fun q f => ?_)
  refine J.pop (μ := mX11_writeLot) (pc := 48) dX11_writeLot_48 rfl ?_
  refine J.aload_n (μ := mX11_writeLot) (pc := 49) dX11_writeLot_49 rfl ?_
  refine J.grB (μ := mX11_writeLot) (pc := 50) (fun H h => h.1) rfl wf_X11_60 dX11_writeLot_50 ?_
  refine J.bipush (μ := mX11_writeLot) (pc := 53) (v := 122) dX11_writeLot_53 (by decide) ?_
  refine J.app (μ := mX11_writeLot) (pc := 55) (s_J4_append_cf468 (c := 122) (by decide)) hc0 (by omega) rfl wm_X11_282 mi_J4_append_cf468 rfl dX11_writeLot_55 (fun _ _ _ _ _ => bq_isa) rfl rfl ⟨(Nat.le_of_ble_eq_true rfl), (Nat.le_of_ble_eq_true rfl)⟩ ⟨gk_le _ _, Nat.mul_le_mul_left 34 (gk_le _ _)⟩ (Nat.le_of_ble_eq_true rfl) (fun q f => ?_)
  refine J.aload_n (μ := mX11_writeLot) (pc := 58) dX11_writeLot_58 rfl ?_
  refine J.grP (μ := mX11_writeLot) (pc := 59) (fun H h => h.1) (T := TX11) (ci := 14) (fks := _) rfl rfl in_X11 0 (by decide) wf_X11_10 dX11_writeLot_59 sh0 rfl ?_
  refine J.grP (μ := mX11_writeLot) (pc := 62) (fun H h => h.1) (T := TX9) (ci := 12) (fks := _) rfl rfl in_X9 1 (by decide) wf_X11_109 dX11_writeLot_62 (st1 0 (by decide)) rfl ?_
  refine J.grP (μ := mX11_writeLot) (pc := 65) (fun H h => h.1) (T := TX5) (ci := 8) (fks := _) rfl rfl in_X5 1 (by decide) wf_X11_288 dX11_writeLot_65 (st1 8 (by decide)) rfl ?_
  refine J.iload_n (μ := mX11_writeLot) (pc := 68) dX11_writeLot_68 rfl ?_
  refine J.cV (μ := mX11_writeLot) (pc := 69) (g_lzP (fun H h => h.1) st1 (nI a)) rfl wm_X11_99 mi_X7_get rfl dX11_writeLot_69 (Rc.isa (fun H h => h.1) (T := TX7) rfl (st1 11 (by decide))) rfl rfl ⟨(Nat.le_of_ble_eq_true rfl), (Nat.le_of_ble_eq_true rfl)⟩ ⟨gk_le _ _, Nat.mul_le_mul_left 34 (gk_le _ _)⟩ (Nat.le_of_ble_eq_true rfl) ?_
  rw [hZ]
  refine J.app (μ := mX11_writeLot) (pc := 72) (s_J4_append_bf812 (w := Z) (by omega)) hc0 (by omega) rfl wm_X11_279 mi_J4_append_bf812 rfl dX11_writeLot_72 (fun _ _ _ _ _ => bq_isa) rfl rfl ⟨(Nat.le_of_ble_eq_true rfl), (Nat.le_of_ble_eq_true rfl)⟩ ⟨gk_le _ _, Nat.mul_le_mul_left 34 (gk_le _ _)⟩ (Nat.le_of_ble_eq_true rfl) (fun q f => ?_)
  refine J.pop (μ := mX11_writeLot) (pc := 75) dX11_writeLot_75 rfl ?_
  refine J.aload_n (μ := mX11_writeLot) (pc := 76) dX11_writeLot_76 rfl ?_
  refine J.grB (μ := mX11_writeLot) (pc := 77) (fun H h => h.1) rfl wf_X11_60 dX11_writeLot_77 ?_
  refine J.bipush (μ := mX11_writeLot) (pc := 80) (v := 118) dX11_writeLot_80 (by decide) ?_
  refine J.app (μ := mX11_writeLot) (pc := 82) (s_J4_append_cf468 (c := 118) (by decide)) hc0 (by omega) rfl wm_X11_282 mi_J4_append_cf468 rfl dX11_writeLot_82 (fun _ _ _ _ _ => bq_isa) rfl rfl ⟨(Nat.le_of_ble_eq_true rfl), (Nat.le_of_ble_eq_true rfl)⟩ ⟨gk_le _ _, Nat.mul_le_mul_left 34 (gk_le _ _)⟩ (Nat.le_of_ble_eq_true rfl) (fun q f => ?_)
  refine J.aload_n (μ := mX11_writeLot) (pc := 85) dX11_writeLot_85 rfl ?_
  refine J.grP (μ := mX11_writeLot) (pc := 86) (fun H h => h.1) (T := TX11) (ci := 14) (fks := _) rfl rfl in_X11 0 (by decide) wf_X11_10 dX11_writeLot_86 sh0 rfl ?_
  refine J.grP (μ := mX11_writeLot) (pc := 89) (fun H h => h.1) (T := TX9) (ci := 12) (fks := _) rfl rfl in_X9 1 (by decide) wf_X11_109 dX11_writeLot_89 (st1 0 (by decide)) rfl ?_
  refine J.grP (μ := mX11_writeLot) (pc := 92) (fun H h => h.1) (T := TX5) (ci := 8) (fks := _) rfl rfl in_X5 2 (by decide) wf_X11_153 dX11_writeLot_92 (st1 8 (by decide)) rfl ?_
  refine J.iload_n (μ := mX11_writeLot) (pc := 95) dX11_writeLot_95 rfl ?_
  refine J.cV (μ := mX11_writeLot) (pc := 96) (g_voP (fun H h => h.1) st1 (nI a)) rfl wm_X11_99 mi_X7_get rfl dX11_writeLot_96 (Rc.isa (fun H h => h.1) (T := TX7) rfl (st1 13 (by decide))) rfl rfl ⟨(Nat.le_of_ble_eq_true rfl), (Nat.le_of_ble_eq_true rfl)⟩ ⟨gk_le _ _, Nat.mul_le_mul_left 34 (gk_le _ _)⟩ (Nat.le_of_ble_eq_true rfl) ?_
  rw [hV]
  refine J.app (μ := mX11_writeLot) (pc := 99) (s_J4_append_bf812 (w := V) (by omega)) hc0 (by omega) rfl wm_X11_279 mi_J4_append_bf812 rfl dX11_writeLot_99 (fun _ _ _ _ _ => bq_isa) rfl rfl ⟨(Nat.le_of_ble_eq_true rfl), (Nat.le_of_ble_eq_true rfl)⟩ ⟨gk_le _ _, Nat.mul_le_mul_left 34 (gk_le _ _)⟩ (Nat.le_of_ble_eq_true rfl) (fun q f => ?_)
  refine J.pop (μ := mX11_writeLot) (pc := 102) dX11_writeLot_102 rfl ?_
  refine J.aload_n (μ := mX11_writeLot) (pc := 103) dX11_writeLot_103 rfl ?_
  refine J.grB (μ := mX11_writeLot) (pc := 104) (fun H h => h.1) rfl wf_X11_60 dX11_writeLot_104 ?_
  refine J.bipush (μ := mX11_writeLot) (pc := 107) (v := 101) dX11_writeLot_107 (by decide) ?_
  refine J.app (μ := mX11_writeLot) (pc := 109) (s_J4_append_cf468 (c := 101) (by decide)) hc0 (by omega) rfl wm_X11_282 mi_J4_append_cf468 rfl dX11_writeLot_109 (fun _ _ _ _ _ => bq_isa) rfl rfl ⟨(Nat.le_of_ble_eq_true rfl), (Nat.le_of_ble_eq_true rfl)⟩ ⟨gk_le _ _, Nat.mul_le_mul_left 34 (gk_le _ _)⟩ (Nat.le_of_ble_eq_true rfl) (fun q f => ?_)
  refine J.aload_n (μ := mX11_writeLot) (pc := 112) dX11_writeLot_112 rfl ?_
  refine J.grP (μ := mX11_writeLot) (pc := 113) (fun H h => h.1) (T := TX11) (ci := 14) (fks := _) rfl rfl in_X11 0 (by decide) wf_X11_10 dX11_writeLot_113 sh0 rfl ?_
  refine J.grP (μ := mX11_writeLot) (pc := 116) (fun H h => h.1) (T := TX9) (ci := 12) (fks := _) rfl rfl in_X9 1 (by decide) wf_X11_109 dX11_writeLot_116 (st1 0 (by decide)) rfl ?_
  refine J.grP (μ := mX11_writeLot) (pc := 119) (fun H h => h.1) (T := TX5) (ci := 8) (fks := _) rfl rfl in_X5 3 (by decide) wf_X11_156 dX11_writeLot_119 (st1 8 (by decide)) rfl ?_
  refine J.iload_n (μ := mX11_writeLot) (pc := 122) dX11_writeLot_122 rfl ?_
  refine J.cV (μ := mX11_writeLot) (pc := 123) (g_epP (fun H h => h.1) st1 (nI a)) rfl wm_X11_99 mi_X7_get rfl dX11_writeLot_123 (Rc.isa (fun H h => h.1) (T := TX7) rfl (st1 15 (by decide))) rfl rfl ⟨(Nat.le_of_ble_eq_true rfl), (Nat.le_of_ble_eq_true rfl)⟩ ⟨gk_le _ _, Nat.mul_le_mul_left 34 (gk_le _ _)⟩ (Nat.le_of_ble_eq_true rfl) ?_
  rw [hE]
  refine J.app (μ := mX11_writeLot) (pc := 126) (s_J4_append_bf812 (w := E) (by omega)) hc0 (by omega) rfl wm_X11_279 mi_J4_append_bf812 rfl dX11_writeLot_126 (fun _ _ _ _ _ => bq_isa) rfl rfl ⟨(Nat.le_of_ble_eq_true rfl), (Nat.le_of_ble_eq_true rfl)⟩ ⟨gk_le _ _, Nat.mul_le_mul_left 34 (gk_le _ _)⟩ (Nat.le_of_ble_eq_true rfl) (fun q f => ?_)
  refine J.pop (μ := mX11_writeLot) (pc := 129) dX11_writeLot_129 rfl ?_
  refine J.aload_n (μ := mX11_writeLot) (pc := 130) dX11_writeLot_130 rfl ?_
  refine J.grP (μ := mX11_writeLot) (pc := 131) (fun H h => h.1) (T := TX11) (ci := 14) (fks := _) rfl rfl in_X11 0 (by decide) wf_X11_10 dX11_writeLot_131 sh0 rfl ?_
  refine J.iload_n (μ := mX11_writeLot) (pc := 134) dX11_writeLot_134 rfl ?_
  refine J.cV (μ := mX11_writeLot) (pc := 135) (s_X9_hasExpiredP (fun H h => h.1) st1 (nI a)) rfl wm_X11_159 mi_X9_hasExpired rfl dX11_writeLot_135 (Rc.isa (fun H h => h.1) (T := TX9) rfl (st1 0 (by decide))) rfl rfl ⟨(Nat.le_of_ble_eq_true rfl), (Nat.le_of_ble_eq_true rfl)⟩ ⟨gk_le _ _, Nat.mul_le_mul_left 34 (gk_le _ _)⟩ (Nat.le_of_ble_eq_true rfl) ?_
  have rest : ∀ (m : Nat) (q : Nat) (f : Nat → Int32), m = sb_dg a + 1 + sb_dg K + 1 + sb_dg Z + 1 + sb_dg V + 1 + sb_dg E + (if expd v 1 (nI a) then 1 else 0) → J γ mX11_writeLot (rmD 30 1 34) (fEv γ 1 34 (fun w H => w = some (.int (nI (lnLen v a))) ∧ Rp γ v H)) (gk c0 m) (34 * gk c0 m) 151 (startL [.ref (gz γ + 0), .int (nI a)] mX11_writeLot.2.2.1) [] (Bq γ v q (gcap c0 m) m ml f) := by
    intro m q f hm
    have b9 : (if expd v 1 (nI a) then 1 else 0) ≤ 1 := by split <;> omega
    have hm1 : m ≤ 18 := by omega
    have hlen : lnLen v a = m + plLen (gPl v 1 (nI a)) + paLen (gP1 v 1 (nI a)) + paLen (gP2 v 1 (nI a)) := by
      unfold lnLen
      rw [eK, eZ, eV, eE, hm]
    refine J.aload_n (μ := mX11_writeLot) (pc := 151) dX11_writeLot_151 rfl ?_
    refine J.aload_n (μ := mX11_writeLot) (pc := 152) dX11_writeLot_152 rfl ?_
    refine J.grP (μ := mX11_writeLot) (pc := 153) (fun H h => h.1) (T := TX11) (ci := 14) (fks := _) rfl rfl in_X11 0 (by decide) wf_X11_10 dX11_writeLot_153 sh0 rfl ?_
    refine J.grP (μ := mX11_writeLot) (pc := 156) (fun H h => h.1) (T := TX9) (ci := 12) (fks := _) rfl rfl in_X9 1 (by decide) wf_X11_109 dX11_writeLot_156 (st1 0 (by decide)) rfl ?_
    refine J.grP (μ := mX11_writeLot) (pc := 159) (fun H h => h.1) (T := TX5) (ci := 8) (fks := _) rfl rfl in_X5 4 (by decide) wf_X11_150 dX11_writeLot_159 (st1 8 (by decide)) rfl ?_
    refine J.iload_n (μ := mX11_writeLot) (pc := 162) dX11_writeLot_162 rfl ?_
    refine J.cV (μ := mX11_writeLot) (pc := 163) (g_plP (fun H h => h.1) st1 (nI a)) rfl wm_X11_99 mi_X7_get rfl dX11_writeLot_163 (Rc.isa (fun H h => h.1) (T := TX7) rfl (st1 17 (by decide))) rfl rfl ⟨(Nat.le_of_ble_eq_true rfl), (Nat.le_of_ble_eq_true rfl)⟩ ⟨gk_le _ _, Nat.mul_le_mul_left 34 (gk_le _ _)⟩ (Nat.le_of_ble_eq_true rfl) ?_
    refine J.app (μ := mX11_writeLot) (pc := 166) (s_X11_appendPlace (hpl.imp id (fun z => z.imp id (fun ⟨p, hp, e⟩ => ⟨p, by omega, e⟩)))) hc0 (by omega) rfl wm_X11_289 mi_X11_appendPlace rfl dX11_writeLot_166 (fun q cap cnt ml f => Rc.isa (T := TX11) (fun H h => h.1) rfl sh0) rfl rfl ⟨(Nat.le_of_ble_eq_true rfl), (Nat.le_of_ble_eq_true rfl)⟩ ⟨gk_le _ _, Nat.mul_le_mul_left 34 (gk_le _ _)⟩ (Nat.le_of_ble_eq_true rfl) (fun q f => ?_)
    refine J.aload_n (μ := mX11_writeLot) (pc := 169) dX11_writeLot_169 rfl ?_
    refine J.aload_n (μ := mX11_writeLot) (pc := 170) dX11_writeLot_170 rfl ?_
    refine J.grP (μ := mX11_writeLot) (pc := 171) (fun H h => h.1) (T := TX11) (ci := 14) (fks := _) rfl rfl in_X11 0 (by decide) wf_X11_10 dX11_writeLot_171 sh0 rfl ?_
    refine J.grP (μ := mX11_writeLot) (pc := 174) (fun H h => h.1) (T := TX9) (ci := 12) (fks := _) rfl rfl in_X9 1 (by decide) wf_X11_109 dX11_writeLot_174 (st1 0 (by decide)) rfl ?_
    refine J.grP (μ := mX11_writeLot) (pc := 177) (fun H h => h.1) (T := TX5) (ci := 8) (fks := _) rfl rfl in_X5 5 (by decide) wf_X11_292 dX11_writeLot_177 (st1 8 (by decide)) rfl ?_
    refine J.iload_n (μ := mX11_writeLot) (pc := 180) dX11_writeLot_180 rfl ?_
    refine J.cV (μ := mX11_writeLot) (pc := 181) (g_p1P (fun H h => h.1) st1 (nI a)) rfl wm_X11_99 mi_X7_get rfl dX11_writeLot_181 (Rc.isa (fun H h => h.1) (T := TX7) rfl (st1 19 (by decide))) rfl rfl ⟨(Nat.le_of_ble_eq_true rfl), (Nat.le_of_ble_eq_true rfl)⟩ ⟨gk_le _ _, Nat.mul_le_mul_left 34 (gk_le _ _)⟩ (Nat.le_of_ble_eq_true rfl) ?_
    refine J.app (μ := mX11_writeLot) (pc := 184) (s_X11_appendParent (hp1.imp id (fun ⟨p, hp, e⟩ => ⟨p, by omega, e⟩))) hc0 (by omega) rfl wm_X11_295 mi_X11_appendParent rfl dX11_writeLot_184 (fun q cap cnt ml f => Rc.isa (T := TX11) (fun H h => h.1) rfl sh0) rfl rfl ⟨(Nat.le_of_ble_eq_true rfl), (Nat.le_of_ble_eq_true rfl)⟩ ⟨gk_le _ _, Nat.mul_le_mul_left 34 (gk_le _ _)⟩ (Nat.le_of_ble_eq_true rfl) (fun q f => ?_)
    refine J.aload_n (μ := mX11_writeLot) (pc := 187) dX11_writeLot_187 rfl ?_
    refine J.aload_n (μ := mX11_writeLot) (pc := 188) dX11_writeLot_188 rfl ?_
    refine J.grP (μ := mX11_writeLot) (pc := 189) (fun H h => h.1) (T := TX11) (ci := 14) (fks := _) rfl rfl in_X11 0 (by decide) wf_X11_10 dX11_writeLot_189 sh0 rfl ?_
    refine J.grP (μ := mX11_writeLot) (pc := 192) (fun H h => h.1) (T := TX9) (ci := 12) (fks := _) rfl rfl in_X9 1 (by decide) wf_X11_109 dX11_writeLot_192 (st1 0 (by decide)) rfl ?_
    refine J.grP (μ := mX11_writeLot) (pc := 195) (fun H h => h.1) (T := TX5) (ci := 8) (fks := _) rfl rfl in_X5 6 (by decide) wf_X11_298 dX11_writeLot_195 (st1 8 (by decide)) rfl ?_
    refine J.iload_n (μ := mX11_writeLot) (pc := 198) dX11_writeLot_198 rfl ?_
    refine J.cV (μ := mX11_writeLot) (pc := 199) (g_p2P (fun H h => h.1) st1 (nI a)) rfl wm_X11_99 mi_X7_get rfl dX11_writeLot_199 (Rc.isa (fun H h => h.1) (T := TX7) rfl (st1 21 (by decide))) rfl rfl ⟨(Nat.le_of_ble_eq_true rfl), (Nat.le_of_ble_eq_true rfl)⟩ ⟨gk_le _ _, Nat.mul_le_mul_left 34 (gk_le _ _)⟩ (Nat.le_of_ble_eq_true rfl) ?_
    refine J.app (μ := mX11_writeLot) (pc := 202) (s_X11_appendParent (hp2.imp id (fun ⟨p, hp, e⟩ => ⟨p, by omega, e⟩))) hc0 (by omega) rfl wm_X11_295 mi_X11_appendParent rfl dX11_writeLot_202 (fun q cap cnt ml f => Rc.isa (T := TX11) (fun H h => h.1) rfl sh0) rfl rfl ⟨(Nat.le_of_ble_eq_true rfl), (Nat.le_of_ble_eq_true rfl)⟩ ⟨gk_le _ _, Nat.mul_le_mul_left 34 (gk_le _ _)⟩ (Nat.le_of_ble_eq_true rfl) (fun q f => ?_)
    refine J.aload_n (μ := mX11_writeLot) (pc := 205) dX11_writeLot_205 rfl ?_
    refine J.grB (μ := mX11_writeLot) (pc := 206) (fun H h => h.1) rfl wf_X11_60 dX11_writeLot_206 ?_
    refine J.callV (μ := mX11_writeLot) (pc := 209) s_J4_length rfl wm_X11_301 mi_J4_length_8abf5 rfl dX11_writeLot_209 bq_isa rfl rfl ⟨(Nat.le_of_ble_eq_true rfl), (Nat.le_of_ble_eq_true rfl)⟩ ⟨gk_le _ _, Nat.mul_le_mul_left 34 (gk_le _ _)⟩ (Nat.le_of_ble_eq_true rfl) (fun w => J.and fun e => ?_)
    subst e
    rw [← hlen]
    exact J.iret (μ := mX11_writeLot) (pc := 212) dX11_writeLot_212 rfl (gk_le _ _) (Nat.mul_le_mul_left 34 (gk_le _ _)) (fun H h => ⟨rfl, h.rp (gcap_ok hc0) (gcap_ge (by omega))⟩)
  refine J.ifB_eq (μ := mX11_writeLot) (pc := 138) 151 dX11_writeLot_138 (by decide) (fun h1 => ?_) (fun h1 => ?_)
  · exact rest _ q f (by rw [if_neg h1]; omega)
  · refine J.aload_n (μ := mX11_writeLot) (pc := 141) dX11_writeLot_141 rfl ?_
    refine J.grB (μ := mX11_writeLot) (pc := 142) (fun H h => h.1) rfl wf_X11_60 dX11_writeLot_142 ?_
    refine J.bipush (μ := mX11_writeLot) (pc := 145) (v := 33) dX11_writeLot_145 (by decide) ?_
    refine J.app (μ := mX11_writeLot) (pc := 147) (s_J4_append_cf468 (c := 33) (by decide)) hc0 (by omega) rfl wm_X11_282 mi_J4_append_cf468 rfl dX11_writeLot_147 (fun _ _ _ _ _ => bq_isa) rfl rfl ⟨(Nat.le_of_ble_eq_true rfl), (Nat.le_of_ble_eq_true rfl)⟩ ⟨gk_le _ _, Nat.mul_le_mul_left 34 (gk_le _ _)⟩ (Nat.le_of_ble_eq_true rfl) (fun q f => ?_)
    refine J.pop (μ := mX11_writeLot) (pc := 150) dX11_writeLot_150 rfl ?_
    exact rest _ q f (by rw [if_pos h1]; omega)
