/-! the digest -/
theorem J.forK {γ : Gm} {μ : Mu} {R : Room} {Q : Fin_} {hd : Nat} {kf nf : Nat → Nat} {Lf : Nat → List (Option Value)} {Pf : Nat → Heap → Prop} (N : Nat) (hx : J γ μ R Q (kf N) (nf N) hd (Lf N) [] (Pf N)) (hs : ∀ i, i < N → J γ μ R Q (kf (i + 1)) (nf (i + 1)) hd (Lf (i + 1)) [] (Pf (i + 1)) → J γ μ R Q (kf i) (nf i) hd (Lf i) [] (Pf i)) : J γ μ R Q (kf 0) (nf 0) hd (Lf 0) [] (Pf 0) := by
  have key : ∀ m, m ≤ N → J γ μ R Q (kf (N - m)) (nf (N - m)) hd (Lf (N - m)) [] (Pf (N - m)) := by
    intro m
    induction m with
    | zero => intro _; exact hx
    | succ m ih =>
      intro hm
      have h1 := ih (by omega)
      rw [show N - m = N - (m + 1) + 1 by omega] at h1
      exact hs _ (by omega) h1
  have h := key N (Nat.le_refl N)
  rw [Nat.sub_self] at h
  exact h
def pcN (v : Vs) (x : Int32) : Int32 := (if gP1 v 1 x = -1 then 0 else 1) + (if gP2 v 1 x = -1 then 0 else 1)
def dgS (v : Vs) (N : Nat) (h : Int64) : Nat → Int64
  | 0 => h
  | i + 1 => 31 * (31 * (31 * dgS v N h i + (gZn v 1 (nI i)).toInt64) + (roomW v 1 N (nI i) (-1) (-1)).toInt64) + (nz (gCd v 1 (nI i))).toInt64
def dgL (v : Vs) (h : Int64) : Nat → Int64
  | 0 => h
  | i + 1 => 31 * (31 * (31 * (31 * dgL v h i + (gVo v 1 (nI i)).toInt64) + (gEp v 1 (nI i)).toInt64) + (nz (gPl v 1 (nI i))).toInt64) + (nI (lnLen v i)).toInt64 + (pcN v (nI i)).toInt64
def dg0 (v : Vs) : Int64 := 7 * (v 1 3).toInt64 + 11 * (v 1 4).toInt64 + 13 * (v 1 5).toInt64 + 17 * (v 1 6).toInt64 + 19 * (v (1 + 8) 7).toInt64 + (v (1 + 1) 3).toInt64
def dgV (v : Vs) (N M : Nat) : Int64 := dgL v (dgS v N (dg0 v) M) N
theorem dg_sq {v w : Vs} {N M : Nat} (q : Stq v w 1 1) : dgV w N M = dgV v N M := by
  have g3 : ∀ x, gZn w 1 x = gZn v 1 x := fun x => by unfold gZn; rw [q 3 (by decide)]
  have g5 : ∀ x, gCp w 1 x = gCp v 1 x := fun x => by unfold gCp; rw [q 5 (by decide)]
  have g7 : ∀ x, gCd w 1 x = gCd v 1 x := fun x => by unfold gCd; rw [q 7 (by decide)]
  have g10 : ∀ x, gKi w 1 x = gKi v 1 x := fun x => by unfold gKi; rw [q 10 (by decide)]
  have g12 : ∀ x, gLz w 1 x = gLz v 1 x := fun x => by unfold gLz; rw [q 12 (by decide)]
  have g14 : ∀ x, gVo w 1 x = gVo v 1 x := fun x => by unfold gVo; rw [q 14 (by decide)]
  have g16 : ∀ x, gEp w 1 x = gEp v 1 x := fun x => by unfold gEp; rw [q 16 (by decide)]
  have g18 : ∀ x, gPl w 1 x = gPl v 1 x := fun x => by unfold gPl; rw [q 18 (by decide)]
  have g20 : ∀ x, gP1 w 1 x = gP1 v 1 x := fun x => by unfold gP1; rw [q 20 (by decide)]
  have g22 : ∀ x, gP2 w 1 x = gP2 v 1 x := fun x => by unfold gP2; rw [q 22 (by decide)]
  have g0 : w 1 = v 1 := q 0 (by decide)
  have g1 : w (1 + 1) = v (1 + 1) := q 1 (by decide)
  have g8 : w (1 + 8) = v (1 + 8) := q 8 (by decide)
  have hr : ∀ x y z, roomW w 1 N x y z = roomW v 1 N x y z := fun x y z => by
    unfold roomW
    simp only [g5, g14, g18]
  have hS : ∀ h m, dgS w N h m = dgS v N h m := fun h m => by
    induction m with
    | zero => rfl
    | succ m ih => simp only [dgS, g3, g7, hr, ih]
  have hL : ∀ h m, dgL w h m = dgL v h m := fun h m => by
    induction m with
    | zero => rfl
    | succ m ih => simp only [dgL, lnLen, pcN, expd, g0, g10, g12, g14, g16, g18, g20, g22, ih]
  unfold dgV dg0
  rw [hL, hS, g0, g1, g8]
theorem Inv.line {γ : Gm} {T N M H : Nat} {v : Vs} (h : Inv 0 T N M H (iv v 1)) (hT : T ≤ 9000000) {a : Nat} (ha : a < N) : Ev γ mX11_writeLot yX11_writeLot 30 1 34 [.ref (gz γ + 0), .int (nI a)] (Rp γ v) (fun w K => w = some (.int (nI (lnLen v a))) ∧ Rp γ v K) := by
  have h20 := h.1.1.2
  have h8 := h.1.2.1.2
  obtain ⟨k1, k2, k3, k4, k5⟩ := h.lot ha
  have kv := k4.vo
  have o1 : ∀ {x : Int32} {z : Int}, x.toInt = z → 0 ≤ z → x = nI z.toNat := fun h1 h2 => by subst h1; exact t_of h2
  have kp := k4.m8 h8
  have pl : gPl v 1 (nI a) = -2 ∨ gPl v 1 (nI a) = -1 ∨ ∃ p, p < 10 ∧ gPl v 1 (nI a) = nI p := by
    have e : (gPl v 1 (nI a)).toInt = iv v 1 18 a := zPl (by omega)
    by_cases q : iv v 1 18 a = -2
    · exact .inl (by rw [t_eq, e, t_m2]; exact q)
    · by_cases q2 : iv v 1 18 a = -1
      · exact .inr (.inl (by rw [t_eq, e, t_m1]; exact q2))
      · exact .inr (.inr ⟨(iv v 1 18 a).toNat, by omega, o1 e (by omega)⟩)
  have pa : (gP1 v 1 (nI a) = -1 ∨ ∃ p, p < 100 ∧ gP1 v 1 (nI a) = nI p) ∧ (gP2 v 1 (nI a) = -1 ∨ ∃ p, p < 100 ∧ gP2 v 1 (nI a) = nI p) := by
    have e1 : (gP1 v 1 (nI a)).toInt = iv v 1 20 a := zP1 (by omega)
    have e2 : (gP2 v 1 (nI a)).toInt = iv v 1 22 a := zP2 (by omega)
    rcases k5 with ⟨p1, p2⟩ | ⟨p, p1, p2, p3, p4⟩
    · exact ⟨.inl (by rw [t_eq, e1, t_m1]; exact p1), .inl (by rw [t_eq, e2, t_m1]; exact p2)⟩
    · refine ⟨.inr ⟨p, by omega, by rw [t_eq, e1, t_nI (by omega)]; exact p2⟩, ?_⟩
      rcases p4 with p4 | ⟨q, q1, q2, q3, q4⟩
      · exact .inl (by rw [t_eq, e2, t_m1]; exact p4)
      · exact .inr ⟨q, by omega, by rw [t_eq, e2, t_nI (by omega)]; exact q3⟩
  exact s_X11_writeLot (N := N) (pl := 0) (p1 := 0) (p2 := 0) (h.hsL.mpr ⟨a, ha, rfl⟩) (by omega) (o1 (zKi (by omega)) k1.1) (by omega) (o1 (zLz (by omega)) k2.1) (by omega) (o1 (zVo (by omega)) kv.1) (by omega) (o1 (zEp (by omega)) k3.1) (by omega) pl pa.1 pa.2
set_option maxHeartbeats 1000000 in
theorem l_digest {γ : Gm} {T N M H : Nat} {v : Vs} (h : Inv 0 T N M H (iv v 1)) (hT : T ≤ 9000000) : Ev γ mL_digest yL_digest 33 48 848 [.ref (gz γ + 0)] (Rp γ v) (fun w K => w = some (.long (dgV v N M)) ∧ Rp γ v K) := by
  have h20 := h.1.1.2
  have h8 := h.1.2.1.2
  refine Ev.ofJ (by decide) rfl (fun h => by cases h) (Nat.le_of_ble_eq_true rfl) ?_
  refine J.ldc2 (μ := mL_digest) (pc := 0) rfl wo_L_168 dL_digest_0 ?_
  refine J.aload_n (μ := mL_digest) (pc := 3) dL_digest_3 rfl ?_
  refine J.cV (μ := mL_digest) (pc := 4) (s_X11_day) rfl wm_L_170 mi_X11_day rfl dL_digest_4 (Rp.isa (T := TX11) rfl sh0) rfl rfl ⟨(Nat.le_of_ble_eq_true rfl), (Nat.le_of_ble_eq_true rfl)⟩ ⟨(Nat.le_of_ble_eq_true rfl), (Nat.le_of_ble_eq_true rfl)⟩ (Nat.le_of_ble_eq_true rfl) ?_
  refine J.i2l (μ := mL_digest) (pc := 7) dL_digest_7 ?_
  refine J.lmul (μ := mL_digest) (pc := 8) dL_digest_8 ?_
  refine J.ldc2 (μ := mL_digest) (pc := 9) rfl wo_L_173 dL_digest_9 ?_
  refine J.aload_n (μ := mL_digest) (pc := 12) dL_digest_12 rfl ?_
  refine J.cV (μ := mL_digest) (pc := 13) (s_X11_received) rfl wm_L_175 mi_X11_received rfl dL_digest_13 (Rp.isa (T := TX11) rfl sh0) rfl rfl ⟨(Nat.le_of_ble_eq_true rfl), (Nat.le_of_ble_eq_true rfl)⟩ ⟨(Nat.le_of_ble_eq_true rfl), (Nat.le_of_ble_eq_true rfl)⟩ (Nat.le_of_ble_eq_true rfl) ?_
  refine J.i2l (μ := mL_digest) (pc := 16) dL_digest_16 ?_
  refine J.lmul (μ := mL_digest) (pc := 17) dL_digest_17 ?_
  refine J.ladd (μ := mL_digest) (pc := 18) dL_digest_18 ?_
  refine J.ldc2 (μ := mL_digest) (pc := 19) rfl wo_L_178 dL_digest_19 ?_
  refine J.aload_n (μ := mL_digest) (pc := 22) dL_digest_22 rfl ?_
  refine J.cV (μ := mL_digest) (pc := 23) (s_X11_shipped) rfl wm_L_180 mi_X11_shipped rfl dL_digest_23 (Rp.isa (T := TX11) rfl sh0) rfl rfl ⟨(Nat.le_of_ble_eq_true rfl), (Nat.le_of_ble_eq_true rfl)⟩ ⟨(Nat.le_of_ble_eq_true rfl), (Nat.le_of_ble_eq_true rfl)⟩ (Nat.le_of_ble_eq_true rfl) ?_
  refine J.i2l (μ := mL_digest) (pc := 26) dL_digest_26 ?_
  refine J.lmul (μ := mL_digest) (pc := 27) dL_digest_27 ?_
  refine J.ladd (μ := mL_digest) (pc := 28) dL_digest_28 ?_
  refine J.ldc2 (μ := mL_digest) (pc := 29) rfl wo_L_183 dL_digest_29 ?_
  refine J.aload_n (μ := mL_digest) (pc := 32) dL_digest_32 rfl ?_
  refine J.cV (μ := mL_digest) (pc := 33) (s_X11_composted) rfl wm_L_185 mi_X11_composted rfl dL_digest_33 (Rp.isa (T := TX11) rfl sh0) rfl rfl ⟨(Nat.le_of_ble_eq_true rfl), (Nat.le_of_ble_eq_true rfl)⟩ ⟨(Nat.le_of_ble_eq_true rfl), (Nat.le_of_ble_eq_true rfl)⟩ (Nat.le_of_ble_eq_true rfl) ?_
  refine J.i2l (μ := mL_digest) (pc := 36) dL_digest_36 ?_
  refine J.lmul (μ := mL_digest) (pc := 37) dL_digest_37 ?_
  refine J.ladd (μ := mL_digest) (pc := 38) dL_digest_38 ?_
  refine J.ldc2 (μ := mL_digest) (pc := 39) rfl wo_L_188 dL_digest_39 ?_
  refine J.aload_n (μ := mL_digest) (pc := 42) dL_digest_42 rfl ?_
  refine J.cV (μ := mL_digest) (pc := 43) (s_X11_lotCount) rfl wm_L_190 mi_X11_lotCount rfl dL_digest_43 (Rp.isa (T := TX11) rfl sh0) rfl rfl ⟨(Nat.le_of_ble_eq_true rfl), (Nat.le_of_ble_eq_true rfl)⟩ ⟨(Nat.le_of_ble_eq_true rfl), (Nat.le_of_ble_eq_true rfl)⟩ (Nat.le_of_ble_eq_true rfl) ?_
  refine J.i2l (μ := mL_digest) (pc := 46) dL_digest_46 ?_
  refine J.lmul (μ := mL_digest) (pc := 47) dL_digest_47 ?_
  refine J.ladd (μ := mL_digest) (pc := 48) dL_digest_48 ?_
  refine J.aload_n (μ := mL_digest) (pc := 49) dL_digest_49 rfl ?_
  refine J.cV (μ := mL_digest) (pc := 50) (s_X11_shelfCount) rfl wm_L_193 mi_X11_shelfCount rfl dL_digest_50 (Rp.isa (T := TX11) rfl sh0) rfl rfl ⟨(Nat.le_of_ble_eq_true rfl), (Nat.le_of_ble_eq_true rfl)⟩ ⟨(Nat.le_of_ble_eq_true rfl), (Nat.le_of_ble_eq_true rfl)⟩ (Nat.le_of_ble_eq_true rfl) ?_
  refine J.i2l (μ := mL_digest) (pc := 53) dL_digest_53 ?_
  refine J.ladd (μ := mL_digest) (pc := 54) dL_digest_54 ?_
  refine J.lstore_n (μ := mL_digest) (pc := 55) dL_digest_55 (Nat.le_of_ble_eq_true rfl) rfl ?_
  refine J.iconst (μ := mL_digest) (pc := 56) (v := 0) dL_digest_56 (by decide) ?_
  refine J.istore_n (μ := mL_digest) (pc := 57) dL_digest_57 (Nat.le_of_ble_eq_true rfl) rfl ?_
  refine J.sub ?_ (J.forK (μ := mL_digest) (hd := 58) (kf := fun i => i) (nf := fun i => 6 * i) (Lf := fun i => [some (.ref (gz γ + 0)), some (.long (dgS v N (dg0 v) i)), none, some (.int (nI i))]) (Pf := fun _ => Rp γ v) M ?_ (fun i hi ih => ?_))
  · exact ⟨rfl, rfl, rfl, trivial⟩
  · refine J.iload_n (μ := mL_digest) (pc := 58) dL_digest_58 rfl ?_
    refine J.aload_n (μ := mL_digest) (pc := 59) dL_digest_59 rfl ?_
    refine J.cV (μ := mL_digest) (pc := 60) (s_X11_shelfCount) rfl wm_L_193 mi_X11_shelfCount rfl dL_digest_60 (Rp.isa (T := TX11) rfl sh0) rfl rfl ⟨(Nat.le_of_ble_eq_true rfl), (Nat.le_of_ble_eq_true rfl)⟩ ⟨(by show _ ≤ 48; omega), (by show _ ≤ 848; omega)⟩ (Nat.le_of_ble_eq_true rfl) ?_
    rw [h.vM]
    refine J.icmp_ge (μ := mL_digest) (pc := 63) 107 dL_digest_63 (by decide) (fun h1 => ?_) (fun h1 => ?_)
    · refine J.iconst (μ := mL_digest) (pc := 107) (v := 0) dL_digest_107 (by decide) ?_
      refine J.istore_n (μ := mL_digest) (pc := 108) dL_digest_108 (Nat.le_of_ble_eq_true rfl) rfl ?_
      refine J.widen (k' := 8) (n' := 48) (by omega) (by omega) (J.sub ?_ (J.forK (μ := mL_digest) (hd := 109) (kf := fun i => 8 + 2 * i) (nf := fun i => 48 + 40 * i) (Lf := fun i => [some (.ref (gz γ + 0)), some (.long (dgL v (dgS v N (dg0 v) M) i)), none, some (.int (nI i))]) (Pf := fun _ => Rp γ v) N ?_ (fun i hi ih => ?_)))
      · exact ⟨rfl, rfl, rfl, trivial⟩
      · refine J.iload_n (μ := mL_digest) (pc := 109) dL_digest_109 rfl ?_
        refine J.aload_n (μ := mL_digest) (pc := 110) dL_digest_110 rfl ?_
        refine J.cV (μ := mL_digest) (pc := 111) (s_X11_lotCount) rfl wm_L_190 mi_X11_lotCount rfl dL_digest_111 (Rp.isa (T := TX11) rfl sh0) rfl rfl ⟨(Nat.le_of_ble_eq_true rfl), (Nat.le_of_ble_eq_true rfl)⟩ ⟨(by show _ ≤ 48; omega), (by show _ ≤ 848; omega)⟩ (Nat.le_of_ble_eq_true rfl) ?_
        rw [h.vN]
        refine J.icmp_ge (μ := mL_digest) (pc := 114) 178 dL_digest_114 (by decide) (fun h2 => ?_) (fun h2 => ?_)
        · refine J.lload_n (μ := mL_digest) (pc := 178) dL_digest_178 rfl ?_
          exact J.lret (μ := mL_digest) (pc := 179) dL_digest_179 rfl (by omega) (by omega) (fun K k => ⟨rfl, k⟩)
        · exact (Int32.lt_irrefl h2).elim
      · have hl : hasL v 1 (nI i) := h.hsL.mpr ⟨i, hi, rfl⟩
        refine J.iload_n (μ := mL_digest) (pc := 109) dL_digest_109 rfl ?_
        refine J.aload_n (μ := mL_digest) (pc := 110) dL_digest_110 rfl ?_
        refine J.cV (μ := mL_digest) (pc := 111) (s_X11_lotCount) rfl wm_L_190 mi_X11_lotCount rfl dL_digest_111 (Rp.isa (T := TX11) rfl sh0) rfl rfl ⟨(Nat.le_of_ble_eq_true rfl), (Nat.le_of_ble_eq_true rfl)⟩ ⟨(by show _ ≤ 48; omega), (by show _ ≤ 848; omega)⟩ (Nat.le_of_ble_eq_true rfl) ?_
        rw [h.vN]
        refine J.icmp_ge (μ := mL_digest) (pc := 114) 178 dL_digest_114 (by decide) (fun h2 => ?_) (fun h2 => ?_)
        · exact absurd h2 (nI_ge hi (by omega))
        · refine J.ldc2 (μ := mL_digest) (pc := 117) rfl wo_L_196 dL_digest_117 ?_
          refine J.ldc2 (μ := mL_digest) (pc := 120) rfl wo_L_196 dL_digest_120 ?_
          refine J.ldc2 (μ := mL_digest) (pc := 123) rfl wo_L_196 dL_digest_123 ?_
          refine J.lload_n (μ := mL_digest) (pc := 126) dL_digest_126 rfl ?_
          refine J.lmul (μ := mL_digest) (pc := 127) dL_digest_127 ?_
          refine J.aload_n (μ := mL_digest) (pc := 128) dL_digest_128 rfl ?_
          refine J.iload_n (μ := mL_digest) (pc := 129) dL_digest_129 rfl ?_
          refine J.cV (μ := mL_digest) (pc := 130) (s_X11_volumeOf hl) rfl wm_L_206 mi_X11_volumeOf rfl dL_digest_130 (Rp.isa (T := TX11) rfl sh0) rfl rfl ⟨(Nat.le_of_ble_eq_true rfl), (Nat.le_of_ble_eq_true rfl)⟩ ⟨(by show _ ≤ 48; omega), (by show _ ≤ 848; omega)⟩ (Nat.le_of_ble_eq_true rfl) ?_
          refine J.i2l (μ := mL_digest) (pc := 133) dL_digest_133 ?_
          refine J.ladd (μ := mL_digest) (pc := 134) dL_digest_134 ?_
          refine J.lmul (μ := mL_digest) (pc := 135) dL_digest_135 ?_
          refine J.aload_n (μ := mL_digest) (pc := 136) dL_digest_136 rfl ?_
          refine J.iload_n (μ := mL_digest) (pc := 137) dL_digest_137 rfl ?_
          refine J.cV (μ := mL_digest) (pc := 138) (s_X11_expiryOf hl) rfl wm_L_209 mi_X11_expiryOf rfl dL_digest_138 (Rp.isa (T := TX11) rfl sh0) rfl rfl ⟨(Nat.le_of_ble_eq_true rfl), (Nat.le_of_ble_eq_true rfl)⟩ ⟨(by show _ ≤ 48; omega), (by show _ ≤ 848; omega)⟩ (Nat.le_of_ble_eq_true rfl) ?_
          refine J.i2l (μ := mL_digest) (pc := 141) dL_digest_141 ?_
          refine J.ladd (μ := mL_digest) (pc := 142) dL_digest_142 ?_
          refine J.lmul (μ := mL_digest) (pc := 143) dL_digest_143 ?_
          refine J.aload_n (μ := mL_digest) (pc := 144) dL_digest_144 rfl ?_
          refine J.iload_n (μ := mL_digest) (pc := 145) dL_digest_145 rfl ?_
          refine J.callSW (μ := mL_digest) (pc := 146) (l_shelfOf hl) rfl wm_L_212 mi_L_shelfOf (fun h => by cases h) dL_digest_146 rfl rfl ⟨(Nat.le_of_ble_eq_true rfl), (Nat.le_of_ble_eq_true rfl)⟩ ⟨(by show _ ≤ 48; omega), (by show _ ≤ 848; omega)⟩ (Nat.le_of_ble_eq_true rfl) (fun w => J.and (fun e => ?_))
          subst e
          refine J.i2l (μ := mL_digest) (pc := 149) dL_digest_149 ?_
          refine J.ladd (μ := mL_digest) (pc := 150) dL_digest_150 ?_
          refine J.lstore_n (μ := mL_digest) (pc := 151) dL_digest_151 (Nat.le_of_ble_eq_true rfl) rfl ?_
          refine J.ldc2 (μ := mL_digest) (pc := 152) rfl wo_L_196 dL_digest_152 ?_
          refine J.lload_n (μ := mL_digest) (pc := 155) dL_digest_155 rfl ?_
          refine J.lmul (μ := mL_digest) (pc := 156) dL_digest_156 ?_
          refine J.aload_n (μ := mL_digest) (pc := 157) dL_digest_157 rfl ?_
          refine J.iload_n (μ := mL_digest) (pc := 158) dL_digest_158 rfl ?_
          refine J.callV (μ := mL_digest) (pc := 159) (h.line hT hi) rfl wm_L_214 mi_X11_writeLot rfl dL_digest_159 (Rp.isa (T := TX11) rfl sh0) rfl rfl ⟨(Nat.le_of_ble_eq_true rfl), (Nat.le_of_ble_eq_true rfl)⟩ ⟨(by show _ ≤ 48; omega), (by show _ ≤ 848; omega)⟩ (Nat.le_of_ble_eq_true rfl) (fun w => J.and (fun e => ?_))
          subst e
          refine J.i2l (μ := mL_digest) (pc := 162) dL_digest_162 ?_
          refine J.ladd (μ := mL_digest) (pc := 163) dL_digest_163 ?_
          refine J.aload_n (μ := mL_digest) (pc := 164) dL_digest_164 rfl ?_
          refine J.iload_n (μ := mL_digest) (pc := 165) dL_digest_165 rfl ?_
          refine J.cV (μ := mL_digest) (pc := 166) (s_X11_parentCount hl) rfl wm_L_217 mi_X11_parentCount rfl dL_digest_166 (Rp.isa (T := TX11) rfl sh0) rfl rfl ⟨(Nat.le_of_ble_eq_true rfl), (Nat.le_of_ble_eq_true rfl)⟩ ⟨(by show _ ≤ 48; omega), (by show _ ≤ 848; omega)⟩ (Nat.le_of_ble_eq_true rfl) ?_
          refine J.i2l (μ := mL_digest) (pc := 169) dL_digest_169 ?_
          refine J.ladd (μ := mL_digest) (pc := 170) dL_digest_170 ?_
          refine J.lstore_n (μ := mL_digest) (pc := 171) dL_digest_171 (Nat.le_of_ble_eq_true rfl) rfl ?_
          refine J.iinc (μ := mL_digest) (pc := 172) (v := 1) dL_digest_172 rfl (by decide) (Nat.le_of_ble_eq_true rfl) rfl ?_
          refine J.goto (μ := mL_digest) (pc := 175) 109 dL_digest_175 (by decide) ?_
          refine J.widen (k' := 8 + 2 * (i + 1)) (n' := 48 + 40 * (i + 1)) (by omega) (by omega) (J.sub ?_ ih)
          exact ⟨rfl, rfl, by rw [nI_1], trivial⟩
    · exact (Int32.lt_irrefl h1).elim
  · have hl : hasS v 1 (nI i) := h.hsS.mpr ⟨i, hi, rfl⟩
    refine J.iload_n (μ := mL_digest) (pc := 58) dL_digest_58 rfl ?_
    refine J.aload_n (μ := mL_digest) (pc := 59) dL_digest_59 rfl ?_
    refine J.cV (μ := mL_digest) (pc := 60) (s_X11_shelfCount) rfl wm_L_193 mi_X11_shelfCount rfl dL_digest_60 (Rp.isa (T := TX11) rfl sh0) rfl rfl ⟨(Nat.le_of_ble_eq_true rfl), (Nat.le_of_ble_eq_true rfl)⟩ ⟨(by show _ ≤ 48; omega), (by show _ ≤ 848; omega)⟩ (Nat.le_of_ble_eq_true rfl) ?_
    rw [h.vM]
    refine J.icmp_ge (μ := mL_digest) (pc := 63) 107 dL_digest_63 (by decide) (fun h1 => ?_) (fun h1 => ?_)
    · exact absurd h1 (nI_ge hi (by omega))
    · refine J.ldc2 (μ := mL_digest) (pc := 66) rfl wo_L_196 dL_digest_66 ?_
      refine J.ldc2 (μ := mL_digest) (pc := 69) rfl wo_L_196 dL_digest_69 ?_
      refine J.ldc2 (μ := mL_digest) (pc := 72) rfl wo_L_196 dL_digest_72 ?_
      refine J.lload_n (μ := mL_digest) (pc := 75) dL_digest_75 rfl ?_
      refine J.lmul (μ := mL_digest) (pc := 76) dL_digest_76 ?_
      refine J.aload_n (μ := mL_digest) (pc := 77) dL_digest_77 rfl ?_
      refine J.iload_n (μ := mL_digest) (pc := 78) dL_digest_78 rfl ?_
      refine J.cV (μ := mL_digest) (pc := 79) (s_X11_zoneOf hl) rfl wm_L_198 mi_X11_zoneOf rfl dL_digest_79 (Rp.isa (T := TX11) rfl sh0) rfl rfl ⟨(Nat.le_of_ble_eq_true rfl), (Nat.le_of_ble_eq_true rfl)⟩ ⟨(by show _ ≤ 48; omega), (by show _ ≤ 848; omega)⟩ (Nat.le_of_ble_eq_true rfl) ?_
      refine J.i2l (μ := mL_digest) (pc := 82) dL_digest_82 ?_
      refine J.ladd (μ := mL_digest) (pc := 83) dL_digest_83 ?_
      refine J.lmul (μ := mL_digest) (pc := 84) dL_digest_84 ?_
      refine J.aload_n (μ := mL_digest) (pc := 85) dL_digest_85 rfl ?_
      refine J.iload_n (μ := mL_digest) (pc := 86) dL_digest_86 rfl ?_
      refine J.cV (μ := mL_digest) (pc := 87) (s_X11_roomOf h.vN h20 hl) rfl wm_L_201 mi_X11_roomOf rfl dL_digest_87 (Rp.isa (T := TX11) rfl sh0) rfl rfl ⟨(Nat.le_of_ble_eq_true rfl), (Nat.le_of_ble_eq_true rfl)⟩ ⟨(by show _ ≤ 48; omega), (by show _ ≤ 848; omega)⟩ (Nat.le_of_ble_eq_true rfl) ?_
      refine J.i2l (μ := mL_digest) (pc := 90) dL_digest_90 ?_
      refine J.ladd (μ := mL_digest) (pc := 91) dL_digest_91 ?_
      refine J.lmul (μ := mL_digest) (pc := 92) dL_digest_92 ?_
      refine J.aload_n (μ := mL_digest) (pc := 93) dL_digest_93 rfl ?_
      refine J.iload_n (μ := mL_digest) (pc := 94) dL_digest_94 rfl ?_
      refine J.callSW (μ := mL_digest) (pc := 95) (l_countedDay hl) rfl wm_L_204 mi_L_countedDay (fun h => by cases h) dL_digest_95 rfl rfl ⟨(Nat.le_of_ble_eq_true rfl), (Nat.le_of_ble_eq_true rfl)⟩ ⟨(by show _ ≤ 48; omega), (by show _ ≤ 848; omega)⟩ (Nat.le_of_ble_eq_true rfl) (fun w => J.and (fun e => ?_))
      subst e
      refine J.i2l (μ := mL_digest) (pc := 98) dL_digest_98 ?_
      refine J.ladd (μ := mL_digest) (pc := 99) dL_digest_99 ?_
      refine J.lstore_n (μ := mL_digest) (pc := 100) dL_digest_100 (Nat.le_of_ble_eq_true rfl) rfl ?_
      refine J.iinc (μ := mL_digest) (pc := 101) (v := 1) dL_digest_101 rfl (by decide) (Nat.le_of_ble_eq_true rfl) rfl ?_
      refine J.goto (μ := mL_digest) (pc := 104) 58 dL_digest_104 (by decide) ?_
      refine J.widen (k' := i + 1) (n' := 6 * (i + 1)) (by omega) (by omega) (J.sub ?_ ih)
      exact ⟨rfl, rfl, by rw [nI_1], trivial⟩
