/-! the law: isShipped -/
section EZ
variable {u v k w : Vs} {T n s N M H : Nat}
theorem shpV_sq (q : Stq v w 1 1) (x : Int32) : shpV w 1 N x = shpV v 1 N x := by
  have g10 : ∀ x, gKi w 1 x = gKi v 1 x := fun x => by unfold gKi; rw [q 10 (by decide)]
  have g14 : ∀ x, gVo w 1 x = gVo v 1 x := fun x => by unfold gVo; rw [q 14 (by decide)]
  have g16 : ∀ x, gEp w 1 x = gEp v 1 x := fun x => by unfold gEp; rw [q 16 (by decide)]
  have g18 : ∀ x, gPl w 1 x = gPl v 1 x := fun x => by unfold gPl; rw [q 18 (by decide)]
  have g0 : w 1 = v 1 := q 0 (by decide)
  unfold shpV
  simp only [shipP, g18, g10, g16, g14, g0]
theorem esh_sq (q : Stq v w 1 1) (x : Int32) : ∀ m, esh w 1 x m = esh v 1 x m := by
  have g10 : ∀ x, gKi w 1 x = gKi v 1 x := fun x => by unfold gKi; rw [q 10 (by decide)]
  have g16 : ∀ x, gEp w 1 x = gEp v 1 x := fun x => by unfold gEp; rw [q 16 (by decide)]
  have g18 : ∀ x, gPl w 1 x = gPl v 1 x := fun x => by unfold gPl; rw [q 18 (by decide)]
  have g0 : w 1 = v 1 := q 0 (by decide)
  intro m
  induction m with
  | zero => rfl
  | succ m ih => simp only [esh, shipP, expB, g18, g10, g16, g0, ih]
theorem shp_0 (hI : Inv 0 T N M H (iv v 1)) (x : Int32) : 0 ≤ su (shZ (iv v 1) x.toInt) N ∧ su (shZ (iv v 1) x.toInt) N ≤ 800 := by
  refine ⟨su_nonneg (fun i hi => hI.sh0 _ hi), Int.le_trans (su_mono (g' := iv v 1 14) (fun i hi => ?_)) hI.stored_le.2⟩
  unfold shZ
  have := (hI.lot hi).2.2.2.1.vo
  split <;> omega
/-- a shipping that is not denied -/
theorem shi_1 (hI : Inv 0 T N M H (iv v 1)) (hT : T ≤ 1000000000) (hk : Stq v k 1 1) {r x y : Int32} (hv : (vdOf v 1 N M 5 x y 0 0).1 = 0) (e1 : r = (pfOf k 1 N M H 5 x y 0 0).1) (e2 : u = (pfOf k 1 N M H 5 x y 0 0).2) :
    Inv 0 T N M H (iv u 1) ∧ (∃ n, 1 ≤ n ∧ n ≤ 8 ∧ r = nI n) ∧ (shpV u 1 N x).toInt = (shpV v 1 N x).toInt - y.toInt ∧ iv u 1 0 5 = iv v 1 0 5 + y.toInt := by
  have hIk := hI.sq hk
  rw [pf_5] at e1 e2
  rw [← vd_sq hk, vd_5] at hv
  obtain ⟨c1, -, c3, c4, c5, -⟩ := hIk.cShip hT hv
  rw [← e2] at c1 c3 c5
  rw [← e1] at c4
  refine ⟨c1, c4, ?_, ?_⟩
  · rw [c1.shp, c3, ← hIk.shp, shpV_sq hk]
  · rw [c5, iv_sq hk (by decide)]
/-- one volume is shipped: of the first -/
theorem shi_11 (hI : Inv 0 T N M H (iv v 1)) (hk : Stq v k 1 1) {r x : Int32} (h0 : 0 < su (shZ (iv v 1) x.toInt) N) (e1 : r = (pfOf k 1 N M H 5 x 1 0 0).1) (e2 : u = (pfOf k 1 N M H 5 x 1 0 0).2) {i : Nat} (hi : i < N) (he : esh v 1 x N = nI i) : r = nI 1 ∧ iv u 1 14 i = iv v 1 14 i - 1 := by
  have h20 := hI.1.1.2
  have hIk := hI.sq hk
  rw [pf_5] at e1 e2
  obtain ⟨j, hj, c1, -, c3, c4⟩ := hIk.cShip1 (k := x) (by rw [← hIk.shp, shpV_sq hk, hI.shp]; exact h0)
  have ej : j = i := by
    rw [esh_sq hk, he, t_eq, t_nI (by omega), t_nI (by omega)] at c1
    omega
  subst ej
  rw [← e1] at c3
  rw [← e2] at c4
  exact ⟨c3, by rw [c4, iv_sq hk (by decide)]⟩
end EZ
theorem sh_c {γ : Gm} {T N M H : Nat} {v : Vs} (hI : Inv 0 T N M H (iv v 1)) (hT : T + 198 ≤ 9000000) {x : Int32} {w : Vs} (hB : Bk (T + 198) v w) {x4 x5 x6 x7 : Option Value} {k m : Nat} (hk : k ≤ 450) (hn : m ≤ 3100) : J γ mL_isShipped (rmD 35 500 4000) (fEv γ 500 4000 (fun r K => r = some (.int 1) ∧ ∃ w, Bk (T + 198) v w ∧ Rp γ w K)) k m 215 [some (.ref (gz γ + 0)), some (.int (x)), some (.long (dgV v N M)), none, x4, x5, x6, x7, some (.int (1))] [] (Rp γ w) := by
  have hIw := hI.sq hB.2.1
  refine J.iload (μ := mL_isShipped) (pc := 215) dL_isShipped_215 rfl ?_
  refine J.if_eq (μ := mL_isShipped) (pc := 217) 233 dL_isShipped_217 (by decide) (fun h1 => ?_) (fun h1 => ?_)
  · exact absurd h1 (by decide)
  · refine J.aload_n (μ := mL_isShipped) (pc := 220) dL_isShipped_220 rfl ?_
    refine J.callS (μ := mL_isShipped) (pc := 221) (l_digest hIw (by omega)) rfl wm_L_278 mi_L_digest rfl dL_isShipped_221 rfl rfl ⟨(Nat.le_of_ble_eq_true rfl), (Nat.le_of_ble_eq_true rfl)⟩ ⟨(by show _ ≤ 500; omega), (by show _ ≤ 4000; omega)⟩ (Nat.le_of_ble_eq_true rfl) (fun w => J.and fun e => ?_)
    subst e
    rw [dg_sq hB.2.1]
    refine J.lload_n (μ := mL_isShipped) (pc := 224) dL_isShipped_224 rfl ?_
    refine J.lcmp (μ := mL_isShipped) (pc := 225) dL_isShipped_225 ?_
    rw [lg_self]
    refine J.if_ne (μ := mL_isShipped) (pc := 226) 233 dL_isShipped_226 (by decide) (fun h3 => ?_) (fun h3 => ?_)
    · exact absurd rfl h3
    · refine J.iconst (μ := mL_isShipped) (pc := 229) (v := 1) dL_isShipped_229 (by decide) ?_
      refine J.goto (μ := mL_isShipped) (pc := 230) 234 dL_isShipped_230 (by decide) ?_
      exact J.zret (μ := mL_isShipped) (pc := 234) dL_isShipped_234 rfl rfl (by omega) (by omega) (fun K k => ⟨rfl, _, hB, k⟩)

theorem sh_b {γ : Gm} {T N M H : Nat} {v : Vs} (hI : Inv 0 T N M H (iv v 1)) (hT : T + 198 ≤ 9000000) {x : Int32} (hx : 0 ≤ x ∧ x ≤ 5) (h0 : 0 < su (shZ (iv v 1) x.toInt) N) {w0 : Vs} (hB : Bk (T + 99) v w0) {X7 : Int32} {x5 : Option Value} {k m : Nat} (hk : k ≤ 60) (hn : m ≤ 900) : J γ mL_isShipped (rmD 35 500 4000) (fEv γ 500 4000 (fun r K => r = some (.int 1) ∧ ∃ w, Bk (T + 198) v w ∧ Rp γ w K)) k m 130 [some (.ref (gz γ + 0)), some (.int (x)), some (.long (dgV v N M)), none, some (.int (shpV v 1 N x)), x5, some (.int (v 1 5)), some (.int (X7)), some (.int (1))] [] (Rp γ w0) := by
  have h20 := hI.1.1.2
  have hIw := hI.sq hB.2.1
  have hB' : Bk (T + 198) v w0 := hB.mono (by omega)
  have esh := hI.shp x
  have s8 := shp_0 hI x
  obtain ⟨⟨n, s, hD⟩, hB2⟩ := hB
  have hok := hD.okI hIw
  refine J.iload (μ := mL_isShipped) (pc := 130) dL_isShipped_130 rfl ?_
  refine J.bipush (μ := mL_isShipped) (pc := 132) (v := 99) dL_isShipped_132 (by decide) ?_
  refine J.icmp_ge (μ := mL_isShipped) (pc := 134) 215 dL_isShipped_134 (by decide) (fun h1 => ?_) (fun h1 => ?_)
  · exact sh_c hI hT hB' (by omega) (by omega)
  · have h99 : (shpV v 1 N x).toInt < 99 := by
      have h1 : shpV v 1 N x < 99 := by first | exact h1 | exact Int32.not_le.mp h1
      rw [t_lt] at h1
      have : (99 : Int32).toInt = 99 := by decide
      omega
    have e1 : (shpV v 1 N x + 1).toInt = (shpV v 1 N x).toInt + 1 := by rw [t_add (by rw [t_1]; omega) (by rw [t_1]; omega), t_1]
    have e99 : (99 : Int32).toInt = 99 := by decide
    refine J.iload (μ := mL_isShipped) (pc := 137) dL_isShipped_137 rfl ?_
    refine J.if_eq (μ := mL_isShipped) (pc := 139) 212 dL_isShipped_139 (by decide) (fun h2 => ?_) (fun h2 => ?_)
    · exact absurd h2 (by decide)
    · refine J.aload_n (μ := mL_isShipped) (pc := 142) dL_isShipped_142 rfl ?_
      refine J.iload_n (μ := mL_isShipped) (pc := 143) dL_isShipped_143 rfl ?_
      refine J.iload (μ := mL_isShipped) (pc := 144) dL_isShipped_144 rfl ?_
      refine J.iconst (μ := mL_isShipped) (pc := 146) (v := 1) dL_isShipped_146 (by decide) ?_
      refine J.iadd (μ := mL_isShipped) (pc := 147) dL_isShipped_147 ?_
      refine J.callSW (μ := mL_isShipped) (pc := 148) (l_ship hok x (shpV v 1 N x + 1)) rfl wm_L_141 mi_L_ship (fun h => by cases h) dL_isShipped_148 rfl rfl ⟨(Nat.le_of_ble_eq_true rfl), (Nat.le_of_ble_eq_true rfl)⟩ ⟨(by show _ ≤ 500; omega), (by show _ ≤ 4000; omega)⟩ (Nat.le_of_ble_eq_true rfl) (fun w => J.ex fun r => J.ex fun u2 => J.and fun hc => ?_)
      obtain ⟨e, hc⟩ := hc
      obtain ⟨er, q, -⟩ := hD.den hc (by
        rw [vd_5]
        unfold vdShip
        rw [if_pos hx, if_pos (by rw [t_le, t_le, e1, t_1, e99]; omega), if_neg (by rw [shpV_sq hB2.1, t_le, e1]; omega)]
        show ¬ (6 : Int32) = 0
        decide)
      have q1 := q.sq (o := 1) (by decide) (by decide) (by decide)
      have hIu := hIw.sq q1
      have hDu := hD.sam q
      have hoku := hDu.okI hIu
      have hBu : Bk (T + 99) v u2 := Bk.tr (u := w0) (T := T + 99) ⟨⟨n, s, hD⟩, hB2⟩ (hD.bk q)
      subst e
      rw [er]
      refine J.ldc (μ := mL_isShipped) (pc := 151) rfl wo_L_10 dL_isShipped_151 ?_
      refine J.icmp_ne (μ := mL_isShipped) (pc := 153) 212 dL_isShipped_153 (by decide) (fun h3 => ?_) (fun h3 => ?_)
      · exact absurd rfl h3
      · refine J.aload_n (μ := mL_isShipped) (pc := 156) dL_isShipped_156 rfl ?_
        refine J.iload_n (μ := mL_isShipped) (pc := 157) dL_isShipped_157 rfl ?_
        refine J.iload (μ := mL_isShipped) (pc := 158) dL_isShipped_158 rfl ?_
        refine J.callSW (μ := mL_isShipped) (pc := 160) (l_ship hoku x (shpV v 1 N x)) rfl wm_L_141 mi_L_ship (fun h => by cases h) dL_isShipped_160 rfl rfl ⟨(Nat.le_of_ble_eq_true rfl), (Nat.le_of_ble_eq_true rfl)⟩ ⟨(by show _ ≤ 500; omega), (by show _ ≤ 4000; omega)⟩ (Nat.le_of_ble_eq_true rfl) (fun w => J.ex fun r3 => J.ex fun u3 => J.and fun hc => ?_)
        obtain ⟨e, hc⟩ := hc
        have hv : (vdOf u2 1 N M 5 x (shpV v 1 N x) 0 0).1 = 0 := by
          rw [vd_5]
          unfold vdShip
          rw [if_pos hx, if_pos (by rw [t_le, t_le, t_1, e99]; omega), if_pos (by rw [shpV_sq hBu.2.1, t_le]; omega)]
        obtain ⟨kk, hk1, er3, eu3, hkp, hd⟩ := hDu.app (by omega) hIu (by omega) hc hv
        obtain ⟨i1, ⟨c, c1, c2, c3⟩, i3, i4⟩ := shi_1 hIu (by omega) hk1 hv er3 eu3
        have hU := U1.of hDu.2.1.1 hkp hd
        subst e
        rw [c3]
        refine J.iconst (μ := mL_isShipped) (pc := 163) (v := 1) dL_isShipped_163 (by decide) ?_
        refine J.icmp_lt (μ := mL_isShipped) (pc := 164) 212 dL_isShipped_164 (by decide) (fun h4 => ?_) (fun h4 => ?_)
        · exfalso
          rw [t_lt, t_nI (by omega), t_1] at h4
          omega
        · refine J.aload_n (μ := mL_isShipped) (pc := 167) dL_isShipped_167 rfl ?_
          refine J.iload_n (μ := mL_isShipped) (pc := 168) dL_isShipped_168 rfl ?_
          refine J.cV (μ := mL_isShipped) (pc := 169) (s_X11_available i1.vN h20 hx) rfl wm_L_286 mi_X11_available rfl dL_isShipped_169 (Rp.isa (T := TX11) rfl sh0) rfl rfl ⟨(Nat.le_of_ble_eq_true rfl), (Nat.le_of_ble_eq_true rfl)⟩ ⟨(by show _ ≤ 500; omega), (by show _ ≤ 4000; omega)⟩ (Nat.le_of_ble_eq_true rfl) ?_
          rw [show shpV u3 1 N x = 0 from by rw [t_eq, i3, shpV_sq hBu.2.1, t_0]; omega]
          refine J.if_ne (μ := mL_isShipped) (pc := 172) 212 dL_isShipped_172 (by decide) (fun h5 => ?_) (fun h5 => ?_)
          · exact absurd rfl h5
          · refine J.aload_n (μ := mL_isShipped) (pc := 175) dL_isShipped_175 rfl ?_
            refine J.cV (μ := mL_isShipped) (pc := 176) (s_X11_shipped) rfl wm_L_180 mi_X11_shipped rfl dL_isShipped_176 (Rp.isa (T := TX11) rfl sh0) rfl rfl ⟨(Nat.le_of_ble_eq_true rfl), (Nat.le_of_ble_eq_true rfl)⟩ ⟨(by show _ ≤ 500; omega), (by show _ ≤ 4000; omega)⟩ (Nat.le_of_ble_eq_true rfl) ?_
            refine J.iload (μ := mL_isShipped) (pc := 179) dL_isShipped_179 rfl ?_
            refine J.iload (μ := mL_isShipped) (pc := 181) dL_isShipped_181 rfl ?_
            refine J.iadd (μ := mL_isShipped) (pc := 183) dL_isShipped_183 ?_
            rw [show u3 1 5 = v 1 5 + shpV v 1 N x from by
              have a5 := hI.2.1
              have st := hI.stored_le
              have r5 : (v 1 5).toInt = iv v 1 0 5 := rfl
              have r5' : (u3 1 5).toInt = iv u3 1 0 5 := rfl
              have r5u : iv u2 1 0 5 = iv v 1 0 5 := iv_sq hBu.2.1 (by decide)
              rw [t_eq, t_add (by omega) (by omega), r5', i4, r5u, r5]]
            refine J.icmp_ne (μ := mL_isShipped) (pc := 184) 212 dL_isShipped_184 (by decide) (fun h6 => ?_) (fun h6 => ?_)
            · exact absurd rfl h6
            · refine J.aload_n (μ := mL_isShipped) (pc := 187) dL_isShipped_187 rfl ?_
              refine J.callS (μ := mL_isShipped) (pc := 188) (l_areLots i1 (by omega)) rfl wm_L_282 mi_L_areLots rfl dL_isShipped_188 rfl rfl ⟨(Nat.le_of_ble_eq_true rfl), (Nat.le_of_ble_eq_true rfl)⟩ ⟨(by show _ ≤ 500; omega), (by show _ ≤ 4000; omega)⟩ (Nat.le_of_ble_eq_true rfl) (fun w => J.and fun e => J.ex fun u4 => J.and fun q4 => ?_)
              subst e
              have i1' := i1.sq (q4.sq (o := 1) (by decide))
              refine J.if_eq (μ := mL_isShipped) (pc := 191) 212 dL_isShipped_191 (by decide) (fun h7 => ?_) (fun h7 => ?_)
              · exact absurd h7 (by decide)
              · refine J.aload_n (μ := mL_isShipped) (pc := 194) dL_isShipped_194 rfl ?_
                refine J.callS (μ := mL_isShipped) (pc := 195) (l_areShelves i1' (by omega)) rfl wm_L_291 mi_L_areShelves rfl dL_isShipped_195 rfl rfl ⟨(Nat.le_of_ble_eq_true rfl), (Nat.le_of_ble_eq_true rfl)⟩ ⟨(by show _ ≤ 500; omega), (by show _ ≤ 4000; omega)⟩ (Nat.le_of_ble_eq_true rfl) (fun w => J.and fun e => J.ex fun u5 => J.and fun q5 => ?_)
                subst e
                have hU5 := hU.sam (q4.tr q5).sam
                have hok5 := hU5.2.1.okI (i1'.sq (q5.sq (o := 1) (by decide)))
                have hs8 := hU5.2.1.2.2.1.1
                have hs2 := hU5.1
                refine J.if_eq (μ := mL_isShipped) (pc := 198) 212 dL_isShipped_198 (by decide) (fun h8 => ?_) (fun h8 => ?_)
                · exact absurd h8 (by decide)
                · refine J.aload_n (μ := mL_isShipped) (pc := 201) dL_isShipped_201 rfl ?_
                  refine J.callSW (μ := mL_isShipped) (pc := 202) (l_undo hok5) rfl wm_L_166 mi_L_undo (fun h => by cases h) dL_isShipped_202 rfl rfl ⟨(Nat.le_of_ble_eq_true rfl), (Nat.le_of_ble_eq_true rfl)⟩ ⟨(by show _ ≤ 500; omega), (by show _ ≤ 4000; omega)⟩ (Nat.le_of_ble_eq_true rfl) (fun w => J.ex fun r6 => J.ex fun u6 => J.and fun hc => ?_)
                  obtain ⟨e, ⟨-, er6, eu6⟩ | ⟨e0, -, -⟩⟩ := hc
                  · subst e er6 eu6
                    refine J.if_lt (μ := mL_isShipped) (pc := 205) 212 dL_isShipped_205 (by decide) (fun h9 => ?_) (fun h9 => ?_)
                    · exact absurd h9 (nI_pos (by omega))
                    · refine J.iconst (μ := mL_isShipped) (pc := 208) (v := 1) dL_isShipped_208 (by decide) ?_
                      refine J.goto (μ := mL_isShipped) (pc := 209) 213 dL_isShipped_209 (by decide) ?_
                      refine J.istore (μ := mL_isShipped) (pc := 213) dL_isShipped_213 (Nat.le_of_ble_eq_true rfl) rfl ?_
                      exact sh_c hI hT ((hBu.tr hU5.undo).mono (by omega)) (by omega) (by omega)
                  · exact absurd e0 (by omega)

theorem l_isShipped {γ : Gm} {T N M H : Nat} {v : Vs} (hI : Inv 0 T N M H (iv v 1)) (hT : T + 198 ≤ 9000000) {x : Int32} (hx : 0 ≤ x ∧ x ≤ 5) {n s : Nat} (hD : DI T v n s) : Ev γ mL_isShipped yL_isShipped 35 500 4000 [.ref (gz γ + 0), .int x] (Rp γ v) (fun r K => r = some (.int 1) ∧ ∃ w, Bk (T + 198) v w ∧ Rp γ w K) := by
  have h20 := hI.1.1.2
  have hok := hD.okI hI
  have esh := hI.shp x
  have s8 := shp_0 hI x
  refine Ev.ofJ (by decide) rfl (fun h => by cases h) (Nat.le_of_ble_eq_true rfl) ?_
  refine J.aload_n (μ := mL_isShipped) (pc := 0) dL_isShipped_0 rfl ?_
  refine J.callS (μ := mL_isShipped) (pc := 1) (l_digest hI (by omega)) rfl wm_L_278 mi_L_digest rfl dL_isShipped_1 rfl rfl ⟨(Nat.le_of_ble_eq_true rfl), (Nat.le_of_ble_eq_true rfl)⟩ ⟨(by show _ ≤ 500; omega), (by show _ ≤ 4000; omega)⟩ (Nat.le_of_ble_eq_true rfl) (fun w => J.and fun e => ?_)
  subst e
  refine J.lstore_n (μ := mL_isShipped) (pc := 4) dL_isShipped_4 (Nat.le_of_ble_eq_true rfl) rfl ?_
  refine J.aload_n (μ := mL_isShipped) (pc := 5) dL_isShipped_5 rfl ?_
  refine J.iload_n (μ := mL_isShipped) (pc := 6) dL_isShipped_6 rfl ?_
  refine J.cV (μ := mL_isShipped) (pc := 7) (s_X11_available hI.vN h20 hx) rfl wm_L_286 mi_X11_available rfl dL_isShipped_7 (Rp.isa (T := TX11) rfl sh0) rfl rfl ⟨(Nat.le_of_ble_eq_true rfl), (Nat.le_of_ble_eq_true rfl)⟩ ⟨(by show _ ≤ 500; omega), (by show _ ≤ 4000; omega)⟩ (Nat.le_of_ble_eq_true rfl) ?_
  refine J.istore (μ := mL_isShipped) (pc := 10) dL_isShipped_10 (Nat.le_of_ble_eq_true rfl) rfl ?_
  refine J.aload_n (μ := mL_isShipped) (pc := 12) dL_isShipped_12 rfl ?_
  refine J.iload_n (μ := mL_isShipped) (pc := 13) dL_isShipped_13 rfl ?_
  refine J.callSW (μ := mL_isShipped) (pc := 14) (l_firstToShip hI.vN h20 hx) rfl wm_L_289 mi_L_firstToShip (fun h => by cases h) dL_isShipped_14 rfl rfl ⟨(Nat.le_of_ble_eq_true rfl), (Nat.le_of_ble_eq_true rfl)⟩ ⟨(by show _ ≤ 500; omega), (by show _ ≤ 4000; omega)⟩ (Nat.le_of_ble_eq_true rfl) (fun w => J.and fun e => ?_)
  subst e
  refine J.istore (μ := mL_isShipped) (pc := 17) dL_isShipped_17 (Nat.le_of_ble_eq_true rfl) rfl ?_
  refine J.aload_n (μ := mL_isShipped) (pc := 19) dL_isShipped_19 rfl ?_
  refine J.cV (μ := mL_isShipped) (pc := 20) (s_X11_shipped) rfl wm_L_180 mi_X11_shipped rfl dL_isShipped_20 (Rp.isa (T := TX11) rfl sh0) rfl rfl ⟨(Nat.le_of_ble_eq_true rfl), (Nat.le_of_ble_eq_true rfl)⟩ ⟨(by show _ ≤ 500; omega), (by show _ ≤ 4000; omega)⟩ (Nat.le_of_ble_eq_true rfl) ?_
  refine J.istore (μ := mL_isShipped) (pc := 23) dL_isShipped_23 (Nat.le_of_ble_eq_true rfl) rfl ?_
  refine J.iload (μ := mL_isShipped) (pc := 25) dL_isShipped_25 rfl ?_
  by_cases h0 : su (shZ (iv v 1) x.toInt) N = 0
  · rw [hI.esh0 h0, nz_n (by decide)]
    have z0 : shpV v 1 N x = 0 := by rw [t_eq, t_0]; omega
    refine J.if_ne (μ := mL_isShipped) (pc := 27) 64 dL_isShipped_27 (by decide) (fun h1 => ?_) (fun h1 => ?_)
    · exact absurd z0 h1
    · refine J.iload (μ := mL_isShipped) (pc := 30) dL_isShipped_30 rfl ?_
      refine J.sipush (μ := mL_isShipped) (pc := 32) (v := -1000) dL_isShipped_32 (by decide) ?_
      refine J.icmp_ne (μ := mL_isShipped) (pc := 35) 62 dL_isShipped_35 (by decide) (fun h2 => ?_) (fun h2 => ?_)
      · exact absurd rfl h2
      · refine J.aload_n (μ := mL_isShipped) (pc := 38) dL_isShipped_38 rfl ?_
        refine J.iload_n (μ := mL_isShipped) (pc := 39) dL_isShipped_39 rfl ?_
        refine J.iconst (μ := mL_isShipped) (pc := 40) (v := 1) dL_isShipped_40 (by decide) ?_
        refine J.callSW (μ := mL_isShipped) (pc := 41) (l_ship hok x 1) rfl wm_L_141 mi_L_ship (fun h => by cases h) dL_isShipped_41 rfl rfl ⟨(Nat.le_of_ble_eq_true rfl), (Nat.le_of_ble_eq_true rfl)⟩ ⟨(by show _ ≤ 500; omega), (by show _ ≤ 4000; omega)⟩ (Nat.le_of_ble_eq_true rfl) (fun w => J.ex fun r => J.ex fun u2 => J.and fun hc => ?_)
        obtain ⟨e, hc⟩ := hc
        obtain ⟨er, q, -⟩ := hD.den hc (by
          rw [vd_5]
          unfold vdShip
          rw [if_pos hx, if_pos (by decide), if_neg (by rw [z0]; decide)]
          show ¬ (6 : Int32) = 0
          decide)
        have hB : Bk (T + 198) v u2 := (hD.bk q).mono (by omega)
        have hIw := hI.sq hB.2.1
        subst e
        rw [er]
        refine J.ldc (μ := mL_isShipped) (pc := 44) rfl wo_L_10 dL_isShipped_44 ?_
        refine J.icmp_ne (μ := mL_isShipped) (pc := 46) 62 dL_isShipped_46 (by decide) (fun h3 => ?_) (fun h3 => ?_)
        · exact absurd rfl h3
        · refine J.aload_n (μ := mL_isShipped) (pc := 49) dL_isShipped_49 rfl ?_
          refine J.callS (μ := mL_isShipped) (pc := 50) (l_digest hIw (by omega)) rfl wm_L_278 mi_L_digest rfl dL_isShipped_50 rfl rfl ⟨(Nat.le_of_ble_eq_true rfl), (Nat.le_of_ble_eq_true rfl)⟩ ⟨(by show _ ≤ 500; omega), (by show _ ≤ 4000; omega)⟩ (Nat.le_of_ble_eq_true rfl) (fun w => J.and fun e => ?_)
          subst e
          rw [dg_sq hB.2.1]
          refine J.lload_n (μ := mL_isShipped) (pc := 53) dL_isShipped_53 rfl ?_
          refine J.lcmp (μ := mL_isShipped) (pc := 54) dL_isShipped_54 ?_
          rw [lg_self]
          refine J.if_ne (μ := mL_isShipped) (pc := 55) 62 dL_isShipped_55 (by decide) (fun h4 => ?_) (fun h4 => ?_)
          · exact absurd rfl h4
          · refine J.iconst (μ := mL_isShipped) (pc := 58) (v := 1) dL_isShipped_58 (by decide) ?_
            refine J.goto (μ := mL_isShipped) (pc := 59) 63 dL_isShipped_59 (by decide) ?_
            exact J.zret (μ := mL_isShipped) (pc := 63) dL_isShipped_63 rfl rfl (by omega) (by omega) (fun K k => ⟨rfl, _, hB, k⟩)
  · have h0' : 0 < su (shZ (iv v 1) x.toInt) N := by omega
    obtain ⟨i, hi, ei, z1, z2, z3⟩ := hI.esh1 h0'
    have hli : hasL v 1 (nI i) := hI.hsL.mpr ⟨i, hi, rfl⟩
    have hvo := (hI.lot hi).2.2.2.1.vo
    have r3 : (v 1 3).toInt = iv v 1 0 3 := rfl
    rw [ei, nz_p (nI_pos (by omega))]
    refine J.if_ne (μ := mL_isShipped) (pc := 27) 64 dL_isShipped_27 (by decide) (fun h1 => ?_) (fun h1 => ?_)
    · refine J.aload_n (μ := mL_isShipped) (pc := 64) dL_isShipped_64 rfl ?_
      refine J.iload (μ := mL_isShipped) (pc := 65) dL_isShipped_65 rfl ?_
      refine J.cV (μ := mL_isShipped) (pc := 67) (s_X11_volumeOf hli) rfl wm_L_206 mi_X11_volumeOf rfl dL_isShipped_67 (Rp.isa (T := TX11) rfl sh0) rfl rfl ⟨(Nat.le_of_ble_eq_true rfl), (Nat.le_of_ble_eq_true rfl)⟩ ⟨(by show _ ≤ 500; omega), (by show _ ≤ 4000; omega)⟩ (Nat.le_of_ble_eq_true rfl) ?_
      refine J.istore (μ := mL_isShipped) (pc := 70) dL_isShipped_70 (Nat.le_of_ble_eq_true rfl) rfl ?_
      refine J.aload_n (μ := mL_isShipped) (pc := 72) dL_isShipped_72 rfl ?_
      refine J.iload (μ := mL_isShipped) (pc := 73) dL_isShipped_73 rfl ?_
      refine J.cV (μ := mL_isShipped) (pc := 75) (s_X11_isExpired hli) rfl wm_L_258 mi_X11_isExpired rfl dL_isShipped_75 (Rp.isa (T := TX11) rfl sh0) rfl rfl ⟨(Nat.le_of_ble_eq_true rfl), (Nat.le_of_ble_eq_true rfl)⟩ ⟨(by show _ ≤ 500; omega), (by show _ ≤ 4000; omega)⟩ (Nat.le_of_ble_eq_true rfl) ?_
      rw [decide_eq_false (show ¬ gEp v 1 (nI i) < v 1 3 from by rw [t_lt, zEp (by omega), r3]; exact z3)]
      refine J.if_ne (μ := mL_isShipped) (pc := 78) 127 dL_isShipped_78 (by decide) (fun h2 => ?_) (fun h2 => ?_)
      · exact absurd rfl h2
      · refine J.aload_n (μ := mL_isShipped) (pc := 81) dL_isShipped_81 rfl ?_
        refine J.iload_n (μ := mL_isShipped) (pc := 82) dL_isShipped_82 rfl ?_
        refine J.iconst (μ := mL_isShipped) (pc := 83) (v := 1) dL_isShipped_83 (by decide) ?_
        refine J.callSW (μ := mL_isShipped) (pc := 84) (l_ship hok x 1) rfl wm_L_141 mi_L_ship (fun h => by cases h) dL_isShipped_84 rfl rfl ⟨(Nat.le_of_ble_eq_true rfl), (Nat.le_of_ble_eq_true rfl)⟩ ⟨(by show _ ≤ 500; omega), (by show _ ≤ 4000; omega)⟩ (Nat.le_of_ble_eq_true rfl) (fun w => J.ex fun r => J.ex fun u2 => J.and fun hc => ?_)
        obtain ⟨e, hc⟩ := hc
        have hv : (vdOf v 1 N M 5 x 1 0 0).1 = 0 := by
          rw [vd_5]
          unfold vdShip
          rw [if_pos hx, if_pos (by decide), if_pos (by rw [t_le, t_1]; omega)]
        obtain ⟨kk, hk1, er3, eu3, hkp, hd⟩ := hD.app (by omega) hI (by omega) hc hv
        obtain ⟨i1, -, i3, -⟩ := shi_1 hI (by omega) hk1 hv er3 eu3
        obtain ⟨j1, j2⟩ := shi_11 hI hk1 h0' er3 eu3 hi ei
        have hU := U1.of hD.2.1.1 hkp hd
        have hl2 : hasL u2 1 (nI i) := i1.hsL.mpr ⟨i, hi, rfl⟩
        have hoku := hU.2.1.okI i1
        have hs8 := hU.2.1.2.2.1.1
        have hs2 := hU.1
        subst e
        rw [j1]
        refine J.iconst (μ := mL_isShipped) (pc := 87) (v := 1) dL_isShipped_87 (by decide) ?_
        refine J.icmp_ne (μ := mL_isShipped) (pc := 88) 127 dL_isShipped_88 (by decide) (fun h3 => ?_) (fun h3 => ?_)
        · exact absurd rfl h3
        · refine J.aload_n (μ := mL_isShipped) (pc := 91) dL_isShipped_91 rfl ?_
          refine J.iload (μ := mL_isShipped) (pc := 92) dL_isShipped_92 rfl ?_
          refine J.cV (μ := mL_isShipped) (pc := 94) (s_X11_volumeOf hl2) rfl wm_L_206 mi_X11_volumeOf rfl dL_isShipped_94 (Rp.isa (T := TX11) rfl sh0) rfl rfl ⟨(Nat.le_of_ble_eq_true rfl), (Nat.le_of_ble_eq_true rfl)⟩ ⟨(by show _ ≤ 500; omega), (by show _ ≤ 4000; omega)⟩ (Nat.le_of_ble_eq_true rfl) ?_
          rw [show gVo u2 1 (nI i) = gVo v 1 (nI i) - 1 from by
            rw [t_eq, t_sub (by rw [zVo (by omega), t_1]; omega) (by rw [zVo (by omega), t_1]; omega), zVo (by omega), zVo (by omega), t_1]; exact j2]
          refine J.iload (μ := mL_isShipped) (pc := 97) dL_isShipped_97 rfl ?_
          refine J.iconst (μ := mL_isShipped) (pc := 99) (v := 1) dL_isShipped_99 (by decide) ?_
          refine J.isub (μ := mL_isShipped) (pc := 100) dL_isShipped_100 ?_
          refine J.icmp_ne (μ := mL_isShipped) (pc := 101) 127 dL_isShipped_101 (by decide) (fun h4 => ?_) (fun h4 => ?_)
          · exact absurd rfl h4
          · refine J.aload_n (μ := mL_isShipped) (pc := 104) dL_isShipped_104 rfl ?_
            refine J.iload_n (μ := mL_isShipped) (pc := 105) dL_isShipped_105 rfl ?_
            refine J.cV (μ := mL_isShipped) (pc := 106) (s_X11_available i1.vN h20 hx) rfl wm_L_286 mi_X11_available rfl dL_isShipped_106 (Rp.isa (T := TX11) rfl sh0) rfl rfl ⟨(Nat.le_of_ble_eq_true rfl), (Nat.le_of_ble_eq_true rfl)⟩ ⟨(by show _ ≤ 500; omega), (by show _ ≤ 4000; omega)⟩ (Nat.le_of_ble_eq_true rfl) ?_
            rw [show shpV u2 1 N x = shpV v 1 N x - 1 from by rw [t_eq, i3, t_sub (by rw [t_1]; omega) (by rw [t_1]; omega)]]
            refine J.iload (μ := mL_isShipped) (pc := 109) dL_isShipped_109 rfl ?_
            refine J.iconst (μ := mL_isShipped) (pc := 111) (v := 1) dL_isShipped_111 (by decide) ?_
            refine J.isub (μ := mL_isShipped) (pc := 112) dL_isShipped_112 ?_
            refine J.icmp_ne (μ := mL_isShipped) (pc := 113) 127 dL_isShipped_113 (by decide) (fun h5 => ?_) (fun h5 => ?_)
            · exact absurd rfl h5
            · refine J.aload_n (μ := mL_isShipped) (pc := 116) dL_isShipped_116 rfl ?_
              refine J.callSW (μ := mL_isShipped) (pc := 117) (l_undo hoku) rfl wm_L_166 mi_L_undo (fun h => by cases h) dL_isShipped_117 rfl rfl ⟨(Nat.le_of_ble_eq_true rfl), (Nat.le_of_ble_eq_true rfl)⟩ ⟨(by show _ ≤ 500; omega), (by show _ ≤ 4000; omega)⟩ (Nat.le_of_ble_eq_true rfl) (fun w => J.ex fun r6 => J.ex fun u6 => J.and fun hc => ?_)
              obtain ⟨e, ⟨-, er6, eu6⟩ | ⟨e0, -, -⟩⟩ := hc
              · subst e er6 eu6
                refine J.if_lt (μ := mL_isShipped) (pc := 120) 127 dL_isShipped_120 (by decide) (fun h6 => ?_) (fun h6 => ?_)
                · exact absurd h6 (nI_pos (by omega))
                · refine J.iconst (μ := mL_isShipped) (pc := 123) (v := 1) dL_isShipped_123 (by decide) ?_
                  refine J.goto (μ := mL_isShipped) (pc := 124) 128 dL_isShipped_124 (by decide) ?_
                  refine J.istore (μ := mL_isShipped) (pc := 128) dL_isShipped_128 (Nat.le_of_ble_eq_true rfl) rfl ?_
                  exact sh_b hI hT hx h0' hU.undo (by omega) (by omega)
              · exact absurd e0 (by omega)
    · exfalso
      have h1 : shpV v 1 N x = 0 := by first | exact h1 | exact Classical.not_not.mp h1
      rw [t_eq, t_0] at h1
      omega
