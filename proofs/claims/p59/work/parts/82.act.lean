/-! the law: act -/
section AZ
variable {v u u1 u0 : Vs} {T n s N M H : Nat}
theorem and_lo (x : Int32) (m : Nat) : ∃ c, c ≤ m ∧ x &&& nI m = nI c := by
  refine ⟨(x.toBitVec &&& (nI m).toBitVec).toNat, ?_, ?_⟩
  · rw [BitVec.toNat_and]
    refine Nat.le_trans Nat.and_le_right ?_
    show (BitVec.ofNat 32 m).toNat ≤ m
    rw [BitVec.toNat_ofNat]
    exact Nat.mod_le _ _
  · apply Int32.toBitVec_inj.mp
    show x.toBitVec &&& (nI m).toBitVec = BitVec.ofNat 32 _
    rw [BitVec.ofNat_toNat, BitVec.setWidth_eq]
/-- what a text that was typed and executed has done -/
def TE (T : Nat) (v : Vs) (n s : Nat) (bs : List Nat) (r : Int32) (u : Vs) : Prop := (r = -100000000 ∧ Sam v u ∧ DI T u n s ∧ (pz bs 60 0 ≠ none → u 0 10 = 8 ∧ 0 < u 0 12)) ∨ (r ≠ -100000000 ∧ Kpt v u n s ∧ DI (T + 5940) u ((n + 1) % 8) (min (s + 1) 8))
theorem te_of (h : DI T v n s) (hy : Ty v u1) (hd : Dr u1 u0) {bs : List Nat} {r : Int32} (ho : (∃ l, pz bs 60 0 = some l ∧ r = nI l.length ∧ SI (T + 5940) u0 27 ∧ u = exV u0 n s) ∨ (r = -100000000 ∧ u = up2 u0 302 2 0 ∧ (pz bs 60 0 ≠ none → u0 0 10 = 8 ∧ 0 < u0 0 12))) : TE T v n s bs r u := by
  obtain ⟨⟨e1, e2⟩, e3⟩ := h.exec hy.sam hd
  rcases ho with ⟨l, o1, o2, o3, o4⟩ | ⟨o1, o2, o3⟩
  · obtain ⟨e4, e5⟩ := e3 o3
    refine .inr ⟨fun q => ?_, by rw [o4]; exact e4, by rw [o4]; exact e5⟩
    have hl := pz_len o1
    rw [o2, t_eq, t_nI (by omega)] at q
    have : (-100000000 : Int32).toInt = -100000000 := by decide
    omega
  · exact .inl ⟨o1, by rw [o2]; exact e1, by rw [o2]; exact e2, fun q => by rw [o2, up2_o _ _ _ (by decide)]; exact o3 q⟩
/-- what an act has done -/
def Ac (T : Nat) (v : Vs) (r : Int32) (u : Vs) : Prop := (∃ n s, DI (T + 6000) u n s) ∧ (r = -100000000 → Stq v u 1 1)
theorem ac_c (h : DI T v n s) (hT : T ≤ 1000000000) (hI : Inv 0 T N M H (iv v 1)) {c a b e f r : Int32} (hC : CmdR v N M H n s c a b e f r u) : Ac T v r u := by
  rcases h.cmd hT hI hC with ⟨-, q, d⟩ | ⟨q, -, d⟩
  · exact ⟨⟨_, _, d.mono (by omega)⟩, fun _ => q.sq (by decide) (by decide) (by decide)⟩
  · refine ⟨⟨_, _, d.mono (by omega)⟩, fun z => ?_⟩
    rw [z] at q
    have : (-100000000 : Int32).toInt = -100000000 := by decide
    omega
theorem ac_t {bs : List Nat} {r : Int32} (h : TE T v n s bs r u) : Ac T v r u := by
  rcases h with ⟨-, q, d, -⟩ | ⟨q, -, d⟩
  · exact ⟨⟨_, _, d.mono (by omega)⟩, fun _ => q.sq (by decide) (by decide) (by decide)⟩
  · exact ⟨⟨_, _, d.mono (by omega)⟩, fun z => absurd z q⟩
theorem nI_ne8 {a : Nat} (ha : a < 1000) : nI a ≠ -100000000 := fun q => by
  rw [t_eq, t_nI (by omega)] at q
  have : (-100000000 : Int32).toInt = -100000000 := by decide
  omega
end AZ
set_option maxHeartbeats 1000000 in
theorem l_act {γ : Gm} {T N M H n s : Nat} {v : Vs} (hI : Inv 0 T N M H (iv v 1)) (hD : DI T v n s) (hT : T ≤ 900000000) (x : Int32) : Ev γ mL_act yL_act 33 2 12 [.ref (gz γ + 0), .int x] (Rp γ v) (fun w K => ∃ (r : Int32) (u : Vs), (w = some (.int r) ∧ Ac T v r u) ∧ Rp γ u K) := by
  have hok := hD.okI hI
  have h20 := hI.1.1.2
  refine Ev.ofJ (by decide) rfl (fun h => by cases h) (Nat.le_of_ble_eq_true rfl) ?_
  refine J.iload_n (μ := mL_act) (pc := 0) dL_act_0 rfl ?_
  refine J.iconst (μ := mL_act) (pc := 1) (v := 4) dL_act_1 (by decide) ?_
  refine J.ishr (μ := mL_act) (pc := 2) dL_act_2 ?_
  refine J.ldc (μ := mL_act) (pc := 3) rfl wo_L_7 dL_act_3 ?_
  obtain ⟨y, hy, ey⟩ := and_lo (x >>> (4 &&& 31)) 65535
  have ey : (x >>> (4 &&& 31)) &&& 65535 = nI y := ey
  refine J.iand (μ := mL_act) (pc := 5) dL_act_5 ?_
  rw [ey]
  generalize hlot : nI y - nI y / 12 * 12 = lot
  refine J.istore_n (μ := mL_act) (pc := 6) dL_act_6 (Nat.le_of_ble_eq_true rfl) rfl ?_
  refine J.iload_n (μ := mL_act) (pc := 7) dL_act_7 rfl ?_
  refine J.bipush (μ := mL_act) (pc := 8) (v := 12) dL_act_8 (by decide) ?_
  refine J.irem (μ := mL_act) (pc := 10) dL_act_10 (by decide) ?_
  rw [hlot]
  refine J.istore_n (μ := mL_act) (pc := 11) dL_act_11 (Nat.le_of_ble_eq_true rfl) rfl ?_
  refine J.iload_n (μ := mL_act) (pc := 12) dL_act_12 rfl ?_
  refine J.iconst (μ := mL_act) (pc := 13) (v := 4) dL_act_13 (by decide) ?_
  refine J.ishr (μ := mL_act) (pc := 14) dL_act_14 ?_
  refine J.bipush (μ := mL_act) (pc := 15) (v := 12) dL_act_15 (by decide) ?_
  refine J.irem (μ := mL_act) (pc := 17) dL_act_17 (by decide) ?_
  refine J.istore (μ := mL_act) (pc := 18) dL_act_18 (Nat.le_of_ble_eq_true rfl) rfl ?_
  generalize hoth : nI y >>> (4 &&& 31) - nI y >>> (4 &&& 31) / 12 * 12 = other
  obtain ⟨c, hc, ec⟩ := and_lo x 15
  have ec : x &&& 15 = nI c := ec
  refine J.iload_n (μ := mL_act) (pc := 20) dL_act_20 rfl ?_
  refine J.bipush (μ := mL_act) (pc := 21) (v := 15) dL_act_21 (by decide) ?_
  refine J.iand (μ := mL_act) (pc := 23) dL_act_23 ?_
  rw [ec]
  have t100 : J γ mL_act (rmD 33 2 12) (fEv γ 2 12 (fun w K => ∃ (r : Int32) (u : Vs), (w = some (.int r) ∧ Ac T v r u) ∧ Rp γ u K)) 0 0 100 [some (.ref (gz γ + 0)), some (.int (x)), some (.int (nI y)), some (.int (lot)), some (.int (other))] [] (Rp γ v) := by
    refine J.iload_n (μ := mL_act) (pc := 100) dL_act_100 rfl ?_
    refine J.bipush (μ := mL_act) (pc := 101) (v := 64) dL_act_101 (by decide) ?_
    refine J.iand (μ := mL_act) (pc := 103) dL_act_103 ?_
    refine J.if_ne (μ := mL_act) (pc := 104) 123 dL_act_104 (by decide) (fun h1 => ?_) (fun h1 => ?_)
    · refine J.aload_n (μ := mL_act) (pc := 123) dL_act_123 rfl ?_
      refine J.iload_n (μ := mL_act) (pc := 124) dL_act_124 rfl ?_
      refine J.bipush (μ := mL_act) (pc := 125) (v := 9) dL_act_125 (by decide) ?_
      refine J.irem (μ := mL_act) (pc := 127) dL_act_127 (by decide) ?_
      refine J.callSW (μ := mL_act) (pc := 128) (l_count hok _) rfl wm_L_129 mi_L_count (fun h => by cases h) dL_act_128 rfl rfl ⟨(Nat.le_of_ble_eq_true rfl), (Nat.le_of_ble_eq_true rfl)⟩ ⟨(by show _ ≤ 2; omega), (by show _ ≤ 12; omega)⟩ (Nat.le_of_ble_eq_true rfl) (fun w => J.ex fun r => J.ex fun u1 => J.and fun hc2 => ?_)
      obtain ⟨e, hc2⟩ := hc2
      subst e
      exact J.iret (μ := mL_act) (pc := 131) dL_act_131 rfl (Nat.le_of_ble_eq_true rfl) (Nat.le_of_ble_eq_true rfl) (fun K k => ⟨_, _, ⟨rfl, ac_c hD (by omega) hI hc2⟩, k⟩)
    · refine J.aload_n (μ := mL_act) (pc := 107) dL_act_107 rfl ?_
      refine J.iload_n (μ := mL_act) (pc := 108) dL_act_108 rfl ?_
      refine J.iconst (μ := mL_act) (pc := 109) (v := 4) dL_act_109 (by decide) ?_
      refine J.irem (μ := mL_act) (pc := 110) dL_act_110 (by decide) ?_
      refine J.iload_n (μ := mL_act) (pc := 111) dL_act_111 rfl ?_
      refine J.iconst (μ := mL_act) (pc := 112) (v := 2) dL_act_112 (by decide) ?_
      refine J.ishr (μ := mL_act) (pc := 113) dL_act_113 ?_
      refine J.bipush (μ := mL_act) (pc := 114) (v := 42) dL_act_114 (by decide) ?_
      refine J.irem (μ := mL_act) (pc := 116) dL_act_116 (by decide) ?_
      refine J.callSW (μ := mL_act) (pc := 117) (l_addShelf hok _ _) rfl wm_L_126 mi_L_addShelf (fun h => by cases h) dL_act_117 rfl rfl ⟨(Nat.le_of_ble_eq_true rfl), (Nat.le_of_ble_eq_true rfl)⟩ ⟨(by show _ ≤ 2; omega), (by show _ ≤ 12; omega)⟩ (Nat.le_of_ble_eq_true rfl) (fun w => J.ex fun r => J.ex fun u1 => J.and fun hc2 => ?_)
      obtain ⟨e, hc2⟩ := hc2
      subst e
      refine J.goto (μ := mL_act) (pc := 120) 131 dL_act_120 (by decide) ?_
      exact J.iret (μ := mL_act) (pc := 131) dL_act_131 rfl (Nat.le_of_ble_eq_true rfl) (Nat.le_of_ble_eq_true rfl) (fun K k => ⟨_, _, ⟨rfl, ac_c hD (by omega) hI hc2⟩, k⟩)

  have t132 : J γ mL_act (rmD 33 2 12) (fEv γ 2 12 (fun w K => ∃ (r : Int32) (u : Vs), (w = some (.int r) ∧ Ac T v r u) ∧ Rp γ u K)) 0 0 132 [some (.ref (gz γ + 0)), some (.int (x)), some (.int (nI y)), some (.int (lot)), some (.int (other))] [] (Rp γ v) := by
    refine J.aload_n (μ := mL_act) (pc := 132) dL_act_132 rfl ?_
    refine J.iload_n (μ := mL_act) (pc := 133) dL_act_133 rfl ?_
    refine J.iconst (μ := mL_act) (pc := 134) (v := 4) dL_act_134 (by decide) ?_
    refine J.irem (μ := mL_act) (pc := 135) dL_act_135 (by decide) ?_
    refine J.iload_n (μ := mL_act) (pc := 136) dL_act_136 rfl ?_
    refine J.iconst (μ := mL_act) (pc := 137) (v := 2) dL_act_137 (by decide) ?_
    refine J.ishr (μ := mL_act) (pc := 138) dL_act_138 ?_
    refine J.bipush (μ := mL_act) (pc := 139) (v := 15) dL_act_139 (by decide) ?_
    refine J.irem (μ := mL_act) (pc := 141) dL_act_141 (by decide) ?_
    refine J.iload_n (μ := mL_act) (pc := 142) dL_act_142 rfl ?_
    refine J.iconst (μ := mL_act) (pc := 143) (v := 5) dL_act_143 (by decide) ?_
    refine J.ishr (μ := mL_act) (pc := 144) dL_act_144 ?_
    refine J.iconst (μ := mL_act) (pc := 145) (v := 3) dL_act_145 (by decide) ?_
    refine J.irem (μ := mL_act) (pc := 146) dL_act_146 (by decide) ?_
    refine J.iload_n (μ := mL_act) (pc := 147) dL_act_147 rfl ?_
    refine J.bipush (μ := mL_act) (pc := 148) (v := 6) dL_act_148 (by decide) ?_
    refine J.ishr (μ := mL_act) (pc := 150) dL_act_150 ?_
    refine J.bipush (μ := mL_act) (pc := 151) (v := 12) dL_act_151 (by decide) ?_
    refine J.irem (μ := mL_act) (pc := 153) dL_act_153 (by decide) ?_
    refine J.callSW (μ := mL_act) (pc := 154) (l_receive hok _ _ _ _) rfl wm_L_132 mi_L_receive (fun h => by cases h) dL_act_154 rfl rfl ⟨(Nat.le_of_ble_eq_true rfl), (Nat.le_of_ble_eq_true rfl)⟩ ⟨(by show _ ≤ 2; omega), (by show _ ≤ 12; omega)⟩ (Nat.le_of_ble_eq_true rfl) (fun w => J.ex fun r => J.ex fun u1 => J.and fun hc2 => ?_)
    obtain ⟨e, hc2⟩ := hc2
    subst e
    exact J.iret (μ := mL_act) (pc := 157) dL_act_157 rfl (Nat.le_of_ble_eq_true rfl) (Nat.le_of_ble_eq_true rfl) (fun K k => ⟨_, _, ⟨rfl, ac_c hD (by omega) hI hc2⟩, k⟩)

  have t158 : J γ mL_act (rmD 33 2 12) (fEv γ 2 12 (fun w K => ∃ (r : Int32) (u : Vs), (w = some (.int r) ∧ Ac T v r u) ∧ Rp γ u K)) 0 0 158 [some (.ref (gz γ + 0)), some (.int (x)), some (.int (nI y)), some (.int (lot)), some (.int (other))] [] (Rp γ v) := by
    refine J.aload_n (μ := mL_act) (pc := 158) dL_act_158 rfl ?_
    refine J.iload_n (μ := mL_act) (pc := 159) dL_act_159 rfl ?_
    refine J.iload_n (μ := mL_act) (pc := 160) dL_act_160 rfl ?_
    refine J.iconst (μ := mL_act) (pc := 161) (v := 4) dL_act_161 (by decide) ?_
    refine J.ishr (μ := mL_act) (pc := 162) dL_act_162 ?_
    refine J.bipush (μ := mL_act) (pc := 163) (v := 8) dL_act_163 (by decide) ?_
    refine J.irem (μ := mL_act) (pc := 165) dL_act_165 (by decide) ?_
    refine J.callSW (μ := mL_act) (pc := 166) (l_split hok _ _) rfl wm_L_135 mi_L_split (fun h => by cases h) dL_act_166 rfl rfl ⟨(Nat.le_of_ble_eq_true rfl), (Nat.le_of_ble_eq_true rfl)⟩ ⟨(by show _ ≤ 2; omega), (by show _ ≤ 12; omega)⟩ (Nat.le_of_ble_eq_true rfl) (fun w => J.ex fun r => J.ex fun u1 => J.and fun hc2 => ?_)
    obtain ⟨e, hc2⟩ := hc2
    subst e
    exact J.iret (μ := mL_act) (pc := 169) dL_act_169 rfl (Nat.le_of_ble_eq_true rfl) (Nat.le_of_ble_eq_true rfl) (fun K k => ⟨_, _, ⟨rfl, ac_c hD (by omega) hI hc2⟩, k⟩)

  have t170 : J γ mL_act (rmD 33 2 12) (fEv γ 2 12 (fun w K => ∃ (r : Int32) (u : Vs), (w = some (.int r) ∧ Ac T v r u) ∧ Rp γ u K)) 0 0 170 [some (.ref (gz γ + 0)), some (.int (x)), some (.int (nI y)), some (.int (lot)), some (.int (other))] [] (Rp γ v) := by
    refine J.aload_n (μ := mL_act) (pc := 170) dL_act_170 rfl ?_
    refine J.iload_n (μ := mL_act) (pc := 171) dL_act_171 rfl ?_
    refine J.iload (μ := mL_act) (pc := 172) dL_act_172 rfl ?_
    refine J.callSW (μ := mL_act) (pc := 174) (l_mix hok _ _) rfl wm_L_137 mi_L_mix (fun h => by cases h) dL_act_174 rfl rfl ⟨(Nat.le_of_ble_eq_true rfl), (Nat.le_of_ble_eq_true rfl)⟩ ⟨(by show _ ≤ 2; omega), (by show _ ≤ 12; omega)⟩ (Nat.le_of_ble_eq_true rfl) (fun w => J.ex fun r => J.ex fun u1 => J.and fun hc2 => ?_)
    obtain ⟨e, hc2⟩ := hc2
    subst e
    exact J.iret (μ := mL_act) (pc := 177) dL_act_177 rfl (Nat.le_of_ble_eq_true rfl) (Nat.le_of_ble_eq_true rfl) (fun K k => ⟨_, _, ⟨rfl, ac_c hD (by omega) hI hc2⟩, k⟩)

  have t178 : J γ mL_act (rmD 33 2 12) (fEv γ 2 12 (fun w K => ∃ (r : Int32) (u : Vs), (w = some (.int r) ∧ Ac T v r u) ∧ Rp γ u K)) 0 0 178 [some (.ref (gz γ + 0)), some (.int (x)), some (.int (nI y)), some (.int (lot)), some (.int (other))] [] (Rp γ v) := by
    refine J.aload_n (μ := mL_act) (pc := 178) dL_act_178 rfl ?_
    refine J.iload_n (μ := mL_act) (pc := 179) dL_act_179 rfl ?_
    refine J.iload_n (μ := mL_act) (pc := 180) dL_act_180 rfl ?_
    refine J.iconst (μ := mL_act) (pc := 181) (v := 4) dL_act_181 (by decide) ?_
    refine J.ishr (μ := mL_act) (pc := 182) dL_act_182 ?_
    refine J.bipush (μ := mL_act) (pc := 183) (v := 7) dL_act_183 (by decide) ?_
    refine J.irem (μ := mL_act) (pc := 185) dL_act_185 (by decide) ?_
    refine J.callSW (μ := mL_act) (pc := 186) (l_move hok _ _) rfl wm_L_139 mi_L_move (fun h => by cases h) dL_act_186 rfl rfl ⟨(Nat.le_of_ble_eq_true rfl), (Nat.le_of_ble_eq_true rfl)⟩ ⟨(by show _ ≤ 2; omega), (by show _ ≤ 12; omega)⟩ (Nat.le_of_ble_eq_true rfl) (fun w => J.ex fun r => J.ex fun u1 => J.and fun hc2 => ?_)
    obtain ⟨e, hc2⟩ := hc2
    subst e
    exact J.iret (μ := mL_act) (pc := 189) dL_act_189 rfl (Nat.le_of_ble_eq_true rfl) (Nat.le_of_ble_eq_true rfl) (fun K k => ⟨_, _, ⟨rfl, ac_c hD (by omega) hI hc2⟩, k⟩)

  have t190 : J γ mL_act (rmD 33 2 12) (fEv γ 2 12 (fun w K => ∃ (r : Int32) (u : Vs), (w = some (.int r) ∧ Ac T v r u) ∧ Rp γ u K)) 0 0 190 [some (.ref (gz γ + 0)), some (.int (x)), some (.int (nI y)), some (.int (lot)), some (.int (other))] [] (Rp γ v) := by
    refine J.aload_n (μ := mL_act) (pc := 190) dL_act_190 rfl ?_
    refine J.iload_n (μ := mL_act) (pc := 191) dL_act_191 rfl ?_
    refine J.iconst (μ := mL_act) (pc := 192) (v := 4) dL_act_192 (by decide) ?_
    refine J.irem (μ := mL_act) (pc := 193) dL_act_193 (by decide) ?_
    refine J.iload_n (μ := mL_act) (pc := 194) dL_act_194 rfl ?_
    refine J.iconst (μ := mL_act) (pc := 195) (v := 3) dL_act_195 (by decide) ?_
    refine J.ishr (μ := mL_act) (pc := 196) dL_act_196 ?_
    refine J.bipush (μ := mL_act) (pc := 197) (v := 20) dL_act_197 (by decide) ?_
    refine J.irem (μ := mL_act) (pc := 199) dL_act_199 (by decide) ?_
    refine J.callSW (μ := mL_act) (pc := 200) (l_ship hok _ _) rfl wm_L_141 mi_L_ship (fun h => by cases h) dL_act_200 rfl rfl ⟨(Nat.le_of_ble_eq_true rfl), (Nat.le_of_ble_eq_true rfl)⟩ ⟨(by show _ ≤ 2; omega), (by show _ ≤ 12; omega)⟩ (Nat.le_of_ble_eq_true rfl) (fun w => J.ex fun r => J.ex fun u1 => J.and fun hc2 => ?_)
    obtain ⟨e, hc2⟩ := hc2
    subst e
    exact J.iret (μ := mL_act) (pc := 203) dL_act_203 rfl (Nat.le_of_ble_eq_true rfl) (Nat.le_of_ble_eq_true rfl) (fun K k => ⟨_, _, ⟨rfl, ac_c hD (by omega) hI hc2⟩, k⟩)

  have t204 : J γ mL_act (rmD 33 2 12) (fEv γ 2 12 (fun w K => ∃ (r : Int32) (u : Vs), (w = some (.int r) ∧ Ac T v r u) ∧ Rp γ u K)) 0 0 204 [some (.ref (gz γ + 0)), some (.int (x)), some (.int (nI y)), some (.int (lot)), some (.int (other))] [] (Rp γ v) := by
    refine J.iload_n (μ := mL_act) (pc := 204) dL_act_204 rfl ?_
    refine J.bipush (μ := mL_act) (pc := 205) (v := 64) dL_act_205 (by decide) ?_
    refine J.iand (μ := mL_act) (pc := 207) dL_act_207 ?_
    refine J.if_ne (μ := mL_act) (pc := 208) 219 dL_act_208 (by decide) (fun h1 => ?_) (fun h1 => ?_)
    · refine J.aload_n (μ := mL_act) (pc := 219) dL_act_219 rfl ?_
      refine J.callSW (μ := mL_act) (pc := 220) (l_compost hok) rfl wm_L_145 mi_L_compost (fun h => by cases h) dL_act_220 rfl rfl ⟨(Nat.le_of_ble_eq_true rfl), (Nat.le_of_ble_eq_true rfl)⟩ ⟨(by show _ ≤ 2; omega), (by show _ ≤ 12; omega)⟩ (Nat.le_of_ble_eq_true rfl) (fun w => J.ex fun r => J.ex fun u1 => J.and fun hc2 => ?_)
      obtain ⟨e, hc2⟩ := hc2
      subst e
      exact J.iret (μ := mL_act) (pc := 223) dL_act_223 rfl (Nat.le_of_ble_eq_true rfl) (Nat.le_of_ble_eq_true rfl) (fun K k => ⟨_, _, ⟨rfl, ac_c hD (by omega) hI hc2⟩, k⟩)
    · refine J.aload_n (μ := mL_act) (pc := 211) dL_act_211 rfl ?_
      refine J.iload_n (μ := mL_act) (pc := 212) dL_act_212 rfl ?_
      refine J.callSW (μ := mL_act) (pc := 213) (l_recall hok _) rfl wm_L_143 mi_L_recall (fun h => by cases h) dL_act_213 rfl rfl ⟨(Nat.le_of_ble_eq_true rfl), (Nat.le_of_ble_eq_true rfl)⟩ ⟨(by show _ ≤ 2; omega), (by show _ ≤ 12; omega)⟩ (Nat.le_of_ble_eq_true rfl) (fun w => J.ex fun r => J.ex fun u1 => J.and fun hc2 => ?_)
      obtain ⟨e, hc2⟩ := hc2
      subst e
      refine J.goto (μ := mL_act) (pc := 216) 223 dL_act_216 (by decide) ?_
      exact J.iret (μ := mL_act) (pc := 223) dL_act_223 rfl (Nat.le_of_ble_eq_true rfl) (Nat.le_of_ble_eq_true rfl) (fun K k => ⟨_, _, ⟨rfl, ac_c hD (by omega) hI hc2⟩, k⟩)

  have t224 : J γ mL_act (rmD 33 2 12) (fEv γ 2 12 (fun w K => ∃ (r : Int32) (u : Vs), (w = some (.int r) ∧ Ac T v r u) ∧ Rp γ u K)) 0 0 224 [some (.ref (gz γ + 0)), some (.int (x)), some (.int (nI y)), some (.int (lot)), some (.int (other))] [] (Rp γ v) := by
    refine J.aload_n (μ := mL_act) (pc := 224) dL_act_224 rfl ?_
    refine J.iload_n (μ := mL_act) (pc := 225) dL_act_225 rfl ?_
    refine J.iconst (μ := mL_act) (pc := 226) (v := 3) dL_act_226 (by decide) ?_
    refine J.ishr (μ := mL_act) (pc := 227) dL_act_227 ?_
    refine J.bipush (μ := mL_act) (pc := 228) (v := 6) dL_act_228 (by decide) ?_
    refine J.irem (μ := mL_act) (pc := 230) dL_act_230 (by decide) ?_
    refine J.callSW (μ := mL_act) (pc := 231) (l_pass hok _) rfl wm_L_148 mi_L_pass (fun h => by cases h) dL_act_231 rfl rfl ⟨(Nat.le_of_ble_eq_true rfl), (Nat.le_of_ble_eq_true rfl)⟩ ⟨(by show _ ≤ 2; omega), (by show _ ≤ 12; omega)⟩ (Nat.le_of_ble_eq_true rfl) (fun w => J.ex fun r => J.ex fun u1 => J.and fun hc2 => ?_)
    obtain ⟨e, hc2⟩ := hc2
    subst e
    exact J.iret (μ := mL_act) (pc := 234) dL_act_234 rfl (Nat.le_of_ble_eq_true rfl) (Nat.le_of_ble_eq_true rfl) (fun K k => ⟨_, _, ⟨rfl, ac_c hD (by omega) hI hc2⟩, k⟩)

  have t235 : J γ mL_act (rmD 33 2 12) (fEv γ 2 12 (fun w K => ∃ (r : Int32) (u : Vs), (w = some (.int r) ∧ Ac T v r u) ∧ Rp γ u K)) 0 0 235 [some (.ref (gz γ + 0)), some (.int (x)), some (.int (nI y)), some (.int (lot)), some (.int (other))] [] (Rp γ v) := by
    refine J.aload_n (μ := mL_act) (pc := 235) dL_act_235 rfl ?_
    refine J.getZ (μ := mL_act) (pc := 236) (fun s hK => hK.ko.2.2.1) rfl wf_L_150 dL_act_236 ?_
    refine J.iload_n (μ := mL_act) (pc := 239) dL_act_239 rfl ?_
    refine J.getZ (μ := mL_act) (pc := 240) (fun s hK => hK.ko.2.2.1) rfl wf_L_150 dL_act_240 ?_
    refine J.tlen (μ := mL_act) (pc := 243) (fun s hK => hK.ko.2.2.2.1) rfl dL_act_243 ?_
    refine J.irem (μ := mL_act) (pc := 244) dL_act_244 (by decide) ?_
    rw [show Int32.ofNat 30 = nI 30 from rfl, rem_nI (by omega) (by omega)]
    have hm : y % 30 < 30 := Nat.mod_lt _ (by omega)
    obtain ⟨bs, b1, b2, b3, b4⟩ := txt_ok hm
    refine J.tq (μ := mL_act) (pc := 245) (fun s hK => hK.ko.2.2.2.1) (vp_in_of2 (by omega) (by rw [t_le, t_nI (by omega), t_0]; omega) (nI_lt hm (by omega))) (v := .ref (go γ (2 * (27 + y % 30)))) (by rw [tc_nI (by omega)]) dL_act_245 ?_
    refine J.callS (μ := mL_act) (pc := 246) (l_typed b1 b3 b2 hD.2.2.2) rfl wm_L_154 mi_L_typed rfl dL_act_246 rfl rfl ⟨(Nat.le_of_ble_eq_true rfl), (Nat.le_of_ble_eq_true rfl)⟩ ⟨(by show _ ≤ 2; omega), (by show _ ≤ 12; omega)⟩ (Nat.le_of_ble_eq_true rfl) (fun w => J.and fun e => J.ex fun u1 => J.and fun hu => ?_)
    subst e
    have q1 : Stq v u1 1 1 := fun c hc => hu.1 _ (by omega) (by omega)
    refine J.callSW (μ := mL_act) (pc := 249) (l_execute hu.2 hT (hD.1.1.sq q1) (by rw [hu.1 79 (by decide) (by decide)]; exact hD.2.1.2) hD.2.1.1 (by rw [hu.1 79 (by decide) (by decide)]; exact hD.2.2.1.2) hD.2.2.1.1) rfl wm_L_158 mi_L_execute (fun h => by cases h) dL_act_249 rfl rfl ⟨(Nat.le_of_ble_eq_true rfl), (Nat.le_of_ble_eq_true rfl)⟩ ⟨(by show _ ≤ 2; omega), (by show _ ≤ 12; omega)⟩ (Nat.le_of_ble_eq_true rfl) (fun w => J.ex fun r => J.ex fun u0 => J.ex fun u2 => J.and fun hc2 => ?_)
    obtain ⟨e, hd, ho⟩ := hc2
    subst e
    exact J.iret (μ := mL_act) (pc := 252) dL_act_252 rfl (Nat.le_of_ble_eq_true rfl) (Nat.le_of_ble_eq_true rfl) (fun K k => ⟨_, _, ⟨rfl, ac_t (te_of hD hu.1 hd ho)⟩, k⟩)

  have t253 : J γ mL_act (rmD 33 2 12) (fEv γ 2 12 (fun w K => ∃ (r : Int32) (u : Vs), (w = some (.int r) ∧ Ac T v r u) ∧ Rp γ u K)) 0 0 253 [some (.ref (gz γ + 0)), some (.int (x)), some (.int (nI y)), some (.int (lot)), some (.int (other))] [] (Rp γ v) := by
    refine J.iload_n (μ := mL_act) (pc := 253) dL_act_253 rfl ?_
    refine J.iconst (μ := mL_act) (pc := 254) (v := 3) dL_act_254 (by decide) ?_
    refine J.iand (μ := mL_act) (pc := 255) dL_act_255 ?_
    refine J.if_ne (μ := mL_act) (pc := 256) 266 dL_act_256 (by decide) (fun h1 => ?_) (fun h1 => ?_)
    · refine J.iload_n (μ := mL_act) (pc := 266) dL_act_266 rfl ?_
      refine J.iconst (μ := mL_act) (pc := 267) (v := 3) dL_act_267 (by decide) ?_
      refine J.iand (μ := mL_act) (pc := 268) dL_act_268 ?_
      refine J.iconst (μ := mL_act) (pc := 269) (v := 1) dL_act_269 (by decide) ?_
      refine J.icmp_ne (μ := mL_act) (pc := 270) 280 dL_act_270 (by decide) (fun h2 => ?_) (fun h2 => ?_)
      · refine J.aload_n (μ := mL_act) (pc := 280) dL_act_280 rfl ?_
        refine J.callSW (μ := mL_act) (pc := 281) (l_undo hok) rfl wm_L_166 mi_L_undo (fun h => by cases h) dL_act_281 rfl rfl ⟨(Nat.le_of_ble_eq_true rfl), (Nat.le_of_ble_eq_true rfl)⟩ ⟨(by show _ ≤ 2; omega), (by show _ ≤ 12; omega)⟩ (Nat.le_of_ble_eq_true rfl) (fun w => J.ex fun r => J.ex fun u1 => J.and fun hc2 => ?_)
        obtain ⟨e, hc2⟩ := hc2
        subst e
        have hs8 := hD.2.2.1.1
        refine J.iret (μ := mL_act) (pc := 284) dL_act_284 rfl (Nat.le_of_ble_eq_true rfl) (Nat.le_of_ble_eq_true rfl) (fun K k => ⟨_, _, ⟨rfl, ?_⟩, k⟩)
        rcases hc2 with ⟨-, e1, e2⟩ | ⟨-, e1, e2⟩
        · subst e1 e2
          exact ⟨⟨_, _, hD.undo.mono (by omega)⟩, fun z => absurd z (nI_ne8 (by omega))⟩
        · subst e1 e2
          exact ⟨⟨_, _, hD.mono (by omega)⟩, fun _ => Stq.rf⟩
      · refine J.aload_n (μ := mL_act) (pc := 273) dL_act_273 rfl ?_
        refine J.callSW (μ := mL_act) (pc := 274) (l_restore) rfl wm_L_163 mi_L_restore (fun h => by cases h) dL_act_274 rfl rfl ⟨(Nat.le_of_ble_eq_true rfl), (Nat.le_of_ble_eq_true rfl)⟩ ⟨(by show _ ≤ 2; omega), (by show _ ≤ 12; omega)⟩ (Nat.le_of_ble_eq_true rfl) (fun w => J.ex fun r => J.ex fun u1 => J.and fun hc2 => ?_)
        obtain ⟨e, hc2⟩ := hc2
        subst e
        refine J.goto (μ := mL_act) (pc := 277) 284 dL_act_277 (by decide) ?_
        refine J.iret (μ := mL_act) (pc := 284) dL_act_284 rfl (Nat.le_of_ble_eq_true rfl) (Nat.le_of_ble_eq_true rfl) (fun K k => ⟨_, _, ⟨rfl, ?_⟩, k⟩)
        rcases hc2 with ⟨-, e1, e2⟩ | ⟨-, e1, e2⟩
        · subst e1 e2
          obtain ⟨N2, M2, H2, hI2⟩ := hD.1.2.1
          have h202 := hI2.1.1.2
          exact ⟨⟨_, _, hD.rest.1.mono (by omega)⟩, fun z => absurd (hI2.vN.symm.trans z) (nI_ne8 (by omega))⟩
        · subst e1 e2
          exact ⟨⟨_, _, hD.mono (by omega)⟩, fun _ => Stq.rf⟩
    · refine J.aload_n (μ := mL_act) (pc := 259) dL_act_259 rfl ?_
      refine J.cV (μ := mL_act) (pc := 260) (s_X11_saveSnapshot) rfl wm_L_160 mi_X11_saveSnapshot rfl dL_act_260 (Rp.isa (T := TX11) rfl sh0) rfl rfl ⟨(Nat.le_of_ble_eq_true rfl), (Nat.le_of_ble_eq_true rfl)⟩ ⟨(by show _ ≤ 2; omega), (by show _ ≤ 12; omega)⟩ (Nat.le_of_ble_eq_true rfl) ?_
      refine J.goto (μ := mL_act) (pc := 263) 284 dL_act_263 (by decide) ?_
      exact J.iret (μ := mL_act) (pc := 284) dL_act_284 rfl (Nat.le_of_ble_eq_true rfl) (Nat.le_of_ble_eq_true rfl) (fun K k => ⟨_, _, ⟨rfl, ⟨⟨_, _, hD.save.1.mono (by omega)⟩, fun _ => hD.save.2.2.1⟩⟩, k⟩)

  have hc3 : c = 0 ∨ c = 1 ∨ c = 2 ∨ c = 3 ∨ c = 4 ∨ c = 5 ∨ c = 6 ∨ c = 7 ∨ c = 8 ∨ c = 9 ∨ c = 10 ∨ c = 11 ∨ c = 12 ∨ c = 13 ∨ c = 14 ∨ c = 15 := by omega
  rcases hc3 with rfl | rfl | rfl | rfl | rfl | rfl | rfl | rfl | rfl | rfl | rfl | rfl | rfl | rfl | rfl | rfl
  · exact J.tableIn (μ := mL_act) (pc := 24) 100 dL_act_24 (by decide) (by decide) rfl (by decide) t100
  · exact J.tableIn (μ := mL_act) (pc := 24) 132 dL_act_24 (by decide) (by decide) rfl (by decide) t132
  · exact J.tableIn (μ := mL_act) (pc := 24) 132 dL_act_24 (by decide) (by decide) rfl (by decide) t132
  · exact J.tableIn (μ := mL_act) (pc := 24) 132 dL_act_24 (by decide) (by decide) rfl (by decide) t132
  · exact J.tableIn (μ := mL_act) (pc := 24) 158 dL_act_24 (by decide) (by decide) rfl (by decide) t158
  · exact J.tableIn (μ := mL_act) (pc := 24) 158 dL_act_24 (by decide) (by decide) rfl (by decide) t158
  · exact J.tableIn (μ := mL_act) (pc := 24) 170 dL_act_24 (by decide) (by decide) rfl (by decide) t170
  · exact J.tableIn (μ := mL_act) (pc := 24) 170 dL_act_24 (by decide) (by decide) rfl (by decide) t170
  · exact J.tableIn (μ := mL_act) (pc := 24) 178 dL_act_24 (by decide) (by decide) rfl (by decide) t178
  · exact J.tableIn (μ := mL_act) (pc := 24) 190 dL_act_24 (by decide) (by decide) rfl (by decide) t190
  · exact J.tableIn (μ := mL_act) (pc := 24) 204 dL_act_24 (by decide) (by decide) rfl (by decide) t204
  · exact J.tableIn (μ := mL_act) (pc := 24) 224 dL_act_24 (by decide) (by decide) rfl (by decide) t224
  · exact J.tableIn (μ := mL_act) (pc := 24) 235 dL_act_24 (by decide) (by decide) rfl (by decide) t235
  · exact J.tableIn (μ := mL_act) (pc := 24) 235 dL_act_24 (by decide) (by decide) rfl (by decide) t235
  · exact J.tableIn (μ := mL_act) (pc := 24) 235 dL_act_24 (by decide) (by decide) rfl (by decide) t235
  · exact J.tableOut (μ := mL_act) (pc := 24) 253 dL_act_24 (by decide) (by decide) t253
