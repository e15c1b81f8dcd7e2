/-! the heap's numbers are the heap's function -/
theorem cmpB_Z {v : Vs} {o a b : Nat} (ha : a < 20) (hb' : b < 20) : cmpB v o (nI a) (nI b) ↔ hbB (iv v o) a b = true := by
  have e1 : (gVo v o (nI a)).toInt = iv v o 14 a := iv_rg ha (by omega)
  have e2 : (gVo v o (nI b)).toInt = iv v o 14 b := iv_rg hb' (by omega)
  have e3 : (gEp v o (nI a)).toInt = iv v o 16 a := iv_rg ha (by omega)
  have e4 : (gEp v o (nI b)).toInt = iv v o 16 b := iv_rg hb' (by omega)
  rw [hbB_iff]
  unfold cmpB hb
  rw [t_lt, t_eq, t_lt, t_eq, t_lt, e1, e2, e3, e4, t_nI (by omega), t_nI (by omega)]
  omega
/-- the cells below n of the heap at o are f -/
def HC (v : Vs) (o n : Nat) (f : Nat → Nat) : Prop := ∀ c, c < n → v (o + 25) c = nI (f c)
theorem HC.get {v : Vs} {o n : Nat} {f : Nat → Nat} (h : HC v o n f) (hn : n ≤ 20) {c : Nat} (hc : c < n) : gHp v o (nI c) = nI (f c) := by
  unfold gHp
  rw [rg_nI (by omega) (by omega)]; exact h c hc
/-- nothing but the heap's cells is another -/
def HS (v w : Vs) (o : Nat) : Prop := ∀ k, k ≠ o + 25 → w k = v k
theorem HS.tr {u v w : Vs} {o : Nat} (h : HS u v o) (h2 : HS v w o) : HS u w o := fun k hk => (h2 k hk).trans (h k hk)
theorem HS.hb {v w : Vs} {o : Nat} (h : HS v w o) : hbB (iv w o) = hbB (iv v o) := by
  funext a b
  unfold hbB iv
  rw [h (o + 14) (by omega), h (o + 16) (by omega)]
theorem swV_ok {v : Vs} {o n : Nat} {f : Nat → Nat} (h : HC v o n f) (hn : n ≤ 20) {c d : Nat} (hc : c < n) (hd : d < n) : HC (swV v o (nI c) (nI d)) o n (swG f c d) ∧ HS v (swV v o (nI c) (nI d)) o := by
  unfold swV sHp
  rw [h.get hn hc, h.get hn hd, rs_nI (by omega) (by omega), rs_nI (by omega) (by omega)]
  refine ⟨fun e he => ?_, fun k hk => by rw [up2_o _ _ _ hk, up2_o _ _ _ hk]⟩
  by_cases q1 : e = d
  · subst q1; rw [up2_ss, swG_r]
  · rw [up2_sn q1]
    by_cases q2 : e = c
    · subst q2; rw [up2_ss, swG_l]
    · rw [up2_sn q2, swG_o q2 q1]; exact h e he
theorem puF_ok {v0 : Vs} {o n : Nat} {x : Nat} (hn : n ≤ 20) (hx : x < 20) : ∀ (k : Nat) (v : Vs) (f : Nat → Nat) (c : Nat), HS v0 v o → HC v o n f → (∀ c, c < n → f c < 20) → c < n → f c = x → HC (puF o (nI x) k v c) o n (upG (hbB (iv v0 o)) k f c) ∧ HS v0 (puF o (nI x) k v c) o
  | 0, v, f, c, hs, hf, _, _, _ => ⟨hf, hs⟩
  | k + 1, v, f, c, hs, hf, h20, hc, hcx => by
    unfold puF upG
    rw [hf.get hn (show (c - 1) / 2 < n by omega)]
    have e : cmpB v o (nI x) (nI (f ((c - 1) / 2))) ↔ hbB (iv v0 o) (f c) (f ((c - 1) / 2)) = true := by
      rw [cmpB_Z hx (h20 _ (by omega)), hs.hb, hcx]
    by_cases q : 0 < c ∧ cmpB v o (nI x) (nI (f ((c - 1) / 2)))
    · rw [if_pos q, if_pos ⟨q.1, e.mp q.2⟩]
      have h1 := swV_ok hf hn hc (show (c - 1) / 2 < n by omega)
      refine puF_ok hn hx k _ _ _ (hs.tr h1.2) h1.1 (fun e he => ?_) (by omega) (by rw [swG_r]; exact hcx)
      unfold swG
      split
      · exact h20 _ (by omega)
      · split
        · exact h20 _ hc
        · exact h20 _ he
    · rw [if_neg q, if_neg (fun z => q ⟨z.1, e.mpr z.2⟩)]
      exact ⟨hf, hs⟩
theorem f3_ok {v0 v : Vs} {o n : Nat} (hn : n ≤ 20) {f : Nat → Nat} (hs : HS v0 v o) (hf : HC v o n f) (h20 : ∀ c, c < n → f c < 20) {c : Nat} (hc : c < n) : f3 v o n c = f3G (hbB (iv v0 o)) f n c ∧ f3G (hbB (iv v0 o)) f n c < n := by
  have ea : f3a v o n c = f3aG (hbB (iv v0 o)) f n c ∧ f3aG (hbB (iv v0 o)) f n c < n := by
    unfold f3a f3aG
    by_cases q : 2 * c + 1 < n
    · rw [hf.get hn q, hf.get hn hc]
      have e : cmpB v o (nI (f (2 * c + 1))) (nI (f c)) ↔ hbB (iv v0 o) (f (2 * c + 1)) (f c) = true := by
        rw [cmpB_Z (h20 _ q) (h20 _ hc), hs.hb]
      by_cases z : cmpB v o (nI (f (2 * c + 1))) (nI (f c))
      · rw [if_pos ⟨q, z⟩, if_pos ⟨q, e.mp z⟩]; exact ⟨rfl, q⟩
      · rw [if_neg (fun y => z y.2), if_neg (fun y => z (e.mpr y.2))]; exact ⟨rfl, hc⟩
    · rw [if_neg (fun y => q y.1), if_neg (fun y => q y.1)]; exact ⟨rfl, hc⟩
  unfold f3 f3G
  rw [ea.1]
  generalize f3aG (hbB (iv v0 o)) f n c = m at ea ⊢
  by_cases q : 2 * c + 2 < n
  · rw [hf.get hn q, hf.get hn ea.2]
    have e : cmpB v o (nI (f (2 * c + 2))) (nI (f m)) ↔ hbB (iv v0 o) (f (2 * c + 2)) (f m) = true := by
      rw [cmpB_Z (h20 _ q) (h20 _ ea.2), hs.hb]
    by_cases z : cmpB v o (nI (f (2 * c + 2))) (nI (f m))
    · rw [if_pos ⟨q, z⟩, if_pos ⟨q, e.mp z⟩]; exact ⟨rfl, q⟩
    · rw [if_neg (fun y => z y.2), if_neg (fun y => z (e.mpr y.2))]; exact ⟨rfl, ea.2⟩
  · rw [if_neg (fun y => q y.1), if_neg (fun y => q y.1)]; exact ⟨rfl, ea.2⟩
theorem rtF_ok {v0 : Vs} {o n : Nat} (hn : n ≤ 20) : ∀ (k : Nat) (v : Vs) (f : Nat → Nat) (c : Nat), HS v0 v o → HC v o n f → (∀ c, c < n → f c < 20) → HC (rtF o n k v c) o n (dnG (hbB (iv v0 o)) n k f c) ∧ HS v0 (rtF o n k v c) o
  | 0, v, f, c, hs, hf, _ => ⟨hf, hs⟩
  | k + 1, v, f, c, hs, hf, h20 => by
    unfold rtF dnG
    by_cases hc : c < n
    · obtain ⟨e, hm⟩ := f3_ok hn hs hf h20 hc
      rw [e]
      generalize f3G (hbB (iv v0 o)) f n c = m at hm ⊢
      by_cases q : c < m
      · rw [if_pos ⟨hc, q⟩, if_pos ⟨hc, q⟩]
        have h1 := swV_ok hf hn hc hm
        refine rtF_ok hn k _ _ _ (hs.tr h1.2) h1.1 (fun e he => ?_)
        unfold swG
        split
        · exact h20 _ hm
        · split
          · exact h20 _ hc
          · exact h20 _ he
      · rw [if_neg (fun z => q z.2), if_neg (fun z => q z.2)]
        exact ⟨hf, hs⟩
    · rw [if_neg (fun z => hc z.1), if_neg (fun z => hc z.1)]
      exact ⟨hf, hs⟩
/-- the numbers of the heap's cells, as they are and as whole numbers -/
theorem HC.of {v : Vs} {o n : Nat} {f : Nat → Nat} (h20 : ∀ c, c < n → f c < 20) (h : ∀ c, c < n → iv v o 25 c = (f c : Nat)) : HC v o n f := fun c hc => by
  rw [t_eq, t_nI (by have := h20 c hc; omega)]; exact h c hc
theorem HC.iv {v : Vs} {o n : Nat} {f : Nat → Nat} (h20 : ∀ c, c < n → f c < 20) (h : HC v o n f) : ∀ c, c < n → iv v o 25 c = (f c : Nat) := fun c hc => by
  show (v (o + 25) c).toInt = _
  rw [h c hc, t_nI (by have := h20 c hc; omega)]
/-- a lot goes from its shelf to the heap -/
def hpV (v : Vs) (o H x : Nat) : Vs := pushV (sPl v o (nI x) (-1)) o H (nI x)
theorem hpV_at {v : Vs} {o H x k : Nat} (h : HS (up2 (sHp (sPl v o (nI x) (-1)) o (nI H) (nI x)) (o + 23) 1 (nI (H + 1))) (hpV v o H x) o) (hx : x < 20) (h1 : k ≠ o + 25) : hpV v o H x k = if k = o + 23 then upd (v (o + 23)) 1 (nI (H + 1)) else if k = o + 18 then upd (v (o + 18)) x (-1) else v k := by
  rw [h k h1]
  by_cases q : k = o + 23
  · subst q
    rw [if_pos rfl, up2_s]
    unfold sHp sPl
    rw [rs_o (by omega), rs_o (by omega)]
  · rw [if_neg q, up2_o _ _ _ q]
    unfold sHp sPl
    rw [rs_o h1, rs_nI hx (by omega)]
    by_cases q2 : k = o + 18
    · subst q2; rw [if_pos rfl, up2_s]
    · rw [if_neg q2, up2_o _ _ _ q2]
theorem Inv.push {D : Int} {T N M H : Nat} {v : Vs} {o : Nat} (h : Inv D T N M H (iv v o)) {x : Nat} (hx : x < N) (h18 : 0 ≤ iv v o 18 x) : Inv D T N M (H + 1) (iv (hpV v o H x) o) ∧ ∀ k, k ≠ o + 25 → hpV v o H x k = if k = o + 23 then upd (v (o + 23)) 1 (nI (H + 1)) else if k = o + 18 then upd (v (o + 18)) x (-1) else v k := by
  have hN := h.1.1.2
  have hHN := h.H20
  obtain ⟨f, f1, f2, f3⟩ := h.2.2.2.2.2.toG
  have hH : H < N := by
    rcases Nat.lt_or_ge H N with q | q
    · exact q
    · exfalso
      have e1 := h.2.2.2.2.2.1
      have e2 := su_pt (g := isH (iv v o)) (g' := fun i => if i = x then 1 else isH (iv v o) i) hx (fun i _ ne => if_neg ne)
      have e3 : su (fun i => if i = x then 1 else isH (iv v o) i) N ≤ 1 * N := su_bd (fun i _ => by unfold isH; (repeat' split) <;> omega)
      have e4 : isH (iv v o) x = 0 := if_neg (by omega)
      rw [if_pos rfl, e4] at e2
      omega
  have hlt : ∀ c, c < H → f c < 20 := fun c hc => by have := (f2.1 c hc).1; omega
  let f' : Nat → Nat := fun e => if e = H then x else f e
  have hf'H : f' H = x := if_pos rfl
  have hf' : ∀ e, e ≠ H → f' e = f e := fun e he => if_neg he
  have h20 : ∀ c, c < H + 1 → f' c < 20 := fun c hc => by
    by_cases q : c = H
    · subst q; rw [hf'H]; omega
    · rw [hf' c q]; exact hlt c (by omega)
  have c0 := HC.of hlt f1
  let v1 := up2 (sHp (sPl v o (nI x) (-1)) o (nI H) (nI x)) (o + 23) 1 (nI (H + 1))
  have hv1 : HC v1 o (H + 1) f' := by
    intro c hc
    show up2 (rs (rs v (o + 18) 20 (nI x) (-1)) (o + 25) 20 (nI H) (nI x)) (o + 23) 1 (nI (H + 1)) (o + 25) c = _
    rw [up2_o _ _ _ (by omega), rs_nI (by omega) (by omega)]
    by_cases q : c = H
    · subst q; rw [up2_ss, hf'H]
    · rw [up2_sn q, rs_o (by omega), hf' c q]; exact c0 c (by omega)
  obtain ⟨g1, g2⟩ := puF_ok (v0 := v1) (by omega) (show x < 20 by omega) H v1 f' H (fun _ _ => rfl) hv1 h20 (by omega) hf'H
  have hat : ∀ k, k ≠ o + 25 → hpV v o H x k = if k = o + 23 then upd (v (o + 23)) 1 (nI (H + 1)) else if k = o + 18 then upd (v (o + 18)) x (-1) else v k := fun k hk => hpV_at g2 (by omega) hk
  have w18 : ∀ i, iv (hpV v o H x) o 18 i = if i = x then -1 else iv v o 18 i := by
    intro i
    unfold iv
    rw [hat (o + 18) (by omega), if_neg (by omega), if_pos rfl]
    unfold upd
    by_cases q : i = x
    · rw [if_pos q, if_pos q]; exact t_m1
    · rw [if_neg q, if_neg q]
  have wS : ∀ c j, c ≠ 25 → ¬ (c = 23 ∧ j = 1) → ¬ (c = 18 ∧ j = x) → iv (hpV v o H x) o c j = iv v o c j := by
    intro c j h1 h2 h3
    unfold iv
    rw [hat (o + c) (by omega)]
    by_cases q : o + c = o + 23
    · have : c = 23 := by omega
      subst this
      rw [if_pos rfl]
      unfold upd
      rw [if_neg (fun z => h2 ⟨rfl, z⟩)]
    · rw [if_neg q]
      by_cases q2 : o + c = o + 18
      · have : c = 18 := by omega
        subst this
        rw [if_pos rfl]
        unfold upd
        rw [if_neg (fun z => h3 ⟨rfl, z⟩)]
      · rw [if_neg q2]
  have w23 : iv (hpV v o H x) o 23 1 = (H + 1 : Nat) := by
    unfold iv
    rw [hat (o + 23) (by omega), if_pos rfl]
    unfold upd
    rw [if_pos rfl, t_nI (by omega)]
  have hbe : hbB (iv v1 o) = hbB (iv v o) := by
    have e1 : v1 (o + 14) = v (o + 14) := by
      show up2 (rs (rs v (o + 18) 20 (nI x) (-1)) (o + 25) 20 (nI H) (nI x)) (o + 23) 1 (nI (H + 1)) (o + 14) = _
      rw [up2_o _ _ _ (by omega), rs_o (by omega), rs_o (by omega)]
    have e2 : v1 (o + 16) = v (o + 16) := by
      show up2 (rs (rs v (o + 18) 20 (nI x) (-1)) (o + 25) 20 (nI H) (nI x)) (o + 23) 1 (nI (H + 1)) (o + 16) = _
      rw [up2_o _ _ _ (by omega), rs_o (by omega), rs_o (by omega)]
    funext a b
    unfold hbB iv
    rw [e1, e2]
  rw [hbe] at g1
  have hB' : Bij f' (H + 1) (fun i => i < N ∧ iv (hpV v o H x) o 18 i = -1) := by
    obtain ⟨b1, b2, b3⟩ := f2
    refine ⟨fun c hc => ?_, fun c d hc hd q => ?_, fun i hi => ?_⟩
    · show f' c < N ∧ iv (hpV v o H x) o 18 (f' c) = -1
      rw [w18]
      by_cases q : c = H
      · subst q; rw [hf'H, if_pos rfl]; exact ⟨hx, rfl⟩
      · rw [hf' c q]
        obtain ⟨k1, k2⟩ := b1 c (by omega)
        refine ⟨k1, ?_⟩
        split
        · rfl
        · exact k2
    · have nx : ∀ e, e < H → f e ≠ x := fun e he z => by
        have := (b1 e he).2
        rw [z] at this; omega
      by_cases q1 : c = H <;> by_cases q2 : d = H
      · omega
      · subst q1; rw [hf'H, hf' d q2] at q; exact absurd q.symm (nx d (by omega))
      · subst q2; rw [hf'H, hf' c q1] at q; exact absurd q (nx c (by omega))
      · rw [hf' c q1, hf' d q2] at q; exact b2 c d (by omega) (by omega) q
    · obtain ⟨k1, k2⟩ := hi
      rw [w18] at k2
      by_cases q : i = x
      · subst q; exact ⟨H, by omega, hf'H⟩
      · rw [if_neg q] at k2
        obtain ⟨c, hc, e⟩ := b3 i ⟨k1, k2⟩
        exact ⟨c, by omega, by rw [hf' c (by omega)]; exact e⟩
  have hU := upG_ok (r := hbB (iv v o)) (hbB_ord _) H f' H (Nat.le_refl _) (by omega) hB' (fun d h1 h2 h3 => by
    show hbB (iv v o) (f' ((d - 1) / 2)) (f' d) = true
    rw [hf' d h3, hf' _ (by omega)]
    exact f3 d h1 (by omega) trivial) (fun h0 d h1 h2 h3 => absurd h3 (by omega))
  have hlt2 : ∀ c, c < H + 1 → upG (hbB (iv v o)) H f' H c < 20 := fun c hc => by have := (hU.1.1 c hc).1; omega
  exact ⟨h.heaped hx h18 wS w23 (by rw [w18, if_pos rfl]) (HC.iv hlt2 g1) hU.1 hU.2, hat⟩
