/-! sets of lots as bits -/
theorem and_split (a b n : Nat) : a &&& b = (a % 2 ^ n &&& b % 2 ^ n) + 2 ^ n * (a / 2 ^ n &&& b / 2 ^ n) := by
  have h1 : (a &&& b) % 2 ^ n = a % 2 ^ n &&& b % 2 ^ n := Nat.and_mod_two_pow
  have h2 : (a &&& b) / 2 ^ n = a / 2 ^ n &&& b / 2 ^ n := Nat.and_div_two_pow
  rw [← h1, ← h2]
  exact (Nat.mod_add_div _ _).symm
theorem and_16 {d y m M : Nat} (hd : d < 16) (hm : m < 16) : (d + 16 * y) &&& (m + 16 * M) = (d &&& m) + 16 * (y &&& M) := by
  have h := and_split (d + 16 * y) (m + 16 * M) 4
  rw [h, show (d + 16 * y) % 2 ^ 4 = d by omega, show (m + 16 * M) % 2 ^ 4 = m by omega, show (d + 16 * y) / 2 ^ 4 = y by omega, show (m + 16 * M) / 2 ^ 4 = M by omega]
def q1 (M x : Nat) : Nat := x - (x / 2 &&& M)
def q2 (M x : Nat) : Nat := (x &&& M) + (x / 4 &&& M)
theorem q1_d : ∀ d, d < 16 → ∀ c, c < 2 → (d / 2 + 8 * c) &&& 5 = d / 2 &&& 5 ∧ d / 2 &&& 5 ≤ d := by decide
theorem q2_d : ∀ d, d < 16 → ∀ c, c < 4 → (d / 4 + 4 * c) &&& 3 = d / 4 &&& 3 := by decide
theorem q1_16 {d y M : Nat} (hd : d < 16) : q1 (5 + 16 * M) (d + 16 * y) = q1 5 d + 16 * q1 M y := by
  unfold q1
  have e : (d + 16 * y) / 2 = (d / 2 + 8 * (y % 2)) + 16 * (y / 2) := by omega
  have h := q1_d d hd (y % 2) (by omega)
  have h2 : y / 2 &&& M ≤ y / 2 := Nat.and_le_left
  rw [e, and_16 (by omega) (by decide), h.1]
  omega
theorem q2_16 {d y M : Nat} (hd : d < 16) : q2 (3 + 16 * M) (d + 16 * y) = q2 3 d + 16 * q2 M y := by
  unfold q2
  have e : (d + 16 * y) / 4 = (d / 4 + 4 * (y % 4)) + 16 * (y / 4) := by omega
  rw [e, and_16 hd (by decide), and_16 (by omega) (by decide), q2_d d hd (y % 4) (by omega)]
  omega
/-- how many bits a digit has -/
def pc4 (d : Nat) : Nat := (if d.testBit 0 then 1 else 0) + (if d.testBit 1 then 1 else 0) + (if d.testBit 2 then 1 else 0) + (if d.testBit 3 then 1 else 0)
theorem pc4_q : ∀ d, d < 16 → q2 3 (q1 5 d) = pc4 d ∧ q1 5 d < 16 ∧ pc4 d ≤ 4 := by decide
def bcN (x : Nat) : Nat :=
  let a := q2 0x33333 (q1 0x55555 x)
  let b := (a + a / 16) &&& 0xf0f0f
  let c := b + b / 256
  (c + c / 65536) &&& 63
theorem and_low {x n : Nat} : x &&& (2 ^ n - 1) = x % 2 ^ n := Nat.and_two_pow_sub_one_eq_mod x n
theorem bcN_eq {d0 d1 d2 d3 d4 : Nat} (h0 : d0 < 16) (h1 : d1 < 16) (h2 : d2 < 16) (h3 : d3 < 16) (h4 : d4 < 16) : bcN (d0 + 16 * (d1 + 16 * (d2 + 16 * (d3 + 16 * d4)))) = pc4 d0 + pc4 d1 + pc4 d2 + pc4 d3 + pc4 d4 := by
  have p0 := pc4_q d0 h0
  have p1 := pc4_q d1 h1
  have p2 := pc4_q d2 h2
  have p3 := pc4_q d3 h3
  have p4 := pc4_q d4 h4
  have e1 : q1 0x55555 (d0 + 16 * (d1 + 16 * (d2 + 16 * (d3 + 16 * d4)))) = q1 5 d0 + 16 * (q1 5 d1 + 16 * (q1 5 d2 + 16 * (q1 5 d3 + 16 * q1 5 d4))) := by
    rw [show 0x55555 = 5 + 16 * (5 + 16 * (5 + 16 * (5 + 16 * 5))) from rfl, q1_16 h0, q1_16 h1, q1_16 h2, q1_16 h3]
  have e2 : q2 0x33333 (q1 5 d0 + 16 * (q1 5 d1 + 16 * (q1 5 d2 + 16 * (q1 5 d3 + 16 * q1 5 d4)))) = pc4 d0 + 16 * (pc4 d1 + 16 * (pc4 d2 + 16 * (pc4 d3 + 16 * pc4 d4))) := by
    rw [show 0x33333 = 3 + 16 * (3 + 16 * (3 + 16 * (3 + 16 * 3))) from rfl, q2_16 p0.2.1, q2_16 p1.2.1, q2_16 p2.2.1, q2_16 p3.2.1, p0.1, p1.1, p2.1, p3.1, p4.1]
  unfold bcN
  dsimp only
  rw [e1, e2]
  generalize pc4 d0 = c0 at *
  generalize pc4 d1 = c1 at *
  generalize pc4 d2 = c2 at *
  generalize pc4 d3 = c3 at *
  generalize pc4 d4 = c4 at *
  have s3 : (c0 + 16 * (c1 + 16 * (c2 + 16 * (c3 + 16 * c4)))) + (c0 + 16 * (c1 + 16 * (c2 + 16 * (c3 + 16 * c4)))) / 16 = (c0 + c1) + 16 * ((c1 + c2) + 16 * ((c2 + c3) + 16 * ((c3 + c4) + 16 * c4))) := by omega
  have s4 : ((c0 + c1) + 16 * ((c1 + c2) + 16 * ((c2 + c3) + 16 * ((c3 + c4) + 16 * c4)))) &&& 0xf0f0f = (c0 + c1) + 16 * (0 + 16 * ((c2 + c3) + 16 * (0 + 16 * c4))) := by
    have l : ∀ x, x < 16 → x &&& 15 = x := fun x hx => by
      have := and_low (x := x) (n := 4)
      rw [show (15 : Nat) = 2 ^ 4 - 1 from rfl, this]
      omega
    rw [show 0xf0f0f = 15 + 16 * (0 + 16 * (15 + 16 * (0 + 16 * 15))) from rfl, and_16 (by omega) (by decide), and_16 (by omega) (by decide), and_16 (by omega) (by decide), and_16 (by omega) (by decide), l _ (by omega), l _ (by omega), l _ (by omega), Nat.and_zero, Nat.and_zero]
  rw [s3, s4]
  have fin : ∀ A B C : Nat, A ≤ 8 → B ≤ 8 → C ≤ 4 → ((A + 16 * (0 + 16 * (B + 16 * (0 + 16 * C)))) + (A + 16 * (0 + 16 * (B + 16 * (0 + 16 * C)))) / 256 + ((A + 16 * (0 + 16 * (B + 16 * (0 + 16 * C)))) + (A + 16 * (0 + 16 * (B + 16 * (0 + 16 * C)))) / 256) / 65536) &&& 63 = A + B + C := by
    intro A B C hA hB hC
    have t1 : A + 16 * (0 + 16 * (B + 16 * (0 + 16 * C))) = A + 256 * B + 65536 * C := by omega
    have t2 : (A + 256 * B + 65536 * C) / 256 = B + 256 * C := by omega
    have t3 : (A + 256 * B + 65536 * C + (B + 256 * C)) / 65536 = C := by omega
    rw [t1, t2, t3, show (63 : Nat) = 2 ^ 6 - 1 from rfl, and_low]
    omega
  rw [fin (c0 + c1) (c2 + c3) c4 (by omega) (by omega) (by omega)]
  omega
/-- how many of the first n bits are set -/
def bN (x : Nat) (n : Nat) : Nat := cn (fun i => x.testBit i) n
theorem dig_bit {x k j : Nat} (hj : j < 4) : (x / 2 ^ k % 16).testBit j = x.testBit (k + j) := by
  rw [show (16 : Nat) = 2 ^ 4 from rfl, Nat.testBit_mod_two_pow, Nat.testBit_div_two_pow, decide_eq_true hj, Bool.true_and, Nat.add_comm]
theorem bcN_bits {x : Nat} (h : x < 2 ^ 20) : bcN x = bN x 20 := by
  have e : x = x / 2 ^ 0 % 16 + 16 * (x / 2 ^ 4 % 16 + 16 * (x / 2 ^ 8 % 16 + 16 * (x / 2 ^ 12 % 16 + 16 * (x / 2 ^ 16 % 16)))) := by omega
  have h1 := bcN_eq (d0 := x / 2 ^ 0 % 16) (d1 := x / 2 ^ 4 % 16) (d2 := x / 2 ^ 8 % 16) (d3 := x / 2 ^ 12 % 16) (d4 := x / 2 ^ 16 % 16) (by omega) (by omega) (by omega) (by omega) (by omega)
  rw [← e] at h1
  rw [h1]
  unfold pc4
  simp only [dig_bit (show 0 < 4 by decide), dig_bit (show 1 < 4 by decide), dig_bit (show 2 < 4 by decide), dig_bit (show 3 < 4 by decide), Nat.reduceAdd]
  unfold bN
  simp only [cn]
  omega
/-! the same on ints -/
theorem nI_bv (n : Nat) : (nI n).toBitVec = BitVec.ofNat 32 n := rfl
theorem nI_and (a b : Nat) : nI a &&& nI b = nI (a &&& b) := by
  rw [← Int32.toBitVec_inj, Int32.toBitVec_and, nI_bv, nI_bv, nI_bv, BitVec.ofNat_and]
theorem nI_or (a b : Nat) : nI a ||| nI b = nI (a ||| b) := by
  rw [← Int32.toBitVec_inj, Int32.toBitVec_or, nI_bv, nI_bv, nI_bv, BitVec.ofNat_or]
theorem nI_xor (a b : Nat) : nI a ^^^ nI b = nI (a ^^^ b) := by
  rw [← Int32.toBitVec_inj, Int32.toBitVec_xor, nI_bv, nI_bv, nI_bv, BitVec.ofNat_xor]
theorem nI_subN {a b : Nat} (h : b ≤ a) : nI a - nI b = nI (a - b) := by
  have : nI (a - b) + nI b = nI a := by rw [nI_add, Nat.sub_add_cancel h]
  rw [← this, Int32.add_sub_cancel]
theorem u32_I (u : UInt32) : u.toInt32 = nI u.toNat := by
  show Int32.ofUInt32 u = Int32.ofUInt32 (UInt32.ofNat u.toNat)
  rw [UInt32.ofNat_toNat]
theorem ush_k : ∀ k, k < 32 → ((nI k).toUInt32 &&& Int32.toUInt32 31).toNat % 32 = k := by decide +kernel
theorem ush_nI {a : Nat} (h : a < 2 ^ 32) {k : Nat} (hk : k < 32) : ush (nI a) (nI k) = nI (a / 2 ^ k) := by
  unfold ush
  rw [u32_I, UInt32.toNat_shiftRight, ush_k k hk, Nat.shiftRight_eq_div_pow]
  congr 2
  show (UInt32.ofNat a).toNat = a
  exact UInt32.toNat_ofNat_of_lt' h
theorem mask20 {x M : Nat} (h : x < 2 ^ 20) : x &&& M = x &&& (M % 2 ^ 20) := by
  rw [and_split x M 20, Nat.mod_eq_of_lt h, Nat.div_eq_of_lt h, Nat.zero_and]
  omega
theorem bcJ_N {x : Nat} (h : x < 2 ^ 20) : bcJ (nI x) = nI (bcN x) := by
  have e1 : bc1 (nI x) = nI (q1 0x55555 x) := by
    unfold bc1 q1
    rw [show (1 : Int32) = nI 1 from rfl, ush_nI (by omega) (by decide), show (1431655765 : Int32) = nI 1431655765 from rfl, nI_and, mask20 (x := x / 2 ^ 1) (by omega)]
    have : x / 2 ^ 1 &&& 1431655765 % 2 ^ 20 ≤ x / 2 ^ 1 := Nat.and_le_left
    rw [nI_subN (by omega)]
  have h1 : q1 0x55555 x < 2 ^ 20 := by unfold q1; omega
  generalize hq : q1 0x55555 x = y at *
  have e2 : bc2 (nI y) = nI (q2 0x33333 y) := by
    unfold bc2 q2
    rw [show (2 : Int32) = nI 2 from rfl, ush_nI (by omega) (by decide), show (858993459 : Int32) = nI 858993459 from rfl, nI_and, nI_and, mask20 h1, mask20 (x := y / 2 ^ 2) (by omega), nI_add]
  have h2 : q2 0x33333 y ≤ 0x66666 := by
    unfold q2
    have a1 : y &&& 0x33333 ≤ 0x33333 := Nat.and_le_right
    have a2 : y / 4 &&& 0x33333 ≤ 0x33333 := Nat.and_le_right
    omega
  unfold bcJ bcN
  dsimp only
  rw [e1, e2, hq]
  generalize q2 0x33333 y = z at *
  have e3 : bc3 (nI z) = nI ((z + z / 16) &&& 0xf0f0f) := by
    unfold bc3
    rw [show (4 : Int32) = nI 4 from rfl, ush_nI (by omega) (by decide), show (252645135 : Int32) = nI 252645135 from rfl, nI_add, nI_and, mask20 (by omega)]
  have h3 : (z + z / 16) &&& 0xf0f0f ≤ 0xf0f0f := Nat.and_le_right
  rw [e3]
  generalize (z + z / 16) &&& 0xf0f0f = t at *
  have e4 : bc4 (nI t) = nI (t + t / 256) := by
    unfold bc4
    rw [show (8 : Int32) = nI 8 from rfl, ush_nI (by omega) (by decide), nI_add]
  rw [e4]
  have e5 : bc5 (nI (t + t / 256)) = nI (t + t / 256 + (t + t / 256) / 65536) := by
    unfold bc5
    rw [show (16 : Int32) = nI 16 from rfl, ush_nI (by omega) (by decide), nI_add]
  rw [e5, show (63 : Int32) = nI 63 from rfl, nI_and]
theorem bcJ_bits {x : Nat} (h : x < 2 ^ 20) : bcJ (nI x) = nI (bN x 20) := by rw [bcJ_N h, bcN_bits h]
theorem sh_k : ∀ i, i < 32 → nI i &&& 31 = nI i := by decide +kernel
theorem sh_m : ∀ i, i < 32 → ((nI i).toBitVec.smod 32).toNat = i := by decide +kernel
theorem bit_I : ∀ i, i < 20 → (1 : Int32) <<< (nI i &&& 31) = nI (2 ^ i) := by decide +kernel
theorem sar_nI {x i : Nat} (h : x < 2 ^ 31) (hi : i < 32) : nI x >>> (nI i &&& 31) = nI (x / 2 ^ i) := by
  rw [sh_k i hi, ← Int32.toBitVec_inj, Int32.toBitVec_shiftRight]
  show (BitVec.ofNat 32 x).sshiftRight (((nI i).toBitVec.smod 32).toNat) = BitVec.ofNat 32 (x / 2 ^ i)
  rw [sh_m i hi, BitVec.sshiftRight_eq_of_msb_false]
  · apply BitVec.eq_of_toNat_eq
    rw [BitVec.toNat_ushiftRight, BitVec.toNat_ofNat, BitVec.toNat_ofNat, Nat.mod_eq_of_lt (by omega), Nat.shiftRight_eq_div_pow]
    have : x / 2 ^ i ≤ x := Nat.div_le_self _ _
    rw [Nat.mod_eq_of_lt (by omega)]
  · rw [BitVec.msb_eq_decide, BitVec.toNat_ofNat, Nat.mod_eq_of_lt (by omega)]
    exact decide_eq_false (by omega)
theorem bq_nI {x i : Nat} (h : x < 2 ^ 31) (hi : i < 32) : bq (nI x) i = if x.testBit i then 1 else 0 := by
  show (nI x >>> (nI i &&& 31)) &&& 1 = _
  rw [sar_nI h hi, show (1 : Int32) = nI 1 from rfl, nI_and, Nat.testBit_eq_decide_div_mod_eq, show (1 : Nat) = 2 ^ 1 - 1 from rfl, and_low]
  by_cases q : x / 2 ^ i % 2 = 1
  · rw [if_pos (decide_eq_true q)]
    rw [show 2 ^ 1 = 2 from rfl, q]
  · rw [if_neg (fun z => q (of_decide_eq_true z))]
    rw [show 2 ^ 1 = 2 from rfl, show x / 2 ^ i % 2 = 0 by omega]
    rfl
theorem set_nI {x i : Nat} (hi : i < 20) : nI x ||| 1 <<< (nI i &&& 31) = nI (x ||| 2 ^ i) := by rw [bit_I i hi, nI_or]
theorem clr_nI {x i : Nat} (h : x < 2 ^ 20) (hi : i < 20) : ∃ y, y < 2 ^ 20 ∧ nI x &&& (1 <<< (nI i &&& 31) ^^^ -1) = nI y ∧ ∀ j, y.testBit j = (x.testBit j && decide (j ≠ i)) := by
  refine ⟨x &&& (2 ^ i ^^^ (2 ^ 32 - 1)), Nat.lt_of_le_of_lt Nat.and_le_left h, ?_, fun j => ?_⟩
  · rw [bit_I i hi, show (-1 : Int32) = nI (2 ^ 32 - 1) by decide +kernel, nI_xor, nI_and]
  · rw [Nat.testBit_and, Nat.testBit_xor, Nat.testBit_two_pow, Nat.testBit_two_pow_sub_one]
    by_cases q : j < 32
    · by_cases q2 : i = j <;> simp [q, q2]
      omega
    · have : x.testBit j = false := Nat.testBit_lt_two_pow (Nat.lt_of_lt_of_le h (Nat.pow_le_pow_right (by decide) (by omega)))
      rw [this, Bool.false_and, Bool.false_and]
