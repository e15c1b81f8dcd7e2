/-! what the system takes as given, out of the start's own words -/
def skB : List Nat := [368, 383, 400, 431, 441, 454, 473, 486, 497, 509, 521, 533, 544, 555, 565, 604, 636, 653, 680, 704, 731, 762, 769, 783, 799, 804, 834, 860, 874, 898, 917, 954, 967, 990, 1001, 1012, 1024, 1045, 1057, 1078, 1090, 1110, 1122, 1133, 1152, 1162, 1173, 1186, 1200, 1219, 1238, 1251, 1262, 1274, 1286, 1298, 1311]
def skR : List Nat := [611, 646, 662, 682, 836, 837, 838, 839, 840, 841, 842, 843, 844, 845, 917, 924, 936, 961, 979, 996, 1168, 1328, 1366, 1367, 1368, 1375, 1633, 1702, 1703, 1704, 1705, 1706, 1707, 1708, 1709, 1710, 1711, 1712, 1713, 1714, 1715, 1716, 1717, 1718, 1719, 1720, 1721, 1722, 1723, 1724, 1725, 1726, 1727, 1728, 1729, 1730, 1731]
def ncB : List Nat := [262, 263, 264, 265, 266, 268, 269, 282, 283, 284, 285, 286, 288, 289, 302, 303, 304, 305, 306, 308, 309, 322, 323, 324, 325, 326, 327, 329, 342, 343, 344, 346, 347, 360, 361, 362, 363, 364, 365, 367]
/-- the start's words, one by one -/
def FN : List Cond := flatC (Jvm.Cond.and given_1 narrow_1)
/-- what they say of a string -/
def expC (q : String × Nat × String × List Nat) : List Cond := [.exactly (.string q.1 q.2.1) "java/lang/String", .eq (.field (.string q.1 q.2.1) "java/lang/String" "coder" "B") (.int 0), .arrayOf (.field (.string q.1 q.2.1) "java/lang/String" "value" "[B") .byte, .eq (.length (.field (.string q.1 q.2.1) "java/lang/String" "value" "[B")) (.int (Int32.ofNat q.2.2.2.length))] ++ (List.range q.2.2.2.length).map (fun j => .eq (.elem (.field (.string q.1 q.2.1) "java/lang/String" "value" "[B") (.int (Int32.ofNat j))) (.int (nI (q.2.2.2.getD j 0))))
def skOk (i : Nat) : Bool := match SKs[i]? with
  | some q => decide ((FN.drop (skB.getD i 0)).take (4 + q.2.2.2.length) = expC q) && decide (lw_tbl[skR.getD i 0]? = some (.stringRef q.1 q.2.1 q.2.2.1)) && decide (q.2.2.2.length < 1000)
  | none => true
theorem skOk_1 : ∀ i, i < 20 → skOk i = true := by decide +kernel
theorem skOk_2 : ∀ i, i < 20 → skOk (20 + i) = true := by decide +kernel
theorem skOk_3 : ∀ i, i < 17 → skOk (40 + i) = true := by decide +kernel
theorem SKs_len : SKs.length = 57 := by decide +kernel
theorem skOk_all {i : Nat} {q : String × Nat × String × List Nat} (h : SKs[i]? = some q) : (FN.drop (skB.getD i 0)).take (4 + q.2.2.2.length) = expC q ∧ lw_tbl[skR.getD i 0]? = some (.stringRef q.1 q.2.1 q.2.2.1) ∧ q.2.2.2.length < 1000 := by
  have hi : i < 57 := by
    have := (List.getElem?_eq_some_iff.mp h).1
    rw [SKs_len] at this
    exact this
  have ok : skOk i = true := by
    by_cases h1 : i < 20
    · exact skOk_1 i h1
    · by_cases h2 : i < 40
      · have := skOk_2 (i - 20) (by omega)
        rwa [show 20 + (i - 20) = i by omega] at this
      · have := skOk_3 (i - 40) (by omega)
        rwa [show 40 + (i - 40) = i by omega] at this
  unfold skOk at ok
  rw [h] at ok
  simp only [Bool.and_eq_true, decide_eq_true_eq] at ok
  exact ⟨ok.1.1, ok.1.2, ok.2⟩
def ncOk (i : Nat) : Bool := match NCl[i]? with
  | some q => decide (FN[ncB.getD i 0]? = some (.not (.castable q.1 q.2)))
  | none => true
theorem NCl_len : NCl.length = 40 := by decide +kernel
theorem ncOk_all : ∀ i, i < 40 → ncOk i = true := by decide +kernel
/-- the tables of tens, of ones, the texts -/
def tabW (tm : Term) (n : Nat) (f : Nat → Int32) : List Cond := [.arrayOf tm .byte, .eq (.length tm) (.int (Int32.ofNat n))] ++ (List.range n).map (fun j => .eq (.elem tm (.int (Int32.ofNat j))) (.int (f j)))
def txtW : List Cond := [.arrayOf (.static "PromiseDepotLaw" "TEXTS" "[Ljava/lang/String;") (.object "java/lang/String"), .eq (.length (.static "PromiseDepotLaw" "TEXTS" "[Ljava/lang/String;")) (.int (Int32.ofNat 30))] ++ (List.range 30).map (fun j => .eq (.elem (.static "PromiseDepotLaw" "TEXTS" "[Ljava/lang/String;") (.int (Int32.ofNat j))) (match SKs[27 + j]? with
  | some q => .string q.1 q.2.1
  | none => .int 0))
theorem ones_ok : (FN.drop 45).take 102 = tabW (.static "java/lang/Integer" "DigitOnes" "[B") 100 (fun j => nI (48 + j % 10)) := by decide +kernel
theorem tens_ok : (FN.drop 148).take 102 = tabW (.static "java/lang/Integer" "DigitTens" "[B") 100 (fun j => nI (48 + j / 10)) := by decide +kernel
theorem txts_ok : (FN.drop 12).take 32 = txtW := by decide +kernel
theorem fn_mem {a n : Nat} {L : List Cond} (h : (FN.drop a).take n = L) {c : Cond} (hc : c ∈ L) : c ∈ FN := List.mem_of_mem_drop (List.mem_of_mem_take (by rw [h]; exact hc))
