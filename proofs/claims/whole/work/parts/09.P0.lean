/-! 09.P0: tools of the pure part -/
theorem t1 (x y : Int32) (h1 : 0 ≤ x) (h2 : x ≤ 40) (h3 : 0 ≤ y) (h4 : y ≤ 40) (h : x < y) : ¬ (y - x < 1) := by
  simp only [Int32.lt_iff_toInt_lt, Int32.le_iff_toInt_le, Int32.toInt_sub, Int32.reduceToInt, Int.bmod_def] at *
  omega
theorem t2 (x y : Int) (h1 : 0 ≤ x) (h2 : x ≤ 40) (h3 : 0 ≤ y) (h4 : y ≤ 40) (h : x < y) : 0 < (y - x).bmod 4294967296 := by
  simp only [Int.bmod_def]
  omega
theorem t3 (x : Int32) (h1 : 0 ≤ x) (h2 : x ≤ 40) : x + 1 - 1 = x := by
  simp only [← Int32.toInt_inj, Int32.lt_iff_toInt_lt, Int32.le_iff_toInt_le, Int32.toInt_sub, Int32.toInt_add, Int32.reduceToInt, Int.bmod_def] at *
  omega
theorem t4 (x : Int32) (h1 : 0 ≤ x) (h2 : x ≤ 40) (h : (2 : Int32) * x ≤ 3) : x < 2 := by
  simp only [← Int32.toInt_inj, Int32.lt_iff_toInt_lt, Int32.le_iff_toInt_le, Int32.toInt_sub, Int32.toInt_add, Int32.toInt_mul, Int32.reduceToInt, Int.bmod_def] at *
  omega
theorem t5 (x y : Int32) (h1 : 0 ≤ x) (h2 : x ≤ 40) (h3 : 0 ≤ y) (h4 : y ≤ 9) (h : (if x < y then y - x else x - y) = 3) : x < 13 := by
  simp only [← Int32.toInt_inj, Int32.lt_iff_toInt_lt, Int32.le_iff_toInt_le, Int32.toInt_sub, Int32.toInt_add, Int32.toInt_mul, Int32.reduceToInt, Int.bmod_def, apply_ite Int32.toInt] at *
  omega
theorem t6 (x : Int32) (h1 : 0 ≤ x) (h2 : x < 8) : ¬ (x < 0 ∨ 8 ≤ x.toNatClampNeg) := by
  have : x.toNatClampNeg = x.toInt.toNat := rfl
  simp only [this, ← Int32.toInt_inj, Int32.lt_iff_toInt_lt, Int32.le_iff_toInt_le, Int32.reduceToInt] at *
  omega
