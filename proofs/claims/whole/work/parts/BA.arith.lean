/-- longs as integers -/
theorem i64_bm {x : Int} (h1 : -9223372036854775808 ≤ x) (h2 : x < 9223372036854775808) : x.bmod (2 ^ 64) = x := by
  rw [Int.bmod_def]; split <;> omega
theorem i64_le (x : Int64) : -9223372036854775808 ≤ x.toInt := Int64.le_toInt x
theorem i64_lt (x : Int64) : x.toInt < 9223372036854775808 := Int64.toInt_lt x
theorem i64_add {x y : Int64} (h1 : -9223372036854775808 ≤ x.toInt + y.toInt) (h2 : x.toInt + y.toInt < 9223372036854775808) : (x + y).toInt = x.toInt + y.toInt := by
  rw [Int64.toInt_add, i64_bm h1 h2]
theorem i64_sub {x y : Int64} (h1 : -9223372036854775808 ≤ x.toInt - y.toInt) (h2 : x.toInt - y.toInt < 9223372036854775808) : (x - y).toInt = x.toInt - y.toInt := by
  rw [Int64.toInt_sub, i64_bm h1 h2]
theorem i64_mul {x y : Int64} (h1 : -9223372036854775808 ≤ x.toInt * y.toInt) (h2 : x.toInt * y.toInt < 9223372036854775808) : (x * y).toInt = x.toInt * y.toInt := by
  rw [Int64.toInt_mul, i64_bm h1 h2]
theorem i64_div {x y : Int64} (h : 0 < y.toInt) : (x / y).toInt = x.toInt.tdiv y.toInt := by
  rw [Int64.toInt_div]
  have h1 := i64_le x
  have h2 := i64_lt x
  have h3 : (x.toInt.tdiv y.toInt).natAbs ≤ x.toInt.natAbs := by
    rw [Int.natAbs_tdiv]; exact Nat.div_le_self _ _
  by_cases c : x.toInt = -9223372036854775808
  · by_cases c2 : y.toInt = 1
    · rw [c2, Int.tdiv_one]; exact i64_bm h1 h2
    · have h4 : (x.toInt.tdiv y.toInt).natAbs ≤ x.toInt.natAbs / 2 := by
        rw [Int.natAbs_tdiv]
        exact Nat.div_le_div_left (by omega) (by omega)
      exact i64_bm (by omega) (by omega)
  · exact i64_bm (by omega) (by omega)
theorem i64_jrem {x y : Int64} (h : 0 < y.toInt) : (jrem x y).toInt = x.toInt.tmod y.toInt := by
  unfold jrem
  have h1 := i64_le x
  have h2 := i64_lt x
  have e : x.toInt.tdiv y.toInt * y.toInt + x.toInt.tmod y.toInt = x.toInt := Int.tdiv_mul_add_tmod _ _
  have hb : (x.toInt.tmod y.toInt).natAbs ≤ x.toInt.natAbs := by
    rw [Int.natAbs_tmod]; exact Nat.mod_le _ _
  have hs : (x.toInt.tdiv y.toInt * y.toInt).natAbs ≤ x.toInt.natAbs := by
    rw [Int.natAbs_mul, Int.natAbs_tdiv]; exact Nat.div_mul_le_self _ _
  have hm : (x / y * y).toInt = x.toInt.tdiv y.toInt * y.toInt := by
    rw [Int64.toInt_mul, i64_div h]
    by_cases c : x.toInt = -9223372036854775808
    · by_cases p : x.toInt.tdiv y.toInt * y.toInt = 9223372036854775808
      · exfalso
        have : x.toInt.tmod y.toInt = -18446744073709551616 := by omega
        omega
      · exact i64_bm (by omega) (by omega)
    · exact i64_bm (by omega) (by omega)
  by_cases c : x.toInt.tmod y.toInt = 9223372036854775808
  · exfalso
    have : x.toInt.tdiv y.toInt * y.toInt = x.toInt - 9223372036854775808 := by omega
    by_cases c2 : 0 ≤ x.toInt
    · omega
    · have : x.toInt.tmod y.toInt ≤ 0 := by
        have := Int.tmod_nonneg (y.toInt) (a := -x.toInt) (by omega)
        rw [Int.neg_tmod] at this; omega
      omega
  · rw [i64_sub (by rw [hm]; omega) (by rw [hm]; omega), hm]; omega
theorem i64_jremE {x y : Int64} (h : 0 < y.toInt) (hx : 0 ≤ x.toInt) : (jrem x y).toInt = x.toInt % y.toInt := by
  rw [i64_jrem h, Int.tmod_eq_emod_of_nonneg hx]
theorem i64_jremP {x p : Int64} (h : 0 < p.toInt) (h2 : p.toInt < 4611686018427387904) : (jrem (jrem x p + p) p).toInt = x.toInt % p.toInt := by
  have e := i64_jrem (x := x) h
  have b1 : (x.toInt.tmod p.toInt).natAbs < p.toInt.natAbs := by
    rw [Int.natAbs_tmod]; exact Nat.mod_lt _ (by omega)
  have e2 : (jrem x p + p).toInt = x.toInt.tmod p.toInt + p.toInt := by
    rw [i64_add (by rw [e]; omega) (by rw [e]; omega), e]
  rw [i64_jremE h (by rw [e2]; omega), e2, Int.add_emod_right]
  have : x.toInt.tmod p.toInt = x.toInt - x.toInt.tdiv p.toInt * p.toInt := by
    have := Int.tdiv_mul_add_tmod x.toInt p.toInt; omega
  rw [this, Int.sub_mul_emod_self_right]
