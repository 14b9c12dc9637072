/-! Whole numbers for the machine's: an int x of the machine is told by any whole number z with x = Int32.ofInt z; wI z is its value. -/
noncomputable def wI (x : Int) : Int := (x + 2147483648) % 4294967296 - 2147483648
noncomputable def wL (x : Int) : Int := (x + 9223372036854775808) % 18446744073709551616 - 9223372036854775808
noncomputable def wB (x : Int) : Int := (x + 128) % 256 - 128
theorem wI_toInt (x : Int) : (Int32.ofInt x).toInt = wI x := by
  rw [Int32.toInt_ofInt]; unfold wI Int.bmod; simp only [Int32.size]; omega
theorem wL_toInt (x : Int) : (Int64.ofInt x).toInt = wL x := by
  rw [Int64.toInt_ofInt]; unfold wL Int.bmod; simp only [Int64.size]; omega
theorem wI_of {x : Int} (h1 : -2147483648 ≤ x) (h2 : x < 2147483648) : wI x = x := by unfold wI; omega
theorem wL_of {x : Int} (h1 : -9223372036854775808 ≤ x) (h2 : x < 9223372036854775808) : wL x = x := by unfold wL; omega
theorem wI_lo (x : Int) : -2147483648 ≤ wI x := by unfold wI; omega
theorem wI_hi (x : Int) : wI x < 2147483648 := by unfold wI; omega
theorem wL_lo (x : Int) : -9223372036854775808 ≤ wL x := by unfold wL; omega
theorem wL_hi (x : Int) : wL x < 9223372036854775808 := by unfold wL; omega
theorem wI_wI (x : Int) : wI (wI x) = wI x := wI_of (wI_lo x) (wI_hi x)
theorem i_w (x : Int) : Int32.ofInt (wI x) = Int32.ofInt x := by
  apply Int32.toInt_inj.mp; rw [wI_toInt, wI_toInt, wI_wI]
theorem l_w (x : Int) : Int64.ofInt (wL x) = Int64.ofInt x := by
  apply Int64.toInt_inj.mp; rw [wL_toInt, wL_toInt, wL_of (wL_lo x) (wL_hi x)]
theorem i_eq {x y : Int} : Int32.ofInt x = Int32.ofInt y ↔ wI x = wI y := by rw [← Int32.toInt_inj, wI_toInt, wI_toInt]
theorem l_eq {x y : Int} : Int64.ofInt x = Int64.ofInt y ↔ wL x = wL y := by rw [← Int64.toInt_inj, wL_toInt, wL_toInt]
theorem i_lt {x y : Int} : Int32.ofInt x < Int32.ofInt y ↔ wI x < wI y := by rw [Int32.lt_iff_toInt_lt, wI_toInt, wI_toInt]
theorem i_le {x y : Int} : Int32.ofInt x ≤ Int32.ofInt y ↔ wI x ≤ wI y := by rw [Int32.le_iff_toInt_le, wI_toInt, wI_toInt]
theorem i_0 : Int32.ofInt 0 = 0 := rfl
theorem wI_0 : wI 0 = 0 := rfl
theorem i_cl (x : Int) : (Int32.ofInt x).toNatClampNeg = (wI x).toNat := by
  show (Int32.ofInt x).toInt.toNat = _; rw [wI_toInt]
theorem i_in (x : Int) (n : Nat) : vp_in (Int32.ofInt x) n ↔ 0 ≤ wI x ∧ wI x < n := by rw [vp_in_iff, wI_toInt]
theorem i_add (x y : Int) : Int32.ofInt x + Int32.ofInt y = Int32.ofInt (x + y) := (Int32.ofInt_add x y).symm
theorem i_sub (x y : Int) : Int32.ofInt x - Int32.ofInt y = Int32.ofInt (x - y) := (Int32.ofInt_sub x y).symm
theorem i_mul (x y : Int) : Int32.ofInt x * Int32.ofInt y = Int32.ofInt (x * y) := (Int32.ofInt_mul x y).symm
theorem i_neg (x : Int) : -Int32.ofInt x = Int32.ofInt (-x) := (Int32.ofInt_neg x).symm
theorem l_add (x y : Int) : Int64.ofInt x + Int64.ofInt y = Int64.ofInt (x + y) := (Int64.ofInt_add x y).symm
theorem l_mul (x y : Int) : Int64.ofInt x * Int64.ofInt y = Int64.ofInt (x * y) := (Int64.ofInt_mul x y).symm
theorem i_div (x y : Int) : Int32.ofInt x / Int32.ofInt y = Int32.ofInt ((wI x).tdiv (wI y)) := by
  apply Int32.toInt_inj.mp
  rw [Int32.toInt_div, wI_toInt, wI_toInt, Int32.toInt_ofInt]
theorem l_div (x y : Int) : Int64.ofInt x / Int64.ofInt y = Int64.ofInt ((wL x).tdiv (wL y)) := by
  apply Int64.toInt_inj.mp
  rw [Int64.toInt_div, wL_toInt, wL_toInt, Int64.toInt_ofInt]
theorem i_rem (x y : Int) : Int32.ofInt x - Int32.ofInt x / Int32.ofInt y * Int32.ofInt y = Int32.ofInt ((wI x).tmod (wI y)) := by
  rw [i_div, ← i_w x, ← i_w y, i_mul, i_sub]
  congr 1
  have := Int.tmod_add_mul_tdiv (wI x) (wI y)
  rw [Int.mul_comm (wI y)] at this
  omega
theorem l_rem (x y : Int) : Int64.ofInt x - Int64.ofInt x / Int64.ofInt y * Int64.ofInt y = Int64.ofInt ((wL x).tmod (wL y)) := by
  rw [l_div, ← l_w x, ← l_w y, l_mul, ← Int64.ofInt_sub]
  congr 1
  have := Int.tmod_add_mul_tdiv (wL x) (wL y)
  rw [Int.mul_comm (wL y)] at this
  omega
theorem i_2l (x : Int) : (Int32.ofInt x).toInt64 = Int64.ofInt (wI x) := by
  apply Int64.toInt_inj.mp
  rw [Int32.toInt_toInt64, wI_toInt, wL_toInt, wL_of (by have := wI_lo x; omega) (by have := wI_hi x; omega)]
theorem l_2i (x : Int) : (Int64.ofInt x).toInt32 = Int32.ofInt x := by
  apply Int32.toInt_inj.mp
  rw [Int64.toInt_toInt32, wL_toInt, wI_toInt]; unfold wL wI Int.bmod; simp only [Nat.reducePow]; omega
theorem i_2b (x : Int) : (Int32.ofInt x).toInt8.toInt32 = Int32.ofInt (wB x) := by
  apply Int32.toInt_inj.mp
  rw [Int8.toInt_toInt32, Int32.toInt_toInt8, wI_toInt, wI_toInt]; unfold wB wI Int.bmod; simp only [Nat.reducePow]; omega
theorem i_b {n : Int} (h1 : -128 ≤ n) (h2 : n < 128) : (Int8.ofInt n).toInt32 = Int32.ofInt n := by
  apply Int32.toInt_inj.mp
  rw [Int8.toInt_toInt32, Int8.toInt_ofInt, wI_toInt]; unfold wI Int.bmod; simp only [Int8.size]; omega
theorem i_s {n : Int} (h1 : -32768 ≤ n) (h2 : n < 32768) : (Int16.ofInt n).toInt32 = Int32.ofInt n := by
  apply Int32.toInt_inj.mp
  rw [Int16.toInt_toInt32, Int16.toInt_ofInt, wI_toInt]; unfold wI Int.bmod; simp only [Int16.size]; omega
/-- bits, by the machine's own -/
noncomputable def b_and_ (x y : Int) : Int := (Int32.ofInt x &&& Int32.ofInt y).toInt
noncomputable def b_or_ (x y : Int) : Int := (Int32.ofInt x ||| Int32.ofInt y).toInt
noncomputable def b_shl_ (x y : Int) : Int := (Int32.ofInt x <<< (Int32.ofInt y &&& 31)).toInt
noncomputable def b_shr_ (x y : Int) : Int := (Int32.ofInt x >>> (Int32.ofInt y &&& 31)).toInt
noncomputable def b_lshl_ (x y : Int) : Int := (Int64.ofInt x <<< ((Int32.ofInt y).toInt64 &&& 63)).toInt
noncomputable def c_lcmp (x y : Int) : Int := if wL x > wL y then 1 else if wL x = wL y then 0 else -1
theorem l_cmp (x y : Int) : lg_cmp (Int64.ofInt x) (Int64.ofInt y) = Int32.ofInt (c_lcmp x y) := by
  unfold lg_cmp c_lcmp
  simp only [gt_iff_lt, Int64.lt_iff_toInt_lt, ← Int64.toInt_inj, wL_toInt]
  split
  · rfl
  · split <;> rfl
theorem i_of (x : Int32) : Int32.ofInt x.toInt = x := Int32.ofInt_toInt x
theorem l_of (x : Int64) : Int64.ofInt x.toInt = x := Int64.ofInt_toInt x
