/-! Numbers of 32 and 64 bits as integers. -/
theorem r32 (x : Int32) : -2147483648 ≤ x.toInt ∧ x.toInt < 2147483648 := ⟨Int32.le_toInt x, Int32.toInt_lt x⟩
theorem r64 (x : Int64) : -9223372036854775808 ≤ x.toInt ∧ x.toInt < 9223372036854775808 := ⟨Int64.le_toInt x, Int64.toInt_lt x⟩
theorem bm32 {z : Int} (h1 : -2147483648 ≤ z) (h2 : z < 2147483648) : z.bmod (2 ^ 32) = z := Int.bmod_eq_of_le (by omega) (by omega)
theorem bm64 {z : Int} (h1 : -9223372036854775808 ≤ z) (h2 : z < 9223372036854775808) : z.bmod (2 ^ 64) = z := Int.bmod_eq_of_le (by omega) (by omega)
theorem ia {x y : Int32} (h1 : -2147483648 ≤ x.toInt + y.toInt) (h2 : x.toInt + y.toInt < 2147483648) : (x + y).toInt = x.toInt + y.toInt := by rw [Int32.toInt_add]; exact bm32 h1 h2
theorem is_ {x y : Int32} (h1 : -2147483648 ≤ x.toInt - y.toInt) (h2 : x.toInt - y.toInt < 2147483648) : (x - y).toInt = x.toInt - y.toInt := by rw [Int32.toInt_sub]; exact bm32 h1 h2
theorem im {x y : Int32} (h1 : -2147483648 ≤ x.toInt * y.toInt) (h2 : x.toInt * y.toInt < 2147483648) : (x * y).toInt = x.toInt * y.toInt := by rw [Int32.toInt_mul]; exact bm32 h1 h2
theorem ineg {x : Int32} (h : x.toInt ≠ -2147483648) : (-x).toInt = -x.toInt := by rw [Int32.toInt_neg]; have := r32 x; exact bm32 (by omega) (by omega)
theorem la {x y : Int64} (h1 : -9223372036854775808 ≤ x.toInt + y.toInt) (h2 : x.toInt + y.toInt < 9223372036854775808) : (x + y).toInt = x.toInt + y.toInt := by rw [Int64.toInt_add]; exact bm64 h1 h2
theorem ls_ {x y : Int64} (h1 : -9223372036854775808 ≤ x.toInt - y.toInt) (h2 : x.toInt - y.toInt < 9223372036854775808) : (x - y).toInt = x.toInt - y.toInt := by rw [Int64.toInt_sub]; exact bm64 h1 h2
theorem lm {x y : Int64} (h1 : -9223372036854775808 ≤ x.toInt * y.toInt) (h2 : x.toInt * y.toInt < 9223372036854775808) : (x * y).toInt = x.toInt * y.toInt := by rw [Int64.toInt_mul]; exact bm64 h1 h2
theorem lneg {x : Int64} (h : x.toInt ≠ -9223372036854775808) : (-x).toInt = -x.toInt := by rw [Int64.toInt_neg]; have := r64 x; exact bm64 (by omega) (by omega)
theorem il (x : Int32) : x.toInt64.toInt = x.toInt := Int32.toInt_toInt64 x
theorem li {x : Int64} (h1 : -2147483648 ≤ x.toInt) (h2 : x.toInt < 2147483648) : x.toInt32.toInt = x.toInt := by rw [Int64.toInt_toInt32]; exact bm32 h1 h2
theorem cl (x : Int32) : x.toNatClampNeg = x.toInt.toNat := rfl
theorem ilt {x y : Int32} : x < y ↔ x.toInt < y.toInt := Int32.lt_iff_toInt_lt
theorem ile {x y : Int32} : x ≤ y ↔ x.toInt ≤ y.toInt := Int32.le_iff_toInt_le
theorem llt {x y : Int64} : x < y ↔ x.toInt < y.toInt := Int64.lt_iff_toInt_lt
theorem lle {x y : Int64} : x ≤ y ↔ x.toInt ≤ y.toInt := Int64.le_iff_toInt_le
theorem ieq {x y : Int32} : x = y ↔ x.toInt = y.toInt := Int32.toInt_inj.symm
theorem leq {x y : Int64} : x = y ↔ x.toInt = y.toInt := Int64.toInt_inj.symm
/-- division towards 0 -/
theorem idv {x y : Int32} (h : x.toInt ≠ -2147483648) : (x / y).toInt = x.toInt.tdiv y.toInt := by
  rw [Int32.toInt_div]
  have h1 := r32 x
  have h2 : (x.toInt.tdiv y.toInt).natAbs ≤ x.toInt.natAbs := by rw [Int.natAbs_tdiv]; exact Nat.div_le_self _ _
  exact bm32 (by omega) (by omega)
theorem ldv {x y : Int64} (h : x.toInt ≠ -9223372036854775808) : (x / y).toInt = x.toInt.tdiv y.toInt := by
  rw [Int64.toInt_div]
  have h1 := r64 x
  have h2 : (x.toInt.tdiv y.toInt).natAbs ≤ x.toInt.natAbs := by rw [Int.natAbs_tdiv]; exact Nat.div_le_self _ _
  exact bm64 (by omega) (by omega)
theorem tmod_abs (a b : Int) : (a.tmod b).natAbs ≤ a.natAbs := by rw [Int.natAbs_tmod]; exact Nat.mod_le _ _
theorem irm_eq (x y : Int32) : (irm x y).toInt = x.toInt.tmod y.toInt := by
  unfold irm
  rw [Int32.toInt_sub, Int32.toInt_mul, Int32.toInt_div, Int.bmod_mul_bmod, Int.sub_bmod_bmod, Int.mul_comm, ← Int.tmod_def]
  have h1 := r32 x
  have h2 := tmod_abs x.toInt y.toInt
  by_cases h3 : x.toInt.tmod y.toInt = 2147483648
  · have h5 : 0 ≤ x.toInt := by
      rcases Int.le_total 0 x.toInt with h | h
      · exact h
      · have := Int.tmod_nonneg (a := -x.toInt) y.toInt (by omega)
        rw [Int.neg_tmod] at this
        omega
    omega
  · exact bm32 (by omega) (by omega)
theorem lrm_eq (x y : Int64) : (lrm x y).toInt = x.toInt.tmod y.toInt := by
  unfold lrm
  rw [Int64.toInt_sub, Int64.toInt_mul, Int64.toInt_div, Int.bmod_mul_bmod, Int.sub_bmod_bmod, Int.mul_comm, ← Int.tmod_def]
  have h1 := r64 x
  have h2 := tmod_abs x.toInt y.toInt
  by_cases h3 : x.toInt.tmod y.toInt = 9223372036854775808
  · have h4 : 0 ≤ x.toInt.tmod y.toInt := by omega
    have h5 : 0 ≤ x.toInt := by
      rcases Int.le_total 0 x.toInt with h | h
      · exact h
      · have := Int.tmod_nonneg (a := -x.toInt) y.toInt (by omega)
        rw [Int.neg_tmod] at this
        omega
    omega
  · exact bm64 (by omega) (by omega)
/-- the bits as a natural number -/
theorem u32 (x : Int32) : (x.toInt = x.toBitVec.toNat ∧ x.toBitVec.toNat < 2147483648) ∨ (x.toInt = x.toBitVec.toNat - 4294967296 ∧ 2147483648 ≤ x.toBitVec.toNat ∧ x.toBitVec.toNat < 4294967296) := by
  have h := BitVec.toInt_eq_toNat_cond x.toBitVec
  have h1 : x.toInt = x.toBitVec.toInt := rfl
  have h2 := x.toBitVec.isLt
  rw [h1, h]
  split <;> omega
theorem u64 (x : Int64) : (x.toInt = x.toBitVec.toNat ∧ x.toBitVec.toNat < 9223372036854775808) ∨ (x.toInt = x.toBitVec.toNat - 18446744073709551616 ∧ 9223372036854775808 ≤ x.toBitVec.toNat ∧ x.toBitVec.toNat < 18446744073709551616) := by
  have h := BitVec.toInt_eq_toNat_cond x.toBitVec
  have h1 : x.toInt = x.toBitVec.toInt := rfl
  have h2 := x.toBitVec.isLt
  rw [h1, h]
  split <;> omega
theorem and32 (x y : Int32) : (x &&& y).toBitVec.toNat = x.toBitVec.toNat &&& y.toBitVec.toNat := by simp
theorem and64 (x y : Int64) : (x &&& y).toBitVec.toNat = x.toBitVec.toNat &&& y.toBitVec.toNat := by simp
theorem or32 (x y : Int32) : (x ||| y).toBitVec.toNat = x.toBitVec.toNat ||| y.toBitVec.toNat := by simp
theorem or64 (x y : Int64) : (x ||| y).toBitVec.toNat = x.toBitVec.toNat ||| y.toBitVec.toNat := by simp
theorem am30i (x : Int32) : (x &&& 1073741823).toInt = x.toInt % 1073741824 := by
  have h := and32 x 1073741823
  rw [show (1073741823 : Int32).toBitVec.toNat = 2 ^ 30 - 1 from rfl, Nat.and_two_pow_sub_one_eq_mod] at h
  have h1 := u32 (x &&& 1073741823)
  have h2 := u32 x
  omega
theorem am30 (x : Int64) : (x &&& 1073741823).toInt = x.toInt % 1073741824 := by
  have h := and64 x 1073741823
  rw [show (1073741823 : Int64).toBitVec.toNat = 2 ^ 30 - 1 from rfl, Nat.and_two_pow_sub_one_eq_mod] at h
  have h1 := u64 (x &&& 1073741823)
  have h2 := u64 x
  omega
theorem am8 (x : Int64) : (x &&& 255).toInt = x.toInt % 256 := by
  have h := and64 x 255
  rw [show (255 : Int64).toBitVec.toNat = 2 ^ 8 - 1 from rfl, Nat.and_two_pow_sub_one_eq_mod] at h
  have h1 := u64 (x &&& 255)
  have h2 := u64 x
  omega
theorem am8i (x : Int32) : (x &&& 255).toInt = x.toInt % 256 := by
  have h := and32 x 255
  rw [show (255 : Int32).toBitVec.toNat = 2 ^ 8 - 1 from rfl, Nat.and_two_pow_sub_one_eq_mod] at h
  have h1 := u32 (x &&& 255)
  have h2 := u32 x
  omega
theorem am1i (x : Int32) : (x &&& 1).toInt = x.toInt % 2 := by
  have h := and32 x 1
  rw [show (1 : Int32).toBitVec.toNat = 2 ^ 1 - 1 from rfl, Nat.and_two_pow_sub_one_eq_mod] at h
  have h1 := u32 (x &&& 1)
  have h2 := u32 x
  omega
theorem am1 (x : Int64) : (x &&& 1).toInt = x.toInt % 2 := by
  have h := and64 x 1
  rw [show (1 : Int64).toBitVec.toNat = 2 ^ 1 - 1 from rfl, Nat.and_two_pow_sub_one_eq_mod] at h
  have h1 := u64 (x &&& 1)
  have h2 := u64 x
  omega
/-- shifts by a number of 0 .. 63 (0 .. 31) -/
theorem sh_n {y : Int32} {k : Nat} (hy : y.toInt = k) (hk : k < 64) : (y.toInt64 &&& 63).toBitVec.toNat = k := by
  have h := and64 y.toInt64 63
  rw [show (63 : Int64).toBitVec.toNat = 2 ^ 6 - 1 from rfl, Nat.and_two_pow_sub_one_eq_mod] at h
  have h2 := u64 y.toInt64
  rw [il y] at h2
  omega
theorem shi_n {y : Int32} {k : Nat} (hy : y.toInt = k) (hk : k < 32) : (y &&& 31).toBitVec.toNat = k := by
  have h := and32 y 31
  rw [show (31 : Int32).toBitVec.toNat = 2 ^ 5 - 1 from rfl, Nat.and_two_pow_sub_one_eq_mod] at h
  have h2 := u32 y
  omega
theorem jshr_eq {x : Int64} {y : Int32} {k : Nat} (hy : y.toInt = k) (hk : k < 64) : (jshr x y).toInt = x.toInt / 2 ^ k := by
  have h1 : (jshr x y).toBitVec = x.toBitVec.sshiftRight k := by
    unfold jshr
    rw [Int64.toBitVec_shiftRight, BitVec.sshiftRight']
    congr 1
    have h2 : ((y.toInt64 &&& 63).toBitVec.smod 64).toNat = k := by
      have h3 := sh_n hy hk
      have h4 : (y.toInt64 &&& 63).toBitVec = BitVec.ofNat 64 k := BitVec.eq_of_toNat_eq (by rw [h3, BitVec.toNat_ofNat]; omega)
      rw [h4]
      have : ∀ k : Nat, k < 64 → ((BitVec.ofNat 64 k).smod 64).toNat = k := by decide
      exact this k hk
    exact h2
  show (jshr x y).toBitVec.toInt = _
  rw [h1, BitVec.toInt_sshiftRight, Int.shiftRight_eq_div_pow]
  rfl
