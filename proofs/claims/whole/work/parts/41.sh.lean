theorem smod_k : ∀ k : Nat, k < 64 → ((BitVec.ofNat 64 k).smod 64).toNat = k := by decide
theorem smodi_k : ∀ k : Nat, k < 32 → ((BitVec.ofNat 32 k).smod 32).toNat = k := by decide
theorem sh_b {y : Int32} {k : Nat} (hy : y.toInt = k) (hk : k < 64) : (y.toInt64 &&& 63).toBitVec = BitVec.ofNat 64 k := by
  have h3 := sh_n hy hk
  exact BitVec.eq_of_toNat_eq (by rw [h3, BitVec.toNat_ofNat]; omega)
theorem shi_b {y : Int32} {k : Nat} (hy : y.toInt = k) (hk : k < 32) : (y &&& 31).toBitVec = BitVec.ofNat 32 k := by
  have h3 := shi_n hy hk
  exact BitVec.eq_of_toNat_eq (by rw [h3, BitVec.toNat_ofNat]; omega)
theorem jshl_nat {x : Int64} {y : Int32} {k : Nat} (hy : y.toInt = k) (hk : k < 64) : (jshl x y).toBitVec.toNat = x.toBitVec.toNat * 2 ^ k % 18446744073709551616 := by
  unfold jshl
  rw [Int64.toBitVec_shiftLeft, sh_b hy hk, BitVec.shiftLeft_eq', smod_k k hk, BitVec.toNat_shiftLeft, Nat.shiftLeft_eq]
theorem jshl_eq {x : Int64} {y : Int32} {k : Nat} (hy : y.toInt = k) (hk : k < 64) (h0 : 0 ≤ x.toInt) (h1 : x.toInt * 2 ^ k < 9223372036854775808) : (jshl x y).toInt = x.toInt * 2 ^ k := by
  have h := jshl_nat (x := x) hy hk
  have h2 := u64 x
  have h3 := u64 (jshl x y)
  have h4 : x.toInt = (x.toBitVec.toNat : Int) := by omega
  rw [h4] at h1 ⊢
  have h5 : ((x.toBitVec.toNat * 2 ^ k : Nat) : Int) = (x.toBitVec.toNat : Int) * 2 ^ k := by simp
  rw [← h5] at h1 ⊢
  omega
theorem jushr_nat {x : Int64} {y : Int32} {k : Nat} (hy : y.toInt = k) (hk : k < 64) : (jushr x y).toBitVec.toNat = x.toBitVec.toNat / 2 ^ k := by
  have h1 : (y.toInt64.toUInt64 &&& Int64.toUInt64 63).toBitVec = BitVec.ofNat 64 k := sh_b hy hk
  unfold jushr
  show ((x.toUInt64 >>> (y.toInt64.toUInt64 &&& Int64.toUInt64 63)).toBitVec).toNat = _
  rw [UInt64.toBitVec_shiftRight, h1, BitVec.ushiftRight_eq', BitVec.toNat_ushiftRight, Nat.shiftRight_eq_div_pow]
  congr 2
  have : ∀ k : Nat, k < 64 → (BitVec.ofNat 64 k % 64).toNat = k := by decide
  exact this k hk
theorem kshr_eq {x y : Int32} {k : Nat} (hy : y.toInt = k) (hk : k < 32) : (kshr x y).toInt = x.toInt / 2 ^ k := by
  have h1 : (kshr x y).toBitVec = x.toBitVec.sshiftRight k := by
    unfold kshr
    rw [Int32.toBitVec_shiftRight, BitVec.sshiftRight', shi_b hy hk, smodi_k k hk]
  show (kshr x y).toBitVec.toInt = _
  rw [h1, BitVec.toInt_sshiftRight, Int.shiftRight_eq_div_pow]
  rfl
theorem kshl_nat {x y : Int32} {k : Nat} (hy : y.toInt = k) (hk : k < 32) : (kshl x y).toBitVec.toNat = x.toBitVec.toNat * 2 ^ k % 4294967296 := by
  unfold kshl
  rw [Int32.toBitVec_shiftLeft, shi_b hy hk, BitVec.shiftLeft_eq', smodi_k k hk, BitVec.toNat_shiftLeft, Nat.shiftLeft_eq]
/-- 'or' of what has no bit in common is the sum -/
theorem or_add {a b k : Nat} (hb : b < 2 ^ k) (ha : a % 2 ^ k = 0) : a ||| b = a + b := by
  obtain ⟨q, hq⟩ : ∃ q, a = 2 ^ k * q := ⟨a / 2 ^ k, by have := Nat.div_add_mod a (2 ^ k); omega⟩
  rw [hq]
  exact (Nat.two_pow_add_eq_or_of_lt hb q).symm
