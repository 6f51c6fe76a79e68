/-! what a row tells: limbs and digits of the number V (in units of 10^-1080) -/
def gd (V : Nat) (k : Nat) : Nat := V / 1000000000 ^ k % 1000000000
theorem RIs.limb {w : RWs} {V : Nat} {s : Bool} (h : RIs w V s) {i : Nat} (hi : i < 156) : (w.1 i).toInt = ((gd V (155 - i) : Nat) : Int) := by
  obtain ⟨h1, h2, h3, h4, h5⟩ := h
  have := hv_limb (d := dg w.1) (n := 156) hi (fun k hk => h1.dg hk)
  rw [← rv_eq, h4, show 156 - 1 - i = 155 - i by omega] at this
  unfold gd
  rw [this, dg_int (h1 i hi).1]
theorem RIs.lt {w : RWs} {V : Nat} {s : Bool} (h : RIs w V s) : V < 1000000000 ^ 156 := by
  obtain ⟨h1, h2, h3, h4, h5⟩ := h
  rw [← h4, rv_eq]
  exact hv_lt (fun k hk => h1.dg hk)
theorem gd_hi {V k : Nat} (hV : V < 1000000000 ^ 156) (hk : 156 ≤ k) : gd V k = 0 := by
  unfold gd
  rw [Nat.div_eq_of_lt (Nat.lt_of_lt_of_le hV (Nat.pow_le_pow_right (by decide) hk))]
/-- limbAt at 35 - a is the limb of 10^(9 a): k = a + 120 -/
theorem limb_k {c : CS} {r V : Nat} {s : Bool} (h : RIs (rws c r) V s) {x : Int32} {k : Nat} (hx : x.toInt = 155 - (k : Int)) : (f_X4_limbAt r x c).toInt = ((gd V k : Nat) : Int) := by
  by_cases hk : k ≤ 155
  · rw [limbAt_in (i := 155 - k) (by omega) (by omega), h.limb (by omega), show 155 - (155 - k) = k by omega]
  · rw [limbAt_out (by omega), gd_hi h.lt (by omega)]; rfl
theorem limb_low {c : CS} {r : Nat} {x : Int32} (hx : 156 ≤ x.toInt) : f_X4_limbAt r x c = 0 := limbAt_out (.inr hx)
theorem gd_lt (V k : Nat) : gd V k < 1000000000 := Nat.mod_lt _ (by decide)
/-- floorDiv, floorMod by 9 -/
theorem xor_neg {x y : Int32} : (0 ≤ (x ^^^ y)) = ((x.toInt < 0) = (y.toInt < 0)) := by
  have e : (x ^^^ y).toInt < 0 ↔ ((x.toInt < 0) ≠ (y.toInt < 0)) := by
    have h1 : ∀ z : Int32, z.toInt < 0 ↔ z.toBitVec.msb = true := fun z => by
      rw [BitVec.msb_eq_toInt]; simp
    rw [h1, h1, h1, Int32.toBitVec_xor, BitVec.msb_xor]
    cases x.toBitVec.msb <;> cases y.toBitVec.msb <;> simp
  rw [ile, show (0 : Int32).toInt = 0 by decide]
  simp only [eq_iff_iff]
  rw [← Int.not_lt, e]
  simp
theorem floorDiv_i {x y : Int32} {n : Nat} (hy : y.toInt = n) (hn : 0 < n) (hx : -2000000000 ≤ x.toInt) (hx2 : x.toInt < 2000000000) : (f_JM_floorDiv x y).toInt = x.toInt / n := by
  have hd : (x / y).toInt = x.toInt.tdiv n := by rw [idv (by omega), hy]
  have one : (1 : Int32).toInt = 1 := by decide
  unfold f_JM_floorDiv
  simp only [lt, xor_neg, hy]
  by_cases h0 : x.toInt < 0
  · rw [if_neg (by simp [h0])]
    have hm : (x / y * y).toInt = x.toInt.tdiv n * n := by
      have h1 : (x.toInt.tdiv n * n).natAbs ≤ x.toInt.natAbs := by
        rw [Int.natAbs_mul, Int.natAbs_tdiv]; exact Nat.div_mul_le_self _ _
      rw [im (by rw [hd, hy]; omega) (by rw [hd, hy]; omega), hd, hy]
    have h2 := Int.mul_tdiv_add_tmod x.toInt n
    have h3 : x.toInt.tmod n ≤ 0 ∧ -(n : Int) < x.toInt.tmod n := by
      have := Int.tmod_nonneg (a := -x.toInt) n (by omega)
      have h4 := Int.tmod_lt_of_pos (-x.toInt) (b := n) (by omega)
      rw [Int.neg_tmod] at this h4
      omega
    by_cases h5 : x / y * y = x
    · rw [if_pos h5, hd]
      rw [ieq, hm] at h5
      have h6 : x.toInt = n * x.toInt.tdiv n := by rw [Int.mul_comm]; exact h5.symm
      have h7 : x.toInt / n = x.toInt.tdiv n := by
        conv => lhs; rw [h6]
        exact Int.mul_ediv_cancel_left _ (by omega)
      exact h7.symm
    · rw [if_neg h5]
      rw [ieq, hm] at h5
      have h8 : (x / y - 1).toInt = x.toInt.tdiv n - 1 := by
        have h1 : (x.toInt.tdiv n).natAbs ≤ x.toInt.natAbs := by rw [Int.natAbs_tdiv]; exact Nat.div_le_self _ _
        rw [is_ (by rw [hd, one]; omega) (by rw [hd, one]; omega), hd, one]
      rw [h8]
      have h9 : x.toInt = (n : Int) * (x.toInt.tdiv n - 1) + (n + x.toInt.tmod n) := by
        rw [Int.mul_sub, Int.mul_one]; omega
      have h10 : x.toInt.tmod n ≠ 0 := fun h => h5 (by rw [Int.mul_comm]; omega)
      symm
      conv => lhs; rw [h9]
      rw [Int.mul_add_ediv_left _ _ (by omega), Int.ediv_eq_zero_of_lt (by omega) (by omega), Int.add_zero]
  · rw [if_pos (by simp [h0]), hd, Int.tdiv_eq_ediv_of_nonneg (by omega)]
theorem floorMod_i {x y : Int32} {n : Nat} (hy : y.toInt = n) (hn : 0 < n) (hn2 : n < 1000000000) : (f_JM_floorMod x y).toInt = x.toInt % n := by
  have hd : (irm x y).toInt = x.toInt.tmod n := by rw [irm_eq, hy]
  unfold f_JM_floorMod
  simp only [lt, xor_neg, hy]
  by_cases h0 : x.toInt < 0
  · rw [if_neg (by simp [h0])]
    have h3 : x.toInt.tmod n ≤ 0 ∧ -(n : Int) < x.toInt.tmod n := by
      have := Int.tmod_nonneg (a := -x.toInt) n (by omega)
      have h4 := Int.tmod_lt_of_pos (-x.toInt) (b := n) (by omega)
      rw [Int.neg_tmod] at this h4
      omega
    have h2 := Int.mul_tdiv_add_tmod x.toInt n
    by_cases h5 : irm x y = 0
    · rw [if_pos h5, hd]
      rw [ieq, hd, k0] at h5
      rw [h5]
      have h6 : x.toInt = n * x.toInt.tdiv n := by omega
      rw [h6, Int.mul_emod_right]; rfl
    · rw [if_neg h5]
      rw [ieq, hd, k0] at h5
      rw [ia (by rw [hd, hy]; omega) (by rw [hd, hy]; omega), hd, hy]
      have h9 : x.toInt = (x.toInt.tmod n + n) + (n : Int) * (x.toInt.tdiv n - 1) := by
        rw [Int.mul_sub, Int.mul_one]; omega
      symm
      conv => lhs; rw [h9]
      rw [Int.add_mul_emod_self_left, Int.emod_eq_of_lt (by omega) (by omega)]
  · rw [if_pos (by simp [h0]), hd, Int.tmod_eq_emod_of_nonneg (by omega)]
theorem k9i : (9 : Int32).toInt = ((9 : Nat) : Int) := by decide
theorem limbOf_i {x : Int32} (h1 : -100000 ≤ x.toInt) (h2 : x.toInt ≤ 100000) : (f_X4_limbOf x).toInt = 35 - x.toInt / 9 := by
  have h3 := floorDiv_i (x := x) k9i (by decide) (by omega) (by omega)
  have e35 : (35 : Int32).toInt = 35 := by decide
  unfold f_X4_limbOf
  rw [is_ (by rw [h3, e35]; omega) (by rw [h3, e35]; omega), h3, e35]
  rfl
theorem tnV_i : ∀ k, k < 9 → (tnV k).toInt = ((10 ^ k : Nat) : Int) := by decide +kernel
theorem tenOf_i {x : Int32} : (f_X4_tenOf x).toInt = ((10 ^ (x.toInt % 9).toNat : Nat) : Int) := by
  have h3 := floorMod_i (x := x) k9i (by decide) (by decide)
  have e9 : (9 : Int32).toInt = 9 := by decide
  unfold f_X4_tenOf
  simp only [lt]
  rw [if_neg (by rw [ilt, h3, k0]; omega), if_pos (by rw [ilt, h3, e9]; omega)]
  rw [cl, h3, tnV_i _ (by omega)]
  rfl
