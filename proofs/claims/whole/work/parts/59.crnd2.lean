/-! The class's rounding of whole * 2^unit, a little more or not -/
def BI (W n : Nat) (a : Int32 × Int64 × Int32) : Prop := ∃ k : Nat, a.1.toInt = k ∧ a.2.1.toBitVec.toNat = W / 2 ^ k ∧ a.2.2.toInt = ((2 ^ n / 2 : Nat) : Int) ∧ n ≤ 6 ∧ k + 2 ^ n ≤ 64 ∧ W / 2 ^ k < 2 ^ (2 ^ n) ∧ (W ≠ 0 → W / 2 ^ k ≠ 0) ∧ (W = 0 → k = 0)
def BQ (W : Nat) (b : Int32 × Int64) : Prop := ∃ k : Nat, b.1.toInt = k ∧ b.2.toBitVec.toNat = W / 2 ^ k ∧ k + 1 ≤ 64 ∧ W / 2 ^ k < 2 ∧ (W ≠ 0 → W / 2 ^ k ≠ 0) ∧ (W = 0 → k = 0)
theorem half32 {x : Int32} {n : Nat} (hn : n ≤ 5) (hx : x.toInt = ((2 ^ n : Nat) : Int)) : (x / 2).toInt = ((2 ^ n / 2 : Nat) : Int) := by
  have two : (2 : Int32).toInt = 2 := by decide
  generalize 2 ^ n = N at hx ⊢
  rw [idv (by omega), hx, two, Int.tdiv_eq_ediv_of_nonneg (by omega)]
  omega
theorem pow5 {n : Nat} (h : n ≤ 5) : 2 ^ n ≤ 32 := by
  have := Nat.pow_le_pow_right (n := 2) (by decide) h
  omega
theorem bits_step {W : Nat} (n : Nat) (x2 : Int32) (x3 : Int64) (x5 : Int32) (hI : BI W n (x2, x3, x5)) : (∃ b, f_X3_bitsOf_L8 x2 x3 x5 = some (.inr b) ∧ BQ W b) ∨ ∃ a' n', f_X3_bitsOf_L8 x2 x3 x5 = some (.inl a') ∧ n' < n ∧ BI W n' a' := by
  obtain ⟨k, h1, h2, h3, h4, h5, h6, h7, h8⟩ := hI
  change x2.toInt = _ at h1
  change x3.toBitVec.toNat = _ at h2
  change x5.toInt = _ at h3
  unfold f_X3_bitsOf_L8
  cases n with
  | zero =>
    rw [if_pos (by rw [ile, k0, h3]; simp)]
    exact .inl ⟨(x2, x3), rfl, k, h1, h2, by simpa using h5, by simpa using h6, h7, h8⟩
  | succ n =>
    rw [Nat.pow_succ, Nat.mul_div_cancel _ (by decide)] at h3
    have hp : 0 < 2 ^ n := Nat.pow_pos (by decide)
    have hp5 := pow5 (show n ≤ 5 by omega)
    rw [if_neg (by rw [ile, k0, h3]; omega)]
    have e1 := jushr_nat (x := x3) (y := x5) (k := 2 ^ n) h3 (by omega)
    rw [h2, Nat.div_div_eq_div_mul, ← Nat.pow_add] at e1
    have e2 : W / 2 ^ (k + 2 ^ n) = W / 2 ^ k / 2 ^ 2 ^ n := by rw [Nat.div_div_eq_div_mul, ← Nat.pow_add]
    have e3 : 2 ^ 2 ^ (n + 1) = 2 ^ 2 ^ n * 2 ^ 2 ^ n := by rw [← Nat.pow_add, Nat.pow_succ]; congr 1; omega
    rw [Nat.pow_succ] at h5
    have h9 := half32 (show n ≤ 5 by omega) h3
    unfold f_X3_bitsOf_J32
    simp only [lt]
    by_cases hc : W / 2 ^ (k + 2 ^ n) = 0
    · rw [if_pos (eq_n (by rw [e1, hc]; rfl))]
      refine .inr ⟨_, n, rfl, by omega, k, h1, h2, h9, by omega, by omega, ?_, h7, h8⟩
      rw [e2] at hc
      rcases Nat.lt_or_ge (W / 2 ^ k) (2 ^ 2 ^ n) with h | h
      · exact h
      · have := Nat.div_pos h (Nat.pow_pos (by decide)); omega
    · rw [if_neg (fun h => hc (by rw [← e1, h]; rfl))]
      refine .inr ⟨_, n, rfl, by omega, k + 2 ^ n, ?_, e1, h9, by omega, by omega, ?_, fun _ => hc, fun h => ?_⟩
      · show (x2 + x5).toInt = _
        rw [ia (by rw [h1, h3]; omega) (by rw [h1, h3]; omega), h1, h3]; omega
      · rw [e2]
        exact Nat.div_lt_of_lt_mul (by rw [← e3]; exact h6)
      · rw [h] at hc; simp at hc
theorem bits_spec (x : Int64) : ∃ b L, f_X3_bitsOf x = some b ∧ b.toInt = (L : Nat) ∧ L ≤ 64 ∧ Bl x.toBitVec.toNat L := by
  obtain ⟨⟨b1, b2⟩, g1, k, g2, g3, g4, g5, g6, g7⟩ := Lp_inv (F := fun a => f_X3_bitsOf_L8 a.1 a.2.1 a.2.2) (BI x.toBitVec.toNat) (BQ x.toBitVec.toNat) (fun n a h => bits_step n a.1 a.2.1 a.2.2 h) 6 (0, x, 32) ⟨0, rfl, by simp, (show (32 : Int32).toInt = _ by decide), by omega, by decide, by simp; exact x.toBitVec.isLt, fun h => by simpa using h, fun _ => rfl⟩
  change b1.toInt = _ at g2
  change b2.toBitVec.toNat = _ at g3
  unfold f_X3_bitsOf
  rw [g1]; simp only [Option.bind]
  by_cases h0 : x.toBitVec.toNat = 0
  · have hk := g7 h0
    rw [if_pos (eq_n (by rw [g3, h0]; simp))]
    exact ⟨b1, k, rfl, g2, by omega, by rw [h0, hk]; exact ⟨by decide, .inl rfl⟩⟩
  · have h1 := g6 h0
    rw [if_neg (fun h => h1 (by rw [← g3, h]; rfl))]
    have e1 : (1 : Int32).toInt = 1 := by decide
    refine ⟨b1 + 1, k + 1, rfl, ?_, by omega, ?_, .inr ?_⟩
    · rw [ia (by rw [g2, e1]; omega) (by rw [g2, e1]; omega), g2, e1]; omega
    · rw [Nat.pow_succ, Nat.mul_comm]
      exact (Nat.div_lt_iff_lt_mul (Nat.pow_pos (by decide))).mp g5
    · rw [Nat.add_sub_cancel]
      rcases Nat.lt_or_ge x.toBitVec.toNat (2 ^ k) with h | h
      · exact absurd (Nat.div_eq_of_lt h) h1
      · exact h
theorem sub1_n {x : Int64} {d : Nat} (hd : d < 64) (h : x.toBitVec.toNat = 2 ^ d) : (x - 1).toBitVec.toNat = 2 ^ d - 1 := by
  have h1 : 0 < 2 ^ d := Nat.pow_pos (by decide)
  have h2 : 2 ^ d < 2 ^ 64 := Nat.pow_lt_pow_right (by decide) hd
  rw [Int64.toBitVec_sub, BitVec.toNat_sub, h]
  rw [show (1 : Int64).toBitVec.toNat = 1 from rfl]
  omega
theorem kept_hi {x : Int64} {d : Int64} {n : Nat} (hd : d.toInt = ((n + 1 : Nat) : Int)) : (f_X3_keptOf x d).toInt = ((x.toBitVec.toNat / 2 ^ (n + 1) : Nat) : Int) := by
  have hx := x.toBitVec.isLt
  have e63 : (63 : Int64).toInt = 63 := by decide
  have e0 : (0 : Int64).toInt = 0 := by decide
  unfold f_X3_keptOf
  by_cases h1 : n + 1 ≤ 63
  · rw [if_pos (by rw [lle, hd, e63]; omega), if_neg (by rw [lle, hd, e0]; omega)]
    have e1 := jushr_nat (x := x) (y := d.toInt32) (k := n + 1) (by rw [li (by omega) (by omega), hd]) (by omega)
    have e2 := u64 (jushr x d.toInt32)
    have e3 : x.toBitVec.toNat / 2 ^ (n + 1) ≤ x.toBitVec.toNat / 2 := by
      rw [Nat.pow_succ, Nat.mul_comm, ← Nat.div_div_eq_div_mul]; exact Nat.div_le_self _ _
    omega
  · rw [if_neg (by rw [lle, hd, e63]; omega), e0]
    have h2 : 2 ^ 64 ≤ 2 ^ (n + 1) := Nat.pow_le_pow_right (by decide) (by omega)
    rw [Nat.div_eq_of_lt (Nat.lt_of_lt_of_le hx h2)]
    rfl
theorem kept_lo {x : Int64} {d : Int64} {n : Nat} (hd : d.toInt = -(n : Int)) (hn : n < 64) (h0 : x.toBitVec.toNat * 2 ^ n < 9223372036854775808) : (f_X3_keptOf x d).toInt = ((x.toBitVec.toNat * 2 ^ n : Nat) : Int) := by
  have e63 : (63 : Int64).toInt = 63 := by decide
  have e0 : (0 : Int64).toInt = 0 := by decide
  have hl : (-d).toInt = n := by rw [lneg (by omega), hd]; omega
  unfold f_X3_keptOf
  rw [if_pos (by rw [lle, hd, e63]; omega), if_pos (by rw [lle, hd, e0]; omega)]
  have e1 := jshl_nat (x := x) (y := (-d).toInt32) (k := n) (by rw [li (by omega) (by omega), hl]) hn
  have e2 := u64 (jshl x (-d).toInt32)
  omega
theorem j56 {x h : Int64} {d : Nat} {s : Bool} (hh : h.toBitVec.toNat = 2 ^ d) : f_X3_restOf_J56 x h (nb s) = Int32.ofNat (2 * (x.toBitVec.toNat / 2 ^ d % 2) + ubi s) := by
  have e1 := and64 x h
  rw [hh, and_pw] at e1
  have hp : 0 < 2 ^ d := Nat.pow_pos (by decide)
  unfold f_X3_restOf_J56
  by_cases hc : x.toBitVec.toNat / 2 ^ d % 2 = 1
  · rw [if_pos hc] at e1
    rw [if_neg (fun h => by rw [h] at e1; simp at e1; omega), hc]
    cases s <;> decide
  · rw [if_neg hc] at e1
    rw [if_pos (eq_n (by rw [e1]; rfl)), show x.toBitVec.toNat / 2 ^ d % 2 = 0 by omega]
    cases s <;> decide
theorem rest_hi {x : Int64} {d : Int64} {n : Nat} {s : Bool} (hx0 : x.toBitVec.toNat ≠ 0) (hd : d.toInt = ((n + 1 : Nat) : Int)) : f_X3_restOf x d (nb s) = Int32.ofNat (2 * (x.toBitVec.toNat / 2 ^ n % 2) + ubi (s || decide (x.toBitVec.toNat % 2 ^ n ≠ 0))) := by
  have hx := x.toBitVec.isLt
  have e64 : (64 : Int64).toInt = 64 := by decide
  have e1 : (1 : Int64).toInt = 1 := by decide
  unfold f_X3_restOf
  by_cases h1 : n + 1 ≤ 64
  · rw [if_pos (by rw [lle, hd, e64]; omega), if_pos (by rw [lle, hd, e1]; omega)]
    have e2 : (d - 1).toInt = n := by rw [ls_ (by omega) (by omega), hd, e1]; omega
    have e3 : (jshl 1 (d - 1).toInt32).toBitVec.toNat = 2 ^ n := by
      have h2 : 2 ^ n < 2 ^ 64 := Nat.pow_lt_pow_right (by decide) (by omega)
      rw [jshl_nat (k := n) (by rw [li (by omega) (by omega), e2]) (by omega), show (1 : Int64).toBitVec.toNat = 1 from rfl, Nat.one_mul]
      exact Nat.mod_eq_of_lt h2
    simp only [lt]
    have e4 := and64 x (jshl 1 (d - 1).toInt32 - 1)
    rw [sub1_n (show n < 64 by omega) e3, and_pow] at e4
    have j0 := j56 (x := x) (s := false) e3
    have j1 := j56 (x := x) (s := true) e3
    rw [show nb false = 0 from rfl] at j0
    rw [show nb true = 1 from rfl] at j1
    rw [j0, j1]
    generalize x &&& jshl 1 (d - 1).toInt32 - 1 = msk at e4 ⊢
    by_cases hc : x.toBitVec.toNat % 2 ^ n = 0
    · have hz : msk = 0 := eq_n (by rw [e4, hc]; rfl)
      cases s <;> simp [nb, hc, hz]
    · have hz : ¬ (msk = 0) := fun h => hc (by rw [← e4, h]; rfl)
      cases s <;> simp [nb, hc, hz]
  · rw [if_neg (by rw [lle, hd, e64]; omega)]
    have h2 : 2 ^ 64 ≤ 2 ^ n := Nat.pow_le_pow_right (by decide) (by omega)
    have h3 := Nat.lt_of_lt_of_le hx h2
    rw [Nat.div_eq_of_lt h3, Nat.mod_eq_of_lt h3]
    cases s <;> simp [hx0, ubi] <;> rfl
theorem rest_lo {x : Int64} {d : Int64} {n : Nat} {s : Bool} (hd : d.toInt = -(n : Int)) : f_X3_restOf x d (nb s) = Int32.ofNat (ubi s) := by
  have e64 : (64 : Int64).toInt = 64 := by decide
  have e1 : (1 : Int64).toInt = 1 := by decide
  unfold f_X3_restOf
  rw [if_pos (by rw [lle, hd, e64]; omega), if_neg (by rw [lle, hd, e1]; omega)]
  cases s <;> rfl
