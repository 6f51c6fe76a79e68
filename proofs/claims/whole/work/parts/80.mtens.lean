/-! the reference's roundTens -/
theorem du_k : ∀ k : Nat, k < 20 → jushr (L64 k ||| ((L64 k - 10) ^^^ (-1))) 63 = (if k < 10 then 0 else 1) := by decide +kernel
theorem ru_k : ∀ k : Nat, k < 20 → (L64 k - ((jshr ((L64 k - 10) ^^^ (-1)) 63) &&& 10)).toInt32.toInt = ((k % 10 : Nat) : Int) := by decide +kernel
theorem u10 {x : Int64} {N : Nat} (hx : x.toBitVec.toNat = N) (hN : N < 9223372036854775808) : ∃ q r : Nat, (jshl ((jushr x 1) / 10) 1).toInt = ((2 * q : Nat) : Int) ∧ x - jshl ((jushr x 1) / 10) 1 * 10 = L64 r ∧ N = 20 * q + r ∧ r < 20 := by
  have hu := u64 x
  have n1 := jushr_nat (x := x) (y := 1) (k := 1) rfl (by omega)
  have u1 := u64 (jushr x 1)
  rw [hx, Nat.pow_one] at n1
  have a1 : (jushr x 1).toInt = ((N / 2 : Nat) : Int) := by omega
  have e10 : (10 : Int64).toInt = ((10 : Nat) : Int) := by decide
  have a2 := ldv_n a1 e10
  have a3 : (jshl ((jushr x 1) / 10) 1).toInt = ((2 * (N / 2 / 10) : Nat) : Int) := by
    rw [jshl_eq (k := 1) rfl (by omega) (by omega) (by rw [a2]; omega), a2]; omega
  refine ⟨N / 2 / 10, N - 20 * (N / 2 / 10), a3, ?_, by omega, by omega⟩
  generalize jshl ((jushr x 1) / 10) 1 = y at a3 ⊢
  have a4 : (y * 10).toInt = ((20 * (N / 2 / 10) : Nat) : Int) := by
    rw [lm (by rw [a3, e10]; omega) (by rw [a3, e10]; omega), a3, e10]; omega
  rw [leq, L64_i (by omega), ls_ (by omega) (by omega), a4]
  omega
theorem divU {x : Int64} {N : Nat} (hx : x.toBitVec.toNat = N) (hN : N ≤ 9223372036854775808) : (f_JL_divideUnsigned x 10).toBitVec.toNat = N / 10 ∧ (f_JL_remainderUnsigned x 10).toInt32.toInt = ((N % 10 : Nat) : Int) := by
  by_cases hN2 : N = 9223372036854775808
  · have : x = -9223372036854775808 := eq_n (by rw [hx, hN2]; decide)
    rw [this, hN2]
    exact ⟨by decide +kernel, by decide +kernel⟩
  · obtain ⟨q, r, h1, h2, h3, h4⟩ := u10 hx (by omega)
    unfold f_JL_divideUnsigned f_JL_remainderUnsigned
    rw [if_neg (by decide), if_neg (by decide)]
    simp only [lt]
    rw [h2, du_k r h4, ru_k r h4]
    refine ⟨?_, by omega⟩
    have e0 : (0 : Int64).toInt = 0 := by decide
    have e1 : (1 : Int64).toInt = 1 := by decide
    by_cases hr : r < 10
    · rw [if_pos hr]
      apply whole_n
      rw [la (by omega) (by omega), h1, e0]; omega
    · rw [if_neg hr]
      apply whole_n
      rw [la (by omega) (by omega), h1, e1]; omega
theorem nv_dig (n : Nat) : ∀ N, nv 10 (fun k => N / 10 ^ (n - 1 - k) % 10) n = N % 10 ^ n := by
  induction n with
  | zero => intro N; rw [Nat.pow_zero, Nat.mod_one]; rfl
  | succ n ih =>
    intro N
    have h1 : nv 10 (fun k => N / 10 ^ (n + 1 - 1 - k) % 10) n = nv 10 (fun k => N / 10 / 10 ^ (n - 1 - k) % 10) n := nv_congr (fun k hk => by
      show N / 10 ^ (n + 1 - 1 - k) % 10 = N / 10 / 10 ^ (n - 1 - k) % 10
      rw [Nat.div_div_eq_div_mul, show n + 1 - 1 - k = (n - 1 - k) + 1 by omega, Nat.pow_succ, Nat.mul_comm 10])
    show nv 10 (fun k => N / 10 ^ (n + 1 - 1 - k) % 10) n * 10 + N / 10 ^ (n + 1 - 1 - n) % 10 = _
    rw [h1, ih, show n + 1 - 1 - n = 0 by omega, Nat.pow_zero, Nat.div_one, Nat.pow_succ, Nat.mul_comm (10 ^ n) 10, Nat.mod_mul]
    omega
theorem mtens_loop {m : MS} {N : Nat} (hN : N ≤ 9223372036854775808) {x1 : Int32} {x2 : Int64} {x4 x5 : Int32} {x6 : Int64} (hx6 : x6.toBitVec.toNat = N) : ∃ b, Lp (fun a => f_X7_roundTens_L24 x1 x2 x4 x5 a.1 a.2.1 a.2.2) (x6, 19, m) = some b ∧ ∃ v, b = smA m 7 v ∧ ∀ k, k < 20 → (v k).toInt = ((N / 10 ^ (19 - k) % 10 : Nat) : Int) := by
  refine Lp_inv (F := fun a => f_X7_roundTens_L24 x1 x2 x4 x5 a.1 a.2.1 a.2.2) (fun n a => ∃ (v : Nat → Int32), a.1.toBitVec.toNat = N / 10 ^ (20 - n) ∧ a.2.1.toInt = (n : Int) - 1 ∧ n ≤ 20 ∧ a.2.2 = smA m 7 v ∧ ∀ k, n ≤ k → k < 20 → (v k).toInt = ((N / 10 ^ (19 - k) % 10 : Nat) : Int)) _ ?_ 20 (x6, 19, m) ⟨mA m 7, by rw [Nat.sub_self, Nat.pow_zero, Nat.div_one]; exact hx6, (by show (19 : Int32).toInt = _; decide), by omega, by rw [smA_self], fun k h1 h2 => by omega⟩
  rintro n ⟨y6, y8, m'⟩ ⟨v, h1, h2, h3, h4, h5⟩
  change y6.toBitVec.toNat = _ at h1
  change y8.toInt = _ at h2
  change m' = _ at h4
  subst h4
  show (∃ b, f_X7_roundTens_L24 x1 x2 x4 x5 y6 y8 (smA m 7 v) = _ ∧ _) ∨ ∃ a' n', f_X7_roundTens_L24 x1 x2 x4 x5 y6 y8 (smA m 7 v) = _ ∧ _
  unfold f_X7_roundTens_L24
  by_cases hn : n = 0
  · rw [if_pos (by rw [ilt, h2, k0]; omega)]
    exact .inl ⟨_, rfl, v, rfl, fun k hk => h5 k (by omega) hk⟩
  · rw [if_neg (by rw [ilt, h2, k0]; omega), if_pos (show vI y8 (mLen 7) from ⟨by omega, by show y8.toInt < 1600; omega⟩)]
    obtain ⟨d1, d2⟩ := divU h1 (Nat.le_trans (Nat.div_le_self _ _) hN)
    have hc : y8.toNatClampNeg = n - 1 := by rw [cl]; omega
    simp only [lt]
    rw [smA_same, smA_smA, hc]
    refine .inr ⟨_, n - 1, rfl, by omega, upd v (n - 1) (f_JL_remainderUnsigned y6 10).toInt32, ?_, ?_, by omega, rfl, fun k hk1 hk2 => ?_⟩
    · show (f_JL_divideUnsigned y6 10).toBitVec.toNat = _
      rw [d1, Nat.div_div_eq_div_mul, show 20 - (n - 1) = (20 - n) + 1 by omega, Nat.pow_succ]
    · show (y8 + -1).toInt = _
      have e1 : (-1 : Int32).toInt = -1 := by decide
      rw [ia (by omega) (by omega), h2, e1]; omega
    · by_cases q : k = n - 1
      · rw [q, upd_eq, d2, show 19 - (n - 1) = 20 - n by omega]
      · rw [upd_ne q]; exact h5 k (by omega) hk2
/-- as Rd, with the row of digits -/
def Rd2 (m m' : MS) (f : Nat) (neg : Bool) (r : Nat × Nat) : Prop := Fr [3, 4, 5, 7] [10, 11] [2] m m' ∧ mJ m' 2 = sgn f neg r.1 ∧ mI m' 11 = Int32.ofNat r.2
theorem Rd.two {m0 m m' : MS} {f : Nat} {neg : Bool} {r : Nat × Nat} (h0 : Fr [3, 4, 5, 7] [10, 11] [2] m0 m) (h : Rd m m' f neg r) : Rd2 m0 m' f neg r := ⟨h0.trans (h.1.mono (by decide) (by decide) (by decide)), h.2⟩
theorem abs_n {x : Int64} : (x.toInt < 0 → (-x).toBitVec.toNat = x.toInt.natAbs) ∧ (0 ≤ x.toInt → x.toBitVec.toNat = x.toInt.natAbs) := by
  have hx := u64 x
  constructor
  · intro h
    by_cases hm : x.toInt = -9223372036854775808
    · have : x = -9223372036854775808 := by rw [leq, hm]; decide
      rw [this]; decide
    · have h1 := lneg hm
      have h2 := u64 (-x)
      omega
  · intro h; omega
theorem nabs {x : Int64} : x.toInt.natAbs ≤ 9223372036854775808 := by have := r64 x; omega
theorem mtens_spec {m : MS} {f way : Nat} {E : Int} (hf : f < 4) (hw : way < 5) {x2 : Int64} {x4 : Int32} (hx4 : x4.toInt = E) (hE1 : -5000 ≤ E) (hE2 : E ≤ 5000) : ∃ m' r, f_X7_roundTens (Int32.ofNat f) x2 x4 (Int32.ofNat way) m = some m' ∧ Rd2 m m' f (decide (x2.toInt < 0)) r ∧ ((x2.toInt.natAbs = 0 ∧ r = (0, 0)) ∨ (x2.toInt.natAbs ≠ 0 ∧ RT f (decide (x2.toInt < 0)) way (x2.toInt.natAbs * tp E) (tp (-E)) r)) := by
  have e0 : (0 : Int64).toInt = 0 := by decide
  have hneg : (0 ≤ x2) = (decide (x2.toInt < 0) = false) := by rw [lle, e0]; simp
  obtain ⟨s0, hs0, hgo⟩ : ∃ s0 : Int64, s0.toBitVec.toNat = x2.toInt.natAbs ∧ f_X7_roundTens (Int32.ofNat f) x2 x4 (Int32.ofNat way) m = f_X7_roundTens_J12 (Int32.ofNat f) x2 x4 (Int32.ofNat way) s0 m := by
    unfold f_X7_roundTens
    by_cases h1 : 0 ≤ x2
    · refine ⟨x2, abs_n.2 ?_, if_pos h1⟩
      rw [lle, e0] at h1; exact h1
    · refine ⟨-x2, abs_n.1 ?_, if_neg h1⟩
      rw [lle, e0] at h1; omega
  rw [hgo]
  unfold f_X7_roundTens_J12
  simp only [lt]
  obtain ⟨b, g1, v, rfl, g2⟩ := mtens_loop (m := smI m 10 20) (N := x2.toInt.natAbs) (x1 := Int32.ofNat f) (x2 := x2) (x4 := x4) (x5 := Int32.ofNat way) nabs hs0
  rw [g1]; simp only [Option.bind]
  have hgo2 : (if 0 ≤ x2 then f_X7_roundTens_J74 x4 (Int32.ofNat way) 0 (Int32.ofNat f) (smA (smI m 10 20) 7 v) else f_X7_roundTens_J74 x4 (Int32.ofNat way) 1 (Int32.ofNat f) (smA (smI m 10 20) 7 v)) = f_X7_roundTens_J74 x4 (Int32.ofNat way) (nb (decide (x2.toInt < 0))) (Int32.ofNat f) (smA (smI m 10 20) 7 v) := by
    simp only [hneg]
    cases decide (x2.toInt < 0) <;> simp [nb]
  rw [hgo2]
  unfold f_X7_roundTens_J74
  have hnv : nv 10 (fun k => x2.toInt.natAbs / 10 ^ (19 - k) % 10) 20 = x2.toInt.natAbs := by
    have := nv_dig 20 x2.toInt.natAbs
    rw [show 20 - 1 = 19 from rfl] at this
    rw [this]
    have h1 := nabs (x := x2)
    exact Nat.mod_eq_of_lt (Nat.lt_of_le_of_lt h1 (by decide))
  obtain ⟨m', r, j1, j2, j3⟩ := rdec_spec (m := smA (smI m 10 20) 7 v) (neg := decide (x2.toInt < 0)) (R := 20) (d := fun k => x2.toInt.natAbs / 10 ^ (19 - k) % 10) (x3 := x4) (E := E) hf hw (by rw [mI_smA, mI_smI]; rfl) (by decide) (fun k hk => by rw [smA_same]; exact ⟨g2 k hk, Nat.mod_lt _ (by decide)⟩) hx4 (by omega) (by omega)
  rw [hnv] at j3
  rw [j1]; simp only [Option.bind]
  exact ⟨m', r, rfl, j2.two ((Fr.sI (by decide)).trans (Fr.sA (by decide))), j3⟩
