/-! the division in round -/
theorem jshl1 {x : Int64} {v : Nat} (hx : x.toInt = v) (hv : v < 4611686018427387904) : (jshl x 1).toInt = ((2 * v : Nat) : Int) := by
  rw [jshl_eq (k := 1) (by decide) (by omega) (by omega) (by rw [hx]; omega), hx]
  omega
theorem or1 {x : Int64} {v : Nat} (hx : x.toInt = ((2 * v : Nat) : Int)) : (x ||| 1).toInt = ((2 * v + 1 : Nat) : Int) := by
  have a1 := u64 x
  have a2 := u64 (x ||| 1)
  have a3 := or64 x 1
  rw [show (1 : Int64).toBitVec.toNat = 1 from rfl, or_add (k := 1) (by decide) (by omega)] at a3
  have a4 := r64 x
  omega
theorem n54 {v p n : Nat} (hp : p ≤ 60) (hv : v < 2 ^ (p + 1 - n)) : v < 4611686018427387904 := by
  have h1 : 2 ^ (p + 1 - n) ≤ 2 ^ 61 := Nat.pow_le_pow_right (by decide) (by omega)
  have h2 : (2 : Nat) ^ 61 = 2305843009213693952 := by decide
  omega
def DI (p A B : Nat) (m : MS) (n : Nat) (a : Int64 × Int32 × MS) : Prop := ∃ (v : Nat) (ua ub : Nat → Int32), a.1.toInt = v ∧ a.2.1.toInt = (n : Int) - 1 ∧ a.2.2 = smA (smA m 3 ua) 4 ub ∧ W30 ua ∧ W30 ub ∧ n ≤ p + 1 ∧ v < 2 ^ (p + 1 - n) ∧ val ub = B * 2 ^ (n - 1) ∧ A = v * (B * 2 ^ n) + val ua ∧ val ua < B * 2 ^ n
def DQ (p A B : Nat) (m : MS) (b : Int64 × MS) : Prop := ∃ (v : Nat) (ua ub : Nat → Int32), b.1.toInt = v ∧ b.2 = smA (smA m 3 ua) 4 ub ∧ W30 ua ∧ W30 ub ∧ v < 2 ^ (p + 1) ∧ val ub = B ∧ A = v * B + val ua ∧ val ua < B
theorem pk_is (n : Nat) : (((n + 1 : Nat) : Int)) - 1 = n := by omega
theorem pred32 {k : Int32} {n : Nat} (hk : k.toInt = n) : (k + -1).toInt = (n : Int) - 1 := by
  have h5 : (-1 : Int32).toInt = -1 := by decide
  have := r32 k
  rw [ia (by rw [h5]; omega) (by rw [h5]; omega), h5]; omega
theorem le0_of {k : Int32} {n : Nat} (hk : k.toInt = n) : k ≤ 0 ↔ n = 0 := by rw [ile, k0]; omega
theorem div_tail {p A B : Nat} {x1 x2 x3 x5 x6 : Int32} {m : MS} {n w : Nat} {k : Int32} {ub : Nat → Int32} (hk : k.toInt = n) (hn : n ≤ p) (hub : W30 ub) (hB : val ub = B * 2 ^ n) (y : Int64) (uc : Nat → Int32) (hy : y.toInt = w) (hw : w < 2 ^ (p + 1 - n)) (huc : W30 uc) (hA' : A = w * (B * 2 ^ n) + val uc) (hl' : val uc < B * 2 ^ n) : ∃ a' : Int64 × Int32 × MS, f_X7_round_J144 x1 x2 x3 x5 x6 y k (smA (smA m 3 uc) 4 ub) = some (.inl a') ∧ DI p A B m n a' := by
  have hk1 := pred32 hk
  unfold f_X7_round_J144
  by_cases h1 : n = 0
  · rw [if_pos ((le0_of hk).mpr h1)]
    refine ⟨(y, k + -1, smA (smA m 3 uc) 4 ub), rfl, ?_⟩
    refine ⟨w, uc, ub, hy, hk1, rfl, huc, hub, Nat.le_succ_of_le hn, hw, ?_, hA', hl'⟩
    rw [hB, h1]
  · rw [if_neg (fun h => h1 ((le0_of hk).mp h))]
    obtain ⟨ud, d1, d2, d3⟩ := halve_spec (j := 4) rfl (m := smA (smA m 3 uc) 4 ub) (by rw [smA_same]; exact hub)
    rw [smA_smA] at d1
    rw [smA_same, hB] at d3
    rw [d1]
    refine ⟨(y, k + -1, smA (smA m 3 uc) 4 ud), rfl, ?_⟩
    refine ⟨w, uc, ud, hy, hk1, rfl, huc, d2, Nat.le_succ_of_le hn, hw, ?_, hA', hl'⟩
    obtain ⟨l, rfl⟩ : ∃ l, n = l + 1 := Nat.exists_eq_succ_of_ne_zero h1
    rw [d3, mul2s, Nat.add_sub_cancel]
    exact Nat.mul_div_cancel_left _ (by decide)
theorem div_ar1 {A v B n U : Nat} (hA : A = v * (B * 2 ^ (n + 1)) + U) : A = 2 * v * (B * 2 ^ n) + U := by
  rw [hA, mul2s, Nat.mul_left_comm, Nat.mul_assoc]
theorem div_ar2 {A v B n U W : Nat} (hA : A = v * (B * 2 ^ (n + 1)) + U) (h3 : B * 2 ^ n ≤ U) (hW : W + B * 2 ^ n = U) : A = (2 * v + 1) * (B * 2 ^ n) + W := by
  rw [div_ar1 hA, Nat.add_mul, Nat.one_mul]; omega
theorem div_ar3 {B n U W : Nat} (hlt : U < B * 2 ^ (n + 1)) (h3 : B * 2 ^ n ≤ U) (hW : W + B * 2 ^ n = U) : W < B * 2 ^ n := by
  rw [mul2s] at hlt; omega
theorem div_pow {p n v w : Nat} (hn : n + 1 ≤ p + 1) (hv : v < 2 ^ (p + 1 - (n + 1))) (hw : w < 2 * v + 2) : w < 2 ^ (p + 1 - n) := by
  have : 2 ^ (p + 1 - n) = 2 * 2 ^ (p + 1 - (n + 1)) := by rw [show p + 1 - n = (p + 1 - (n + 1)) + 1 by omega, pow2s]
  omega
theorem ltn0_of {k : Int32} {n : Nat} (hk : k.toInt = (n : Int) - 1) : k < 0 ↔ n = 0 := by rw [ilt, k0]; omega
theorem div_step {p A B : Nat} (hp : p ≤ 60) {x1 x2 x3 x5 x6 : Int32} {m : MS} (n : Nat) (x : Int64) (k : Int32) (m' : MS) (hI : DI p A B m n (x, k, m')) : (∃ b, f_X7_round_L102 x1 x2 x3 x5 x6 x k m' = some (.inr b) ∧ DQ p A B m b) ∨ ∃ a' n', f_X7_round_L102 x1 x2 x3 x5 x6 x k m' = some (.inl a') ∧ n' < n ∧ DI p A B m n' a' := by
  obtain ⟨v, ua, ub, hx, hk, hm, hua, hub, hn, hv, hB, hA, hlt⟩ := hI
  change x.toInt = _ at hx
  change k.toInt = _ at hk
  change m' = _ at hm
  subst hm
  unfold f_X7_round_L102
  cases n with
  | zero =>
    rw [if_pos ((ltn0_of hk).mpr rfl)]
    rw [Nat.pow_zero, Nat.mul_one] at hA hlt
    rw [show 0 - 1 = 0 from rfl, Nat.pow_zero, Nat.mul_one] at hB
    exact .inl ⟨(x, smA (smA m 3 ua) 4 ub), rfl, v, ua, ub, hx, rfl, hua, hub, hv, hB, hA, hlt⟩
  | succ n =>
    rw [Nat.add_sub_cancel] at hB
    rw [if_neg (fun h => absurd ((ltn0_of hk).mp h) (Nat.succ_ne_zero n))]
    simp only [lt]
    have hj := jshl1 hx (n54 hp hv)
    have hk' : k.toInt = (n : Int) := hk.trans (pk_is n)
    have e3 : mA (smA (smA m 3 ua) 4 ub) 3 = ua := by rw [smA_ne (by decide), smA_same]
    have e4 : mA (smA (smA m 3 ua) 4 ub) 4 = ub := smA_same
    obtain ⟨r, f1, f2⟩ := cmp_spec (i := 3) (j := 4) rfl rfl (m := smA (smA m 3 ua) 4 ub) (by rw [e3]; exact hua) (by rw [e4]; exact hub)
    rw [e3, e4, hB] at f2
    rw [f1]; simp only [Option.bind]
    by_cases h2 : r < 0
    · rw [if_pos h2]
      have h3 : val ua < B * 2 ^ n := by
        rcases f2 with ⟨_, h⟩ | ⟨h, _⟩ | ⟨h, _⟩
        · exact h
        · rw [h] at h2; exact absurd h2 (by decide)
        · rw [h] at h2; exact absurd h2 (by decide)
      obtain ⟨a', t1, t2⟩ := div_tail (p := p) (A := A) (B := B) (x1 := x1) (x2 := x2) (x3 := x3) (x5 := x5) (x6 := x6) (m := m) (n := n) (w := 2 * v) hk' (Nat.le_of_succ_le_succ hn) hub hB (jshl x 1) ua hj (div_pow hn hv (Nat.lt_add_of_pos_right (by decide))) hua (div_ar1 hA) h3
      exact .inr ⟨a', n, t1, Nat.lt_succ_self n, t2⟩
    · rw [if_neg h2]
      have h3 : B * 2 ^ n ≤ val ua := by
        rcases f2 with ⟨h, _⟩ | ⟨_, h⟩ | ⟨_, h⟩
        · rw [h] at h2; exact absurd (by decide) h2
        · exact Nat.le_of_eq h.symm
        · exact Nat.le_of_lt h
      obtain ⟨uc, g1, g2, g3⟩ := less_spec (i := 3) (j := 4) rfl rfl (by decide) (m := smA (smA m 3 ua) 4 ub) (by rw [e3]; exact hua) (by rw [e4]; exact hub) (by rw [e3, e4, hB]; exact h3)
      rw [e3, e4, hB] at g3
      rw [smA_comm (i := 4) (j := 3) (by decide), smA_smA] at g1
      rw [g1]; simp only
      obtain ⟨a', t1, t2⟩ := div_tail (p := p) (A := A) (B := B) (x1 := x1) (x2 := x2) (x3 := x3) (x5 := x5) (x6 := x6) (m := m) (n := n) (w := 2 * v + 1) hk' (Nat.le_of_succ_le_succ hn) hub hB (jshl x 1 ||| 1) uc (or1 hj) (div_pow hn hv (Nat.lt_succ_self _)) g2 (div_ar2 hA h3 g3) (div_ar3 hlt h3 g3)
      exact .inr ⟨a', n, t1, Nat.lt_succ_self n, t2⟩
theorem div_loop {p A B : Nat} (hp : p ≤ 60) {x1 x2 x3 x5 x6 : Int32} {m : MS} (n : Nat) (a : Int64 × Int32 × MS) (h : DI p A B m n a) : ∃ b, Lp (fun a => f_X7_round_L102 x1 x2 x3 x5 x6 a.1 a.2.1 a.2.2) a = some b ∧ DQ p A B m b :=
  Lp_inv (F := fun a => f_X7_round_L102 x1 x2 x3 x5 x6 a.1 a.2.1 a.2.2) (DI p A B m) (DQ p A B m) (fun n a h => div_step hp n a.1 a.2.1 a.2.2 h) n a h
