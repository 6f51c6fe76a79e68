/-! powerBelow: the power of two at or below a / b -/
def Pb (a b : Nat) (p : Int) : Prop := b * 2 ^ p.toNat ≤ a * 2 ^ (-p).toNat ∧ a * 2 ^ (-(p + 1)).toNat < b * 2 ^ (p + 1).toNat
theorem B320_eq : B320 = 2 ^ 9600 := p30 320
theorem Bl.fit {v L k : Nat} (h : Bl v L) (hL : L + k ≤ 9600) : v * 2 ^ k < B320 := by
  have h1 : v * 2 ^ k < 2 ^ L * 2 ^ k := Nat.mul_lt_mul_of_pos_right h.1 (Nat.pow_pos (by decide))
  rw [← Nat.pow_add] at h1
  have h2 : 2 ^ (L + k) ≤ 2 ^ 9600 := Nat.pow_le_pow_right (by decide) hL
  rw [B320_eq]
  exact Nat.lt_of_lt_of_le h1 h2
theorem Bl.pos {v L : Nat} (h : Bl v L) (hv : 0 < v) : 0 < L := by
  rcases Nat.eq_zero_or_pos L with h1 | h1
  · have := h.1
    rw [h1, Nat.pow_zero] at this
    omega
  · exact h1
theorem Bl.two {v L k : Nat} (h : Bl v (L + 1)) : 2 ^ (L + k) ≤ v * 2 ^ k ∧ v * 2 ^ k < 2 * 2 ^ (L + k) := by
  obtain ⟨h1, h2⟩ := h
  have h2 := h2.resolve_left (by omega)
  rw [Nat.add_sub_cancel] at h2
  rw [Nat.pow_succ] at h1
  rw [Nat.pow_add]
  refine ⟨Nat.mul_le_mul_right _ h2, ?_⟩
  have := Nat.mul_lt_mul_of_pos_right h1 (show 0 < 2 ^ k from Nat.pow_pos (by decide))
  rw [Nat.mul_comm (2 ^ L) 2, Nat.mul_assoc] at this
  exact this
theorem pb_neg {a b k : Nat} (h1 : b * 2 ^ 0 ≤ a * 2 ^ (k + 1)) (h2 : a * 2 ^ k < b * 2 ^ 0) : Pb a b (-((k + 1 : Nat) : Int)) := by
  unfold Pb
  rw [show (-((k + 1 : Nat) : Int)).toNat = 0 by omega, show (-(-((k + 1 : Nat) : Int))).toNat = k + 1 by omega, show (-(-((k + 1 : Nat) : Int) + 1)).toNat = k by omega, show (-((k + 1 : Nat) : Int) + 1).toNat = 0 by omega]
  exact ⟨h1, h2⟩
theorem pb_pos {a b k : Nat} (h1 : b * 2 ^ k ≤ a * 2 ^ 0) (h2 : a * 2 ^ 0 < b * 2 ^ (k + 1)) : Pb a b (k : Int) := by
  unfold Pb
  rw [show ((k : Nat) : Int).toNat = k by omega, show (-((k : Nat) : Int)).toNat = 0 by omega, show (-((k : Int) + 1)).toNat = 0 by omega, show ((k : Int) + 1).toNat = k + 1 by omega]
  exact ⟨h1, h2⟩
theorem pow2s (k : Nat) : 2 ^ (k + 1) = 2 * 2 ^ k := by rw [Nat.pow_succ, Nat.mul_comm]
theorem mul2s (a k : Nat) : a * 2 ^ (k + 1) = 2 * (a * 2 ^ k) := by rw [pow2s, Nat.mul_left_comm]
theorem pb_spec {m : MS} (ha : W30 (mA m 3)) (hb : W30 (mA m 4)) (ha0 : 0 < val (mA m 3)) (hb0 : 0 < val (mA m 4)) : ∃ p u, f_X7_powerBelow m = some (p, smA m 5 u) ∧ W30 u ∧ -9600 ≤ p.toInt ∧ p.toInt ≤ 9600 ∧ Pb (val (mA m 3)) (val (mA m 4)) p.toInt := by
  obtain ⟨la, a1, a2, a3⟩ := len_spec (j := 3) rfl ha
  obtain ⟨lb, b1, b2, b3⟩ := len_spec (j := 4) rfl hb
  have la0 := a3.pos ha0
  have lb0 := b3.pos hb0
  obtain ⟨la, rfl⟩ : ∃ l, la = l + 1 := ⟨la - 1, by omega⟩
  obtain ⟨lb, rfl⟩ : ∃ l, lb = l + 1 := ⟨lb - 1, by omega⟩
  have ia' : (nI (la + 1)).toInt = ((la + 1 : Nat) : Int) := nI_toInt (by omega)
  have ib' : (nI (lb + 1)).toInt = ((lb + 1 : Nat) : Int) := nI_toInt (by omega)
  unfold f_X7_powerBelow
  rw [a1]; simp only [Option.bind]
  rw [b1]; simp only [lt]
  have hx : (nI (la + 1) - nI (lb + 1)).toInt = (la : Int) - lb := by rw [is_ (by omega) (by omega), ia', ib']; omega
  generalize nI (la + 1) - nI (lb + 1) = x at hx ⊢
  have hx1 : (x - 1).toInt = (la : Int) - lb - 1 := by
    have h5 : (1 : Int32).toInt = 1 := by decide
    rw [is_ (by rw [h5]; omega) (by rw [h5]; omega), h5]; omega
  have e0 : ∀ v : Nat, v * 2 ^ 0 = v := fun v => by rw [Nat.pow_zero, Nat.mul_one]
  by_cases h1 : x < 0
  · rw [if_pos h1]
    rw [ilt, hx, k0] at h1
    obtain ⟨k, hk⟩ : ∃ k, lb = la + (k + 1) := ⟨lb - la - 1, by omega⟩
    obtain ⟨u, c1, c2, c3⟩ := copy_spec (i := 3) (j := 5) rfl rfl (by decide) ha
    rw [c1]; simp only
    have hn : -x = nI (k + 1) := ieq.mpr (by rw [nI_toInt (by omega), ineg (by omega)]; omega)
    obtain ⟨v, d1, d2, d3⟩ := left_spec (j := 5) rfl (n := k + 1) (by omega) (m := smA m 5 u) (by rw [smA_same]; exact c2) (by rw [smA_same, c3]; exact a3.fit (by omega))
    rw [smA_smA] at d1
    rw [smA_same, c3] at d3
    rw [hn, d1]; simp only
    obtain ⟨r, f1, f2⟩ := cmp_spec (i := 5) (j := 4) rfl rfl (m := smA m 5 v) (by rw [smA_same]; exact d2) (by rw [smA_ne (by decide)]; exact hb)
    rw [smA_same, smA_ne (by decide), d3] at f2
    rw [f1]; simp only
    have t1 := a3.two (k := k + 1)
    have t2 := b3.two (k := 0)
    rw [← hk] at t1
    rw [e0, Nat.add_zero] at t2
    by_cases h2 : 0 ≤ r
    · rw [if_pos h2]
      refine ⟨x, v, rfl, d2, by omega, by omega, ?_⟩
      rw [show x.toInt = -((k + 1 : Nat) : Int) by omega]
      have h3 : val (mA m 4) ≤ val (mA m 3) * 2 ^ (k + 1) := by
        rcases f2 with ⟨h, _⟩ | ⟨_, h⟩ | ⟨_, h⟩
        · rw [h] at h2; exact absurd h2 (by decide)
        · exact Nat.le_of_eq h.symm
        · exact Nat.le_of_lt h
      refine pb_neg (by rw [e0]; exact h3) ?_
      rw [e0]
      rw [mul2s] at t1
      omega
    · rw [if_neg h2]
      refine ⟨x - 1, v, rfl, d2, by omega, by omega, ?_⟩
      rw [show (x - 1).toInt = -((k + 1 + 1 : Nat) : Int) by omega]
      have h3 : val (mA m 3) * 2 ^ (k + 1) < val (mA m 4) := by
        rcases f2 with ⟨_, h⟩ | ⟨h, _⟩ | ⟨h, _⟩
        · exact h
        · rw [h] at h2; exact absurd (by decide) h2
        · rw [h] at h2; exact absurd (by decide) h2
      refine pb_neg ?_ (by rw [e0]; exact h3)
      rw [e0, mul2s]
      omega
  · rw [if_neg h1]
    rw [ilt, hx, k0] at h1
    obtain ⟨k, hk⟩ : ∃ k, la = lb + k := ⟨la - lb, by omega⟩
    obtain ⟨u, c1, c2, c3⟩ := copy_spec (i := 4) (j := 5) rfl rfl (by decide) hb
    rw [c1]; simp only
    have hn : x = nI k := ieq.mpr (by rw [nI_toInt (by omega)]; omega)
    obtain ⟨v, d1, d2, d3⟩ := left_spec (j := 5) rfl (n := k) (by omega) (m := smA m 5 u) (by rw [smA_same]; exact c2) (by rw [smA_same, c3]; exact b3.fit (by omega))
    rw [smA_smA] at d1
    rw [smA_same, c3] at d3
    rw [← hn] at d1
    rw [d1]; simp only
    obtain ⟨r, f1, f2⟩ := cmp_spec (i := 3) (j := 5) rfl rfl (m := smA m 5 v) (by rw [smA_ne (by decide)]; exact ha) (by rw [smA_same]; exact d2)
    rw [smA_same, smA_ne (by decide), d3] at f2
    rw [f1]; simp only
    have t1 := b3.two (k := k)
    have t2 := a3.two (k := 0)
    rw [← hk] at t1
    rw [e0, Nat.add_zero] at t2
    by_cases h2 : 0 ≤ r
    · rw [if_pos h2]
      refine ⟨x, v, rfl, d2, by omega, by omega, ?_⟩
      rw [show x.toInt = (k : Int) by omega]
      have h3 : val (mA m 4) * 2 ^ k ≤ val (mA m 3) := by
        rcases f2 with ⟨h, _⟩ | ⟨_, h⟩ | ⟨_, h⟩
        · rw [h] at h2; exact absurd h2 (by decide)
        · exact Nat.le_of_eq h.symm
        · exact Nat.le_of_lt h
      refine pb_pos (by rw [e0]; exact h3) ?_
      rw [e0, mul2s]
      omega
    · rw [if_neg h2]
      refine ⟨x - 1, v, rfl, d2, by omega, by omega, ?_⟩
      have h3 : val (mA m 3) < val (mA m 4) * 2 ^ k := by
        rcases f2 with ⟨_, h⟩ | ⟨h, _⟩ | ⟨h, _⟩
        · exact h
        · rw [h] at h2; exact absurd (by decide) h2
        · rw [h] at h2; exact absurd (by decide) h2
      rcases Nat.eq_zero_or_pos k with h4 | h4
      · subst h4
        rw [show (x - 1).toInt = -((0 + 1 : Nat) : Int) by omega]
        refine pb_neg ?_ (by rw [e0] at h3 ⊢; rw [e0]; exact h3)
        rw [e0] at t1 ⊢
        rw [mul2s, e0]
        omega
      · obtain ⟨k, rfl⟩ : ∃ l, k = l + 1 := ⟨k - 1, by omega⟩
        rw [show (x - 1).toInt = (k : Int) by omega]
        refine pb_pos ?_ (by rw [e0]; exact h3)
        rw [mul2s] at t1
        rw [e0]
        omega
