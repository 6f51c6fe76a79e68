theorem pw_lt {a b : Nat} (h : a < b) : 2 ^ a < 2 ^ b := Nat.pow_lt_pow_right (by decide) h
theorem pw_le {a b : Nat} (h : a ≤ b) : 2 ^ a ≤ 2 ^ b := Nat.pow_le_pow_right (by decide) h
theorem fit2 {A n k : Nat} (h : A < 2 ^ n) (hn : n + k ≤ 9600) : A * 2 ^ k < B320 := by
  have h1 : A * 2 ^ k < 2 ^ n * 2 ^ k := Nat.mul_lt_mul_of_pos_right h (pp2 k)
  rw [← Nat.pow_add] at h1
  rw [B320_eq]
  exact Nat.lt_of_lt_of_le h1 (pw_le hn)
theorem fit2' {n k : Nat} (hn : n + k < 9600) : 2 ^ n * 2 ^ k < B320 := by
  rw [← Nat.pow_add, B320_eq]
  exact pw_lt hn
theorem fit2'' {n : Nat} (hn : n < 9600) : 1 * 2 ^ n < B320 := by
  rw [Nat.one_mul, B320_eq]
  exact pw_lt hn
theorem b2hi {N L : Nat} {E : Int} (h : Bl N L) (hL : L ≠ 0) (hh : 1100 < (L : Int) + E) : p2 (-E) * 2 ^ 1024 ≤ N * p2 E := by
  have h1 := h.2.resolve_left hL
  have h2 : 2 ^ (L - 1) * p2 E ≤ N * p2 E := Nat.mul_le_mul_right _ h1
  refine Nat.le_trans ?_ h2
  unfold p2
  rw [← Nat.pow_add, ← Nat.pow_add]
  exact pw_le (by omega)
theorem b2lo {N L : Nat} {E : Int} (h : Bl N L) (hh : (L : Int) + E < -1300) : N * p2 E * 2 ^ 1075 < p2 (-E) := by
  rw [Nat.mul_assoc]
  have h1 : N * (p2 E * 2 ^ 1075) < 2 ^ L * (p2 E * 2 ^ 1075) := Nat.mul_lt_mul_of_pos_right h.1 (Nat.mul_pos (p2_pos _) (pp2 _))
  refine Nat.lt_of_lt_of_le h1 ?_
  unfold p2
  rw [← Nat.pow_add, ← Nat.pow_add]
  exact pw_le (by omega)
theorem p2_nat {n : Nat} {E : Int} (h : E = n) : p2 E = 2 ^ n := by unfold p2; rw [h]; rfl
theorem rbin_spec {f way N : Nat} {neg : Bool} (hf : f < 4) (hw : way < 5) {m : MS} {x3 : Int64} {E : Int} (ha : W30 (mA m 3)) (hN : vl (mA m 3) = N) (hNb : N < 2 ^ 6400) (hE : x3.toInt = E) (hE1 : -10000000000 ≤ E) (hE2 : E ≤ 10000000000) : ∃ m' r, f_X7_roundBinary (Int32.ofNat f) (nb neg) x3 (Int32.ofNat way) m = some m' ∧ Rd m m' f neg r ∧ ((N = 0 ∧ r = (0, 0)) ∨ (N ≠ 0 ∧ RT f neg way (N * p2 E) (p2 (-E)) r)) := by
  obtain ⟨L, l1, l2, l3⟩ := len_spec (j := 3) rfl ha
  rw [vl_eq, hN] at l3
  have hiL : (nI L).toInt = L := nI_toInt (by omega)
  unfold f_X7_roundBinary
  rw [l1]; simp only [Option.bind]
  by_cases h0 : L = 0
  · rw [if_pos (show nI L = 0 by rw [h0]; rfl)]
    have hN0 : N = 0 := (bl0 l3).mp h0
    have := rd_zero (m := m) (neg := neg) hf
    by_cases hn : nb neg = 0
    · rw [if_pos hn] at this ⊢
      exact ⟨_, (0, 0), rfl, this, .inl ⟨hN0, rfl⟩⟩
    · rw [if_neg hn] at this ⊢
      exact ⟨_, (0, 0), rfl, this, .inl ⟨hN0, rfl⟩⟩
  · rw [if_neg (show ¬ nI L = 0 from fun h => h0 (by rw [ieq, hiL, k0] at h; omega))]
    have hN1 : N ≠ 0 := fun h => h0 ((bl0 l3).mpr h)
    have hN0 : 0 < N := Nat.pos_of_ne_zero hN1
    have hLb : L ≤ 6400 := by
      have h1 := l3.2.resolve_left h0
      have := (Nat.pow_lt_pow_iff_right (a := 2) (by decide)).mp (Nat.lt_of_le_of_lt h1 hNb)
      omega
    have hx7 : ((nI L).toInt64 + x3).toInt = (L : Int) + E := by
      have e1 : (nI L).toInt64.toInt = L := by rw [il]; exact hiL
      rw [la (by omega) (by omega), e1, hE]
    obtain ⟨v4, s1, s2, s3⟩ := set1 (j := 4) rfl m
    simp only [lt]
    rw [s1]; simp only
    have e1100 : (1100 : Int64).toInt = 1100 := by decide
    have e1300 : (-1300 : Int64).toInt = -1300 := by decide
    have e0 : (0 : Int64).toInt = 0 := by decide
    have hFr : Fr [3, 4, 5] [11] [2] m (smA m 4 v4) := Fr.sA (by decide)
    have q3 : mA (smA m 4 v4) 3 = mA m 3 := smA_ne (by decide)
    have q4 : mA (smA m 4 v4) 4 = v4 := smA_same
    have b60 : 1 * 2 ^ 60 < B320 := fit2'' (by omega)
    by_cases h1 : (L : Int) + E ≤ 1100
    · rw [if_pos (by rw [lle, hx7, e1100]; exact h1)]
      by_cases h2 : -1300 ≤ (L : Int) + E
      · rw [if_pos (by rw [lle, hx7, e1300]; exact h2)]
        by_cases h3 : E ≤ 0
        · rw [if_pos (by rw [lle, hE, e0]; exact h3)]
          obtain ⟨n, hn⟩ : ∃ n : Nat, -E = n := ⟨(-E).toNat, by omega⟩
          have hx : (-x3).toInt32 = nI n := nIeq (by
            have e2 : (-x3).toInt = -E := by rw [lneg (by omega), hE]
            rw [li (by omega) (by omega), e2]; exact hn) (by omega)
          obtain ⟨w, t1, t2, t3⟩ := left_spec (j := 4) rfl (n := n) (m := smA m 4 v4) (by omega) (by rw [q4]; exact s2) (by rw [q4, vl_eq, s3]; exact fit2'' (by omega))
          rw [q4, vl_eq, vl_eq, s3, Nat.one_mul] at t3
          rw [hx, t1]; simp only
          unfold f_X7_roundBinary_J139
          obtain ⟨m', r, j1, j2, j3⟩ := rd_round (neg := neg) hf hw (m0 := m) (m := smA (smA m 4 v4) 4 w) (A := N) (B := 2 ^ n) (hFr.trans (Fr.sA (by decide))) (by rw [smA_ne (by decide), q3]; exact ha) (by rw [smA_same]; exact t2) (by rw [smA_ne (by decide), q3]; exact hN) (by rw [smA_same]; exact t3) hN0 (pp2 n) (fit2 hNb (by omega)) (fit2' (by omega))
          rw [j1]; simp only [Option.bind]
          refine ⟨m', r, rfl, j2, .inr ⟨hN1, .inr (.inr ?_)⟩⟩
          rw [p2_nat hn, p2_neg h3, Nat.mul_one]
          exact j3
        · rw [if_neg (by rw [lle, hE, e0]; exact h3)]
          obtain ⟨n, hn⟩ : ∃ n : Nat, E = n := ⟨E.toNat, by omega⟩
          have hx : x3.toInt32 = nI n := nIeq (by rw [li (by omega) (by omega), hE]; exact hn) (by omega)
          have hb : N * 2 ^ n < 2 ^ (L + n) := by
            rw [Nat.pow_add]; exact Nat.mul_lt_mul_of_pos_right l3.1 (pp2 n)
          obtain ⟨w, t1, t2, t3⟩ := left_spec (j := 3) rfl (n := n) (m := smA m 4 v4) (by omega) (by rw [q3]; exact ha) (by rw [q3, vl_eq, hN]; exact fit2 hNb (by omega))
          rw [q3, vl_eq, vl_eq, hN] at t3
          rw [hx, t1]; simp only
          unfold f_X7_roundBinary_J139
          obtain ⟨m', r, j1, j2, j3⟩ := rd_round (neg := neg) hf hw (m0 := m) (m := smA (smA m 4 v4) 3 w) (A := N * 2 ^ n) (B := 1) (hFr.trans (Fr.sA (by decide))) (by rw [smA_same]; exact t2) (by rw [smA_ne (by decide), q4]; exact s2) (by rw [smA_same]; exact t3) (by rw [smA_ne (by decide), q4]; exact s3) (Nat.mul_pos hN0 (pp2 n)) (by decide) (fit2 hb (by omega)) b60
          rw [j1]; simp only [Option.bind]
          refine ⟨m', r, rfl, j2, .inr ⟨hN1, .inr (.inr ?_)⟩⟩
          rw [p2_nat hn, p2_neg (show -E ≤ 0 by omega)]
          exact j3
      · rw [if_neg (by rw [lle, hx7, e1300]; exact h2)]
        obtain ⟨v3, z1, z2, z3⟩ := set1 (j := 3) rfl (smA m 4 v4)
        rw [z1]; simp only
        obtain ⟨w, t1, t2, t3⟩ := left_spec (j := 4) rfl (n := 1300) (m := smA (smA m 4 v4) 3 v3) (by omega) (by rw [smA_ne (by decide), q4]; exact s2) (by rw [smA_ne (by decide), q4, vl_eq, s3]; exact fit2'' (by omega))
        rw [smA_ne (by decide), q4, vl_eq, vl_eq, s3, Nat.one_mul] at t3
        have t1' : f_X7_left 4 1300 (smA (smA m 4 v4) 3 v3) = _ := t1
        rw [t1']; simp only
        unfold f_X7_roundBinary_J139
        obtain ⟨m', r, j1, j2, j3⟩ := rd_round (neg := neg) hf hw (m0 := m) (m := smA (smA (smA m 4 v4) 3 v3) 4 w) (A := 1) (B := 2 ^ 1300) (hFr.trans ((Fr.sA (by decide)).trans (Fr.sA (by decide)))) (by rw [smA_ne (by decide), smA_same]; exact z2) (by rw [smA_same]; exact t2) (by rw [smA_ne (by decide), smA_same]; exact z3) (by rw [smA_same]; exact t3) (by decide) (pp2 _) (fit2'' (by omega)) (fit2' (by omega))
        rw [j1]; simp only [Option.bind]
        refine ⟨m', r, rfl, j2, .inr ⟨hN1, .inr (.inl ⟨b2lo l3 (by omega), j3.tiny (by decide) ?_⟩)⟩⟩
        rw [Nat.one_mul]
        exact pw_lt (by omega)
    · rw [if_neg (by rw [lle, hx7, e1100]; exact h1)]
      obtain ⟨v3, z1, z2, z3⟩ := set1 (j := 3) rfl (smA m 4 v4)
      rw [z1]; simp only
      obtain ⟨w, t1, t2, t3⟩ := left_spec (j := 3) rfl (n := 1100) (m := smA (smA m 4 v4) 3 v3) (by omega) (by rw [smA_same]; exact z2) (by rw [smA_same, vl_eq, z3]; exact fit2'' (by omega))
      rw [smA_same, vl_eq, vl_eq, z3, Nat.one_mul] at t3
      have t1' : f_X7_left 3 1100 (smA (smA m 4 v4) 3 v3) = _ := t1
      rw [t1']; simp only
      unfold f_X7_roundBinary_J139
      obtain ⟨m', r, j1, j2, j3⟩ := rd_round (neg := neg) hf hw (m0 := m) (m := smA (smA (smA m 4 v4) 3 v3) 3 w) (A := 2 ^ 1100) (B := 1) (hFr.trans ((Fr.sA (by decide)).trans (Fr.sA (by decide)))) (by rw [smA_same]; exact t2) (by rw [smA_ne (by decide), smA_ne (by decide), q4]; exact s2) (by rw [smA_same]; exact t3) (by rw [smA_ne (by decide), smA_ne (by decide), q4]; exact s3) (pp2 _) (by decide) (fit2' (by omega)) b60
      rw [j1]; simp only [Option.bind]
      refine ⟨m', r, rfl, j2, .inr ⟨hN1, .inl ⟨b2hi l3 h0 (by omega), j3.big ?_⟩⟩⟩
      rw [Nat.one_mul]
      exact pw_le (by omega)
