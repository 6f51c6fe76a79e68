theorem pv_one {B : Nat} {d : Nat → Nat} (n : Nat) : pv B d (n + 1) = d 0 + B * pv B (fun i => d (1 + i)) n := by
  rw [Nat.add_comm n 1, pv_split 1 n]
  simp [pv]
theorem dg_int {f : Nat → Int32} {k : Nat} (h : 0 ≤ (f k).toInt) : ((dg f k : Nat) : Int) = (f k).toInt := by unfold dg; omega
theorem pv_upd {f : Nat → Int32} {k : Nat} {x : Int32} {B : Nat} : pv B (dg (upd f k x)) k = pv B (dg f) k := pv_congr (fun i hi => by unfold dg; rw [upd_ne (by omega)])
theorem W30.upd {f : Nat → Int32} (h : W30 f) {k : Nat} {x : Int32} (h0 : 0 ≤ x.toInt) (h1 : x.toInt < 1073741824) : W30 (upd f k x) := by
  intro i hi
  by_cases hk : i = k
  · rw [hk, upd_eq]; exact ⟨h0, h1⟩
  · rw [upd_ne hk]; exact h i hi
theorem grow_loop {j : Nat} (hj : mLen j = 320) {y : Int32} (hy0 : 0 ≤ y.toInt) (hy1 : y.toInt ≤ 1000000000) : ∀ (r k : Nat) (c : Int64) (m : MS), k + r = 320 → W30 (mA m j) → 0 ≤ c.toInt → c.toInt < 1073741824 →
    ∃ v z, Lp (fun a => f_X7_grow_L6 j y a.1 a.2.1 a.2.2) (c, nI k, m) = some (smA m j v) ∧ W30 v ∧ val v + z * B320 = pv 1073741824 (dg (mA m j)) k + 1073741824 ^ k * (c.toInt.toNat + y.toInt.toNat * pv 1073741824 (fun i => dg (mA m j) (k + i)) r) := by
  intro r
  induction r with
  | zero =>
    intro k c m hk hw h0 h1
    refine ⟨mA m j, c.toInt.toNat, ?_, hw, ?_⟩
    · rw [smA_self]
      refine Lp_r ?_
      show f_X7_grow_L6 j y c (nI k) m = _
      unfold f_X7_grow_L6
      rw [if_pos ((cle k320 (by omega)).mpr (by omega))]
    · have : k = 320 := by omega
      subst this
      rw [pv, Nat.mul_zero, Nat.add_zero, Nat.mul_comm]
      rfl
  | succ r ih =>
    intro k c m hk hw h0 h1
    have hwk := hw k (by omega)
    have e1 : ((mA m j k).toInt64 * y.toInt64).toInt = (mA m j k).toInt * y.toInt := by
      have h2 : (mA m j k).toInt * y.toInt ≤ 1073741823 * 1000000000 := Int.mul_le_mul (by omega) hy1 hy0 (by omega)
      have h3 : 0 ≤ (mA m j k).toInt * y.toInt := Int.mul_nonneg hwk.1 hy0
      rw [lm (by rw [il, il]; omega) (by rw [il, il]; omega), il, il]
    obtain ⟨n, hn⟩ : ∃ n : Int64, n = (mA m j k).toInt64 * y.toInt64 + c := ⟨_, rfl⟩
    have hP : 0 ≤ (mA m j k).toInt * y.toInt ∧ (mA m j k).toInt * y.toInt ≤ 1073741823 * 1000000000 := ⟨Int.mul_nonneg hwk.1 hy0, Int.mul_le_mul (by omega) hy1 hy0 (by omega)⟩
    have e2 : n.toInt = (mA m j k).toInt * y.toInt + c.toInt := by
      rw [hn, la (by rw [e1]; omega) (by rw [e1]; omega), e1]
    have e3 : (n &&& 1073741823).toInt32.toInt = n.toInt % 1073741824 := by
      rw [li (by rw [am30]; omega) (by rw [am30]; omega), am30]
    have e4 : (jshr n 30).toInt = n.toInt / 1073741824 := by
      rw [jshr_eq (k := 30) rfl (by omega)]; rfl
    have hs : f_X7_grow_L6 j y c (nI k) m = some (.inl (jshr n 30, nI (k + 1), smA m j (upd (mA m j) k (n &&& 1073741823).toInt32))) := by
      unfold f_X7_grow_L6
      rw [if_neg (fun h => by have := (cle k320 (by omega)).mp h; omega), if_pos ((vIn (by omega)).mpr (by omega))]
      simp only [lt, nI_1, nI_clamp (show k < 2 ^ 31 by omega), ← hn]
      rw [if_pos ((vIn (by omega)).mpr (by omega))]
    obtain ⟨v, z, g1, g2, g3⟩ := ih (k + 1) (jshr n 30) (smA m j (upd (mA m j) k (n &&& 1073741823).toInt32)) (by omega) (by rw [smA_same]; exact hw.upd (by rw [e3]; omega) (by rw [e3]; omega)) (by rw [e4]; omega) (by rw [e4]; omega)
    rw [smA_smA] at g1
    refine ⟨v, z, (Lp_l (F := fun a => f_X7_grow_L6 j y a.1 a.2.1 a.2.2) (a := (c, nI k, m)) hs).trans g1, g2, ?_⟩
    rw [g3, smA_same, pv_one (d := fun i => dg (mA m j) (k + i)) r, show pv 1073741824 (dg (upd (mA m j) k (n &&& 1073741823).toInt32)) (k + 1) = pv 1073741824 (dg (upd (mA m j) k (n &&& 1073741823).toInt32)) k + dg (upd (mA m j) k (n &&& 1073741823).toInt32) k * 1073741824 ^ k from rfl, pv_upd]
    have h5 : (fun i => dg (upd (mA m j) k (n &&& 1073741823).toInt32) (k + 1 + i)) = (fun i => dg (mA m j) (k + (1 + i))) := by
      funext i; unfold dg; rw [upd_ne (by omega), Nat.add_assoc]
    rw [h5]
    have h6 : dg (upd (mA m j) k (n &&& 1073741823).toInt32) k = n.toInt.toNat % 1073741824 := by
      unfold dg; rw [upd_eq, e3]; omega
    have h7 : (jshr n 30).toInt.toNat = n.toInt.toNat / 1073741824 := by rw [e4]; omega
    have h8 : n.toInt.toNat = dg (mA m j) k * y.toInt.toNat + c.toInt.toNat := by
      have q1 : ((dg (mA m j) k * y.toInt.toNat + c.toInt.toNat : Nat) : Int) = n.toInt := by
        rw [e2, Int.natCast_add, Int.natCast_mul, dg_int hwk.1, Int.toNat_of_nonneg hy0, Int.toNat_of_nonneg h0]
      omega
    rw [h6, h7, Nat.add_zero]
    generalize pv 1073741824 (fun i => dg (mA m j) (k + (1 + i))) r = U
    generalize pv 1073741824 (dg (mA m j)) k = A
    generalize dg (mA m j) k = D at h8 ⊢
    generalize y.toInt.toNat = Y at h8 ⊢
    generalize c.toInt.toNat = C at h8 ⊢
    have h9 := Nat.div_add_mod n.toInt.toNat 1073741824
    generalize n.toInt.toNat / 1073741824 = Q at h9 ⊢
    generalize n.toInt.toNat % 1073741824 = M at h9 ⊢
    have h10 : C + Y * (D + 1073741824 * U) = M + 1073741824 * (Q + Y * U) := by
      rw [Nat.mul_add, Nat.mul_comm Y D, Nat.mul_left_comm, Nat.mul_add]
      omega
    rw [h10, Nat.pow_succ]
    generalize 1073741824 ^ k = X
    rw [Nat.mul_add X M, Nat.mul_comm M X, Nat.mul_assoc]
    omega
theorem grow_spec {j : Nat} (hj : mLen j = 320) {y x : Int32} (hy0 : 0 ≤ y.toInt) (hy1 : y.toInt ≤ 1000000000) (hx0 : 0 ≤ x.toInt) (hx1 : x.toInt < 1073741824) {m : MS} (hw : W30 (mA m j)) : ∃ v z, f_X7_grow j y x m = some (smA m j v) ∧ W30 v ∧ val v + z * B320 = val (mA m j) * y.toInt.toNat + x.toInt.toNat := by
  obtain ⟨v, z, h1, h2, h3⟩ := grow_loop hj hy0 hy1 320 0 x.toInt64 m (by omega) hw (by rw [il]; exact hx0) (by rw [il]; exact hx1)
  refine ⟨v, z, ?_, h2, ?_⟩
  · unfold f_X7_grow
    simp only [lt]
    rw [show (x.toInt64, (0 : Int32), m) = (x.toInt64, nI 0, m) from rfl, h1]
    rfl
  · have e : (fun i => dg (mA m j) (0 + i)) = dg (mA m j) := by funext i; rw [Nat.zero_add]
    rw [h3, il, e, show pv 1073741824 (dg (mA m j)) 0 = 0 from rfl, Nat.zero_add, Nat.pow_zero, Nat.one_mul, Nat.add_comm, Nat.mul_comm]
    rfl
/-- where there is room -/
theorem grow_fit {j : Nat} (hj : mLen j = 320) {y x : Int32} (hy0 : 0 ≤ y.toInt) (hy1 : y.toInt ≤ 1000000000) (hx0 : 0 ≤ x.toInt) (hx1 : x.toInt < 1073741824) {m : MS} (hw : W30 (mA m j)) (hf : val (mA m j) * y.toInt.toNat + x.toInt.toNat < B320) : ∃ v, f_X7_grow j y x m = some (smA m j v) ∧ W30 v ∧ val v = val (mA m j) * y.toInt.toNat + x.toInt.toNat := by
  obtain ⟨v, z, h1, h2, h3⟩ := grow_spec hj hy0 hy1 hx0 hx1 hw
  refine ⟨v, h1, h2, ?_⟩
  have h4 : z = 0 := by
    rcases Nat.eq_zero_or_pos z with h | h
    · exact h
    · have : B320 ≤ z * B320 := Nat.le_mul_of_pos_left _ h
      omega
  rw [h4] at h3
  omega
