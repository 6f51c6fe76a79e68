theorem p9 (a t : Nat) : 10 ^ (9 * a + t) = 1000000000 ^ a * 10 ^ t := by
  rw [Nat.pow_add, Nat.pow_mul]
theorem gd_dig {V a t : Nat} (ht : t < 9) : gd V a / 10 ^ t % 10 = V / 10 ^ (9 * a + t) % 10 := by
  unfold gd
  rw [p9, ← Nat.div_div_eq_div_mul]
  generalize V / 1000000000 ^ a = X
  have h1 : 1000000000 = 10 ^ t * 10 ^ (9 - t) := by rw [← Nat.pow_add, show t + (9 - t) = 9 by omega]
  rw [h1, Nat.mod_mul_right_div_self]
  have h2 : 10 ^ (9 - t) = 10 * 10 ^ (8 - t) := by rw [← Nat.pow_succ', show 9 - t = (8 - t) + 1 by omega]
  rw [h2, Nat.mod_mul_right_mod]
theorem k10i : (10 : Int32).toInt = 10 := by decide
theorem idv_n {x y : Int32} {a b : Nat} (hx : x.toInt = a) (hy : y.toInt = b) : (x / y).toInt = ((a / b : Nat) : Int) := by
  have := r32 x
  rw [idv (by omega), hx, hy, Int.tdiv_eq_ediv_of_nonneg (by omega)]; rfl
theorem irm_n {x y : Int32} {a b : Nat} (hx : x.toInt = a) (hy : y.toInt = b) : (irm x y).toInt = ((a % b : Nat) : Int) := by
  rw [irm_eq, hx, hy, Int.tmod_eq_emod_of_nonneg (by omega)]; rfl
theorem digit_spec {c : CS} {r V k : Nat} {s : Bool} (h : RIs (rws c r) V s) {x : Int32} (hx : x.toInt = (k : Int) - 1080) (hk : k ≤ 10000) : (f_X4_digitAt r x c).toInt = ((V / 10 ^ k % 10 : Nat) : Int) := by
  have ht := tenOf_i (x := x)
  have hl := limbOf_i (x := x) (by omega) (by omega)
  have e1 : (x.toInt % 9).toNat = k % 9 := by omega
  rw [e1] at ht
  have hm := limb_k (k := k / 9) h (x := f_X4_limbOf x) (by omega)
  have hp : 0 < 10 ^ (k % 9) := Nat.pow_pos (by decide)
  have k10 : (10 : Int32).toInt = ((10 : Nat) : Int) := by decide
  unfold f_X4_digitAt
  simp only [lt]
  rw [if_neg (by rw [ile, ht, k0]; omega), irm_n (idv_n hm ht) k10, gd_dig (by omega), Nat.div_add_mod]
theorem digit_low {c : CS} {r : Nat} {x : Int32} (hx : x.toInt < -1080) (hx2 : -100000 ≤ x.toInt) : f_X4_digitAt r x c = 0 := by
  have ht := tenOf_i (x := x)
  have hl := limbOf_i (x := x) (by omega) (by omega)
  have hp : 0 < 10 ^ (x.toInt % 9).toNat := Nat.pow_pos (by decide)
  have k10 : (10 : Int32).toInt = ((10 : Nat) : Int) := by decide
  unfold f_X4_digitAt
  simp only [lt]
  rw [if_neg (by rw [ile, ht, k0]; omega), limb_low (by omega)]
  rw [ieq, irm_n (idv_n (a := 0) (by decide) ht) k10, Nat.zero_div]
  rfl
theorem ris_emp {c : CS} {r V : Nat} {s : Bool} (h : RIs (rws c r) V s) : (f_X4_isEmpty r c = 0) = (V ≠ 0) := by
  have e := f_emp (c := c) (r := r) (x := rws c r)
  rw [srws_self] at e
  rw [e]
  obtain ⟨h1, h2, h3, h4, h5⟩ := h
  simp only [eq_iff_iff]
  rcases h3 with ⟨a1, a2, a3, a4, a5⟩ | ⟨a1, a2⟩
  · refine ⟨fun _ hV => a4 ?_, fun _ => a1⟩
    have h6 := rv_ge h1 (i := (rws c r).2.1.toInt.toNat) (by omega)
    rw [h4, hV] at h6
    have h7 : dg (rws c r).1 (rws c r).2.1.toInt.toNat = 0 := by
      rcases Nat.eq_zero_or_pos (dg (rws c r).1 (rws c r).2.1.toInt.toNat) with h | h
      · exact h
      · have := Nat.mul_pos h (show 0 < 1000000000 ^ (155 - (rws c r).2.1.toInt.toNat) from Nat.pow_pos (by decide))
        omega
    have h8 := dg_int (h1 (rws c r).2.1.toInt.toNat (by omega)).1
    rw [h7] at h8
    rw [ieq, ← h8]; rfl
  · refine ⟨fun h => by omega, fun h => absurd ?_ h⟩
    rw [← h4]; exact rv_zero (fun k hk => h2 k hk (by omega))
/-- n digits -/
def Dn (V n : Nat) : Prop := 0 < n ∧ 10 ^ (n - 1) ≤ V ∧ V < 10 ^ n
def PI (d n : Nat) (a : Int32) : Prop := ∃ k : Nat, a.toInt = k ∧ k + n = 10 ∧ 1 ≤ k ∧ k ≤ 9 ∧ 10 ^ (k - 1) ≤ d
theorem point_step {r d : Nat} {x1 : Int32} {c : CS} (hx : x1.toInt = d) (hd : d < 1000000000) (n : Nat) (a : Int32) (hI : PI d n a) : (∃ z, f_X4_point_L20 r x1 a c = some (.inr z) ∧ ∃ k : Nat, z.toInt = k ∧ 1 ≤ k ∧ k ≤ 9 ∧ 10 ^ (k - 1) ≤ d ∧ d < 10 ^ k) ∨ ∃ a' n', f_X4_point_L20 r x1 a c = some (.inl a') ∧ n' < n ∧ PI d n' a' := by
  obtain ⟨k, h1, h2, h3, h4, h5⟩ := hI
  have e9 : (9 : Int32).toInt = 9 := by decide
  have one : (1 : Int32).toInt = 1 := by decide
  unfold f_X4_point_L20
  by_cases hc : (9 : Int32) ≤ a
  · rw [if_pos hc]
    rw [ile, e9, h1] at hc
    have : k = 9 := by omega
    subst this
    exact .inl ⟨_, rfl, 9, h1, by omega, by omega, h5, by rw [show (10 : Nat) ^ 9 = 1000000000 by decide]; exact hd⟩
  · rw [if_neg hc]
    rw [ile, e9, h1] at hc
    have ht := tenOf_i (x := a)
    rw [h1, show ((k : Int) % 9).toNat = k by omega] at ht
    by_cases h6 : x1 < f_X4_tenOf a
    · rw [if_pos h6]
      rw [ilt, hx, ht] at h6
      exact .inl ⟨_, rfl, k, h1, h3, h4, h5, by omega⟩
    · rw [if_neg h6]
      rw [ilt, hx, ht] at h6
      refine .inr ⟨_, n - 1, rfl, by omega, k + 1, ?_, by omega, by omega, by omega, ?_⟩
      · show (a + 1).toInt = _
        rw [ia (by omega) (by omega), h1, one]; rfl
      · rw [Nat.add_sub_cancel]; omega
theorem dn_limb {V a d k : Nat} (hV : V / 1000000000 ^ a = d) (hk : 1 ≤ k) (h1 : 10 ^ (k - 1) ≤ d) (h2 : d < 10 ^ k) : Dn V (9 * a + k) := by
  have hp : 0 < 1000000000 ^ a := Nat.pow_pos (by decide)
  refine ⟨by omega, ?_, ?_⟩
  · rw [show 9 * a + k - 1 = 9 * a + (k - 1) by omega, p9]
    rw [← hV] at h1
    have := (Nat.le_div_iff_mul_le hp).mp h1
    rw [Nat.mul_comm]; exact this
  · rw [p9]
    rw [← hV] at h2
    have := (Nat.div_lt_iff_lt_mul hp).mp h2
    rw [Nat.mul_comm]; exact this
/-- the first limb is all that stands above -/
theorem RIs.top {w : RWs} {V : Nat} {s : Bool} (h : RIs w V s) {i : Nat} (hi : i < 156) (hz : ∀ k, k < i → w.1 k = 0) : V / 1000000000 ^ (155 - i) = gd V (155 - i) := by
  obtain ⟨h1, h2, h3, h4, h5⟩ := h
  have e : hv (dg w.1) i = 0 := hv_zero (fun k hk => dg0 (hz k hk))
  have h6 := rv_tl w.1 (i := i) (by omega)
  rw [e, Nat.zero_mul, Nat.zero_add, h4] at h6
  have h7 : tl w.1 i < 1000000000 ^ (156 - i) := by
    rw [tl_eq]; exact hv_lt (fun k hk => h1.dg (by omega))
  rw [← h6, show 156 - i = (155 - i) + 1 by omega, Nat.pow_succ] at h7
  unfold gd
  exact (Nat.mod_eq_of_lt (Nat.div_lt_of_lt_mul h7)).symm
theorem point_spec {c : CS} {r V : Nat} {s : Bool} (h : RIs (rws c r) V s) (hV : V ≠ 0) : ∃ (x : Int32) (n : Nat), f_X4_point r c = some x ∧ x.toInt = (n : Int) - 1080 ∧ Dn V n ∧ n ≤ 1404 := by
  have he := ris_emp h
  obtain ⟨a1, a2, a3, a4, a5⟩ : (rws c r).2.1.toInt ≤ (rws c r).2.2.1.toInt ∧ 0 ≤ (rws c r).2.1.toInt ∧ (rws c r).2.2.1.toInt ≤ 155 ∧ (rws c r).1 (rws c r).2.1.toInt.toNat ≠ 0 ∧ (rws c r).1 (rws c r).2.2.1.toInt.toNat ≠ 0 := by
    obtain ⟨h1, h2, h3, h4, h5⟩ := h
    rcases h3 with h3 | ⟨b1, b2⟩
    · exact h3
    · exact absurd (by rw [← h4]; exact rv_zero (fun k hk => h2 k hk (by omega))) hV
  obtain ⟨i, hi⟩ : ∃ i : Nat, (rws c r).2.1.toInt = i := ⟨(rws c r).2.1.toInt.toNat, by omega⟩
  have htop := h.top (i := i) (by omega) (fun k hk => h.2.1 k (by omega) (by omega))
  have hx := limb_k (k := 155 - i) h (x := rwF c r) (by unfold rwF; omega)
  have hlt := gd_lt V (155 - i)
  have hne : gd V (155 - i) ≠ 0 := by
    intro h0
    have := h.limb (i := i) (by omega)
    rw [h0] at this
    rw [hi] at a4
    exact a4 (by rw [Int.toNat_natCast, ieq, this]; rfl)
  obtain ⟨z, g1, k, g2, g3, g4, g5, g6⟩ := Lp_inv (F := fun a => f_X4_point_L20 r (f_X4_limbAt r (rwF c r) c) a c) (PI (gd V (155 - i))) (fun z => ∃ k : Nat, z.toInt = k ∧ 1 ≤ k ∧ k ≤ 9 ∧ 10 ^ (k - 1) ≤ gd V (155 - i) ∧ gd V (155 - i) < 10 ^ k) (fun n a hh => point_step hx hlt n a hh) 9 1 ⟨1, by decide, by omega, by omega, by omega, by simp; omega⟩
  have e35 : (35 : Int32).toInt = 35 := by decide
  have e9 : (9 : Int32).toInt = 9 := by decide
  unfold f_X4_point
  simp only [lt]
  rw [if_pos (by rw [he]; exact hV), g1]
  simp only [Option.bind]
  have f1 : (35 - rwF c r).toInt = 35 - (i : Int) := by unfold rwF; rw [is_ (by omega) (by omega), hi, e35]
  have f2 : ((35 - rwF c r) * 9).toInt = (35 - (i : Int)) * 9 := by rw [im (by rw [f1, e9]; omega) (by rw [f1, e9]; omega), f1, e9]
  refine ⟨_, 9 * (155 - i) + k, rfl, ?_, dn_limb htop g3 g5 g6, by omega⟩
  rw [ia (by rw [f2, g2]; omega) (by rw [f2, g2]; omega), f2, g2]
  omega
theorem point_zero {c : CS} {r : Nat} {s : Bool} (h : RIs (rws c r) 0 s) : f_X4_point r c = some 1 := by
  have he := ris_emp h
  unfold f_X4_point
  rw [if_neg (by rw [he]; simp)]
