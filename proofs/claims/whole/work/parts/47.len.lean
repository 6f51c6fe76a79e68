theorem pv_top {B : Nat} {d : Nat → Nat} {n k : Nat} (hk : k < n) (h : ∀ i, k < i → i < n → d i = 0) : pv B d n = pv B d k + d k * B ^ k := by
  obtain ⟨r, rfl⟩ : ∃ r, n = k + 1 + r := ⟨n - (k + 1), by omega⟩
  rw [pv_split (k + 1) r, pv_zero (n := r) (fun i hi => h (k + 1 + i) (by omega) (by omega)), Nat.mul_zero, Nat.add_zero]
  rfl
theorem p30 (k : Nat) : 1073741824 ^ k = 2 ^ (30 * k) := by
  have h : (1073741824 : Nat) = 2 ^ 30 := by decide
  rw [h, ← Nat.pow_mul]
/-- L is the number of bits of v -/
def Bl (v L : Nat) : Prop := v < 2 ^ L ∧ (L = 0 ∨ 2 ^ (L - 1) ≤ v)
theorem Bl.top {v d k t : Nat} (hv : v < 2 ^ (30 * k)) (h : Bl d t) (ht : t ≠ 0) : Bl (v + d * 2 ^ (30 * k)) (30 * k + t) := by
  obtain ⟨h1, h2⟩ := h
  have h2 := h2.resolve_left ht
  refine ⟨?_, .inr ?_⟩
  · rw [Nat.pow_add, Nat.mul_comm (2 ^ (30 * k))]
    have : (d + 1) * 2 ^ (30 * k) ≤ 2 ^ t * 2 ^ (30 * k) := Nat.mul_le_mul_right _ h1
    rw [Nat.add_mul, Nat.one_mul] at this
    omega
  · rw [show 30 * k + t - 1 = (t - 1) + 30 * k by omega, Nat.pow_add]
    have : 2 ^ (t - 1) * 2 ^ (30 * k) ≤ d * 2 ^ (30 * k) := Nat.mul_le_mul_right _ h2
    omega
theorem len_loop {j : Nat} (hj : mLen j = 320) {m : MS} : ∃ b, Lp (fun a => f_X7_length_L4 j a m) 319 = some b ∧ ((b.toInt = -1 ∧ ∀ q, q < 320 → mA m j q = 0) ∨ ∃ k, b = nI k ∧ k < 320 ∧ (∀ q, k < q → q < 320 → mA m j q = 0) ∧ mA m j k ≠ 0) := by
  refine Lp_inv (F := fun a => f_X7_length_L4 j a m) (fun n a => a.toInt = (n : Int) - 1 ∧ n ≤ 320 ∧ (∀ q, n ≤ q → q < 320 → mA m j q = 0)) _ ?_ 320 319 ⟨by decide +kernel, by omega, fun q h1 h2 => by omega⟩
  rintro n a ⟨ha, hn, hq⟩
  show (∃ b, f_X7_length_L4 j a m = _ ∧ _) ∨ ∃ a' n', f_X7_length_L4 j a m = _ ∧ _
  unfold f_X7_length_L4
  by_cases h0 : n = 0
  · rw [if_pos (by rw [ilt, k0]; omega)]
    exact .inl ⟨_, rfl, .inl ⟨by omega, fun q h => hq q (by omega) h⟩⟩
  · obtain ⟨k, rfl⟩ : ∃ k, n = k + 1 := ⟨n - 1, by omega⟩
    obtain rfl : a = nI k := ieq.mpr (by rw [nI_toInt (by omega)]; omega)
    rw [if_neg (by rw [ilt, k0]; omega), if_pos ((vIn (by omega)).mpr (by omega)), nI_clamp (show k < 2 ^ 31 by omega)]
    by_cases h1 : mA m j k = 0
    · rw [if_pos h1]
      refine .inr ⟨nI k + (-1), k, rfl, by omega, ?_, by omega, fun q h2 h3 => ?_⟩
      · have h5 : (-1 : Int32).toInt = -1 := by decide
        rw [ia (by rw [h5]; omega) (by rw [h5]; omega), h5]
        omega
      · by_cases h4 : q = k
        · rw [h4]; exact h1
        · exact hq q (by omega) h3
    · rw [if_neg h1]
      exact .inl ⟨_, rfl, .inr ⟨k, rfl, by omega, fun q h2 h3 => hq q (by omega) h3, h1⟩⟩
theorem k30 : (30 : Int32).toInt = ((30 : Nat) : Int) := by decide +kernel
theorem dz {a b : Nat} (hb : 0 < b) (h : a / b = 0) : a < b := by
  rcases Nat.lt_or_ge a b with h1 | h1
  · exact h1
  · have := Nat.div_pos h1 hb
    omega
theorem len_bits {j : Nat} (hj : mLen j = 320) {m : MS} (hw : W30 (mA m j)) {k : Nat} (hk : k < 320) : ∃ b, Lp (fun a => f_X7_length_L28 j (nI k) a m) 0 = some b ∧ ∃ t, b = nI t ∧ t ≤ 30 ∧ Bl (dg (mA m j) k) t := by
  have hwk := hw k hk
  have hd := dg_int hwk.1
  refine Lp_inv (F := fun a => f_X7_length_L28 j (nI k) a m) (fun n a => ∃ t, a = nI t ∧ n + t = 30 ∧ (t = 0 ∨ 2 ^ (t - 1) ≤ dg (mA m j) k)) _ ?_ 30 0 ⟨0, rfl, by omega, .inl rfl⟩
  rintro n _ ⟨t, rfl, hn, ht⟩
  show (∃ b, f_X7_length_L28 j (nI k) (nI t) m = _ ∧ _) ∨ ∃ a' n', f_X7_length_L28 j (nI k) (nI t) m = _ ∧ _
  unfold f_X7_length_L28
  by_cases h0 : t = 30
  · rw [if_pos ((cle k30 (by omega)).mpr (by omega))]
    refine .inl ⟨_, rfl, t, rfl, by omega, ?_, ht⟩
    rw [h0]
    show _ < 1073741824
    omega
  · rw [if_neg (fun h => by have := (cle k30 (by omega)).mp h; omega), if_pos ((vIn (by omega)).mpr (by omega)), nI_clamp (show k < 2 ^ 31 by omega)]
    have hs := kshr_eq (x := mA m j k) (y := nI t) (k := t) (nI_toInt (by omega)) (by omega)
    rw [← hd, show ((2 : Int) ^ t) = ((2 ^ t : Nat) : Int) by simp, ← Int.natCast_ediv] at hs
    by_cases h1 : kshr (mA m j k) (nI t) = 0
    · rw [if_pos h1]
      rw [ieq, hs, k0] at h1
      exact .inl ⟨_, rfl, t, rfl, by omega, dz (Nat.pow_pos (by decide)) (by omega), ht⟩
    · rw [if_neg h1]
      rw [ieq, hs, k0] at h1
      refine .inr ⟨nI (t + 1), n - 1, ?_, by omega, t + 1, rfl, by omega, .inr ?_⟩
      · simp only [lt, nI_1]
      · rw [Nat.add_sub_cancel]
        rcases Nat.lt_or_ge (dg (mA m j) k) (2 ^ t) with h2 | h2
        · rw [Nat.div_eq_of_lt h2] at h1; omega
        · exact h2
theorem len_spec {j : Nat} (hj : mLen j = 320) {m : MS} (hw : W30 (mA m j)) : ∃ L, f_X7_length j m = some (nI L) ∧ L ≤ 9600 ∧ Bl (val (mA m j)) L := by
  obtain ⟨b, h1, h2⟩ := len_loop hj (m := m)
  unfold f_X7_length
  rw [h1]
  simp only [Option.bind]
  rcases h2 with ⟨h2, h3⟩ | ⟨k, rfl, hk, hq, hz⟩
  · rw [if_neg (by rw [ile, k0]; omega)]
    refine ⟨0, rfl, by omega, ?_⟩
    have : val (mA m j) = 0 := pv_zero (fun i hi => dg0 (h3 i hi))
    rw [this]
    exact ⟨by decide, .inl rfl⟩
  · obtain ⟨_, h4, t, rfl, ht, hb⟩ := len_bits hj hw hk
    rw [if_pos (by rw [ile, k0, nI_toInt (by omega)]; omega), h4]
    have hwk := hw k hk
    have hd := dg_int hwk.1
    have ht0 : t ≠ 0 := by
      intro h
      rw [h] at hb
      have h6 := hb.1
      rw [Nat.pow_zero] at h6
      exact hz (ieq.mpr (by rw [k0]; omega))
    refine ⟨30 * k + t, ?_, by omega, ?_⟩
    · simp only [Option.some.injEq]
      rw [ieq, nI_toInt (by omega)]
      have e1 : (30 * nI k).toInt = 30 * (k : Int) := by
        rw [im (by rw [k30, nI_toInt (by omega)]; omega) (by rw [k30, nI_toInt (by omega)]; omega), k30, nI_toInt (by omega)]; rfl
      rw [ia (by rw [e1, nI_toInt (by omega)]; omega) (by rw [e1, nI_toInt (by omega)]; omega), e1, nI_toInt (by omega)]
      omega
    · have e : val (mA m j) = pv 1073741824 (dg (mA m j)) k + dg (mA m j) k * 1073741824 ^ k := pv_top hk (fun i h5 h6 => dg0 (hq i h5 h6))
      rw [e, p30]
      refine Bl.top ?_ hb ht0
      rw [← p30]
      exact pv_lt (fun i hi => hw.dg (by omega))
