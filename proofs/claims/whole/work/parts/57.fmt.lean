/-! patterns: a sign and a size -/
def sb (f : Nat) : Nat := 2 ^ (wdt f - 1)
theorem sb_eq : ∀ f, f < 4 → (f_X2_signBit f).toBitVec.toNat = sb f ∧ (f_X2_signBit f - 1).toBitVec.toNat = sb f - 1 ∧ sb f ≤ 9223372036854775808 ∧ inf f < sb f ∧ 0 < sb f := f4 (by decide +kernel) (by decide +kernel) (by decide +kernel) (by decide +kernel)
theorem L64_n {n : Nat} (h : n < 18446744073709551616) : (L64 n).toBitVec.toNat = n := by
  show (Int64.ofNat n).toBitVec.toNat = n
  rw [Int64.toBitVec_ofNat']
  rw [BitVec.toNat_ofNat]
  omega
theorem eq_n {x y : Int64} (h : x.toBitVec.toNat = y.toBitVec.toNat) : x = y := by
  rw [← Int64.toBitVec_inj]; exact BitVec.eq_of_toNat_eq h
theorem and_pow {a k : Nat} : a &&& (2 ^ k - 1) = a % 2 ^ k := Nat.and_two_pow_sub_one_eq_mod _ _
theorem sgn_n {f s : Nat} {neg : Bool} (hf : f < 4) (hs : s < sb f) : (sgn f neg s).toBitVec.toNat = s + (if neg then sb f else 0) := by
  have h := sb_eq f hf
  cases neg
  · simp only [sgn]; rw [if_neg (by decide), L64_n (by omega)]; simp
  · simp only [sgn, if_true]; rw [or64, L64_n (by omega), h.1, Nat.or_comm]
    rw [or_add (k := wdt f - 1) hs (by unfold sb; exact Nat.mod_self _)]
    omega
theorem and_pw {a i : Nat} : a &&& 2 ^ i = if a / 2 ^ i % 2 = 1 then 2 ^ i else 0 := by
  apply Nat.eq_of_testBit_eq
  intro j
  rw [Nat.testBit_and, Nat.testBit_two_pow]
  by_cases h : i = j
  · subst h
    rw [Nat.testBit_eq_decide_div_mod_eq]
    by_cases h1 : a / 2 ^ i % 2 = 1
    · rw [if_pos h1, Nat.testBit_two_pow]; simp [h1]
    · rw [if_neg h1]; simp [h1]
  · by_cases h1 : a / 2 ^ i % 2 = 1
    · rw [if_pos h1, Nat.testBit_two_pow]; simp [h]
    · rw [if_neg h1]; simp [h]
theorem sgn_size {f s : Nat} {neg : Bool} (hf : f < 4) (hs : s < sb f) : f_X2_sizeOf f (sgn f neg s) = L64 s := by
  have h := sb_eq f hf
  apply eq_n
  unfold f_X2_sizeOf
  rw [and64, sgn_n hf hs, h.2.1, L64_n (by omega)]
  unfold sb at hs ⊢
  rw [and_pow]
  cases neg
  · simp; exact Nat.mod_eq_of_lt hs
  · simp; exact Nat.mod_eq_of_lt hs
theorem sgn_minus {f s : Nat} {neg : Bool} (hf : f < 4) (hs : s < sb f) : f_X2_isMinus f (sgn f neg s) = nb neg := by
  have h := sb_eq f hf
  have e1 : (sgn f neg s &&& f_X2_signBit f).toBitVec.toNat = if neg then sb f else 0 := by
    rw [and64, sgn_n hf hs, h.1]
    unfold sb at hs ⊢
    rw [and_pw]
    cases neg
    · simp [Nat.div_eq_of_lt hs]
    · simp only [if_true]
      rw [Nat.add_div_right _ (Nat.pow_pos (by decide)), Nat.div_eq_of_lt hs]; simp
  unfold f_X2_isMinus
  cases neg
  · rw [if_pos (eq_n (by rw [e1]; rfl))]; rfl
  · rw [if_neg (fun hc => by rw [hc] at e1; simp at e1; omega)]; rfl
theorem sgn_inj {f s s' : Nat} {neg neg' : Bool} (hf : f < 4) (hs : s < sb f) (hs' : s' < sb f) (h : sgn f neg s = sgn f neg' s') : neg = neg' ∧ s = s' := by
  have h0 := sb_eq f hf
  have h1 := sgn_size (neg := neg) hf hs
  have h2 := sgn_size (neg := neg') hf hs'
  rw [h] at h1
  have h3 : L64 s = L64 s' := h1.symm.trans h2
  have h4 : s = s' := by
    have := congrArg (fun x => x.toBitVec.toNat) h3
    simp only [L64_n (show s < 18446744073709551616 by omega), L64_n (show s' < 18446744073709551616 by omega)] at this
    exact this
  have h5 := sgn_minus (neg := neg) hf hs
  have h6 := sgn_minus (neg := neg') hf hs'
  rw [h] at h5
  have h7 := h5.symm.trans h6
  refine ⟨?_, h4⟩
  cases neg <;> cases neg' <;> first | rfl | (exact absurd h7 (by decide))
theorem hid_f {f : Nat} (hf : f < 4) : (f_X2_hiddenBit f).toInt = ((2 ^ (pr f - 1) : Nat) : Int) := hid64 (c_pr f hf)
theorem hid_n : ∀ f, f < 4 → (f_X2_hiddenBit f).toBitVec.toNat = 2 ^ (pr f - 1) ∧ (f_X2_hiddenBit f - 1).toBitVec.toNat = 2 ^ (pr f - 1) - 1 := f4 (by decide +kernel) (by decide +kernel) (by decide +kernel) (by decide +kernel)
theorem inf64 {f : Nat} (hf : f < 4) : f_X2_infinite f = L64 (inf f) := by rw [← cm_inf f hf]; exact m_inf64 hf
theorem inf64' {f : Nat} (hf : f < 4) : f_X2_infinite f - 1 = L64 (inf f - 1) := by rw [← cm_inf f hf]; exact m_inf64' hf
theorem expo_b : ∀ f, f < 4 → sb f / 2 ^ (pr f - 1) ≤ 4096 ∧ sb f = 2 ^ (pr f - 1) * (2 * gr f + 2) := f4 (by decide +kernel) (by decide +kernel) (by decide +kernel) (by decide +kernel)
theorem sgn_expo {f s : Nat} {neg : Bool} (hf : f < 4) (hs : s < sb f) : (f_X2_exponentOf f (sgn f neg s)).toInt = ((s / 2 ^ (pr f - 1) : Nat) : Int) := by
  have h := sb_eq f hf
  have hb := fm_b f
  have hx := expo_b f hf
  have h1 : s / 2 ^ (pr f - 1) ≤ 4096 := Nat.le_trans (Nat.div_le_div_right (Nat.le_of_lt hs)) hx.1
  unfold f_X2_exponentOf
  rw [sgn_size hf hs]
  have e1 := jushr_nat (x := L64 s) (y := fP f - 1) (k := pr f - 1) (pred_pr (c_pr f hf)) (by omega)
  rw [L64_n (by omega)] at e1
  have e2 := u64 (jushr (L64 s) (fP f - 1))
  have e3 : (jushr (L64 s) (fP f - 1)).toInt = ((s / 2 ^ (pr f - 1) : Nat) : Int) := by omega
  rw [li (by omega) (by omega), e3]
theorem expo0 {f s : Nat} {neg : Bool} (hf : f < 4) (hs : s < sb f) : (f_X2_exponentOf f (sgn f neg s) = 0) = (s < 2 ^ (pr f - 1)) := by
  rw [ieq, sgn_expo hf hs, k0]
  have hp : 0 < 2 ^ (pr f - 1) := Nat.pow_pos (by decide)
  simp only [eq_iff_iff]
  rw [← Nat.div_eq_zero_iff_lt hp]
  omega
theorem goes_up {way v r : Nat} {neg : Bool} (hw : way < 5) (hr : r < 4) : f_X6_goesUp (Int32.ofNat way) (nb neg) (Int32.ofNat (v % 2)) (Int32.ofNat r) = nb (upw way neg (2 * v + r / 2) (decide (r % 2 = 1))) := by
  have hw' : way = 0 ∨ way = 1 ∨ way = 2 ∨ way = 3 ∨ way = 4 := by omega
  have hr' : r = 0 ∨ r = 1 ∨ r = 2 ∨ r = 3 := by omega
  have hv : v % 2 = 0 ∨ v % 2 = 1 := by omega
  have e0 : (2 * v + 0) % 2 = 0 := by omega
  have e1 : (2 * v + 1) % 2 = 1 := by omega
  have e2 : (2 * v + 1) / 2 = v := by omega
  have e3 : (2 * v + 0) / 2 = v := by omega
  rcases hr' with rfl | rfl | rfl | rfl <;> simp only [Nat.reduceDiv] <;> unfold upw <;> simp only [e0, e1, e2, e3] <;> rcases hv with hv | hv <;> rw [hv] <;> rcases hw' with rfl | rfl | rfl | rfl | rfl <;> cases neg <;> decide
