/-! The reference's round -/
theorem fm_f {x : Int32} {f : Nat} (hx : x.toInt = f) (hf : f < 4) : x = Int32.ofNat f := by
  rw [ieq, hx, Int32.toInt_ofNat_of_lt (by omega)]
theorem f4 {P : Nat → Prop} (h0 : P 0) (h1 : P 1) (h2 : P 2) (h3 : P 3) : ∀ f, f < 4 → P f := by
  intro f hf
  have : f = 0 ∨ f = 1 ∨ f = 2 ∨ f = 3 := by omega
  rcases this with rfl | rfl | rfl | rfl <;> assumption
theorem m_pr : ∀ f, f < 4 → (f_X7_precision (Int32.ofNat f)).toInt = pr f := f4 (by decide) (by decide) (by decide) (by decide)
theorem m_gr : ∀ f, f < 4 → (f_X7_greatest (Int32.ofNat f)).toInt = gr f := f4 (by decide) (by decide) (by decide) (by decide)
theorem m_lst : ∀ f, f < 4 → (f_X7_least (Int32.ofNat f)).toInt = lst f := f4 (by decide) (by decide) (by decide) (by decide)
theorem m_inf : ∀ f, f < 4 → (f_X7_infinite (Int32.ofNat f)).toInt = inf f := f4 (by decide +kernel) (by decide +kernel) (by decide +kernel) (by decide +kernel)
theorem c_pr : ∀ f, f < 4 → (fP f).toInt = pr f := f4 (by decide) (by decide) (by decide) (by decide)
theorem c_gr : ∀ f, f < 4 → (fE f).toInt = gr f := f4 (by decide) (by decide) (by decide) (by decide)
theorem c_lst : ∀ f, f < 4 → (f_X2_leastUnit f).toInt = lst f := f4 (by decide) (by decide) (by decide) (by decide)
theorem c_inf : ∀ f, f < 4 → (f_X2_infinite f).toInt = inf f := f4 (by decide +kernel) (by decide +kernel) (by decide +kernel) (by decide +kernel)
theorem cm_sb : ∀ f, f < 4 → f_X7_signBit (Int32.ofNat f) = f_X2_signBit f := f4 (by decide +kernel) (by decide +kernel) (by decide +kernel) (by decide +kernel)
theorem cm_inf : ∀ f, f < 4 → f_X7_infinite (Int32.ofNat f) = f_X2_infinite f := f4 (by decide +kernel) (by decide +kernel) (by decide +kernel) (by decide +kernel)
def L64 (n : Nat) : Int64 := Int64.ofNat n
theorem L64_i {n : Nat} (h : n < 9223372036854775808) : (L64 n).toInt = n := Int64.toInt_ofNat_of_lt h
theorem inf_b : ∀ f, f < 4 → 2 ≤ inf f ∧ inf f < 9223372036854775808 := f4 (by decide +kernel) (by decide +kernel) (by decide +kernel) (by decide +kernel)
def sgn (f : Nat) (neg : Bool) (s : Nat) : Int64 := if neg then L64 s ||| f_X2_signBit f else L64 s
def nb (b : Bool) : Int32 := if b then 1 else 0
theorem or64_0 (x : Int64) : x ||| 0 = x := by
  rw [← Int64.toBitVec_inj]; simp
/-- what round leaves: pattern and flags -/
def Rs (m : MS) (f : Nat) (neg : Bool) (r : Nat × Nat) : MS := smI (smJ m 2 (sgn f neg r.1)) 11 (Int32.ofNat r.2)
theorem m_inf64 {f : Nat} (hf : f < 4) : f_X7_infinite (Int32.ofNat f) = L64 (inf f) := by
  rw [leq, m_inf f hf, L64_i (inf_b f hf).2]
theorem m_inf64' {f : Nat} (hf : f < 4) : f_X7_infinite (Int32.ofNat f) - 1 = L64 (inf f - 1) := by
  have := inf_b f hf
  have h1 : (1 : Int64).toInt = 1 := by decide
  have h2 := m_inf f hf
  rw [leq, ls_ (by omega) (by omega), h2, L64_i (by omega)]; omega
theorem ovr_spec {f way : Nat} (hf : f < 4) (hw : way < 5) (neg : Bool) (m : MS) : f_X7_overflow (Int32.ofNat f) (nb neg) (Int32.ofNat way) m = Rs m f neg (ovr f way neg) := by
  have hw' : way = 0 ∨ way = 1 ∨ way = 2 ∨ way = 3 ∨ way = 4 := by omega
  unfold f_X7_overflow f_X7_overflow_J14 f_X7_overflow_J28 f_X7_overflow_J49 f_X7_overflow_J61 Rs ovr sgn
  rw [m_inf64' hf, m_inf64 hf, cm_sb f hf]
  rcases hw' with rfl | rfl | rfl | rfl | rfl <;> cases neg <;> simp [farw, nb, lt, or64_0]
theorem n_even {x : Int64} {v : Nat} (hx : x.toInt = v) : ((x &&& 1) = 1) = (v % 2 = 1) := by
  have h1 : (1 : Int64).toInt = 1 := by decide
  rw [leq, am1, hx, h1]
  simp only [eq_iff_iff]
  omega
theorem s_b {f : Nat} {q : Int} (h1 : q ≤ (gr f : Int) - pr f + 1) (h0 : lst f ≤ q) : (q - lst f).toNat * 2 ^ (pr f - 1) + 2 * 2 ^ (pr f - 1) ≤ inf f := by
  have hf := fm_b f
  have hl : lst f = 2 - (gr f : Int) - (pr f : Int) := rfl
  unfold inf
  rw [← Nat.add_mul]
  exact Nat.mul_le_mul_right _ (by omega)
theorem pp1 (f : Nat) : 2 ^ pr f = 2 * 2 ^ (pr f - 1) := by
  have := fm_b f
  rw [← pow2s]; congr 1; omega
theorem pred_pr {x5 : Int32} {f : Nat} (h5 : x5.toInt = pr f) : (x5 - 1).toInt = ((pr f - 1 : Nat) : Int) := by
  have hf := fm_b f
  have e1 : (1 : Int32).toInt = 1 := by decide
  rw [is_ (by rw [h5, e1]; omega) (by rw [h5, e1]; omega), h5, e1]; omega
theorem i64pos {a b : Nat} : ((a * b : Nat) : Int) = (a : Int) * b := by simp
theorem one_lt64 : (1 : Int64).toInt = ((1 : Nat) : Int) := by decide
theorem hid_b (f : Nat) : 2 ^ (pr f - 1) < 9223372036854775808 := by
  have := fm_b f
  have h1 : 2 ^ (pr f - 1) ≤ 2 ^ 60 := Nat.pow_le_pow_right (by decide) (by omega)
  have h2 : (2 : Nat) ^ 60 = 1152921504606846976 := by decide
  omega
theorem hid64 {x5 : Int32} {f : Nat} (h5 : x5.toInt = pr f) : (jshl 1 (x5 - 1)).toInt = ((2 ^ (pr f - 1) : Nat) : Int) := by
  have hf := fm_b f
  have h1 := hid_b f
  have h2 : ((2 ^ (pr f - 1) : Nat) : Int) = 2 ^ (pr f - 1) := by simp
  have h3 : (1 : Int64).toInt = 1 := by decide
  rw [jshl_eq (k := pr f - 1) (pred_pr h5) (by omega) (by rw [h3]; omega) (by rw [h3, Int.one_mul, ← h2]; omega), h3, Int.one_mul, h2]
theorem rsz {f v : Nat} {q : Int} {x5 x6 : Int32} {x7 : Int64} (hf : f < 4) (h5 : x5.toInt = pr f) (h6 : x6.toInt = q) (h7 : x7.toInt = v) (hv : v < 2 ^ pr f) (h1 : q ≤ (gr f : Int) - pr f + 1) (h0 : lst f ≤ q) : (jshl ((x6 - f_X7_least (Int32.ofNat f)).toInt64) (x5 - 1) + x7).toInt = (((q - lst f).toNat * 2 ^ (pr f - 1) + v : Nat) : Int) := by
  have hb := fm_b f
  have hi := inf_b f hf
  have hs := s_b h1 h0
  rw [pp1] at hv
  have hl : lst f = 2 - (gr f : Int) - (pr f : Int) := rfl
  have e1 : (x6 - f_X7_least (Int32.ofNat f)).toInt64.toInt = ((q - lst f).toNat : Int) := by
    have hm := m_lst f hf
    rw [il, is_ (by omega) (by omega), h6, hm]; omega
  have e2 : (((q - lst f).toNat * 2 ^ (pr f - 1) : Nat) : Int) = ((q - lst f).toNat : Int) * 2 ^ (pr f - 1) := by simp
  have e3 : (jshl ((x6 - f_X7_least (Int32.ofNat f)).toInt64) (x5 - 1)).toInt = (((q - lst f).toNat * 2 ^ (pr f - 1) : Nat) : Int) := by
    rw [jshl_eq (k := pr f - 1) (pred_pr h5) (by omega) (by rw [e1]; omega) (by rw [e1, ← e2]; omega), e1, e2]
  rw [la (by rw [e3, h7]; omega) (by rw [e3, h7]; omega), e3, h7]
  omega
def ubi (b : Bool) : Nat := if b then 1 else 0
theorem rj298 {f v way T : Nat} {neg ine up : Bool} {x5 : Int32} {s1 s0 : Int64} (hf : f < 4) (hw : way < 5) (h5 : x5.toInt = pr f) (h1 : s1.toInt = T) (h0 : s0.toInt = ubi up) (hT : T + 1 ≤ inf f) (m : MS) : f_X7_round_J298 (Int32.ofNat f) (nb neg) (Int32.ofNat way) x5 (nb ine) s0 s1 m = some (Rs m f neg (if inf f ≤ T + ubi up then ovr f way neg else (T + ubi up, if ine = false then 0 else if T + ubi up < 2 ^ (pr f - 1) then 5 else 1))) := by
  have hi := inf_b f hf
  have hh := hid_b f
  have hu : ubi up ≤ 1 := by unfold ubi; split <;> omega
  have e1 : (s1 + s0).toInt = ((T + ubi up : Nat) : Int) := by
    rw [la (by rw [h1, h0]; omega) (by rw [h1, h0]; omega), h1, h0]; omega
  have e2 : s1 + s0 = L64 (T + ubi up) := by rw [leq, e1, L64_i (by omega)]
  unfold f_X7_round_J298
  simp only [lt]
  by_cases hc : inf f ≤ T + ubi up
  · rw [if_pos hc, if_neg (by rw [llt, e1, m_inf f hf]; omega), ovr_spec hf hw]
  · rw [if_neg hc, if_pos (by rw [llt, e1, m_inf f hf]; omega), e2, cm_sb f hf]
    have e3 : (jshl 1 (x5 - 1) ≤ L64 (T + ubi up)) = (2 ^ (pr f - 1) ≤ T + ubi up) := by
      rw [lle, hid64 h5, L64_i (by omega)]; simp only [eq_iff_iff]; omega
    unfold f_X7_round_J334 Rs sgn
    simp only [e3]
    generalize T + ubi up = Z
    by_cases h9 : 2 ^ (pr f - 1) ≤ Z
    · have h10 : ¬ Z < 2 ^ (pr f - 1) := by omega
      cases neg <;> cases ine <;> simp [nb, lt, or64_0, h9, h10]
    · have h10 : Z < 2 ^ (pr f - 1) := by omega
      cases neg <;> cases ine <;> simp [nb, lt, or64_0, h9, h10]
