/-! The class's rounding: from what is kept and left to pattern and flags -/
def Cs (c : CS) (f : Nat) (neg : Bool) (r : Nat × Nat) : CS := srdF (srdP c (sgn f neg r.1)) (Int32.ofNat r.2)
theorem nb0 {b : Bool} : (nb b = 0) = (b = false) := by cases b <;> decide
theorem signed_eq {f s : Nat} {neg : Bool} : f_X2_signed f (nb neg) (L64 s) = sgn f neg s := by
  unfold f_X2_signed sgn
  cases neg
  · rw [if_pos (by decide)]; rfl
  · rw [if_neg (by decide)]; rfl
theorem far_up {way : Nat} {neg : Bool} (hw : way < 5) : (f_X6_goesUp (Int32.ofNat way) (nb neg) 1 3 = 0) = (farw way neg = false) := by
  have hw' : way = 0 ∨ way = 1 ∨ way = 2 ∨ way = 3 ∨ way = 4 := by omega
  rcases hw' with rfl | rfl | rfl | rfl | rfl <;> cases neg <;> decide
theorem settle_spec {f way K : Nat} {q : Int} {neg : Bool} {x3 x5 : Int64} (hf : f < 4) (hw : way < 5) (h3 : x3.toInt = K) (h5 : x5.toInt = q) (hK : K < 2 ^ pr f) (hq : lst f ≤ q) (hq2 : q ≤ 1000000000000) (hn : q = lst f ∨ 2 ^ (pr f - 1) ≤ K) (c : CS) : f_X3_settle f (nb neg) x3 x5 (Int32.ofNat way) c = Cs c f neg (if inf f ≤ (q - lst f).toNat * 2 ^ (pr f - 1) + K then ovr f way neg else ((q - lst f).toNat * 2 ^ (pr f - 1) + K, 0)) := by
  have hfm := fm_b f
  have hi := inf_b f hf
  have hh := hid_b f
  have hl : lst f = 2 - (gr f : Int) - (pr f : Int) := rfl
  have hp := pp1 f
  have hpp : 0 < 2 ^ (pr f - 1) := Nat.pow_pos (by decide)
  have hhid := hid_f hf
  have hhn := hid_n f hf
  have hinf : inf f = (2 * gr f + 1) * 2 ^ (pr f - 1) := rfl
  have h3n : x3.toBitVec.toNat = K := by have := u64 x3; omega
  have hcl := c_lst f hf
  have one : (1 : Int64).toInt = 1 := by decide
  have two : (2 : Int64).toInt = 2 := by decide
  have hgr : (2 * (fE f).toInt64).toInt = 2 * (gr f : Int) := by
    have h1 : (fE f).toInt64.toInt = gr f := by rw [il]; exact c_gr f hf
    rw [lm (by rw [two, h1]; omega) (by rw [two, h1]; omega), two, h1]
  have big : ∀ s0 : Int64, f_X3_settle_J23 f (nb neg) x3 (Int32.ofNat way) s0 c = if s0.toInt ≤ 2 * (gr f : Int) then srdF (srdP c (f_X2_signed f (nb neg) ((s0 * f_X2_hiddenBit f) + (x3 &&& (f_X2_hiddenBit f - 1))))) 0 else Cs c f neg (ovr f way neg) := by
    intro s0
    unfold f_X3_settle_J23
    simp only [lt]
    by_cases h1 : s0.toInt ≤ 2 * (gr f : Int)
    · rw [if_pos h1, if_pos (by rw [lle, hgr]; exact h1)]
    · rw [if_neg h1, if_neg (by rw [lle, hgr]; exact h1)]
      unfold f_X3_settle_J71 ovr Cs
      rw [inf64' hf, inf64 hf]
      simp only [far_up hw]
      cases farw way neg <;> simp [lt, signed_eq]
  unfold f_X3_settle
  by_cases hc : 2 ^ (pr f - 1) ≤ K
  · rw [if_pos (by rw [lle, hhid, h3]; omega), big]
    have e1 : ((x5 - (f_X2_leastUnit f).toInt64) + 1).toInt = q - lst f + 1 := by
      have e0 : (f_X2_leastUnit f).toInt64.toInt = lst f := by rw [il]; exact hcl
      have e2 : (x5 - (f_X2_leastUnit f).toInt64).toInt = q - lst f := by rw [ls_ (by omega) (by omega), h5, e0]
      rw [la (by omega) (by omega), e2, one]
    obtain ⟨E, hE⟩ : ∃ E : Nat, q - lst f = E := ⟨(q - lst f).toNat, by omega⟩
    have e4 : (q - lst f).toNat = E := by omega
    rw [e1, e4, hE]
    by_cases h9 : (E : Int) + 1 ≤ 2 * (gr f : Int)
    · have h10 : ¬ inf f ≤ E * 2 ^ (pr f - 1) + K := by
        rw [hinf]
        have : (E + 1 + 1) * 2 ^ (pr f - 1) ≤ (2 * gr f + 1) * 2 ^ (pr f - 1) := Nat.mul_le_mul_right _ (by omega)
        rw [Nat.add_mul, Nat.add_mul, Nat.one_mul] at this
        omega
      rw [if_pos h9, if_neg h10]
      have e5 : ((x5 - (f_X2_leastUnit f).toInt64 + 1) * f_X2_hiddenBit f).toInt = (((E + 1) * 2 ^ (pr f - 1) : Nat) : Int) := by
        have e6 : (((E + 1) * 2 ^ (pr f - 1) : Nat) : Int) = ((E : Int) + 1) * ((2 ^ (pr f - 1) : Nat) : Int) := by simp
        have h11 : (E + 1) * 2 ^ (pr f - 1) ≤ inf f := by
          rw [hinf]; exact Nat.mul_le_mul_right _ (by omega)
        rw [lm (by rw [e1, hE, hhid, ← e6]; omega) (by rw [e1, hE, hhid, ← e6]; omega), e1, hE, hhid, e6]
      have e7 : (x3 &&& (f_X2_hiddenBit f - 1)).toInt = ((K - 2 ^ (pr f - 1) : Nat) : Int) := by
        have a1 := and64 x3 (f_X2_hiddenBit f - 1)
        rw [h3n, hhn.2, and_pow] at a1
        have a2 : K % 2 ^ (pr f - 1) = K - 2 ^ (pr f - 1) := by
          rw [Nat.mod_eq_sub_mod hc]; exact Nat.mod_eq_of_lt (by omega)
        have a3 := u64 (x3 &&& (f_X2_hiddenBit f - 1))
        omega
      have e8 : (x5 - (f_X2_leastUnit f).toInt64 + 1) * f_X2_hiddenBit f + (x3 &&& (f_X2_hiddenBit f - 1)) = L64 (E * 2 ^ (pr f - 1) + K) := by
        rw [Nat.add_mul, Nat.one_mul] at e5
        rw [leq, L64_i (by omega), la (by rw [e5, e7]; omega) (by rw [e5, e7]; omega), e5, e7]
        omega
      rw [e8, signed_eq]
      rfl
    · have h10 : inf f ≤ E * 2 ^ (pr f - 1) + K := by
        rw [hinf]
        have : (2 * gr f + 1) * 2 ^ (pr f - 1) ≤ (E + 1) * 2 ^ (pr f - 1) := Nat.mul_le_mul_right _ (by omega)
        rw [Nat.add_mul, Nat.one_mul] at this
        rw [Nat.add_mul E, Nat.one_mul] at this
        rw [Nat.add_mul, Nat.one_mul]
        omega
      rw [if_neg h9, if_pos h10]
  · have hq3 := hn.resolve_right hc
    rw [if_neg (by rw [lle, hhid, h3]; omega), big]
    have z0 : (0 : Int64).toInt = 0 := by decide
    have e4 : (q - lst f).toNat = 0 := by omega
    have h10 : ¬ inf f ≤ 0 * 2 ^ (pr f - 1) + K := by
      rw [hinf, Nat.add_mul, Nat.one_mul]; omega
    rw [e4, if_pos (by rw [z0]; omega), if_neg h10]
    have e8 : (0 : Int64) * f_X2_hiddenBit f + (x3 &&& (f_X2_hiddenBit f - 1)) = L64 (0 * 2 ^ (pr f - 1) + K) := by
      rw [Nat.zero_mul, Nat.zero_add, Int64.zero_mul, Int64.zero_add]
      apply eq_n
      rw [and64, h3n, hhn.2, and_pow, L64_n (by omega)]
      exact Nat.mod_eq_of_lt (by omega)
    rw [e8, signed_eq]
    rfl
theorem cs_or {c : CS} {f s a b : Nat} {neg : Bool} : srdF (Cs c f neg (s, a)) ((rdF (Cs c f neg (s, a))) ||| Int32.ofNat b) = srdF (srdP c (sgn f neg s)) (Int32.ofNat a ||| Int32.ofNat b) := rfl
theorem cs_p {c : CS} {f : Nat} {r : Nat × Nat} {neg : Bool} : rdP (Cs c f neg r) = sgn f neg r.1 := rfl
theorem or01 : Int32.ofNat 0 ||| 1 = Int32.ofNat 1 := by decide
theorem or05 : Int32.ofNat 0 ||| 5 = Int32.ofNat 5 := by decide
theorem or31 : Int32.ofNat 3 ||| 1 = Int32.ofNat 3 := by decide
theorem ofn0 {r : Nat} (h : r < 4) : (Int32.ofNat r = 0) = (r = 0) := by
  have : r = 0 ∨ r = 1 ∨ r = 2 ∨ r = 3 := by omega
  rcases this with rfl | rfl | rfl | rfl <;> decide
theorem cj110 {f way K r : Nat} {q : Int} {neg : Bool} {x15 x11 : Int64} (hf : f < 4) (hw : way < 5) (h3 : x15.toInt = K) (h5 : x11.toInt = q) (hK : K < 2 ^ pr f) (hq : lst f ≤ q) (hq2 : q ≤ 1000000000000) (hn : q = lst f ∨ 2 ^ (pr f - 1) ≤ K) (hr : r < 4) (c : CS) : f_X3_round_J110 f (nb neg) (Int32.ofNat way) x11 x15 (Int32.ofNat r) c = some (Cs c f neg (if inf f ≤ (q - lst f).toNat * 2 ^ (pr f - 1) + K then ovr f way neg else ((q - lst f).toNat * 2 ^ (pr f - 1) + K, if r = 0 then 0 else if (q - lst f).toNat * 2 ^ (pr f - 1) + K < 2 ^ (pr f - 1) then 5 else 1))) := by
  have hsb := sb_eq f hf
  have hi := inf_b f hf
  have hfm := fm_b f
  have hpp : 0 < 2 ^ (pr f - 1) := Nat.pow_pos (by decide)
  unfold f_X3_round_J110
  rw [settle_spec hf hw h3 h5 hK hq hq2 hn]
  simp only [lt, ofn0 hr]
  generalize (q - lst f).toNat * 2 ^ (pr f - 1) + K = s
  by_cases hr0 : r = 0
  · simp only [if_pos hr0]
  · simp only [if_neg hr0]
    by_cases h1 : inf f ≤ s
    · simp only [if_pos h1]
      have h2 : (ovr f way neg).1 < sb f ∧ ¬ (ovr f way neg).1 < 2 ^ (pr f - 1) := by
        have h4 : 2 * 2 ^ (pr f - 1) ≤ inf f := Nat.mul_le_mul_right _ (by omega)
        unfold ovr
        simp only
        split <;> omega
      rw [cs_p, if_neg (by rw [expo0 hf h2.1]; exact h2.2)]
      show some (srdF (Cs c f neg ((ovr f way neg).1, 3)) (rdF (Cs c f neg ((ovr f way neg).1, 3)) ||| Int32.ofNat 1)) = _
      rw [cs_or, show Int32.ofNat 3 ||| Int32.ofNat 1 = Int32.ofNat 3 by decide]
      rfl
    · simp only [if_neg h1]
      rw [cs_p]
      have he := expo0 (neg := neg) hf (show s < sb f by omega)
      by_cases h3 : s < 2 ^ (pr f - 1)
      · rw [if_pos (by rw [he]; exact h3), if_pos h3]
        show some (srdF (Cs c f neg (s, 0)) (rdF (Cs c f neg (s, 0)) ||| Int32.ofNat 5)) = _
        rw [cs_or, show Int32.ofNat 0 ||| Int32.ofNat 5 = Int32.ofNat 5 by decide]
        rfl
      · rw [if_neg (by rw [he]; exact h3), if_neg h3]
        show some (srdF (Cs c f neg (s, 0)) (rdF (Cs c f neg (s, 0)) ||| Int32.ofNat 1)) = _
        rw [cs_or, show Int32.ofNat 0 ||| Int32.ofNat 1 = Int32.ofNat 1 by decide]
        rfl
theorem cj84 {f way K r : Nat} {q : Int} {neg : Bool} {x15 x11 : Int64} (hf : f < 4) (hw : way < 5) (h3 : x15.toInt = K) (h5 : x11.toInt = q) (hK : K ≤ 2 ^ pr f) (hq : lst f ≤ q) (hq2 : q < 1000000000000) (hn : q = lst f ∨ 2 ^ (pr f - 1) ≤ K) (hr : r < 4) (c : CS) : f_X3_round_J84 f (nb neg) (Int32.ofNat way) x11 x15 (Int32.ofNat r) c = some (Cs c f neg (if inf f ≤ (q - lst f).toNat * 2 ^ (pr f - 1) + K then ovr f way neg else ((q - lst f).toNat * 2 ^ (pr f - 1) + K, if r = 0 then 0 else if (q - lst f).toNat * 2 ^ (pr f - 1) + K < 2 ^ (pr f - 1) then 5 else 1))) := by
  have hfm := fm_b f
  have hl : lst f = 2 - (gr f : Int) - (pr f : Int) := rfl
  have hh := hid_b f
  have hp := pp1 f
  have hhid := hid_f hf
  have hpp : 0 < 2 ^ (pr f - 1) := Nat.pow_pos (by decide)
  have h60 : 2 ^ (pr f - 1) ≤ 2 ^ 60 := Nat.pow_le_pow_right (by decide) (by omega)
  rw [show (2 : Nat) ^ 60 = 1152921504606846976 by decide] at h60
  have two : (2 : Int64).toInt = 2 := by decide
  have one : (1 : Int64).toInt = 1 := by decide
  have e1 : (2 * f_X2_hiddenBit f).toInt = ((2 ^ pr f : Nat) : Int) := by
    rw [lm (by rw [two, hhid]; omega) (by rw [two, hhid]; omega), two, hhid, hp]; omega
  unfold f_X3_round_J84
  simp only [lt]
  by_cases hc : K = 2 ^ pr f
  · rw [if_pos (by rw [leq, e1, h3, hc])]
    rw [cj110 (q := q + 1) (K := 2 ^ (pr f - 1)) hf hw hhid (by rw [la (by omega) (by omega), h5, one]) (by omega) (by omega) (by omega) (.inr (Nat.le_refl _)) hr]
    have e2 : (q + 1 - lst f).toNat * 2 ^ (pr f - 1) + 2 ^ (pr f - 1) = (q - lst f).toNat * 2 ^ (pr f - 1) + K := by
      rw [show (q + 1 - lst f).toNat = (q - lst f).toNat + 1 by omega, Nat.add_mul, Nat.one_mul, hc, hp]; omega
    rw [e2]
  · rw [if_neg (by rw [leq, e1, h3]; omega)]
    exact cj110 hf hw h3 h5 (by omega) hq (by omega) hn hr c
theorem cj70 {f way v r : Nat} {q : Int} {neg : Bool} {x15 x11 : Int64} {s0 : Int32} (hf : f < 4) (hw : way < 5) (h3 : x15.toInt = v) (h5 : x11.toInt = q) (hv : v < 2 ^ pr f) (hq : lst f ≤ q) (hq2 : q < 1000000000000) (hn : q = lst f ∨ 2 ^ (pr f - 1) ≤ v) (hr : r < 4) (hs : s0 = Int32.ofNat (v % 2)) (c : CS) : f_X3_round_J70 f (nb neg) (Int32.ofNat way) x11 x15 (Int32.ofNat r) s0 (nb neg) (Int32.ofNat way) c = some (Cs c f neg (RO f neg way q (2 * v + r / 2) (decide (r % 2 = 1)))) := by
  have hfm := fm_b f
  have hp := pp1 f
  have hh := hid_b f
  have h60 : 2 ^ (pr f - 1) ≤ 2 ^ 60 := Nat.pow_le_pow_right (by decide) (by omega)
  rw [show (2 : Nat) ^ 60 = 1152921504606846976 by decide] at h60
  have one : (1 : Int64).toInt = 1 := by decide
  have e1 : (2 * v + r / 2) / 2 = v := by omega
  have e2 : ((2 * v + r / 2) % 2 = 0 ∧ decide (r % 2 = 1) = false) = (r = 0) := by
    simp only [decide_eq_false_iff_not, eq_iff_iff]; omega
  unfold f_X3_round_J70 RO szf
  subst hs
  simp only [goes_up hw hr, e1, e2, nb0, lt]
  cases upw way neg (2 * v + r / 2) (decide (r % 2 = 1))
  · simp only [if_true, Bool.false_eq_true, if_false, Nat.add_zero]
    exact cj84 hf hw h3 h5 (by omega) hq hq2 hn hr c
  · simp only [if_true, Bool.true_eq_false, if_false]
    refine cj84 (K := v + 1) hf hw ?_ h5 (by omega) hq hq2 (by omega) hr c
    rw [la (by omega) (by omega), h3, one]; omega
