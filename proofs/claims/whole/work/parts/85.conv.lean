/-! convert -/
theorem n_add {x y : Int64} {a b : Nat} (hx : x.toBitVec.toNat = a) (hy : y.toBitVec.toNat = b) (h : a + b < 18446744073709551616) : (x + y).toBitVec.toNat = a + b := by
  rw [Int64.toBitVec_add, BitVec.toNat_add, hx, hy]; omega
theorem sh66 {f : Nat} (hf : f < 4) : (66 - fP f).toInt = ((66 - pr f : Nat) : Int) := by
  have h := c_pr f hf
  have hfm := fm_b f
  have e : (66 : Int32).toInt = 66 := by decide
  rw [is_ (by omega) (by omega), e, h]; omega
theorem half_hid : ∀ f, f < 4 → (f_X2_hiddenBit f / 2).toBitVec.toNat = 2 ^ (pr f - 2) ∧ (f_X2_infinite f).toBitVec.toNat = inf f ∧ inf f % 2 ^ (pr f - 1) = 0 ∧ sb f % 2 ^ (pr f - 1) = 0 ∧ inf f + 2 ^ (pr f - 1) = sb f := f4 (by decide +kernel) (by decide +kernel) (by decide +kernel) (by decide +kernel)
/-- what is behind the highest bit of a fraction, in another format -/
def pay (f t s : Nat) : Nat := s % 2 ^ (pr f - 2) * 2 ^ (66 - pr f) / 2 ^ (66 - pr t)
theorem pay_lt {f t s : Nat} : pay f t s < 2 ^ (pr t - 2) := by
  have hf := fm_b f
  have ht := fm_b t
  unfold pay
  rw [Nat.div_lt_iff_lt_mul (pp2 _), ← Nat.pow_add, show pr t - 2 + (66 - pr t) = (pr f - 2) + (66 - pr f) by omega, Nat.pow_add]
  exact Nat.mul_lt_mul_of_pos_right (Nat.mod_lt _ (pp2 _)) (pp2 _)
theorem c_pay {f t s : Nat} {neg : Bool} (hf : f < 4) (ht : t < 4) (hs : s < sb f) : f_X2_nanWith t (f_X2_payloadOf f (sgn f neg s)) = L64 (inf t + 2 ^ (pr t - 2) + pay f t s) := by
  have hfm := fm_b f
  have htm := fm_b t
  have hb := sb_eq t ht
  have hp := pay_lt (f := f) (t := t) (s := s)
  obtain ⟨q1, q2, q3, q4, q5⟩ := half_hid t ht
  have e1 : 2 ^ (pr t - 1) = 2 * 2 ^ (pr t - 2) := by rw [← pow2s]; congr 1; omega
  have fr := frac_i (neg := neg) hf hs
  have fn : (f_X2_fractionOf f (sgn f neg s)).toBitVec.toNat = s % 2 ^ (pr f - 1) := whole_n fr
  have pn : (f_X2_payloadOf f (sgn f neg s)).toBitVec.toNat = s % 2 ^ (pr f - 2) * 2 ^ (66 - pr f) := by
    unfold f_X2_payloadOf
    rw [jshl_nat (sh66 hf) (by omega), fn, show (18446744073709551616 : Nat) = 2 ^ (pr f - 2) * 2 ^ (66 - pr f) by rw [← Nat.pow_add, show pr f - 2 + (66 - pr f) = 64 by omega], Nat.mul_mod_mul_right]
    congr 1
    rw [show pr f - 1 = (pr f - 2) + 1 by omega, Nat.pow_succ, Nat.mod_mul_right_mod]
  have jn : (jushr (f_X2_payloadOf f (sgn f neg s)) (66 - fP t)).toBitVec.toNat = pay f t s := by
    rw [jushr_nat (sh66 ht) (by omega), pn]; rfl
  apply eq_n
  unfold f_X2_nanWith
  rw [L64_n (by omega), n_add (n_add q2 q1 (by omega)) jn (by omega)]
theorem m_pay {f t s : Nat} {neg : Bool} (hf : f < 4) (ht : t < 4) (hs : s < sb f) : (∀ (h : f_X7_precision (Int32.ofNat t) < f_X7_precision (Int32.ofNat f)), ((f_X7_infinite (Int32.ofNat t) ||| (if nb neg = 0 then 0 else f_X7_signBit (Int32.ofNat t))) ||| ((jshl 1 (f_X7_precision (Int32.ofNat t) - 2)) ||| (jshr (sgn f neg s &&& ((jshl 1 (f_X7_precision (Int32.ofNat f) - 2)) - 1)) (f_X7_precision (Int32.ofNat f) - f_X7_precision (Int32.ofNat t))))) = sgn t neg (inf t + 2 ^ (pr t - 2) + pay f t s)) ∧ (∀ (h : ¬ f_X7_precision (Int32.ofNat t) < f_X7_precision (Int32.ofNat f)), ((f_X7_infinite (Int32.ofNat t) ||| (if nb neg = 0 then 0 else f_X7_signBit (Int32.ofNat t))) ||| ((jshl 1 (f_X7_precision (Int32.ofNat t) - 2)) ||| (jshl (sgn f neg s &&& ((jshl 1 (f_X7_precision (Int32.ofNat f) - 2)) - 1)) (f_X7_precision (Int32.ofNat t) - f_X7_precision (Int32.ofNat f))))) = sgn t neg (inf t + 2 ^ (pr t - 2) + pay f t s)) := by
  have hfm := fm_b f
  have htm := fm_b t
  have hb := sb_eq t ht
  have hbf := expo_b f hf
  have hp := pay_lt (f := f) (t := t) (s := s)
  obtain ⟨q1, q2, q3, q4, q5⟩ := half_hid t ht
  have e1 : 2 ^ (pr t - 1) = 2 * 2 ^ (pr t - 2) := by rw [← pow2s]; congr 1; omega
  have two : (2 : Int32).toInt = 2 := by decide
  have pf := m_pr f hf
  have pt := m_pr t ht
  have d2 : ∀ {g : Nat}, g < 4 → (f_X7_precision (Int32.ofNat g) - 2).toInt = ((pr g - 2 : Nat) : Int) := fun {g} hg => by
    have := m_pr g hg
    have := fm_b g
    rw [is_ (by omega) (by omega), m_pr g hg, two]; omega
  have n2 : ∀ {g : Nat}, g < 4 → (jshl 1 (f_X7_precision (Int32.ofNat g) - 2)).toBitVec.toNat = 2 ^ (pr g - 2) := fun {g} hg => by
    have := fm_b g
    have h2 : 2 ^ (pr g - 2) < 2 ^ 64 := pw_lt (by omega)
    rw [jshl_nat (d2 hg) (by omega), one_n, Nat.one_mul]
    exact Nat.mod_eq_of_lt h2
  have hy : (sgn f neg s &&& (jshl 1 (f_X7_precision (Int32.ofNat f) - 2) - 1)).toBitVec.toNat = s % 2 ^ (pr f - 2) := by
    rw [and64, sub1_n (by omega) (n2 hf), and_pow, sgn_n hf hs]
    cases neg
    · simp
    · simp only [if_true]
      rw [hbf.2, show 2 ^ (pr f - 1) = 2 ^ (pr f - 2) * 2 by rw [← Nat.pow_succ]; congr 1; omega, Nat.mul_assoc, Nat.add_mul_mod_self_left]
  have hyl : s % 2 ^ (pr f - 2) < 2 ^ (pr f - 2) := Nat.mod_lt _ (pp2 _)
  have h60 : 2 ^ (pr f - 2) ≤ 2 ^ 60 := pw_le (by omega)
  rw [show (2 : Nat) ^ 60 = 1152921504606846976 by decide] at h60
  generalize sgn f neg s &&& (jshl 1 (f_X7_precision (Int32.ofNat f) - 2) - 1) = y at hy ⊢
  have hsg : (if nb neg = 0 then (0 : Int64) else f_X7_signBit (Int32.ofNat t)).toBitVec.toNat = if neg then sb t else 0 := by
    cases neg
    · rfl
    · rw [if_neg (by decide), cm_sb t ht]; exact hb.1
  have hsg2 : (if neg then sb t else 0) % 2 ^ (pr t - 1) = 0 := by cases neg <;> simp [q4]
  have fin : ∀ z : Int64, z.toBitVec.toNat = pay f t s → ((f_X7_infinite (Int32.ofNat t) ||| (if nb neg = 0 then 0 else f_X7_signBit (Int32.ofNat t))) ||| ((jshl 1 (f_X7_precision (Int32.ofNat t) - 2)) ||| z)) = sgn t neg (inf t + 2 ^ (pr t - 2) + pay f t s) := by
    intro z hz
    apply eq_n
    rw [sgn_n ht (by omega), or64, or64, or64, hsg, n2 ht, hz, cm_inf t ht, q2, or_add hp (Nat.mod_self _)]
    have a1 : inf t ||| (if neg then sb t else 0) = (if neg then sb t else 0) + inf t := by
      rw [Nat.or_comm]
      cases neg
      · simp
      · simp only [if_true]; exact or_add (k := wdt t - 1) hb.2.2.2.1 (by unfold sb; exact Nat.mod_self _)
    rw [a1, or_add (k := pr t - 1) (by omega) (by rw [Nat.add_mod, hsg2, q3]; simp)]
    omega
  constructor
  · intro h
    rw [ilt, pf, pt] at h
    refine fin _ ?_
    have hd : (f_X7_precision (Int32.ofNat f) - f_X7_precision (Int32.ofNat t)).toInt = ((pr f - pr t : Nat) : Int) := by rw [is_ (by omega) (by omega), pf, pt]; omega
    have hyi : y.toInt = ((s % 2 ^ (pr f - 2) : Nat) : Int) := by have := u64 y; omega
    have hj := jshr_eq (x := y) hd (by omega)
    rw [hyi, show ((2 : Int) ^ (pr f - pr t)) = ((2 ^ (pr f - pr t) : Nat) : Int) by simp, ← Int.natCast_ediv] at hj
    rw [whole_n hj]
    unfold pay
    rw [show 66 - pr t = (66 - pr f) + (pr f - pr t) by omega, Nat.pow_add, ← Nat.div_div_eq_div_mul, Nat.mul_div_cancel _ (pp2 _)]
  · intro h
    rw [ilt, pf, pt] at h
    refine fin _ ?_
    have hd : (f_X7_precision (Int32.ofNat t) - f_X7_precision (Int32.ofNat f)).toInt = ((pr t - pr f : Nat) : Int) := by rw [is_ (by omega) (by omega), pf, pt]; omega
    have hpe : pay f t s = s % 2 ^ (pr f - 2) * 2 ^ (pr t - pr f) := by
      unfold pay
      rw [show 66 - pr f = (pr t - pr f) + (66 - pr t) by omega, Nat.pow_add, ← Nat.mul_assoc, Nat.mul_div_cancel _ (pp2 _)]
    have hb2 : 2 ^ (pr t - 2) < 2 ^ 64 := pw_lt (by omega)
    rw [jshl_nat hd (by omega), hy, ← hpe]
    exact Nat.mod_eq_of_lt (Nat.lt_trans hp hb2)
theorem wh_lt (f s : Nat) : wh f s < 2 ^ pr f := by
  have h := pp1 f
  have hm : s % 2 ^ (pr f - 1) < 2 ^ (pr f - 1) := Nat.mod_lt _ (pp2 _)
  unfold wh
  split <;> omega
theorem wh_b (f s : Nat) : wh f s < 9007199254740992 ∧ 2 ^ pr f ≤ 9007199254740992 := by
  have h := wh_lt f s
  have hfm := fm_b f
  have h60 : 2 ^ pr f ≤ 2 ^ 53 := pw_le (by omega)
  rw [show (2 : Nat) ^ 53 = 9007199254740992 by decide] at h60
  omega
theorem wh_0 {f s : Nat} : wh f s = 0 ↔ s = 0 := by
  have := pp2 (pr f - 1)
  unfold wh
  split <;> omega
theorem un_b {f s : Nat} (hf : f < 4) (hs : s < inf f) : lst f ≤ un f s ∧ un f s ≤ (gr f : Int) - pr f + 1 := by
  have hll : lst f = 2 - (gr f : Int) - (pr f : Int) := rfl
  have h1 : s / 2 ^ (pr f - 1) < 2 * gr f + 1 := by
    rw [Nat.div_lt_iff_lt_mul (pp2 _)]; exact hs
  have hfm := fm_b f
  unfold un
  omega
theorem fin_sb {f s : Nat} (hf : f < 4) (hs : s < inf f) : s < sb f := by have := sb_eq f hf; omega
theorem ag_convert (x1 : Int32) (x2 : Int64) (x4 x5 : Int32) : Agr Iv (cl_convert x1 x2 x4 x5) (mo_convert x1 x2 x4 x5) := by
  intro c m h
  rcases a_own x1 x2 with ⟨h1, h2⟩ | ⟨f, neg, s, hf, rfl, hs, rfl, h1, h2⟩
  · refine ag_no (v := 0) h ?_ ?_
    · unfold mo_convert f_X7_convert f_X7_convert_J40; rw [h2, if_pos rfl]; rfl
    · unfold cl_convert f_X6_convert; rw [h1]; rfl
  · rcases a_shape x4 with ⟨g1, g2⟩ | ⟨t, ht, rfl, g1, g2⟩
    · refine ag_no (v := 0) h ?_ ?_
      · unfold mo_convert f_X7_convert f_X7_convert_J40; rw [h2, if_neg (by decide), g2, if_pos rfl]; rfl
      · unfold cl_convert f_X6_convert; rw [h1, tbd_r, g1]; rfl
    · rcases a_way x5 with ⟨k1, k2⟩ | ⟨way, hw, rfl, k1, k2⟩
      · refine ag_no (v := 0) h ?_ ?_
        · unfold mo_convert f_X7_convert f_X7_convert_J40; rw [h2, if_neg (by decide), g2, if_neg (by decide), k2, if_pos rfl]; rfl
        · unfold cl_convert f_X6_convert; rw [h1, tbd_r, g1, tbd_r, k1]; rfl
      · obtain ⟨m', r, hC, hM, hRd⟩ : ∃ m' r, f_X6_convert (Int32.ofNat f) (sgn f neg s) (Int32.ofNat t) (Int32.ofNat way) c = f_X6_convert_J149 (Cs c t neg r) ∧ f_X7_convert (Int32.ofNat f) (sgn f neg s) (Int32.ofNat t) (Int32.ofNat way) m = f_X7_convert_J206 m' ∧ (Fr [3, 4, 5] [0, 7, 11] [1, 2] m m' ∧ mI m' 0 = 0 ∧ mJ m' 2 = sgn t neg r.1 ∧ mI m' 11 = Int32.ofNat r.2) := by
          unfold f_X6_convert f_X7_convert
          rw [h1, h2, tbd_r, g1, tbd_r, k1, tbd_r, if_neg (by decide), g2, if_neg (by decide), k2, if_neg (by decide)]
          unfold f_X7_convert_J40
          rw [refuse1]
          simp only [lt, if_true, x_minus hf, x_fin hf, x_size hf, sgn_minus hf hs, sgn_size hf hs, s_nan hf hs, s_fin hf hs, s_zero hf hs]
          by_cases z1 : s < inf f
          · have z2 : ¬ inf f ≤ s := by omega
            have z3 : s ≤ inf f := by omega
            rw [if_pos z3, if_pos rfl, if_neg z2, if_neg (show ¬ (1 : Int32) = 0 by decide), if_neg (show ¬ (1 : Int32) = 0 by decide)]
            obtain ⟨W, U, e1, e2, e3⟩ := split_spec hf hs (smI m 0 0)
            rw [e1]
            have hJ : mJ (smI (smJ (smI m 0 0) 1 W) 7 U) 1 = W := by rw [mJ_smI, mJ_smJ]
            obtain ⟨v, s1, s2, s3⟩ := set_spec (j := 3) rfl W (smI (smJ (smI m 0 0) 1 W) 7 U)
            have hwn := whole_n e2
            rw [hwn, vl_eq] at s3
            rw [hJ, s1]
            simp only [Option.bind]
            have hI7 : mI (smA (smI (smJ (smI m 0 0) 1 W) 7 U) 3 v) 7 = U := by rw [mI_smA, mI_smI]
            rw [hI7]
            have hub := un_b hf z1
            have hfm := fm_b f
            have hll : lst f = 2 - (gr f : Int) - (pr f : Int) := rfl
            have hwb := wh_b f s
            obtain ⟨m', r, q1, q2, q3⟩ := rbin_spec (f := t) (m := smA (smI (smJ (smI m 0 0) 1 W) 7 U) 3 v) (neg := neg) (N := wh f s) (x3 := U.toInt64) (E := un f s) ht hw (by rw [smA_same]; exact s2) (by rw [smA_same]; exact s3) (p63_6400 (by omega)) (by rw [il]; exact e3) (by omega) (by omega)
            rw [q1]
            have hFr : Fr [3, 4, 5] [0, 7, 11] [1, 2] m m' := (Fr.sI (by decide)).trans ((Fr.sJ (by decide)).trans ((Fr.sI (by decide)).trans ((Fr.sA (by decide)).trans (q2.1.mono (by decide) (by decide) (by decide)))))
            have h0' : mI m' 0 = 0 := by rw [q2.1.2.1 0 (by decide), mI_smA, mI_smI_ne (by decide), mI_smJ, mI_smI]
            by_cases z4 : s = 0
            · rw [if_pos z4, if_neg (show ¬ (1 : Int32) = 0 by decide)]
              rcases q3 with ⟨-, hr⟩ | ⟨hN, -⟩
              · refine ⟨m', r, ?_, rfl, hFr, h0', q2.2⟩
                rw [hr, show (0 : Int64) = L64 0 from rfl, signed_eq]
                rfl
              · exact absurd (wh_0.mpr z4) hN
            · rw [if_neg z4, if_pos rfl]
              have hN : wh f s ≠ 0 := fun q => z4 (wh_0.mp q)
              have hq3 := q3.resolve_left (fun q => hN q.1)
              obtain ⟨r', p1, p2⟩ := cbin (f := t) (neg := neg) (N := wh f s) (E := un f s) (x3 := f_X2_wholeOf f (sgn f neg s)) (x5 := (f_X2_unitOf f (sgn f neg s)).toInt64) ht hw (whole_n (c_whole hf hs)) (by rw [il]; exact c_unit hf hs) hN (by omega) (by omega) c
              have hr := p2.uniq (Nat.mul_pos (Nat.pos_of_ne_zero hN) (p2_pos _)) hq3.2
              subst hr
              rw [p1]
              exact ⟨m', r', rfl, rfl, hFr, h0', q2.2⟩
          · have z2 : inf f ≤ s := by omega
            rw [if_pos z2, if_pos rfl, if_pos rfl]
            have key : (if nb neg = 0 then f_X7_convert_J122 (Int32.ofNat f) (sgn f neg s) (Int32.ofNat t) 0 (f_X7_infinite (Int32.ofNat t)) (smI m 0 0) else f_X7_convert_J122 (Int32.ofNat f) (sgn f neg s) (Int32.ofNat t) (f_X7_signBit (Int32.ofNat t)) (f_X7_infinite (Int32.ofNat t)) (smI m 0 0)) = f_X7_convert_J122 (Int32.ofNat f) (sgn f neg s) (Int32.ofNat t) (if nb neg = 0 then 0 else f_X7_signBit (Int32.ofNat t)) (f_X7_infinite (Int32.ofNat t)) (smI m 0 0) := by split <;> rfl
            rw [key]
            unfold f_X7_convert_J122
            rw [x_nan hf, s_nan hf hs]
            simp only [lt]
            by_cases z3 : s ≤ inf f
            · rw [if_pos z3, if_pos rfl, if_pos rfl]
              have e : f_X7_infinite (Int32.ofNat t) ||| (if nb neg = 0 then 0 else f_X7_signBit (Int32.ofNat t)) = sgn t neg (inf t) := by
                rw [m_inf64 ht, cm_sb t ht]; unfold sgn
                cases neg
                · rw [if_pos (show nb false = 0 from rfl), or64_0]; rfl
                · rw [if_neg (show ¬ nb true = 0 by decide)]; rfl
              rw [e]
              refine ⟨_, (inf t, 0), ?_, rfl, (Fr.sI (by decide)).trans ((Fr.sJ (by decide)).trans (Fr.sI (by decide))), ?_, ?_, ?_⟩
              · rw [inf64 ht, signed_eq]; rfl
              · rw [mI_smI_ne (by decide), mI_smJ, mI_smI]
              · rw [mJ_smI, mJ_smJ]
              · rw [mI_smI]; rfl
            · rw [if_neg z3, if_neg (show ¬ (1 : Int32) = 0 by decide), if_neg (show ¬ (1 : Int32) = 0 by decide)]
              obtain ⟨y1, y2⟩ := m_pay (neg := neg) hf ht hs
              have hJ : ∀ v, mJ (smI (smJ (smI m 0 0) 2 v) 11 0) 2 = v := fun v => by rw [mJ_smI, mJ_smJ]
              rw [hJ]
              by_cases z5 : f_X7_precision (Int32.ofNat t) < f_X7_precision (Int32.ofNat f)
              · rw [if_pos z5, y1 z5]
                refine ⟨_, (inf t + 2 ^ (pr t - 2) + pay f t s, 0), ?_, rfl, (Fr.sI (by decide)).trans ((Fr.sJ (by decide)).trans ((Fr.sI (by decide)).trans (Fr.sJ (by decide)))), ?_, ?_, ?_⟩
                · rw [c_pay hf ht hs, signed_eq]; rfl
                · rw [mI_smJ, mI_smI_ne (by decide), mI_smJ, mI_smI]
                · rw [mJ_smJ]
                · rw [mI_smJ, mI_smI]; rfl
              · rw [if_neg z5, y2 z5]
                refine ⟨_, (inf t + 2 ^ (pr t - 2) + pay f t s, 0), ?_, rfl, (Fr.sI (by decide)).trans ((Fr.sJ (by decide)).trans ((Fr.sI (by decide)).trans (Fr.sJ (by decide)))), ?_, ?_, ?_⟩
                · rw [c_pay hf ht hs, signed_eq]; rfl
                · rw [mI_smJ, mI_smI_ne (by decide), mI_smJ, mI_smI]
                · rw [mJ_smJ]
                · rw [mI_smJ, mI_smI]; rfl
        obtain ⟨w1, w2, w3, w4⟩ := hRd
        obtain ⟨z1, z2, z3⟩ := h.keep (r := r) (f := t) (neg := neg) (w1.mono (by decide) (by decide) (by decide)) w3 w4
        refine ag_yes (v := mJ (f_X7_keep m') 0) (m' := f_X7_keep m') (c' := (f_X6_keepResult (Cs c t neg r)).2) ?_ ?_ ?_ z2
        · unfold mo_convert; rw [hM]; rfl
        · unfold cl_convert; rw [hC]; unfold f_X6_convert_J149; rw [← z1]; rfl
        · rw [z3]; exact w2
