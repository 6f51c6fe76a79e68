/-! the calls that change nothing -/
theorem n10 : ¬ (1 : Int32) = 0 := by decide
theorem cmp_eq (p q : Int64) : (if q ≤ p then if p ≤ q then (0 : Int32) else 1 else (-1)) = f_X6_signOf p q := by
  unfold f_X6_signOf
  simp only [lle, leq]
  by_cases h1 : q.toInt ≤ p.toInt
  · by_cases h2 : p.toInt ≤ q.toInt
    · rw [if_pos h1, if_pos h2, if_pos (by omega)]
    · rw [if_pos h1, if_neg h2, if_neg (by omega), if_pos h1]
  · rw [if_neg h1, if_neg (by omega), if_neg h1]
theorem ag_compare (x1 : Int32) (x2 x4 : Int64) : Agr Iv (cl_compare x1 x2 x4) (mo_compare x1 x2 x4) := by
  intro c m h
  rcases a_own x1 x2 with ⟨h1, h2⟩ | ⟨f, neg, s, hf, rfl, hs, hx, h1, h2⟩
  · refine ag_no (v := 0) h ?_ ?_
    · unfold mo_compare f_X7_compare f_X7_compare_J23; rw [h2, if_pos rfl]; rfl
    · unfold cl_compare f_X6_compare; rw [h1]; rfl
  · rcases a_pat hf x4 with ⟨g1, g2⟩ | ⟨neg', s', hs', hx', g1, g2⟩
    · refine ag_no (v := 0) h ?_ ?_
      · unfold mo_compare f_X7_compare f_X7_compare_J23; rw [h2, if_neg (by decide), g2, if_pos rfl]; rfl
      · unfold cl_compare f_X6_compare; rw [h1, tbd_r, g1]; rfl
    · obtain ⟨v, hc, hm⟩ : ∃ v, f_X6_compare (Int32.ofNat f) x2 x4 = some (.inr v) ∧ f_X7_compare (Int32.ofNat f) x2 x4 m = (v, smI m 0 0) := by
        unfold f_X6_compare f_X7_compare f_X7_compare_J23
        rw [h1, h2, g2, tbd_r, g1, tbd_r, if_neg n10, if_neg n10, refuse1]
        simp only [lt, x_nan hf, x_place hf, if_true]
        rw [← cmp_eq]
        by_cases n1 : f_X2_isNan f x2 = 0
        · by_cases n2 : f_X2_isNan f x4 = 0
          · simp only [n1, n2, if_true]
            refine ⟨_, rfl, ?_⟩
            split
            · split <;> rfl
            · rfl
          · simp only [n1, n2, if_true, if_false]
            exact ⟨_, rfl, rfl⟩
        · simp only [n1, if_false]
          exact ⟨_, rfl, rfl⟩
      refine ag_yes (v := v.toInt64) (m' := smI m 0 0) (c' := c) ?_ ?_ mI_smI h.thr
      · unfold mo_compare; rw [hm]; rfl
      · unfold cl_compare; rw [hc]; rfl
theorem ord_eq (p q : Int64) {s : Int32} (hs : s = 0 ∨ s = 1) {m : MS} : (if p = q then ((0 : Int32), m) else if q ≤ p then f_X7_order_J104 s 0 m else f_X7_order_J104 s 1 m) = (if s = 0 then f_X6_signOf p q else -(f_X6_signOf p q), m) := by
  unfold f_X6_signOf f_X7_order_J104
  by_cases h1 : p = q
  · rw [if_pos h1, if_pos h1]
    rcases hs with rfl | rfl <;> rfl
  · rw [if_neg h1, if_neg h1]
    by_cases h2 : q ≤ p
    · rw [if_pos h2, if_pos h2]
      rcases hs with rfl | rfl <;> rfl
    · rw [if_neg h2, if_neg h2]
      rcases hs with rfl | rfl <;> rfl
theorem minus01 (f : Nat) (x : Int64) : f_X2_isMinus f x = 0 ∨ f_X2_isMinus f x = 1 := by
  unfold f_X2_isMinus; split
  · exact .inl rfl
  · exact .inr rfl
theorem ag_order (x1 : Int32) (x2 x4 : Int64) : Agr Iv (cl_order x1 x2 x4) (mo_order x1 x2 x4) := by
  intro c m h
  rcases a_own x1 x2 with ⟨h1, h2⟩ | ⟨f, neg, s, hf, rfl, hs, hx, h1, h2⟩
  · refine ag_no (v := 0) h ?_ ?_
    · unfold mo_order f_X7_order f_X7_order_J23; rw [h2, if_pos rfl]; rfl
    · unfold cl_order f_X6_order; rw [h1]; rfl
  · rcases a_pat hf x4 with ⟨g1, g2⟩ | ⟨neg', s', hs', hx', g1, g2⟩
    · refine ag_no (v := 0) h ?_ ?_
      · unfold mo_order f_X7_order f_X7_order_J23; rw [h2, if_neg (by decide), g2, if_pos rfl]; rfl
      · unfold cl_order f_X6_order; rw [h1, tbd_r, g1]; rfl
    · obtain ⟨v, hc, hm⟩ : ∃ v, f_X6_order (Int32.ofNat f) x2 x4 = some (.inr v) ∧ f_X7_order (Int32.ofNat f) x2 x4 m = (v, smI m 0 0) := by
        unfold f_X6_order f_X7_order f_X7_order_J23
        rw [h1, h2, g2, tbd_r, g1, tbd_r, if_neg n10, if_neg n10, refuse1]
        simp only [lt, x_minus hf, x_size hf, if_true]
        by_cases n1 : f_X2_isMinus f x2 = f_X2_isMinus f x4
        · rw [if_pos n1, if_pos n1, ord_eq _ _ (minus01 f x2)]
          by_cases n2 : f_X2_isMinus f x2 = 0
          · rw [if_pos n2, if_pos n2]; exact ⟨_, rfl, rfl⟩
          · rw [if_neg n2, if_neg n2]; exact ⟨_, rfl, rfl⟩
        · rw [if_neg n1, if_neg n1]
          by_cases n2 : f_X2_isMinus f x2 = 0
          · rw [if_pos n2, if_pos n2]; exact ⟨_, rfl, rfl⟩
          · rw [if_neg n2, if_neg n2]; exact ⟨_, rfl, rfl⟩
      refine ag_yes (v := v.toInt64) (m' := smI m 0 0) (c' := c) ?_ ?_ mI_smI h.thr
      · unfold mo_order; rw [hm]; rfl
      · unfold cl_order; rw [hc]; rfl
theorem m_hid {f : Nat} (hf : f < 4) : (jshl 1 (f_X7_precision (Int32.ofNat f) - 1)).toInt = ((2 ^ (pr f - 1) : Nat) : Int) := hid64 (m_pr f hf)
theorem inf_hid {f : Nat} : 2 ^ (pr f - 1) ≤ inf f := by
  unfold inf
  have := Nat.mul_le_mul_right (2 ^ (pr f - 1)) (show 1 ≤ 2 * gr f + 1 by omega)
  omega
theorem ag_kind (x1 : Int32) (x2 : Int64) : Agr Iv (cl_kind x1 x2) (mo_kind x1 x2) := by
  intro c m h
  rcases a_own x1 x2 with ⟨h1, h2⟩ | ⟨f, neg, s, hf, rfl, hs, rfl, h1, h2⟩
  · refine ag_no (v := 0) h ?_ ?_
    · unfold mo_kind f_X7_kind; rw [h2]; rfl
    · unfold cl_kind f_X6_kind; rw [h1]; rfl
  · obtain ⟨v, hc, hm⟩ : ∃ v, f_X6_kind (Int32.ofNat f) (sgn f neg s) = some (.inr v) ∧ f_X7_kind (Int32.ofNat f) (sgn f neg s) m = (v, smI m 0 0) := by
      have hih := inf_hid (f := f)
      unfold f_X6_kind f_X7_kind
      rw [h1, h2, tbd_r, refuse1, s_zero hf hs, s_fin hf hs, s_nan hf hs]
      simp only [lt, x_size hf, sgn_size hf hs, if_true, L64_z hf hs, expo0 hf hs, lle, m_hid hf, m_inf f hf, L64_lt hf hs, leq]
      by_cases z : s = 0
      · simp only [z, if_true]
        exact ⟨_, rfl, rfl⟩
      · by_cases z1 : s < 2 ^ (pr f - 1)
        · have z2 : ¬ ((2 ^ (pr f - 1) : Nat) : Int) ≤ (s : Int) := by omega
          have z3 : ¬ inf f ≤ s := by omega
          rw [if_neg z, if_pos rfl, if_neg z3, if_neg (show ¬ (1 : Int32) = 0 by decide), if_pos z1, if_neg z, if_neg z2]
          exact ⟨_, rfl, rfl⟩
        · have z2 : ((2 ^ (pr f - 1) : Nat) : Int) ≤ (s : Int) := by omega
          by_cases z3 : inf f ≤ s
          · by_cases z4 : s ≤ inf f
            · rw [if_neg z, if_pos rfl, if_pos z3, if_pos rfl, if_pos z4, if_pos rfl, if_neg z, if_pos z2, if_pos (by omega), if_pos (by omega)]
              exact ⟨_, rfl, rfl⟩
            · rw [if_neg z, if_pos rfl, if_pos z3, if_pos rfl, if_neg z4, if_neg (show ¬ (1 : Int32) = 0 by decide), if_neg z, if_pos z2, if_pos (by omega), if_neg (by omega)]
              exact ⟨_, rfl, rfl⟩
          · rw [if_neg z, if_pos rfl, if_neg z3, if_neg (show ¬ (1 : Int32) = 0 by decide), if_neg z1, if_neg z, if_pos z2, if_neg (by omega)]
            exact ⟨_, rfl, rfl⟩
    refine ag_yes (v := v.toInt64) (m' := smI m 0 0) (c' := c) ?_ ?_ mI_smI h.thr
    · unfold mo_kind; rw [hm]; rfl
    · unfold cl_kind; rw [hc]; rfl
theorem n_add1 {x : Int64} {n : Nat} (h : x.toBitVec.toNat = n) (hn : n + 1 < 18446744073709551616) : (x + 1).toBitVec.toNat = n + 1 := by
  rw [Int64.toBitVec_add, BitVec.toNat_add, h, show (1 : Int64).toBitVec.toNat = 1 from rfl]; omega
theorem n_sub1 {x : Int64} {n : Nat} (h : x.toBitVec.toNat = n) (hn : 0 < n) : (x - 1).toBitVec.toNat = n - 1 := by
  have hx := x.toBitVec.isLt
  rw [Int64.toBitVec_sub, BitVec.toNat_sub, h, show (1 : Int64).toBitVec.toNat = 1 from rfl]; omega
theorem sgn_sub {f s : Nat} {neg : Bool} (hf : f < 4) (hs : s < sb f) (h0 : s ≠ 0) : sgn f neg s - 1 = sgn f neg (s - 1) ∧ L64 s - 1 = L64 (s - 1) := by
  have hb := sb_eq f hf
  refine ⟨eq_n ?_, eq_n ?_⟩
  · rw [n_sub1 (sgn_n hf hs) (by omega), sgn_n hf (by omega)]; omega
  · rw [n_sub1 (L64_n (by omega)) (by omega), L64_n (by omega)]
theorem sgn_add {f s : Nat} {neg : Bool} (hf : f < 4) (hs : s + 1 < sb f) : sgn f neg s + 1 = sgn f neg (s + 1) ∧ L64 s + 1 = L64 (s + 1) := by
  have hb := sb_eq f hf
  refine ⟨eq_n ?_, eq_n ?_⟩
  · have : (if neg then sb f else 0) ≤ sb f := by split <;> omega
    rw [n_add1 (sgn_n hf (by omega)) (by omega), sgn_n hf hs]; omega
  · rw [n_add1 (L64_n (by omega)) (by omega), L64_n (by omega)]
theorem inf_b2 : ∀ f, f < 4 → inf f + 2 ≤ sb f ∧ sb f ≤ 9223372036854775808 := f4 (by decide +kernel) (by decide +kernel) (by decide +kernel) (by decide +kernel)
theorem minL_i {x y : Int64} : f_JM_minL x y = if y.toInt < x.toInt then y else x := by
  unfold f_JM_minL; simp only [llt]
theorem ag_next (x1 : Int32) (x2 : Int64) (x4 : Int32) : Agr Iv (cl_next x1 x2 x4) (mo_next x1 x2 x4) := by
  intro c m h
  rcases a_own x1 x2 with ⟨h1, h2⟩ | ⟨f, neg, s, hf, rfl, hs, rfl, h1, h2⟩
  · refine ag_no (v := 0) h ?_ ?_
    · unfold mo_next f_X7_next; rw [h2]; rfl
    · unfold cl_next f_X6_next; rw [h1]; rfl
  · obtain ⟨v, hc, hm⟩ : ∃ v, f_X6_next (Int32.ofNat f) (sgn f neg s) x4 = some (.inr v) ∧ f_X7_next (Int32.ofNat f) (sgn f neg s) x4 m = (v, smI m 0 0) := by
      have hb := sb_eq f hf
      unfold f_X6_next f_X7_next
      rw [h1, h2, tbd_r, refuse1]
      simp only [lt, x_size hf, x_nan hf, x_minus hf, sgn_size hf hs, s_nan hf hs, sgn_minus hf hs, if_true, L64_z hf hs]
      by_cases z1 : s ≤ inf f
      · rw [if_pos z1, if_pos rfl, if_pos rfl]
        by_cases z : s = 0
        · rw [if_pos z, if_pos z]
          unfold f_X6_next_J45
          by_cases u : x4 = 0
          · rw [if_pos u, if_pos u, cm_sb f hf]
            refine ⟨_, rfl, ?_⟩
            congr 1
            unfold f_X2_signed
            rw [if_neg (by decide)]
            apply eq_n; rw [or64, or64, Nat.or_comm]
          · rw [if_neg u, if_neg u]
            exact ⟨_, rfl, rfl⟩
        · rw [if_neg z, if_neg z]
          unfold f_X7_next_J69
          by_cases u : nb neg = x4
          · rw [if_pos u, if_pos u.symm, if_pos rfl]
            obtain ⟨e1, e2⟩ := sgn_sub (neg := neg) hf hs z
            rw [e2, signed_eq]
            exact ⟨_, rfl, by rw [e1]⟩
          · rw [if_neg u, if_neg (fun q => u q.symm), if_neg (by decide), minL_i, c_inf f hf, m_inf64 hf]
            by_cases z2 : s = inf f
            · have e3 : (L64 s + 1).toInt = ((s + 1 : Nat) : Int) := by
                have := L64_lt hf hs
                have one : (1 : Int64).toInt = 1 := by decide
                have hi := inf_b2 f hf
                rw [la (by omega) (by omega), this, one]; omega
              rw [if_pos (by rw [e3]; omega), if_pos (by rw [z2]), inf64 hf, signed_eq]
              exact ⟨_, rfl, by rw [z2]⟩
            · obtain ⟨e1, e2⟩ := sgn_add (neg := neg) hf (show s + 1 < sb f by omega)
              rw [e2, if_neg (by rw [L64_lt hf (by omega)]; omega), if_neg (fun q => z2 (by
                rw [leq, L64_lt hf hs, L64_lt hf (by omega)] at q; omega)), signed_eq]
              exact ⟨_, rfl, by rw [e1]⟩
      · rw [if_neg z1, if_neg (by decide), if_neg (by decide)]
        exact ⟨_, rfl, rfl⟩
    refine ag_yes (v := v) (m' := smI m 0 0) (c' := c) ?_ ?_ mI_smI h.thr
    · unfold mo_next; rw [hm]; rfl
    · unfold cl_next; rw [hc]; rfl
theorem s_place {f s : Nat} {neg : Bool} (hf : f < 4) (hs : s < sb f) : (f_X2_placeOf f (sgn f neg s)).toInt = if neg then -(s : Int) else s := by
  have hb := sb_eq f hf
  have hl := L64_lt hf hs
  unfold f_X2_placeOf
  rw [sgn_minus hf hs, sgn_size hf hs]
  cases neg
  · rw [if_pos (show nb false = 0 from rfl), hl]; rfl
  · rw [if_neg (show ¬ nb true = 0 by decide), lneg (by omega), hl]; rfl
theorem step_eq {p q d : Int64} (hd : d = q - p) (hp : -9223372036854775807 ≤ p.toInt) {m : MS} : ∃ v, (if 0 ≤ p then f_X6_steps_J92 p q d else if q ≤ 0 then f_X6_steps_J92 p q d else if 0 ≤ d then f_X6_steps_J92 p q d else some (.inr 9223372036854775807)) = some (.inr v) ∧ (if q < 0 then f_X7_steps_J82 p q d 0 m else f_X7_steps_J82 p q d 1 m) = (v, m) := by
  unfold f_X6_steps_J92 f_X7_steps_J82 f_X7_steps_J94 f_X7_steps_J109 f_X7_steps_J121 f_X7_steps_J129
  have hq := r64 q
  have hp2 := r64 p
  have h1 : q.toInt = 0 → d.toInt = -p.toInt := fun h => by rw [hd, ls_ (by omega) (by omega), h]; omega
  have h2 : p.toInt = 0 → d.toInt = q.toInt := fun h => by rw [hd, ls_ (by omega) (by omega), h]; omega
  clear hd
  simp only [lle, llt, l0]
  by_cases a1 : q.toInt < 0
  · have a2 : ¬ (0 ≤ q.toInt) := by omega
    have a3 : q.toInt ≤ 0 := by omega
    by_cases b1 : p.toInt < 0
    · have b2 : ¬ (0 ≤ p.toInt) := by omega
      have b3 : p.toInt ≤ 0 := by omega
      simp [a1, a3, b1, b2, b3]
    · have b2 : 0 ≤ p.toInt := by omega
      by_cases d1 : d.toInt < 0
      · simp [a1, a2, b1, b2, d1]
      · have d2 : 0 ≤ d.toInt := by omega
        have b3 : ¬ p.toInt ≤ 0 := by omega
        simp [a1, a2, b1, b2, b3, d1]
  · have a2 : 0 ≤ q.toInt := by omega
    by_cases b1 : p.toInt < 0
    · have b2 : ¬ (0 ≤ p.toInt) := by omega
      have b3 : p.toInt ≤ 0 := by omega
      by_cases d1 : d.toInt < 0
      · have d2 : ¬ (0 ≤ d.toInt) := by omega
        have a3 : ¬ q.toInt ≤ 0 := by omega
        simp [a1, a3, b1, b2, d1, d2]
      · have d2 : 0 ≤ d.toInt := by omega
        simp [a1, b1, b2, b3, d1, d2]
    · have b2 : 0 ≤ p.toInt := by omega
      simp [a1, a2, b1, b2]
theorem st0 {x1 : Int32} {x2 x4 : Int64} {m : MS} : f_X7_steps_J40 x1 x2 x4 0 m = (0, smI m 0 1) := rfl
theorem st1 {f : Nat} (hf : f < 4) {x2 x4 : Int64} {m : MS} : f_X7_steps_J40 (Int32.ofNat f) x2 x4 1 m = (if f_X2_placeOf f x4 < 0 then f_X7_steps_J82 (f_X2_placeOf f x2) (f_X2_placeOf f x4) (f_X2_placeOf f x4 - f_X2_placeOf f x2) 0 (smI m 0 0) else f_X7_steps_J82 (f_X2_placeOf f x2) (f_X2_placeOf f x4) (f_X2_placeOf f x4 - f_X2_placeOf f x2) 1 (smI m 0 0)) := by
  rw [← x_place hf x2, ← x_place hf x4]
  rfl
theorem stm {f : Nat} (hf : f < 4) {x2 x4 : Int64} {m : MS} (h2 : f_X7_isPattern (Int32.ofNat f) x2 = 1) (g2 : f_X7_isPattern (Int32.ofNat f) x4 = 1) : f_X7_steps (Int32.ofNat f) x2 x4 m = if f_X2_isNan f x2 = 0 then (if f_X2_isNan f x4 = 0 then (if f_X2_placeOf f x4 < 0 then f_X7_steps_J82 (f_X2_placeOf f x2) (f_X2_placeOf f x4) (f_X2_placeOf f x4 - f_X2_placeOf f x2) 0 (smI m 0 0) else f_X7_steps_J82 (f_X2_placeOf f x2) (f_X2_placeOf f x4) (f_X2_placeOf f x4 - f_X2_placeOf f x2) 1 (smI m 0 0)) else (0, smI m 0 1)) else (0, smI m 0 1) := by
  rw [← st1 hf, ← st0 (x1 := Int32.ofNat f) (x2 := x2) (x4 := x4), ← x_nan hf, ← x_nan hf]
  unfold f_X7_steps
  rw [h2, if_neg n10, g2, if_neg n10]
theorem stc {f : Nat} {x2 x4 : Int64} (h1 : f_X6_shapeOwning (Int32.ofNat f) x2 = some (.inr f)) (g1 : f_X6_needPattern f x4 = some (.inr ())) : f_X6_steps (Int32.ofNat f) x2 x4 = if f_X2_isNan f x2 = 0 then (if f_X2_isNan f x4 = 0 then (if 0 ≤ f_X2_placeOf f x2 then f_X6_steps_J92 (f_X2_placeOf f x2) (f_X2_placeOf f x4) (f_X2_placeOf f x4 - f_X2_placeOf f x2) else if f_X2_placeOf f x4 ≤ 0 then f_X6_steps_J92 (f_X2_placeOf f x2) (f_X2_placeOf f x4) (f_X2_placeOf f x4 - f_X2_placeOf f x2) else if 0 ≤ f_X2_placeOf f x4 - f_X2_placeOf f x2 then f_X6_steps_J92 (f_X2_placeOf f x2) (f_X2_placeOf f x4) (f_X2_placeOf f x4 - f_X2_placeOf f x2) else some (.inr 9223372036854775807)) else some (.inl ())) else some (.inl ()) := by
  unfold f_X6_steps
  rw [h1, tbd_r, g1, tbd_r]
  simp only [lt]
theorem ag_steps (x1 : Int32) (x2 x4 : Int64) : Agr Iv (cl_steps x1 x2 x4) (mo_steps x1 x2 x4) := by
  intro c m h
  rcases a_own x1 x2 with ⟨h1, h2⟩ | ⟨f, neg, s, hf, rfl, hs, hx, h1, h2⟩
  · refine ag_no (v := 0) h ?_ ?_
    · unfold mo_steps f_X7_steps f_X7_steps_J40; rw [h2, if_pos rfl]; rfl
    · unfold cl_steps f_X6_steps; rw [h1]; rfl
  · rcases a_pat hf x4 with ⟨g1, g2⟩ | ⟨neg', s', hs', hx', g1, g2⟩
    · refine ag_no (v := 0) h ?_ ?_
      · unfold mo_steps f_X7_steps f_X7_steps_J40; rw [h2, if_neg n10, g2, if_pos rfl]; rfl
      · unfold cl_steps f_X6_steps; rw [h1, tbd_r, g1]; rfl
    · have hp : -9223372036854775807 ≤ (f_X2_placeOf f x2).toInt := by
        have hb := sb_eq f hf
        rw [hx, s_place hf hs]; split <;> omega
      unfold mo_steps cl_steps
      rw [stm hf h2 g2, stc h1 g1]
      by_cases n1 : f_X2_isNan f x2 = 0
      · by_cases n2 : f_X2_isNan f x4 = 0
        · obtain ⟨v, e1, e2⟩ := step_eq (p := f_X2_placeOf f x2) (q := f_X2_placeOf f x4) (d := f_X2_placeOf f x4 - f_X2_placeOf f x2) (m := smI m 0 0) rfl hp
          rw [if_pos n1, if_pos n2, if_pos n1, if_pos n2, e1, e2]
          exact ⟨v, smI m 0 0, rfl, .inr ⟨c, rfl, mI_smI, h.thr⟩⟩
        · rw [if_pos n1, if_neg n2, if_pos n1, if_neg n2]
          exact ⟨0, smI m 0 1, rfl, .inl ⟨rfl, mI_smI, h.thr⟩⟩
      · rw [if_neg n1, if_neg n1]
        exact ⟨0, smI m 0 1, rfl, .inl ⟨rfl, mI_smI, h.thr⟩⟩
