theorem lt_shift {A B : Nat} {a k : Int} {d : Nat} (h : A * p2 (-a) < B * p2 a) (hd : a ≤ k + d) : A * p2 (-k) < 2 ^ d * (B * p2 k) := by
  refine Nat.lt_of_mul_lt_mul_right (a := p2 (-a)) ?_
  have h1 : A * p2 (-a) * p2 (-k) < B * p2 a * p2 (-k) := Nat.mul_lt_mul_of_pos_right h (p2_pos _)
  have h2 : p2 a * p2 (-k) ≤ 2 ^ d * p2 k * p2 (-a) := by
    unfold p2
    rw [← Nat.pow_add, ← Nat.pow_add, ← Nat.pow_add]
    exact Nat.pow_le_pow_right (by decide) (by omega)
  have h3 := Nat.mul_le_mul_left B h2
  have e1 : A * p2 (-k) * p2 (-a) = A * p2 (-a) * p2 (-k) := by rw [Nat.mul_assoc, Nat.mul_comm (p2 (-k)), Nat.mul_assoc]
  have e2 : 2 ^ d * (B * p2 k) * p2 (-a) = B * (2 ^ d * p2 k * p2 (-a)) := by simp only [Nat.mul_assoc, Nat.mul_left_comm, Nat.mul_comm]
  rw [e1, e2]
  rw [Nat.mul_assoc B] at h1
  omega
theorem le_shift {A B : Nat} {a k : Int} {d : Nat} (h : B * p2 a ≤ A * p2 (-a)) (hd : k + d ≤ a) : 2 ^ d * (B * p2 k) ≤ A * p2 (-k) := by
  refine Nat.le_of_mul_le_mul_right (c := p2 (-a)) ?_ (p2_pos _)
  have h1 : B * p2 a * p2 (-k) ≤ A * p2 (-a) * p2 (-k) := Nat.mul_le_mul_right _ h
  have h2 : 2 ^ d * p2 k * p2 (-a) ≤ p2 a * p2 (-k) := by
    unfold p2
    rw [← Nat.pow_add, ← Nat.pow_add, ← Nat.pow_add]
    exact Nat.pow_le_pow_right (by decide) (by omega)
  have h3 := Nat.mul_le_mul_left B h2
  have e1 : A * p2 (-k) * p2 (-a) = A * p2 (-a) * p2 (-k) := by rw [Nat.mul_assoc, Nat.mul_comm (p2 (-k)), Nat.mul_assoc]
  have e2 : 2 ^ d * (B * p2 k) * p2 (-a) = B * (2 ^ d * p2 k * p2 (-a)) := by simp only [Nat.mul_assoc, Nat.mul_left_comm, Nat.mul_comm]
  rw [e1, e2]
  rw [Nat.mul_assoc B] at h1
  omega
theorem pb_p2 {A B : Nat} {p : Int} (h : Pb A B p) : B * p2 p ≤ A * p2 (-p) ∧ A * p2 (-(p + 1)) < B * p2 (p + 1) := h
/-- bounds of the floor at the unit that the format takes -/
theorem fl_pb {A B h : Nat} {e : Bool} {high q : Int} {p : Nat} (hp : Pb A B high) (hq : high - p + 1 ≤ q) (a : Fl (A * p2 (1 - q)) (B * p2 (q - 1)) h e) : h < 2 ^ (p + 1) ∧ (high - p + 1 = q → 2 ^ p ≤ h) := by
  obtain ⟨p1, p3⟩ := pb_p2 hp
  have e0 : -(q - 1) = 1 - q := by omega
  refine ⟨?_, fun hqq => ?_⟩
  · have h1 := lt_shift (k := q - 1) (d := p + 1) p3 (by omega)
    rw [e0] at h1
    exact Nat.lt_of_mul_lt_mul_right (Nat.lt_of_le_of_lt a.1 h1)
  · have h1 := le_shift (k := q - 1) (d := p) p1 (by omega)
    rw [e0] at h1
    exact Nat.le_of_lt_succ (Nat.lt_of_mul_lt_mul_right (Nat.lt_of_le_of_lt h1 a.2.1))
def qOf (f : Nat) (high : Int) : Int := if high - pr f + 1 ≤ lst f then lst f else high - pr f + 1
theorem rq_pb {f A B h : Nat} {e : Bool} {high : Int} (hp : Pb A B high) (a : Fl (A * p2 (1 - qOf f high)) (B * p2 (qOf f high - 1)) h e) : Rq f A B (qOf f high) h e := by
  have hq : high - pr f + 1 ≤ qOf f high := by unfold qOf; split <;> omega
  obtain ⟨h1, h2⟩ := fl_pb hp hq a
  refine ⟨a, by unfold qOf; split <;> omega, h1, ?_⟩
  unfold qOf at h2 ⊢
  by_cases h3 : high - pr f + 1 ≤ lst f
  · rw [if_pos h3]; exact .inl rfl
  · rw [if_neg h3] at h2 ⊢; exact .inr (h2 rfl)
theorem ro_over {f A B way : Nat} {neg : Bool} {q : Int} {h : Nat} {e : Bool} (a : Rq f A B q h e) (hq : (gr f : Int) - pr f + 1 < q) : RO f neg way q h e = ovr f way neg := by
  obtain ⟨a1, a2, a3, a4⟩ := a
  have hf := fm_b f
  have hl : lst f = 2 - (gr f : Int) - (pr f : Int) := rfl
  have h6 : 2 ^ pr f ≤ h := a4.resolve_left (by omega)
  have h7 := pp1 f
  have h8 : inf f ≤ szf f neg way q h e := by
    unfold inf szf
    have h9 : 2 * gr f * 2 ^ (pr f - 1) ≤ (q - lst f).toNat * 2 ^ (pr f - 1) := Nat.mul_le_mul_right _ (by omega)
    rw [Nat.add_mul]
    omega
  unfold RO
  rw [if_pos h8]
theorem fl_half {A v B R : Nat} (hA : A = v * B + R) (hR : R < B) : Fl (2 * A) B (2 * v + hb R B) (eb R B) := by
  have e1 : (2 * v + hb R B) * B = 2 * (v * B) + hb R B * B := by rw [Nat.add_mul, Nat.mul_assoc]
  have e2 : (2 * v + hb R B + 1) * B = 2 * (v * B) + hb R B * B + B := by rw [Nat.add_mul (2 * v + hb R B), e1, Nat.one_mul]
  unfold Fl
  rw [e1, e2]
  unfold hb eb
  by_cases h : B ≤ 2 * R
  · rw [if_pos h, Nat.one_mul, decide_eq_true_iff]
    omega
  · rw [if_neg h, Nat.zero_mul, decide_eq_true_iff]
    omega
theorem p2_half (q : Int) : 2 * p2 (-q) * p2 (q - 1) = p2 (1 - q) * p2 q := by
  unfold p2
  rw [← pow2s, ← Nat.pow_add, ← Nat.pow_add]
  congr 1
  omega
theorem fl_q {A B v R : Nat} {q : Int} (hB : 0 < B) (hA : A * p2 (-q) = v * (B * p2 q) + R) (hR : R < B * p2 q) : Fl (A * p2 (1 - q)) (B * p2 (q - 1)) (2 * v + hb R (B * p2 q)) (eb R (B * p2 q)) := by
  refine fl_scale ?_ (Nat.mul_pos hB (p2_pos _)) (fl_half hA hR)
  have e1 : 2 * (A * p2 (-q)) * (B * p2 (q - 1)) = A * B * (2 * p2 (-q) * p2 (q - 1)) := by simp only [Nat.mul_assoc, Nat.mul_left_comm, Nat.mul_comm]
  have e2 : A * p2 (1 - q) * (B * p2 q) = A * B * (p2 (1 - q) * p2 q) := by simp only [Nat.mul_assoc, Nat.mul_left_comm, Nat.mul_comm]
  rw [e1, e2, p2_half]
theorem bl0 {v L : Nat} (h : Bl v L) : L = 0 ↔ v = 0 := by
  obtain ⟨h1, h2⟩ := h
  constructor
  · intro h; rw [h] at h1; simp at h1; exact h1
  · intro h
    rcases h2 with h2 | h2
    · exact h2
    · have : 0 < 2 ^ (L - 1) := Nat.pow_pos (by decide)
      omega
theorem nIeq {x : Int32} {k : Nat} (h : x.toInt = k) (hk : k < 2147483648) : x = nI k := by rw [ieq, h, nI_toInt hk]
theorem rj86 {f way : Nat} {q : Int} {neg : Bool} {x5 x6 : Int32} (hf : f < 4) (hw : way < 5) (h5 : x5.toInt = pr f) (h6 : x6.toInt = q) (h1 : q ≤ (gr f : Int) - pr f + 1) (h0 : lst f ≤ q) {m : MS} (ha : W30 (mA m 3)) (hb' : W30 (mA m 4)) {A B : Nat} (hA : vl (mA m 3) = A) (hB : vl (mA m 4) = B) (hlt : A < B * 2 ^ pr f) (hfit : B * 2 ^ pr f < B320) : ∃ ua ub v R, f_X7_round_J86 (Int32.ofNat f) (nb neg) (Int32.ofNat way) x5 x6 m = some (Rs (smA (smA m 3 ua) 4 ub) f neg (RO f neg way q (2 * v + hb R B) (eb R B))) ∧ A = v * B + R ∧ R < B := by
  have hp := fm_b f
  obtain ⟨u, d1, d2, d3⟩ := left_spec (j := 4) rfl (n := pr f) (Nat.le_trans hp.1.2 (by decide)) hb' (by rw [vl_eq, hB]; exact hfit)
  rw [vl_eq (mA m 4), hB] at d3
  have hx5 : x5 = nI (pr f) := nIeq h5 (Nat.lt_of_le_of_lt hp.1.2 (by decide))
  have hlt2 : val (mA m 3) < B * 2 ^ (pr f + 1) := by
    rw [vl_eq, hA, mul2s]; omega
  obtain ⟨b, g1, v, ua, ub, g2, g3, g4, g5, g6, g7, g8, g9⟩ := div_loop (p := pr f) (A := A) (B := B) (Nat.le_trans hp.1.2 (by decide)) (x1 := Int32.ofNat f) (x2 := nb neg) (x3 := Int32.ofNat way) (x5 := x5) (x6 := x6) (m := m) (pr f + 1) (0, x5, smA m 4 u) ⟨0, mA m 3, u, rfl, by rw [h5]; exact (pk_is _).symm, by rw [smA_self], ha, d2, Nat.le_refl _, by rw [Nat.sub_self]; exact Nat.one_pos, by rw [Nat.add_sub_cancel]; exact d3, by rw [vl_eq, hA, Nat.zero_mul, Nat.zero_add], hlt2⟩
  rw [vl_eq] at g7 g8 g9
  have hv : v < 2 ^ pr f := by
    have h2 : v * B ≤ A := by omega
    exact Nat.lt_of_mul_lt_mul_right (Nat.lt_of_le_of_lt h2 (by rw [Nat.mul_comm]; exact hlt))
  obtain ⟨x, mm⟩ := b
  change x.toInt = _ at g2
  change mm = _ at g3
  subst g3
  have e3 : mA (smA (smA m 3 ua) 4 ub) 3 = ua := by rw [smA_ne (by decide), smA_same]
  have e4 : mA (smA (smA m 3 ua) 4 ub) 4 = ub := smA_same
  obtain ⟨L, k1, k2, k3⟩ := len_spec (j := 3) rfl (m := smA (smA m 3 ua) 4 ub) (by rw [e3]; exact g4)
  rw [e3, vl_eq] at k3
  have hfit2 : vl ua * 2 ^ 1 < B320 := by
    have h2 : 2 ^ 1 ≤ 2 ^ pr f := Nat.pow_le_pow_right (by decide) (by omega)
    exact Nat.lt_of_le_of_lt (Nat.mul_le_mul (Nat.le_of_lt g9) h2) hfit
  obtain ⟨uc, j1⟩ := rj177 (m := smA (smA m 3 ua) 4 ub) (R := vl ua) (B := B) (neg := neg) hf hw h5 h6 g2 hv h1 h0 (by rw [e3]; exact g4) (by rw [e4]; exact g5) (by rw [e3]) (by rw [e4]; exact g7) g9 hfit2
  rw [smA_comm (i := 4) (j := 3) (by decide), smA_smA] at j1
  refine ⟨uc, ub, v, vl ua, ?_, g8, g9⟩
  rw [← j1]
  unfold f_X7_round_J86
  rw [hx5, d1]; simp only [Option.bind]
  rw [← hx5, g1]; simp only
  rw [k1]; simp only
  have hL : (nI L).toInt = L := nI_toInt (by omega)
  by_cases hL0 : L = 0
  · rw [if_pos ((le0_of hL).mpr hL0)]
    have : vl ua = 0 := (bl0 k3).mp hL0
    rw [this]
    rfl
  · rw [if_neg (fun h => hL0 ((le0_of hL).mp h))]
    have : vl ua ≠ 0 := fun h => hL0 ((bl0 k3).mpr h)
    rw [show nb (decide (vl ua ≠ 0)) = 1 by simp [nb, this]]
theorem p2_neg {q : Int} (h : q ≤ 0) : p2 q = 1 := by unfold p2; rw [show q.toNat = 0 by omega]
/-- the reference rounds rightly -/
theorem round_spec {f way : Nat} {neg : Bool} (hf : f < 4) (hw : way < 5) {m : MS} (ha : W30 (mA m 3)) (hb' : W30 (mA m 4)) {A B : Nat} (hA : vl (mA m 3) = A) (hB : vl (mA m 4) = B) (hA0 : 0 < A) (hB0 : 0 < B) (hAf : A * 2 ^ 1074 < B320) (hBf : B * 2 ^ 60 < B320) : ∃ u3 u4 u5 q h e, f_X7_round (Int32.ofNat f) (nb neg) (Int32.ofNat way) m = some (Rs (smA (smA (smA m 5 u5) 3 u3) 4 u4) f neg (RO f neg way q h e)) ∧ Rq f A B q h e := by
  obtain ⟨p, u, g1, g2, g3, g4, g5⟩ := pb_spec ha hb' (by rw [vl_eq, hA]; exact hA0) (by rw [vl_eq, hB]; exact hB0)
  rw [vl_eq, vl_eq, hA, hB] at g5
  have hfm := fm_b f
  have hl : lst f = 2 - (gr f : Int) - (pr f : Int) := rfl
  have hmg := m_gr f hf
  have hml := m_lst f hf
  have hmp := m_pr f hf
  have e1 : (1 : Int32).toInt = 1 := by decide
  have hx : ((p - f_X7_precision (Int32.ofNat f)) + 1).toInt = p.toInt - pr f + 1 := by
    have h1 : (p - f_X7_precision (Int32.ofNat f)).toInt = p.toInt - pr f := by rw [is_ (by omega) (by omega), hmp]
    rw [ia (by rw [h1, e1]; omega) (by rw [h1, e1]; omega), h1, e1]
  have e3 : mA (smA m 5 u) 3 = mA m 3 := smA_ne (by decide)
  have e4 : mA (smA m 5 u) 4 = mA m 4 := smA_ne (by decide)
  unfold f_X7_round
  rw [g1]; simp only [Option.bind]
  by_cases hov : p.toInt ≤ gr f
  · rw [if_pos (by rw [ile, hmg]; exact hov)]
    simp only [lt]
    obtain ⟨x6, hx6, hgo⟩ : ∃ x6 : Int32, x6.toInt = qOf f p.toInt ∧ (if p - f_X7_precision (Int32.ofNat f) + 1 ≤ f_X7_least (Int32.ofNat f) then f_X7_round_J57 (Int32.ofNat f) (nb neg) (Int32.ofNat way) (f_X7_precision (Int32.ofNat f)) (f_X7_least (Int32.ofNat f)) (smA m 5 u) else f_X7_round_J57 (Int32.ofNat f) (nb neg) (Int32.ofNat way) (f_X7_precision (Int32.ofNat f)) (p - f_X7_precision (Int32.ofNat f) + 1) (smA m 5 u)) = f_X7_round_J57 (Int32.ofNat f) (nb neg) (Int32.ofNat way) (f_X7_precision (Int32.ofNat f)) x6 (smA m 5 u) := by
      by_cases h9 : p - f_X7_precision (Int32.ofNat f) + 1 ≤ f_X7_least (Int32.ofNat f)
      · refine ⟨_, ?_, if_pos h9⟩
        rw [ile, hx, hml] at h9
        unfold qOf
        rw [if_pos h9, hml]
      · refine ⟨_, ?_, if_neg h9⟩
        rw [ile, hx, hml] at h9
        unfold qOf
        rw [if_neg h9, hx]
    rw [hgo]
    have hq0 : lst f ≤ qOf f p.toInt := by unfold qOf; split <;> omega
    have hq1 : qOf f p.toInt ≤ (gr f : Int) - pr f + 1 := by unfold qOf; split <;> omega
    have hq2 : p.toInt - pr f + 1 ≤ qOf f p.toInt := by unfold qOf; split <;> omega
    have hq3 : 0 ≤ qOf f p.toInt → qOf f p.toInt = p.toInt - pr f + 1 := by unfold qOf; split <;> omega
    have hq5 := lt_shift (k := qOf f p.toInt) (d := pr f) (pb_p2 g5).2 (by omega)
    have key : ∀ {v R : Nat}, A * p2 (-qOf f p.toInt) = v * (B * p2 (qOf f p.toInt)) + R → R < B * p2 (qOf f p.toInt) → Rq f A B (qOf f p.toInt) (2 * v + hb R (B * p2 (qOf f p.toInt))) (eb R (B * p2 (qOf f p.toInt))) := fun h1 h2 => rq_pb g5 (fl_q hB0 h1 h2)
    generalize qOf f p.toInt = q at *
    unfold f_X7_round_J57
    by_cases hq : 0 ≤ q
    · rw [if_pos (by rw [ile, hx6]; exact hq)]
      obtain ⟨k, hk⟩ : ∃ k : Nat, q = k := ⟨q.toNat, by omega⟩
      have hk1 : p2 q = 2 ^ k := by unfold p2; rw [hk]; rfl
      have hk2 : p2 (-q) = 1 := p2_neg (by omega)
      rw [hk1, hk2, Nat.mul_one] at key
      rw [hk1, hk2, Nat.mul_one] at hq5
      have hfit : B * 2 ^ k * 2 ^ pr f < B320 := by
        have h1 := le_shift (k := 0) (d := p.toInt.toNat) (pb_p2 g5).1 (by omega)
        rw [show p2 0 = 1 from rfl, show p2 (-0) = 1 from rfl, Nat.mul_one, Nat.mul_one] at h1
        have h2 : B * 2 ^ k * 2 ^ pr f ≤ 2 * (2 ^ p.toInt.toNat * B) := by
          rw [Nat.mul_assoc, ← Nat.pow_add, Nat.mul_comm B, ← Nat.mul_assoc 2, ← pow2s]
          exact Nat.mul_le_mul_right _ (Nat.pow_le_pow_right (by decide) (by omega))
        have h3 : A * 2 ^ 1 ≤ A * 2 ^ 1074 := Nat.mul_le_mul_left _ (Nat.pow_le_pow_right (by decide) (by decide))
        omega
      have hfit2 : B * 2 ^ k < B320 := by
        have h3 : B * 2 ^ k * 1 ≤ B * 2 ^ k * 2 ^ pr f := Nat.mul_le_mul_left _ (Nat.pow_pos (by decide))
        omega
      obtain ⟨ub, d1, d2, d3⟩ := left_spec (j := 4) rfl (n := k) (by omega) (m := smA m 5 u) (by rw [e4]; exact hb') (by rw [e4, vl_eq, hB]; exact hfit2)
      rw [← nIeq (x := x6) (by rw [hx6, hk]) (by omega)] at d1
      rw [e4, vl_eq, vl_eq, hB] at d3
      rw [d1]; simp only [Option.bind]
      obtain ⟨uc, ud, v, R, j1, j2, j3⟩ := rj86 (neg := neg) (m := smA (smA m 5 u) 4 ub) hf hw hmp hx6 hq1 hq0 (by rw [smA_ne (by decide), e3]; exact ha) (by rw [smA_same]; exact d2) (A := A) (B := B * 2 ^ k) (by rw [smA_ne (by decide), e3]; exact hA) (by rw [smA_same]; exact d3) (by rw [Nat.mul_comm]; exact hq5) hfit
      refine ⟨uc, ud, u, q, _, _, ?_, key j2 j3⟩
      rw [j1, smA_comm (i := 4) (j := 3) (by decide), smA_smA]
    · rw [if_neg (by rw [ile, hx6]; exact hq)]
      obtain ⟨k, hk⟩ : ∃ k : Nat, q = -(k : Int) := ⟨(-q).toNat, by omega⟩
      have hk1 : p2 (-q) = 2 ^ k := by unfold p2; rw [hk]; simp
      have hk2 : p2 q = 1 := p2_neg (by omega)
      rw [hk1, hk2, Nat.mul_one] at key
      rw [hk1, hk2, Nat.mul_one] at hq5
      have hkb : k ≤ 1074 := by omega
      have hfit2 : A * 2 ^ k < B320 := Nat.lt_of_le_of_lt (Nat.mul_le_mul_left _ (Nat.pow_le_pow_right (by decide) hkb)) hAf
      have hfit : B * 2 ^ pr f < B320 := Nat.lt_of_le_of_lt (Nat.mul_le_mul_left _ (Nat.pow_le_pow_right (by decide) (by omega))) hBf
      have hk0 : (0 : Int32).toInt = 0 := by decide
      have hx7 : -x6 = nI k := nIeq (by rw [ineg (by omega), hx6, hk]; omega) (by omega)
      obtain ⟨ub, d1, d2, d3⟩ := left_spec (j := 3) rfl (n := k) (by omega) (m := smA m 5 u) (by rw [e3]; exact ha) (by rw [e3, vl_eq, hA]; exact hfit2)
      rw [e3, vl_eq, vl_eq, hA] at d3
      rw [hx7, d1]; simp only [Option.bind]
      obtain ⟨uc, ud, v, R, j1, j2, j3⟩ := rj86 (neg := neg) (m := smA (smA m 5 u) 3 ub) hf hw hmp hx6 hq1 hq0 (by rw [smA_same]; exact d2) (by rw [smA_ne (by decide), e4]; exact hb') (A := A * 2 ^ k) (B := B) (by rw [smA_same]; exact d3) (by rw [smA_ne (by decide), e4]; exact hB) (by rw [Nat.mul_comm B]; exact hq5) hfit
      refine ⟨uc, ud, u, q, _, _, ?_, key j2 j3⟩
      rw [j1, smA_smA]
  · rw [if_neg (by rw [ile, hmg]; exact hov)]
    simp only [lt]
    have a := rq_pb (f := f) (A := A) (B := B) g5 (fl_of (Nat.mul_pos hB0 (p2_pos _)))
    refine ⟨mA m 3, mA m 4, u, _, _, _, ?_, a⟩
    rw [ro_over a (by unfold qOf; split <;> omega), ovr_spec hf hw, ← e3, smA_self, ← e4, smA_self]
