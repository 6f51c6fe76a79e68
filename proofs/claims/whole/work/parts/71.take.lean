/-! takeDownTo -/
def TD (V : Nat) (c : CS) (r0 : Nat) (stop : Int) (n : Nat) (a : Int32 × CS) : Prop := ∃ (i : Nat) (w : RWs) (U : Nat), a.1 = nI i ∧ i + n = 157 ∧ i ≤ 156 ∧ a.2 = srws c r0 w ∧ RIs w U false ∧ U = V / 1000000000 ^ (156 - i) * 1000000000 ^ (156 - i) ∧ (U = 0 ∨ (i : Int) ≤ stop)
def TDq (V : Nat) (c : CS) (r0 : Nat) (stop : Int) (b : CS) : Prop := ∃ (w : RWs) (U : Nat), b = srws c r0 w ∧ RIs w U false ∧ (∀ a : Nat, stop = 155 - (a : Int) → U = V / 1000000000 ^ (a + 1) * 1000000000 ^ (a + 1)) ∧ (156 ≤ stop → U = V)
theorem dm_mul {V a : Nat} : V / 1000000000 ^ a * 1000000000 ^ a = V / 1000000000 ^ (a + 1) * 1000000000 ^ (a + 1) + gd V a * 1000000000 ^ a := by
  unfold gd
  rw [Nat.pow_succ, ← Nat.div_div_eq_div_mul]
  generalize 1000000000 ^ a = P
  generalize V / P = X
  rw [Nat.mul_comm P, ← Nat.mul_assoc, ← Nat.add_mul]
  congr 1
  omega
theorem gd_trunc {V k i : Nat} (hk : k < i) : gd (V / 1000000000 ^ i * 1000000000 ^ i) k = 0 := by
  obtain ⟨d, rfl⟩ : ∃ d, i = k + (d + 1) := ⟨i - k - 1, by omega⟩
  unfold gd
  have h1 : V / 1000000000 ^ (k + (d + 1)) * 1000000000 ^ (k + (d + 1)) = 1000000000 ^ k * (V / 1000000000 ^ (k + (d + 1)) * 1000000000 ^ d * 1000000000) := by
    rw [Nat.pow_add 1000000000 k, Nat.pow_succ 1000000000 d]
    simp only [Nat.mul_assoc, Nat.mul_left_comm, Nat.mul_comm]
  rw [h1, Nat.mul_div_cancel_left _ (Nat.pow_pos (by decide)), Nat.mul_mod_left]
theorem tr_mono {V a b : Nat} (h : a ≤ b) (hV : V = V / 1000000000 ^ b * 1000000000 ^ b) : V = V / 1000000000 ^ a * 1000000000 ^ a := by
  have h1 : 1000000000 ^ a ∣ V := Nat.dvd_trans (Nat.pow_dvd_pow _ h) ⟨V / 1000000000 ^ b, by rw [Nat.mul_comm]; exact hV⟩
  exact (Nat.div_mul_cancel h1).symm
theorem tr_zero {V a b : Nat} (h : a ≤ b) (hV : V / 1000000000 ^ a * 1000000000 ^ a = 0) : V / 1000000000 ^ b * 1000000000 ^ b = 0 := by
  have h1 : V / 1000000000 ^ a = 0 := by
    rcases Nat.mul_eq_zero.mp hV with q | q
    · exact q
    · exact absurd q (Nat.ne_of_gt (Nat.pow_pos (by decide)))
  have h2 : V < 1000000000 ^ a := by
    rcases Nat.lt_or_ge V (1000000000 ^ a) with q | q
    · exact q
    · exact absurd h1 (Nat.ne_of_gt (Nat.div_pos q (Nat.pow_pos (by decide))))
  rw [Nat.div_eq_of_lt (Nat.lt_of_lt_of_le h2 (Nat.pow_le_pow_right (by decide) h)), Nat.zero_mul]
theorem take_step {V : Nat} {s : Bool} {c : CS} {r0 r1 : Nat} (hr : r0 ≠ r1) (h : RIs (rws c r1) V s) {x2 x3 : Int32} (n : Nat) (a : Int32 × CS) (hI : TD V c r0 x3.toInt n a) : (∃ z, f_X4_takeDownTo_L15 r0 r1 x2 x3 a.1 a.2 = some (.inr z) ∧ TDq V c r0 x3.toInt z) ∨ ∃ a' n', f_X4_takeDownTo_L15 r0 r1 x2 x3 a.1 a.2 = some (.inl a') ∧ n' < n ∧ TD V c r0 x3.toInt n' a' := by
  obtain ⟨i, w, U, h1, h2, h3, h4, h5, h6, h7⟩ := hI
  obtain ⟨x4, cc⟩ := a
  change x4 = _ at h1
  change cc = _ at h4
  subst h1 h4
  have hi : (nI i).toInt = i := nI_toInt (by omega)
  have hrow : rws (srws c r0 w) r1 = rws c r1 := rws_ne (Ne.symm hr)
  show (∃ z, f_X4_takeDownTo_L15 r0 r1 x2 x3 (nI i) (srws c r0 w) = _ ∧ _) ∨ ∃ a' n', f_X4_takeDownTo_L15 r0 r1 x2 x3 (nI i) (srws c r0 w) = _ ∧ _
  unfold f_X4_takeDownTo_L15
  have eE : rwE (srws c r0 w) r1 = (rws c r1).2.2.1 := by unfold rwE; rw [hrow]
  rw [eE]
  by_cases hc : (rws c r1).2.2.1 < nI i
  · rw [if_pos hc]
    rw [ilt, hi] at hc
    have hUV : U = V := by
      rw [h6]
      by_cases hi0 : i = 0
      · have hz : V = 0 := by
          rw [← h.2.2.2.1]; exact rv_zero (fun k hk => h.2.1 k hk (by omega))
        rw [hz]; simp
      · have hb := h.bot (i := i - 1) (by omega) (fun k hk hk2 => h.2.1 k hk2 (by omega))
        rw [show 155 - (i - 1) = 156 - i by omega] at hb
        exact Nat.div_mul_cancel (Nat.dvd_of_mod_eq_zero hb)
    refine .inl ⟨_, rfl, w, U, rfl, h5, fun a ha => ?_, fun _ => hUV⟩
    rcases h7 with q | q
    · rw [← hUV, q]; simp
    · rw [hUV] at h6 ⊢
      exact tr_mono (by omega) h6
  · rw [if_neg hc]
    rw [ilt, hi] at hc
    by_cases hs : x3 ≤ nI i
    · rw [if_pos hs]
      rw [ile, hi] at hs
      refine .inl ⟨_, rfl, w, U, rfl, h5, fun a ha => ?_, fun h9 => ?_⟩
      · rcases h7 with q | q
        · rw [q]
          rw [q] at h6
          exact (tr_zero (by omega) h6.symm).symm
        · rw [h6, show 156 - i = a + 1 by omega]
      · rw [h6, show 156 - i = 0 by omega]; simp
    · rw [if_neg hs]
      have hE : (rws c r1).2.2.1.toInt ≤ 155 := by
        rcases h.2.2.1 with q | q <;> omega
      simp only [lt]
      have hl := limb_k (k := 155 - i) (c := srws c r0 w) (r := r1) (V := V) (s := s) (by rw [hrow]; exact h) (x := nI i) (by omega)
      have hg := gd_lt V (155 - i)
      have hz : gd U (155 - i) = 0 := by rw [h6]; exact gd_trunc (by omega)
      have hw0 : w.1 i = 0 := by
        have := h5.limb (i := i) (by omega)
        rw [hz] at this
        exact ieq.mpr (by rw [this]; rfl)
      obtain ⟨w2, g1, g2, g3, g4⟩ := setLimb_ris (c := srws c r0 w) (r := r0) (V := U) (s := false) (x := nI i) (y := f_X4_limbAt r1 (nI i) (srws c r0 w)) (i := i) (by rw [rws_same]; exact h5) hi (by omega) (by rw [hl]; omega) (by rw [hl]; omega) (fun _ => by rw [rws_same]; exact hw0)
      rw [g1, srws_srws, nI_inc (by omega)]
      rw [ile, hi] at hs
      refine .inr ⟨_, n - 1, rfl, by omega, i + 1, w2, rv w2.1, rfl, by omega, by omega, rfl, g2, ?_, .inr (by omega)⟩
      rw [hz, Nat.zero_mul, Nat.add_zero, hl, Int.toNat_natCast, h6] at g4
      rw [g4, show 156 - (i + 1) = 155 - i by omega, dm_mul (a := 155 - i), show 155 - i + 1 = 156 - i by omega]
theorem tr_ar {V a t : Nat} (ht : t < 9) : V / 1000000000 ^ (a + 1) * 1000000000 ^ (a + 1) + (gd V a - gd V a % 10 ^ t) * 1000000000 ^ a = V / 10 ^ (9 * a + t) * 10 ^ (9 * a + t) := by
  rw [p9, ← Nat.div_div_eq_div_mul]
  unfold gd
  rw [Nat.pow_succ, ← Nat.div_div_eq_div_mul]
  generalize 1000000000 ^ a = P
  generalize V / P = X
  have h1 : (1000000000 : Nat) = 10 ^ t * 10 ^ (9 - t) := by rw [← Nat.pow_add, show t + (9 - t) = 9 by omega]
  have h2 : X % 1000000000 % 10 ^ t = X % 10 ^ t := by
    conv => lhs; rw [h1]
    rw [Nat.mod_mul_right_mod]
  rw [h2, Nat.mul_comm P, ← Nat.mul_assoc, ← Nat.add_mul]
  have h3 := Nat.div_add_mod X (10 ^ t)
  have h4 : X % 10 ^ t ≤ X % 1000000000 := by rw [← h2]; exact Nat.mod_le _ _
  have h5 : X / 10 ^ t * (P * 10 ^ t) = (10 ^ t * (X / 10 ^ t)) * P := by simp only [Nat.mul_assoc, Nat.mul_left_comm, Nat.mul_comm]
  rw [h5]
  congr 1
  generalize 10 ^ t * (X / 10 ^ t) = Y at *
  generalize X % 10 ^ t = Z at *
  omega
theorem take_spec {c : CS} {r0 r1 V V0 : Nat} {s s0 : Bool} (hr : r0 ≠ r1) (h : RIs (rws c r1) V s) (h0 : RIs (rws c r0) V0 s0) {x : Int32} (hx1 : -5000 ≤ x.toInt) (hx2 : x.toInt ≤ 323) : ∃ w, f_X4_takeDownTo r0 r1 x c = some (srws c r0 w) ∧ RIs w (V / 10 ^ kp x.toInt * 10 ^ kp x.toInt) false := by
  obtain ⟨l, e1, e2⟩ := empty_spec h0
  have hrow : ∀ w, rws (srws c r0 w) r1 = rws c r1 := fun w => rws_ne (Ne.symm hr)
  have hz := zero_ris e2
  have hF : 0 ≤ (rws c r1).2.1.toInt ∧ (rws c r1).2.1.toInt ≤ 156 := by rcases h.2.2.1 with q | q <;> omega
  have hlo := limbOf_i (x := x) (by omega) (by omega)
  have hte := tenOf_i (x := x)
  have hp : 0 < 10 ^ (x.toInt % 9).toNat := Nat.pow_pos (by decide)
  obtain ⟨b, g1, w, U, g3, g4, g5, g6⟩ := Lp_inv (F := fun a => f_X4_takeDownTo_L15 r0 r1 x (f_X4_limbOf x) a.1 a.2) (TD V c r0 (f_X4_limbOf x).toInt) (TDq V c r0 (f_X4_limbOf x).toInt) (fun n a hh => take_step hr h n a hh) (157 - (rws c r1).2.1.toInt).toNat ((rws c r1).2.1, srws c r0 (l, 156, -1, 0)) ⟨(rws c r1).2.1.toInt.toNat, _, 0, nIeq (by show (rws c r1).2.1.toInt = _; omega) (by omega), by omega, by omega, rfl, hz, by
      have hb : V / 1000000000 ^ (156 - (rws c r1).2.1.toInt.toNat) = 0 := by
        by_cases hf : (rws c r1).2.1.toInt.toNat = 156
        · have hz : V = 0 := by
            rw [← h.2.2.2.1]; exact rv_zero (fun k hk => h.2.1 k hk (by omega))
          rw [hz]; simp
        · have ht := h.top (i := (rws c r1).2.1.toInt.toNat) (by omega) (fun k hk => h.2.1 k (by omega) (by omega))
          rw [show 156 - (rws c r1).2.1.toInt.toNat = (155 - (rws c r1).2.1.toInt.toNat) + 1 by omega, Nat.pow_succ, ← Nat.div_div_eq_div_mul, ht]
          exact Nat.div_eq_of_lt (gd_lt _ _)
      rw [hb, Nat.zero_mul], .inl rfl⟩
  subst g3
  unfold f_X4_takeDownTo
  rw [e1]; simp only [Option.bind, lt]
  have eF : rwF (srws c r0 (l, 156, -1, 0)) r1 = (rws c r1).2.1 := by unfold rwF; rw [hrow]
  rw [eF, g1]; simp only
  rw [if_neg (by rw [ile, hte, k0]; omega), if_pos (by rw [ieq, hte, k0]; omega)]
  unfold f_X4_takeDownTo_J81
  simp only [lt]
  by_cases hk : -1080 ≤ x.toInt
  · obtain ⟨k, hkx⟩ : ∃ k : Nat, x.toInt = (k : Int) - 1080 := ⟨(x.toInt + 1080).toNat, by omega⟩
    have hkp : kp x.toInt = k := by unfold kp; omega
    have e9 : (x.toInt % 9).toNat = k % 9 := by omega
    rw [e9] at hte hp
    have hle : (f_X4_limbOf x).toInt = 155 - ((k / 9 : Nat) : Int) := by omega
    have hl := limb_k (k := k / 9) (c := srws c r0 w) (r := r1) (V := V) (s := s) (by rw [hrow]; exact h) hle
    have hg := gd_lt V (k / 9)
    have hm := irm_n hl hte
    have hml : gd V (k / 9) % 10 ^ (k % 9) ≤ gd V (k / 9) := Nat.mod_le _ _
    have hy : (f_X4_limbAt r1 (f_X4_limbOf x) (srws c r0 w) - irm (f_X4_limbAt r1 (f_X4_limbOf x) (srws c r0 w)) (f_X4_tenOf x)).toInt = ((gd V (k / 9) - gd V (k / 9) % 10 ^ (k % 9) : Nat) : Int) := by
      rw [is_ (by rw [hl, hm]; omega) (by rw [hl, hm]; omega), hl, hm]; omega
    have hU := g5 (k / 9) (by omega)
    have hz0 : gd U (k / 9) = 0 := by rw [hU]; exact gd_trunc (by omega)
    have hw0 : w.1 (155 - k / 9) = 0 := by
      have := g4.limb (i := 155 - k / 9) (by omega)
      rw [show 155 - (155 - k / 9) = k / 9 by omega, hz0] at this
      exact ieq.mpr (by rw [this]; rfl)
    obtain ⟨w2, j1, j2, j3, j4⟩ := setLimb_ris (c := srws c r0 w) (r := r0) (V := U) (s := false) (x := f_X4_limbOf x) (y := f_X4_limbAt r1 (f_X4_limbOf x) (srws c r0 w) - irm (f_X4_limbAt r1 (f_X4_limbOf x) (srws c r0 w)) (f_X4_tenOf x)) (i := 155 - k / 9) (by rw [rws_same]; exact g4) (by omega) (by omega) (by rw [hy]; omega) (by rw [hy]; omega) (fun _ => by rw [rws_same]; exact hw0)
    rw [j1, srws_srws]
    refine ⟨w2, rfl, ?_⟩
    rw [show 155 - (155 - k / 9) = k / 9 by omega, hz0, Nat.zero_mul, Nat.add_zero, hy, Int.toNat_natCast, hU, tr_ar (by omega), Nat.div_add_mod] at j4
    rw [hkp, ← j4]
    exact j2
  · have hkp : kp x.toInt = 0 := by unfold kp; omega
    have hl : f_X4_limbAt r1 (f_X4_limbOf x) (srws c r0 w) = 0 := limb_low (by omega)
    rw [setLimb_out (by omega)]
    refine ⟨w, rfl, ?_⟩
    have hUV : U = V := g6 (by omega)
    rw [hkp, ← hUV]; simpa using g4
