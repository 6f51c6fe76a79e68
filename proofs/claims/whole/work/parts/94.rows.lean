/-! a row and what is spelt -/
theorem v_sp {V w : Nat} {u : Int} (h : V * p2 (-u) = w * GG * p2 u) (hu : -1080 ≤ u) : V = spA w u * 10 ^ (1080 - (-u).toNat) := by
  refine Nat.eq_of_mul_eq_mul_right (p2_pos (-u)) ?_
  rw [h, GG_eq]
  unfold spA p2
  have e : (10 : Nat) ^ 1080 = 5 ^ (-u).toNat * (10 ^ (1080 - (-u).toNat) * 2 ^ (-u).toNat) := by
    rw [Nat.mul_comm (10 ^ (1080 - (-u).toNat)), ← Nat.mul_assoc, ← Nat.mul_pow, ← Nat.pow_add, show (-u).toNat + (1080 - (-u).toNat) = 1080 by omega]
  rw [e]
  simp only [Nat.mul_assoc, Nat.mul_left_comm, Nat.mul_comm]
theorem zn_mul {A z j : Nat} (h : Zn A z) : Zn (A * 10 ^ j) (z + j) := by
  obtain ⟨h1, h2⟩ := h
  refine ⟨?_, ?_⟩
  · rw [Nat.pow_add, Nat.mul_mod_mul_right, h1, Nat.zero_mul]
  · rw [Nat.pow_add, Nat.mul_div_mul_right _ _ (Nat.pow_pos (by decide))]; exact h2
theorem zn_uniq {V z z' : Nat} (h : Zn V z) (h' : Zn V z') : z = z' := by
  have a := fun k => zn_lt (k := k) h
  have b := fun k => zn_lt (k := k) h'
  rcases Nat.lt_trichotomy z z' with q | q | q
  · have h1 := a (z + 1)
    have h2 := b (z + 1)
    rw [← h2] at h1
    have : z < z + 1 := by omega
    rw [h1] at this
    omega
  · exact q
  · have h1 := a (z' + 1)
    have h2 := b (z' + 1)
    rw [← h2] at h1
    have : z' < z' + 1 := by omega
    rw [← h1] at this
    omega
theorem sig_o {c : CS} {r V N z : Nat} {s : Bool} (h : RIs (rws c r) V s) (hN : Dn V N) (hz : Zn V z) (hzN : z < N) : f_X4_significant r c = some (nI (N - z)) := by
  obtain ⟨x, n', p1, p2, p3, p4⟩ := point_spec h (dn_pos hN)
  obtain rfl := dn_uniq p3 hN
  obtain ⟨y, z', q1, q2, q3, q4⟩ := low_spec h (dn_pos hN)
  obtain rfl := zn_uniq q3 hz
  unfold f_X4_significant
  rw [if_pos ((ris_emp h).mpr (dn_pos hN)), p1]; simp only [Option.bind]
  rw [q1]; simp only
  congr 1
  exact nIeq (by rw [is_ (by omega) (by omega), p2, q2]; omega) (by omega)
theorem sig_0 {c : CS} {r : Nat} {s : Bool} (h : RIs (rws c r) 0 s) : f_X4_significant r c = some 1 := by
  unfold f_X4_significant
  rw [if_neg (fun q => ((ris_emp h).mp q) rfl)]
theorem c754 : 10 ^ 754 ≤ 5 ^ 1080 := by decide +kernel
theorem v_ge {V w : Nat} {u : Int} (h : V * p2 (-u) = w * GG * p2 u) (hu : -1080 ≤ u) (hw : 0 < w) : 10 ^ 754 ≤ V := by
  refine Nat.le_trans c754 ?_
  refine Nat.le_of_mul_le_mul_right (c := 2 ^ 1080) ?_ (pp2 _)
  rw [← Nat.mul_pow]
  have h1 : V * p2 (-u) ≤ V * 2 ^ 1080 := Nat.mul_le_mul_left _ (pw_le (by omega))
  refine Nat.le_trans ?_ h1
  rw [h, GG_eq, Nat.mul_assoc, Nat.mul_left_comm]
  exact Nat.le_mul_of_pos_right _ (Nat.mul_pos hw (p2_pos _))
theorem v_lt {V w : Nat} {u : Int} (h : V * p2 (-u) = w * GG * p2 u) (hf : w * p2 u < 10 ^ 309) : V < 10 ^ 1389 := by
  have h1 : V * 1 ≤ V * p2 (-u) := Nat.mul_le_mul_left _ (p2_pos _)
  have h2 : w * GG * p2 u < 10 ^ 309 * 10 ^ 1080 := by
    rw [GG_eq, Nat.mul_right_comm]
    exact Nat.mul_lt_mul_of_pos_right hf (Nat.pow_pos (by decide))
  rw [← Nat.pow_add] at h2
  rw [Nat.mul_one] at h1
  exact Nat.lt_of_le_of_lt h1 (h ▸ h2)
/-- what class and reference hold of one number -/
theorem row_sp {V w n z : Nat} {u : Int} (h : V * p2 (-u) = w * GG * p2 u) (hu : -1080 ≤ u) (hw : 0 < w) (hf : w * p2 u < 10 ^ 309) (hn : Dn (spA w u) n) (hz : Zn (spA w u) z) (hzn : z < n) : ∃ N Z, Dn V N ∧ Zn V Z ∧ Z < N ∧ 755 ≤ N ∧ N ≤ 1389 ∧ N - Z = n - z ∧ (N : Int) - 1080 = (n : Int) - ((-u).toNat : Int) ∧ (∀ i, dgt V N i = dgt (spA w u) n i) ∧ ∀ j, j ≤ N → V / 10 ^ (N - j) = Tj (spA w u) n j := by
  have hV := v_sp h hu
  have h1 := v_ge h hu hw
  have h2 := v_lt h hf
  have hN : Dn V (n + (1080 - (-u).toNat)) := by rw [hV]; exact dn_mul hn
  have hn0 := hn.1
  have b1 : 754 < n + (1080 - (-u).toNat) := (Nat.pow_lt_pow_iff_right (a := 10) (by decide)).mp (Nat.lt_of_le_of_lt h1 hN.2.2)
  have b2 : n + (1080 - (-u).toNat) - 1 < 1389 := (Nat.pow_lt_pow_iff_right (a := 10) (by decide)).mp (Nat.lt_of_le_of_lt hN.2.1 h2)
  clear h1 h2
  refine ⟨n + (1080 - (-u).toNat), z + (1080 - (-u).toNat), hN, by rw [hV]; exact zn_mul hz, by omega, by omega, by omega, by omega, by omega, fun i => by rw [hV]; exact dgt_mul hn0, fun j hj => ?_⟩
  rw [hV]
  unfold Tj
  generalize spA w u = A
  generalize 1080 - (-u).toNat = K at *
  have e1 : A * 10 ^ K / 10 ^ (n + K - j) = A * 10 ^ K * 10 ^ j / (10 ^ (n + K - j) * 10 ^ j) := (Nat.mul_div_mul_right _ _ (Nat.pow_pos (by decide))).symm
  rw [e1, ← Nat.pow_add, show n + K - j + j = n + K by omega, Nat.pow_add, Nat.mul_right_comm, Nat.mul_div_mul_right _ _ (Nat.pow_pos (by decide))]
/-! rounding at a place -/
theorem up_0 {way v : Nat} {neg : Bool} : upw way neg (2 * v) false = false := by
  have e : 2 * v % 2 = 0 := by omega
  unfold upw
  rw [e]; simp
theorem rst_pos {V k : Nat} (h : rst V k ≠ 0) : 0 < k := by
  rcases Nat.eq_zero_or_pos k with q | q
  · rw [q, rst0] at h; exact absurd rfl h
  · exact q
def upV (way : Nat) (neg : Bool) (V k : Nat) : Bool := upw way neg (2 * (V / 10 ^ k) + rst V k / 2) (decide (rst V k % 2 = 1))
theorem upV_0 {way V k : Nat} {neg : Bool} (h : rst V k = 0) : upV way neg V k = false := by
  unfold upV
  rw [h]
  exact up_0
theorem par10 (x : Nat) : x % 10 % 2 = x % 2 := by omega
theorem roundAt_o {c : CS} {V V3 way : Nat} {s s3 neg : Bool} (h : RIs (rws c 0) V s) (h3 : RIs (rws c 3) V3 s3) (hV : V < 10 ^ 1400) (hw : way < 5) {x : Int32} (hx1 : -5000 ≤ x.toInt) (hx2 : x.toInt ≤ 310) : ∃ w, f_X6_roundAt x (nb neg) (Int32.ofNat way) c = some (srws c 3 w) ∧ RIs w ((V / 10 ^ kp x.toInt + ubi (upV way neg V (kp x.toInt))) * 10 ^ kp x.toInt) false := by
  obtain ⟨w, t1, t2⟩ := take_spec (c := c) (r0 := 3) (r1 := 0) (by decide) h h3 hx1 (by omega)
  have h0 : RIs (rws (srws c 3 w) 0) V s := by rw [rws_ne (by decide)]; exact h
  have hrest := rest_spec (c := srws c 3 w) (r := 0) h0 hx1 (by omega)
  have two : (2 : Int32).toInt = ((2 : Nat) : Int) := by decide
  have hr4 := rst_lt V (kp x.toInt)
  unfold f_X6_roundAt
  rw [t1]; simp only [Option.bind]
  have key : ∀ s0 v, s0 = Int32.ofNat (v % 2) → (rst V (kp x.toInt) = 0 ∨ v % 2 = V / 10 ^ kp x.toInt % 2) → ∃ w', f_X6_roundAt_J30 x (nb neg) (Int32.ofNat way) s0 (srws c 3 w) = some (srws c 3 w') ∧ RIs w' ((V / 10 ^ kp x.toInt + ubi (upV way neg V (kp x.toInt))) * 10 ^ kp x.toInt) false := by
    intro s0 v hs0 hv
    have hg : f_X6_goesUp (Int32.ofNat way) (nb neg) s0 (Int32.ofNat (rst V (kp x.toInt))) = nb (upV way neg V (kp x.toInt)) := by
      rw [hs0]
      rcases hv with hv | hv
      · rw [goes_up hw hr4, upV_0 hv, hv]
        show nb (upw way neg (2 * v) false) = _
        rw [up_0]
      · rw [hv, goes_up hw hr4]; rfl
    unfold f_X6_roundAt_J30
    rw [hrest]; simp only [Option.bind]
    rw [hg]
    cases hu : upV way neg V (kp x.toInt)
    · rw [if_pos (show nb false = 0 from rfl)]
      exact ⟨w, rfl, t2⟩
    · rw [if_neg (show ¬ nb true = 0 by decide)]
      have hk0 : 0 < kp x.toInt := rst_pos (fun q => by rw [upV_0 q] at hu; cases hu)
      have hkx : x.toInt = (kp x.toInt : Int) - 1080 := by unfold kp at hk0 ⊢; omega
      have hk14 : kp x.toInt ≤ 1390 := by unfold kp; omega
      have hfit : V / 10 ^ kp x.toInt * 10 ^ kp x.toInt + 10 ^ kp x.toInt < 1000000000 ^ 156 := by
        have a1 : V / 10 ^ kp x.toInt * 10 ^ kp x.toInt ≤ V := Nat.div_mul_le_self _ _
        have a2 : 10 ^ kp x.toInt ≤ 10 ^ 1400 := Nat.pow_le_pow_right (by decide) (by omega)
        have a3 : 10 ^ 1400 + 10 ^ 1400 ≤ 1000000000 ^ 156 := by decide +kernel
        exact Nat.lt_of_lt_of_le (Nat.add_lt_add_of_lt_of_le (Nat.lt_of_le_of_lt a1 hV) a2) a3
      obtain ⟨w', k1, k2⟩ := add_spec (c := srws c 3 w) (r := 3) (by rw [rws_same]; exact t2) hkx (by omega) hfit
      rw [srws_srws] at k1
      rw [k1]
      refine ⟨w', rfl, ?_⟩
      rw [Nat.add_mul]
      show RIs w' (_ + 1 * 10 ^ kp x.toInt) false
      rw [Nat.one_mul]
      exact k2
  by_cases hlow : x.toInt < -1080
  · rw [digit_low hlow (by omega)]
    have e : irm (0 : Int32) 2 = 0 := by decide
    rw [if_pos e]
    exact key 0 0 rfl (.inl (by rw [show kp x.toInt = 0 by unfold kp; omega]; exact rst0))
  · have hd := digit_spec (c := srws c 3 w) (r := 0) (k := kp x.toInt) h0 (x := x) (by unfold kp; omega) (by unfold kp; omega)
    have hi := irm_n hd two
    rw [par10] at hi
    by_cases he : V / 10 ^ kp x.toInt % 2 = 0
    · rw [if_pos (by rw [ieq, hi, he]; rfl)]
      exact key 0 0 rfl (.inr he.symm)
    · rw [if_neg (by rw [ieq, hi, k0]; omega)]
      exact key 1 1 rfl (.inr (by omega))
/-! halves, as the reference tells them -/
def hcode (r : Nat) : Int32 := if r = 0 then -2 else if r = 1 then -1 else if r = 2 then 0 else 1
theorem m_goes {way v r : Nat} {neg : Bool} (hw : way < 5) (hr : r < 4) {s1 : Int32} (hs : r = 0 ∨ s1 = Int32.ofNat (v % 2)) : f_X7_goesUp (hcode r) s1 (nb neg) (Int32.ofNat way) = nb (upw way neg (2 * v + r / 2) (decide (r % 2 = 1))) := by
  have hw' : way = 0 ∨ way = 1 ∨ way = 2 ∨ way = 3 ∨ way = 4 := by omega
  rcases Nat.eq_zero_or_pos r with h0 | h0
  · subst h0
    show f_X7_goesUp (-2) s1 (nb neg) (Int32.ofNat way) = nb (upw way neg (2 * v) false)
    rw [up_0]
    unfold f_X7_goesUp
    rw [if_pos rfl]; rfl
  · rw [hs.resolve_left (by omega)]
    have hr' : r = 1 ∨ r = 2 ∨ r = 3 := by omega
    have hv : v % 2 = 0 ∨ v % 2 = 1 := by omega
    have e0 : (2 * v + 0) % 2 = 0 := by omega
    have e1 : (2 * v + 1) % 2 = 1 := by omega
    have e2 : (2 * v + 1) / 2 = v := by omega
    have e3 : (2 * v + 0) / 2 = v := by omega
    rcases hr' with rfl | rfl | rfl <;> simp only [Nat.reduceDiv] <;> unfold upw <;> simp only [e0, e1, e2, e3] <;> rcases hv with hv | hv <;> rw [hv] <;> rcases hw' with rfl | rfl | rfl | rfl | rfl <;> cases neg <;> decide
theorem bh_spec {m : MS} {A n z V N Z j : Nat} {P : Int} (hS : Sp m A n z P) (hN : Dn V N) (hZ : Zn V Z) (hZN : Z < N) (hNZ : N - Z = n - z) (hd : ∀ i, dgt V N i = dgt A n i) (hj : j < 100000) : f_X7_behindHalf (nI j) m = some (hcode (rst V (N - j))) := by
  obtain ⟨s1, s2, s3, s4, s5, s6, s7⟩ := hS
  have e5 : (5 : Int32).toInt = 5 := by decide
  unfold f_X7_behindHalf
  rw [s5]
  have hzk := fun k => zn_lt (k := k) hZ
  by_cases h1 : j < n - z
  · rw [if_pos ((clt2 (by omega) (by omega)).mpr h1), if_pos ((vIn (by omega)).mpr (by show j < 1600; omega)), nI_clamp (show j < 2 ^ 31 by omega)]
    simp only [lt]
    have hdig : (mA m 6 j).toInt = ((V / 10 ^ (N - j - 1) % 10 : Nat) : Int) := by
      rw [s7 j (by omega), ← hd, dgt_lo (by omega), show N - 1 - j = N - j - 1 by omega]
    have hrs := rst_succ (V := V) (k := N - j - 1)
    rw [show N - j - 1 + 1 = N - j by omega] at hrs
    have hne : V % 10 ^ (N - j) ≠ 0 := (hzk (N - j)).mp (by omega)
    have hone : (nI (n - z) ≤ nI j + 1) = (V % 10 ^ (N - j - 1) = 0) := by
      rw [nI_inc (by omega), cle2 (by omega) (by omega)]
      have := hzk (N - j - 1)
      by_cases hc : Z < N - j - 1
      · have := this.mp hc
        simp only [eq_iff_iff]
        constructor
        · intro h; omega
        · intro h; exact absurd h this
      · have h2 : V % 10 ^ (N - j - 1) = 0 := by
          rcases Nat.eq_zero_or_pos (V % 10 ^ (N - j - 1)) with q | q
          · exact q
          · exact absurd (this.mpr (by omega)) hc
        simp only [eq_iff_iff]
        constructor
        · intro _; exact h2
        · intro _; omega
    have hmod : V % 10 ^ (N - j) = V % 10 ^ (N - j - 1) + V / 10 ^ (N - j - 1) % 10 * 10 ^ (N - j - 1) := by
      have := mod10s (N := V) (i := N - j - 1)
      rw [show N - j - 1 + 1 = N - j by omega] at this
      exact this
    rw [hrs]
    generalize V / 10 ^ (N - j - 1) % 10 = D at *
    generalize V % 10 ^ (N - j - 1) = R at *
    simp only [hone]
    by_cases h5 : D = 5
    · rw [if_pos (by rw [ieq, hdig, e5]; omega), if_neg (show ¬ 5 < D by omega), if_pos h5]
      by_cases hR : R = 0
      · rw [if_pos hR, if_pos hR]; rfl
      · rw [if_neg hR, if_neg hR]; rfl
    · rw [if_neg (by rw [ieq, hdig, e5]; omega)]
      by_cases h6 : 5 < D
      · rw [if_pos (by rw [ile, hdig, e5]; omega), if_pos h6]; rfl
      · rw [if_neg (by rw [ile, hdig, e5]; omega), if_neg h6, if_neg h5]
        by_cases h7 : 0 < D
        · rw [if_pos h7]; rfl
        · rw [if_neg h7, if_neg (fun q => by
            have : D = 0 := by omega
            rw [hmod, q, this, Nat.zero_mul] at hne
            exact hne rfl)]
          rfl
  · rw [if_neg (fun h => h1 ((clt2 (by omega) (by omega)).mp h))]
    have hz0 : V % 10 ^ (N - j) = 0 := by
      rcases Nat.eq_zero_or_pos (V % 10 ^ (N - j)) with q | q
      · exact q
      · have := (hzk (N - j)).mpr (by omega); omega
    have : rst V (N - j) = 0 := by
      unfold rst hb eb
      rw [hz0]
      have hp : 0 < 10 ^ (N - j) := Nat.pow_pos (by decide)
      rw [if_neg (by omega)]
      simp [ubi]
    rw [this]; rfl
