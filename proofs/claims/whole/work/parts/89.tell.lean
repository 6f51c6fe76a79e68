/-! digits out of a row -/
def dgt (V N k : Nat) : Nat := V * 10 ^ k / 10 ^ (N - 1) % 10
theorem dgt_lo {V N k : Nat} (h : k < N) : dgt V N k = V / 10 ^ (N - 1 - k) % 10 := by
  unfold dgt
  rw [show N - 1 = (N - 1 - k) + k by omega, Nat.pow_add, Nat.mul_div_mul_right _ _ (Nat.pow_pos (by decide)), show N - 1 - k + k - k = N - 1 - k by omega]
theorem dgt_hi {V N k : Nat} (h : N ≤ k) (hN : 0 < N) : dgt V N k = 0 := by
  unfold dgt
  rw [show k = (k - (N - 1) - 1) + 1 + (N - 1) by omega, Nat.pow_add, ← Nat.mul_assoc, Nat.mul_div_cancel _ (Nat.pow_pos (by decide)), Nat.pow_succ, ← Nat.mul_assoc, Nat.mul_mod_left]
theorem dgt_0 {N k : Nat} : dgt 0 N k = 0 := by unfold dgt; rw [Nat.zero_mul, Nat.zero_div]
theorem dgt_lt (V N k : Nat) : dgt V N k < 10 := Nat.mod_lt _ (by decide)
theorem dgt_mul {V N j k : Nat} (hN : 0 < N) : dgt (V * 10 ^ j) (N + j) k = dgt V N k := by
  unfold dgt
  rw [show N + j - 1 = (N - 1) + j by omega, Nat.pow_add, Nat.mul_right_comm, Nat.mul_div_mul_right _ _ (Nat.pow_pos (by decide))]
theorem i2by_s {x : Int32} (h0 : 0 ≤ x.toInt) (h1 : x.toInt < 128) : i2by x = x := by
  unfold i2by
  rw [ieq, Int8.toInt_toInt32, Int32.toInt_toInt8]
  exact Int.bmod_eq_of_le (by omega) (by omega)
theorem nby_s {x : Int32} (h0 : 0 ≤ x.toInt) (h1 : x.toInt < 128) : nby x = x := by rw [nby_eq, i2by_s h0 h1, i2by_s h0 h1]
theorem B9 (a : Nat) : 1000000000 ^ a = 10 ^ (9 * a) := by rw [Nat.pow_mul]
theorem first_dn {w : RWs} {V N : Nat} {s : Bool} (h : RIs w V s) (hN : Dn V N) : w.2.1.toInt = 155 - (((N - 1) / 9 : Nat) : Int) := by
  have hV := dn_pos hN
  have hlimb := fun i (hi : i < 156) => h.limb hi
  have htop := fun i (hi : i < 156) hz => h.top (i := i) hi hz
  obtain ⟨a1, a2, a3, a4, a5⟩ := h
  rcases a3 with ⟨b1, b2, b3, b4, b5⟩ | ⟨b1, b2⟩
  · obtain ⟨F, hF⟩ : ∃ F : Nat, w.2.1.toInt = F := ⟨w.2.1.toInt.toNat, by omega⟩
    rw [hF, Int.toNat_natCast] at b4
    have hl := hlimb F (by omega)
    have ht := htop F (by omega) (fun k hk => a2 k (by omega) (by omega))
    have hg0 : gd V (155 - F) ≠ 0 := fun q => b4 (by rw [ieq, hl, q]; rfl)
    have hg1 := gd_lt V (155 - F)
    have h1 : 10 ^ (9 * (155 - F)) ≤ V := by
      rw [← B9]
      rcases Nat.lt_or_ge V (1000000000 ^ (155 - F)) with q | q
      · rw [Nat.div_eq_of_lt q] at ht; exact absurd ht.symm hg0
      · exact q
    have h2 : V < 10 ^ (9 * (155 - F) + 9) := by
      rw [Nat.pow_add, ← B9, Nat.mul_comm]
      exact (Nat.div_lt_iff_lt_mul (Nat.pow_pos (by decide))).mp (by rw [ht]; exact hg1)
    have h3 : 9 * (155 - F) < N := (Nat.pow_lt_pow_iff_right (a := 10) (by decide)).mp (Nat.lt_of_le_of_lt h1 hN.2.2)
    have h4 : N - 1 < 9 * (155 - F) + 9 := (Nat.pow_lt_pow_iff_right (a := 10) (by decide)).mp (Nat.lt_of_le_of_lt hN.2.1 h2)
    rw [hF]
    clear h1 h2 hl ht hg0 hg1 hlimb htop hN a4
    omega
  · exfalso
    refine hV ?_
    rw [← a4]
    exact rv_zero (fun k hk => a2 k hk (by omega))
theorem rws_sdcD {c : CS} {v : Nat → Int32} {r : Nat} : rws (sdcD c v) r = rws c r := rfl
theorem dcD_sdcD {c : CS} {v : Nat → Int32} : dcD (sdcD c v) = v := rfl
theorem sdcD_sdcD {c : CS} {v w : Nat → Int32} : sdcD (sdcD c v) w = sdcD c w := rfl
theorem sdcD_self (c : CS) : sdcD c (dcD c) = c := rfl
theorem dig_step {r : Nat} {c : CS} {n k : Nat} {x2 x3 x4 x5 : Int32} {d t : Nat} (hx2 : x2 = nI n) (hn : n ≤ 1420) (hk : k < n) (ht : t < 9) (h5 : x5.toInt = ((10 ^ t : Nat) : Int)) {L : Nat} (h4 : x4.toInt = (L : Int)) (hd : L / 10 ^ t % 10 = d) : ∃ D : Int32, D.toInt = (d : Int) ∧ f_X4_giveDigits_L26 r x2 x3 x4 x5 (nI k) c = (if t = 0 then some (.inl (x3 + 1, f_X4_limbAt r (x3 + 1) c, 100000000, nI (k + 1), sdcD c (upd (dcD c) k D))) else some (.inl (x3, x4, x5 / 10, nI (k + 1), sdcD c (upd (dcD c) k D)))) := by
  have e1420 : (1420 : Int32).toInt = 1420 := by decide
  have k10 : (10 : Int32).toInt = ((10 : Nat) : Int) := by decide
  have hi : (nI k).toInt = k := nI_toInt (by omega)
  have hp : 0 < 10 ^ t := Nat.pow_pos (by decide)
  have hdd := irm_n (idv_n h4 h5) k10
  rw [hd] at hdd
  have hd10 : d < 10 := by rw [← hd]; exact Nat.mod_lt _ (by decide)
  refine ⟨irm (x4 / x5) 10, hdd, ?_⟩
  have hnb : vp_nar .byte (i2by (irm (x4 / x5) 10)) = irm (x4 / x5) 10 := nby_s (by omega) (by omega)
  have h10 := idv_n h5 k10
  unfold f_X4_giveDigits_L26
  rw [hx2, if_neg (by rw [cle2 (by omega) (by omega)]; omega), if_neg (by rw [ile, hi, e1420]; omega), if_neg (by rw [ile, h5, k0]; omega), if_pos (fun q => by rw [ieq, h5, k0] at q; omega), if_pos ((vIn (by omega)).mpr (by omega)), nI_clamp (show k < 2 ^ 31 by omega), hnb]
  simp only [lt]
  rw [nI_inc (by omega)]
  by_cases h0 : t = 0
  · rw [if_pos h0, if_pos (by rw [ieq, h10, h0, k0])]
    rfl
  · rw [if_neg h0, if_neg (fun q => by
      rw [ieq, h10, k0] at q
      obtain ⟨u, rfl⟩ : ∃ u, t = u + 1 := ⟨t - 1, by omega⟩
      rw [Nat.pow_succ, Nat.mul_div_cancel _ (by decide)] at q
      have : 0 < 10 ^ u := Nat.pow_pos (by decide)
      omega)]
def GIv (c : CS) (r V N n : Nat) (q : Nat) (a : Int32 × Int32 × Int32 × Int32 × CS) : Prop := ∃ (k t L : Nat) (A : Int) (D : Nat → Int32), a.2.2.2.1 = nI k ∧ k + q = n ∧ a.2.2.2.2 = sdcD c D ∧ t < 9 ∧ (N : Int) - 1 - k = 9 * A + t ∧ a.1.toInt = 155 - A ∧ a.2.1.toInt = (L : Int) ∧ (0 ≤ A → L = gd V A.toNat) ∧ (A < 0 → L = 0) ∧ a.2.2.1.toInt = ((10 ^ t : Nat) : Int) ∧ ∀ i, i < k → (D i).toInt = ((dgt V N i : Nat) : Int)
theorem give_step {c : CS} {r V N n : Nat} {s : Bool} (h : RIs (rws c r) V s) (hN : 0 < N) (hN2 : N ≤ 1404) (hn : n ≤ 1420) (q : Nat) (a : Int32 × Int32 × Int32 × Int32 × CS) (hI : GIv c r V N n q a) : (∃ z, f_X4_giveDigits_L26 r (nI n) a.1 a.2.1 a.2.2.1 a.2.2.2.1 a.2.2.2.2 = some (.inr z) ∧ ∃ D, z = sdcD c D ∧ ∀ i, i < n → (D i).toInt = ((dgt V N i : Nat) : Int)) ∨ ∃ a' q', f_X4_giveDigits_L26 r (nI n) a.1 a.2.1 a.2.2.1 a.2.2.2.1 a.2.2.2.2 = some (.inl a') ∧ q' < q ∧ GIv c r V N n q' a' := by
  obtain ⟨x3, x4, x5, x6, c'⟩ := a
  obtain ⟨k, t, L, A, D, h1, h2, h3, h4, h5, h6, h7, h8, h9, h10, h11⟩ := hI
  change x6 = _ at h1
  change c' = _ at h3
  change x3.toInt = _ at h6
  change x4.toInt = _ at h7
  change x5.toInt = _ at h10
  subst h1 h3
  have one : (1 : Int32).toInt = 1 := by decide
  show (∃ z, f_X4_giveDigits_L26 r (nI n) x3 x4 x5 (nI k) (sdcD c D) = some (.inr z) ∧ _) ∨ ∃ a' q', f_X4_giveDigits_L26 r (nI n) x3 x4 x5 (nI k) (sdcD c D) = some (.inl a') ∧ _
  by_cases hk : k = n
  · refine .inl ⟨sdcD c D, ?_, D, rfl, fun i hi => h11 i (by omega)⟩
    unfold f_X4_giveDigits_L26
    rw [if_pos ((cle2 (by omega) (by omega)).mpr (by omega))]
  · have hd : L / 10 ^ t % 10 = dgt V N k := by
      by_cases hA : 0 ≤ A
      · rw [h8 hA, gd_dig h4, dgt_lo (by omega)]
        congr 3
        omega
      · rw [h9 (by omega), dgt_hi (by omega) hN, Nat.zero_div]
    obtain ⟨E, e1, e2⟩ := dig_step (r := r) (c := sdcD c D) (x3 := x3) rfl hn (show k < n by omega) h4 h10 h7 hd
    rw [dcD_sdcD, sdcD_sdcD] at e2
    have hD : ∀ i, i < k + 1 → (upd D k E i).toInt = ((dgt V N i : Nat) : Int) := by
      intro i hi
      by_cases hik : i = k
      · rw [hik, upd_eq]; exact e1
      · rw [upd_ne hik]; exact h11 i (by omega)
    by_cases h0 : t = 0
    · rw [if_pos h0] at e2
      have hx3 : (x3 + 1).toInt = 155 - (A - 1) := by rw [ia (by omega) (by omega), h6, one]; omega
      have hlim : (f_X4_limbAt r (x3 + 1) (sdcD c D)).toInt = ((if 0 ≤ A - 1 then gd V (A - 1).toNat else 0 : Nat) : Int) := by
        by_cases hA : 0 ≤ A - 1
        · rw [if_pos hA]
          exact limb_k (c := sdcD c D) (r := r) (k := (A - 1).toNat) (by rw [rws_sdcD]; exact h) (by omega)
        · rw [if_neg hA, limb_low (by omega)]; rfl
      refine .inr ⟨_, q - 1, e2, by omega, k + 1, 8, _, A - 1, upd D k E, rfl, by omega, rfl, by omega, by omega, hx3, hlim, fun hA => if_pos hA, fun hA => if_neg (by omega), (by show (100000000 : Int32).toInt = _; decide), hD⟩
    · rw [if_neg h0] at e2
      have k10 : (10 : Int32).toInt = ((10 : Nat) : Int) := by decide
      have ht := idv_n h10 k10
      obtain ⟨u, rfl⟩ : ∃ u, t = u + 1 := ⟨t - 1, by omega⟩
      rw [Nat.pow_succ, Nat.mul_div_cancel _ (by decide)] at ht
      exact .inr ⟨_, q - 1, e2, by omega, k + 1, u, L, A, upd D k E, rfl, by omega, rfl, by omega, by omega, h6, h7, h8, h9, ht, hD⟩
def GZv (c : CS) (n : Nat) (q : Nat) (a : Int32 × Int32 × Int32 × Int32 × CS) : Prop := ∃ (k t : Nat) (D : Nat → Int32), a.2.2.2.1 = nI k ∧ k + q = n ∧ a.2.2.2.2 = sdcD c D ∧ t < 9 ∧ 156 ≤ a.1.toInt ∧ a.1.toInt ≤ 156 + k ∧ a.2.1 = 0 ∧ a.2.2.1.toInt = ((10 ^ t : Nat) : Int) ∧ ∀ i, i < k → (D i).toInt = 0
theorem zero_step {c : CS} {r n : Nat} (hn : n ≤ 1420) (q : Nat) (a : Int32 × Int32 × Int32 × Int32 × CS) (hI : GZv c n q a) : (∃ z, f_X4_giveDigits_L26 r (nI n) a.1 a.2.1 a.2.2.1 a.2.2.2.1 a.2.2.2.2 = some (.inr z) ∧ ∃ D, z = sdcD c D ∧ ∀ i, i < n → (D i).toInt = 0) ∨ ∃ a' q', f_X4_giveDigits_L26 r (nI n) a.1 a.2.1 a.2.2.1 a.2.2.2.1 a.2.2.2.2 = some (.inl a') ∧ q' < q ∧ GZv c n q' a' := by
  obtain ⟨x3, x4, x5, x6, c'⟩ := a
  obtain ⟨k, t, D, h1, h2, h3, h4, h5, h6, h7, h8, h9⟩ := hI
  change x6 = _ at h1
  change c' = _ at h3
  change 156 ≤ x3.toInt at h5
  change x3.toInt ≤ _ at h6
  change x4 = _ at h7
  change x5.toInt = _ at h8
  subst h1 h3 h7
  have one : (1 : Int32).toInt = 1 := by decide
  show (∃ z, f_X4_giveDigits_L26 r (nI n) x3 0 x5 (nI k) (sdcD c D) = some (.inr z) ∧ _) ∨ ∃ a' q', f_X4_giveDigits_L26 r (nI n) x3 0 x5 (nI k) (sdcD c D) = some (.inl a') ∧ _
  by_cases hk : k = n
  · refine .inl ⟨sdcD c D, ?_, D, rfl, fun i hi => h9 i (by omega)⟩
    unfold f_X4_giveDigits_L26
    rw [if_pos ((cle2 (by omega) (by omega)).mpr (by omega))]
  · obtain ⟨E, e1, e2⟩ := dig_step (r := r) (c := sdcD c D) (x3 := x3) (x4 := 0) (L := 0) (d := 0) rfl hn (show k < n by omega) h4 h8 (by decide) (by rw [Nat.zero_div])
    rw [dcD_sdcD, sdcD_sdcD] at e2
    have hD : ∀ i, i < k + 1 → (upd D k E i).toInt = 0 := by
      intro i hi
      by_cases hik : i = k
      · rw [hik, upd_eq]; exact e1
      · rw [upd_ne hik]; exact h9 i (by omega)
    have hx3 : (x3 + 1).toInt = x3.toInt + 1 := by rw [ia (by omega) (by omega), one]
    by_cases h0 : t = 0
    · rw [if_pos h0, limb_low (by omega)] at e2
      exact .inr ⟨_, q - 1, e2, by omega, k + 1, 8, upd D k E, rfl, by omega, rfl, by omega, (by show 156 ≤ (x3 + 1).toInt; omega), (by show (x3 + 1).toInt ≤ _; omega), rfl, (by show (100000000 : Int32).toInt = _; decide), hD⟩
    · rw [if_neg h0] at e2
      have k10 : (10 : Int32).toInt = ((10 : Nat) : Int) := by decide
      have ht := idv_n h8 k10
      obtain ⟨u, rfl⟩ : ∃ u, t = u + 1 := ⟨t - 1, by omega⟩
      rw [Nat.pow_succ, Nat.mul_div_cancel _ (by decide)] at ht
      exact .inr ⟨_, q - 1, e2, by omega, k + 1, u, upd D k E, rfl, by omega, rfl, by omega, h5, (by show x3.toInt ≤ _; omega), rfl, ht, hD⟩
/-- so many digits as a row tells: N of V, or 1 of 0 -/
def Dq (V N : Nat) : Prop := Dn V N ∨ (V = 0 ∧ N = 1081)
theorem point_q {c : CS} {r V N : Nat} {s : Bool} (h : RIs (rws c r) V s) (hN : Dq V N) : ∃ x : Int32, f_X4_point r c = some x ∧ x.toInt = (N : Int) - 1080 ∧ N ≤ 1404 ∧ 0 < N := by
  rcases hN with hN | ⟨rfl, rfl⟩
  · obtain ⟨x, n, p1, p2, p3, p4⟩ := point_spec h (dn_pos hN)
    have := dn_uniq p3 hN
    subst this
    exact ⟨x, p1, p2, p4, hN.1⟩
  · exact ⟨1, point_zero h, by decide, by decide, by decide⟩
theorem give_spec {c : CS} {r V N n : Nat} {s : Bool} (h : RIs (rws c r) V s) (hN : Dq V N) (hn : n ≤ 1420) : ∃ D, f_X4_giveDigits r (nI n) c = some (sdcD c D) ∧ ∀ i, i < n → (D i).toInt = ((dgt V N i : Nat) : Int) := by
  obtain ⟨x, p1, p2, p3, p4⟩ := point_q h hN
  have one : (1 : Int32).toInt = 1 := by decide
  have hx1 : (x - 1).toInt = (N : Int) - 1081 := by rw [is_ (by omega) (by omega), p2, one]; omega
  have ht := tenOf_i (x := x - 1)
  rw [hx1] at ht
  unfold f_X4_giveDigits
  simp only [lt]
  rw [p1]; simp only [Option.bind]
  rcases hN with hN | ⟨rfl, rfl⟩
  · have hF : (rwF c r).toInt = 155 - (((N - 1) / 9 : Nat) : Int) := first_dn h hN
    have hl := limb_k (k := (N - 1) / 9) h hF
    rw [show (((N : Int) - 1081) % 9).toNat = (N - 1) % 9 by omega] at ht
    obtain ⟨b, g1, D, rfl, g2⟩ := Lp_inv (F := fun a => f_X4_giveDigits_L26 r (nI n) a.1 a.2.1 a.2.2.1 a.2.2.2.1 a.2.2.2.2) (GIv c r V N n) _ (fun q a hI => give_step h p4 p3 hn q a hI) n (rwF c r, f_X4_limbAt r (rwF c r) c, f_X4_tenOf (x - 1), 0, c) ⟨0, (N - 1) % 9, gd V ((N - 1) / 9), (((N - 1) / 9 : Nat) : Int), dcD c, rfl, by omega, rfl, by omega, by omega, hF, hl, fun _ => by rw [Int.toNat_natCast], fun hA => by omega, ht, fun i hi => by omega⟩
    rw [g1]
    exact ⟨D, rfl, g2⟩
  · have hF : (rwF c r).toInt = 156 := by
      obtain ⟨a1, a2, a3, a4, a5⟩ := h
      rcases a3 with ⟨b1, b2, b3, b4, b5⟩ | ⟨b1, b2⟩
      · exfalso
        have hl := rv_ge a1 (i := (rws c r).2.1.toInt.toNat) (by omega)
        rw [a4] at hl
        have hpw : 0 < 1000000000 ^ (155 - (rws c r).2.1.toInt.toNat) := Nat.pow_pos (by decide)
        have hz : dg (rws c r).1 (rws c r).2.1.toInt.toNat = 0 := by
          rcases Nat.eq_zero_or_pos (dg (rws c r).1 (rws c r).2.1.toInt.toNat) with q | q
          · exact q
          · have := Nat.mul_pos q hpw; omega
        have hr := a1 (rws c r).2.1.toInt.toNat (by omega)
        unfold dg at hz
        exact b4 (by rw [ieq, k0]; omega)
      · exact b1
    have hl : f_X4_limbAt r (rwF c r) c = 0 := limb_low (by omega)
    rw [show ((((1081 : Nat) : Int) - 1081) % 9).toNat = 0 by decide] at ht
    obtain ⟨b, g1, D, rfl, g2⟩ := Lp_inv (F := fun a => f_X4_giveDigits_L26 r (nI n) a.1 a.2.1 a.2.2.1 a.2.2.2.1 a.2.2.2.2) (GZv c n) _ (fun q a hI => zero_step (r := r) hn q a hI) n (rwF c r, f_X4_limbAt r (rwF c r) c, f_X4_tenOf (x - 1), 0, c) ⟨0, 0, dcD c, rfl, by omega, rfl, by omega, (by show 156 ≤ (rwF c r).toInt; omega), (by show (rwF c r).toInt ≤ _; omega), hl, ht, fun i hi => by omega⟩
    rw [g1]
    refine ⟨D, rfl, fun i hi => ?_⟩
    rw [g2 i hi, dgt_0]; rfl
