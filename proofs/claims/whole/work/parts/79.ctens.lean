/-! the class: addDigit, roundTens -/
def Rw (w : RWs) : Prop := ∃ V s, RIs w V s
theorem addDigit_spec {c : CS} {r V k d : Nat} {s : Bool} (h : RIs (rws c r) V s) (hV : V < 10 ^ k) (hk : k < 1404) {x1 x2 : Int32} (hx1 : x1.toInt = d) (hd : d < 10) (hx2 : x2.toInt = (k : Int) - 1080) : ∃ w, f_X4_addDigit r x1 x2 c = srws c r w ∧ RIs w (V + d * 10 ^ k) s := by
  obtain ⟨a, t, hat, ht⟩ : ∃ a t, k = 9 * a + t ∧ t < 9 := ⟨k / 9, k % 9, by omega, by omega⟩
  have hten := tenOf_i (x := x2)
  rw [show (x2.toInt % 9).toNat = t by omega] at hten
  have hl := limbOf_i (x := x2) (by omega) (by omega)
  have hl2 : (f_X4_limbOf x2).toInt = ((155 - a : Nat) : Int) := by omega
  have hm := limb_k (k := a) h (x := f_X4_limbOf x2) (by omega)
  have hg : gd V a < 10 ^ t := by
    refine Nat.lt_of_le_of_lt (Nat.mod_le _ _) ?_
    rw [Nat.div_lt_iff_lt_mul (Nat.pow_pos (by decide)), Nat.mul_comm, ← p9, ← hat]
    exact hV
  have h8 : 10 ^ t ≤ 10 ^ 8 := Nat.pow_le_pow_right (by decide) (by omega)
  have hdt : d * 10 ^ t ≤ 9 * 10 ^ t := Nat.mul_le_mul_right _ (by omega)
  have ey1 : (x1 * f_X4_tenOf x2).toInt = ((d * 10 ^ t : Nat) : Int) := by
    rw [im (by rw [hx1, hten, ← i64pos]; omega) (by rw [hx1, hten, ← i64pos]; omega), hx1, hten, ← i64pos]
  have ey : (f_X4_limbAt r (f_X4_limbOf x2) c + x1 * f_X4_tenOf x2).toInt = ((gd V a + d * 10 ^ t : Nat) : Int) := by
    rw [ia (by rw [hm, ey1]; omega) (by rw [hm, ey1]; omega), hm, ey1]; omega
  have e156 : (156 : Int32).toInt = 156 := by decide
  unfold f_X4_addDigit
  simp only [lt]
  generalize f_X4_limbAt r (f_X4_limbOf x2) c + x1 * f_X4_tenOf x2 = y at ey ⊢
  obtain ⟨w, s1, s2, s3, s4⟩ := setLimb_ris (i := 155 - a) h (x := f_X4_limbOf x2) (y := y) hl2 (by omega) (by omega) (by omega) (fun hy => by
    rw [hy, k0] at ey
    rw [ieq, h.limb (by omega), show 155 - (155 - a) = a by omega, k0]
    omega)
  rw [show 155 - (155 - a) = a by omega, ey, Int.toNat_natCast, Nat.add_mul] at s4
  refine ⟨w, ?_, ?_⟩
  · unfold f_X4_placeLimb f_X4_placeLimb_J16
    rw [if_pos (by rw [ilt, hl2, e156]; omega)]
    exact s1
  · have : rv w.1 = V + d * 10 ^ k := by
      rw [hat, p9, Nat.mul_comm (1000000000 ^ a), ← Nat.mul_assoc]
      omega
    rw [this] at s2
    exact s2
theorem ldv10 {x : Int64} {n : Nat} (hx : x.toInt = -(n : Int)) : (x / 10).toInt = -((n / 10 : Nat) : Int) := by
  have e : (10 : Int64).toInt = 10 := by decide
  have h1 := r64 x
  have h2 : x.toInt.tdiv 10 = -((n / 10 : Nat) : Int) := by
    rw [hx, Int.neg_tdiv, Int.tdiv_eq_ediv_of_nonneg (by omega)]; rfl
  rw [Int64.toInt_div, e, h2]
  exact bm64 (by omega) (by omega)
theorem lrm10 {x : Int64} {n : Nat} (hx : x.toInt = -(n : Int)) : (-(lrm x 10)).toInt32.toInt = ((n % 10 : Nat) : Int) := by
  have e : (10 : Int64).toInt = 10 := by decide
  have h1 : (lrm x 10).toInt = -((n % 10 : Nat) : Int) := by
    rw [lrm_eq, e, hx, Int.neg_tmod, Int.tmod_eq_emod_of_nonneg (by omega)]; rfl
  have h2 : (-(lrm x 10)).toInt = ((n % 10 : Nat) : Int) := by rw [lneg (by omega), h1]; omega
  rw [li (by omega) (by omega), h2]
theorem digitsOf_spec {x : Int64} {N : Nat} (hx : x.toInt = -(N : Int)) (hN : N ≠ 0) : ∃ b D, f_X6_digitsOf x = some b ∧ b.toInt = (D : Nat) ∧ Dn N D ∧ D ≤ 19 := by
  have hr := r64 x
  have e0 : (0 : Int64).toInt = 0 := by decide
  have e19 : (19 : Int32).toInt = 19 := by decide
  have one : (1 : Int32).toInt = 1 := by decide
  have hN19 : N < 10 ^ 19 := by have : (10 : Nat) ^ 19 = 10000000000000000000 := by decide
                                omega
  obtain ⟨b, g1, D, g2, g3, g4⟩ := Lp_inv (F := fun a => f_X6_digitsOf_L4 a.1 a.2) (fun n a => ∃ i : Nat, a.1.toInt = i ∧ a.2.toInt = -((N / 10 ^ i : Nat) : Int) ∧ i + n = 19 ∧ (i = 0 ∨ 10 ^ (i - 1) ≤ N)) (fun b => ∃ D : Nat, b.toInt = D ∧ Dn N D ∧ D ≤ 19) (by
    rintro n ⟨x2, x3⟩ ⟨i, h1, h2, h3, h4⟩
    change x2.toInt = _ at h1
    change x3.toInt = _ at h2
    show (∃ b, f_X6_digitsOf_L4 x2 x3 = _ ∧ _) ∨ ∃ a' n', f_X6_digitsOf_L4 x2 x3 = _ ∧ _
    unfold f_X6_digitsOf_L4
    have hi0 : N / 10 ^ i = 0 → i ≠ 0 := fun h q => by rw [q, Nat.pow_zero, Nat.div_one] at h; exact hN h
    by_cases hz : N / 10 ^ i = 0
    · rw [if_pos (by rw [leq, h2, e0]; omega)]
      have := hi0 hz
      exact .inl ⟨_, rfl, i, h1, ⟨by omega, h4.resolve_left this, dz (Nat.pow_pos (by decide)) hz⟩, by omega⟩
    · rw [if_neg (by rw [leq, h2, e0]; omega)]
      by_cases h19 : i = 19
      · exfalso
        rw [h19, Nat.div_eq_of_lt hN19] at hz
        exact hz rfl
      · rw [if_neg (by rw [ile, h1, e19]; omega)]
        refine .inr ⟨_, n - 1, rfl, by omega, i + 1, ?_, ?_, by omega, .inr ?_⟩
        · show (x2 + 1).toInt = _
          rw [ia (by omega) (by omega), h1, one]; omega
        · show (x3 / 10).toInt = _
          rw [ldv10 h2, Nat.div_div_eq_div_mul, Nat.pow_succ]
        · rw [Nat.add_sub_cancel]
          rcases Nat.lt_or_ge N (10 ^ i) with q | q
          · rw [Nat.div_eq_of_lt q] at hz; exact absurd rfl hz
          · exact q) 19 (0, x) ⟨0, (by show (0 : Int32).toInt = _; decide), by rw [Nat.pow_zero, Nat.div_one]; exact hx, by omega, .inl rfl⟩
  refine ⟨b, D, ?_, g2, g3, g4⟩
  unfold f_X6_digitsOf
  rw [g1]; rfl
theorem mod10s {N i : Nat} : N % 10 ^ (i + 1) = N % 10 ^ i + N / 10 ^ i % 10 * 10 ^ i := by rw [Nat.mod_pow_succ, Nat.mul_comm (10 ^ i)]
theorem tens_loop {c : CS} {N D K : Nat} {E : Int} (hK : (K : Int) = E + 1080) (hD : D ≤ 19) (hND : N < 10 ^ D) (hKD : K + D < 1404) {f : Nat} {x2 : Int64} {x4 x5 x8 : Int32} (hx4 : x4.toInt = E) (hx8 : x8.toInt = D) {x6 : Int64} (hx6 : x6.toInt = -(N : Int)) {l : Nat → Int32} (hl : ∀ k, k < 156 → l k = 0) : ∃ b, Lp (fun a => f_X6_roundTens_L73 f x2 x4 x5 a.1 x8 a.2.1 a.2.2) (x6, 0, srws c 0 (l, 156, -1, 0)) = some b ∧ ∃ w, b = srws c 0 w ∧ RIs w (N * 10 ^ K) false := by
  have one : (1 : Int32).toInt = 1 := by decide
  refine Lp_inv (F := fun a => f_X6_roundTens_L73 f x2 x4 x5 a.1 x8 a.2.1 a.2.2) (fun n a => ∃ (i : Nat) (w : RWs), a.1.toInt = -((N / 10 ^ i : Nat) : Int) ∧ a.2.1.toInt = i ∧ i + n = D ∧ a.2.2 = srws c 0 w ∧ RIs w (N % 10 ^ i * 10 ^ K) false) _ ?_ D (x6, 0, srws c 0 (l, 156, -1, 0)) ⟨0, (l, 156, -1, 0), by rw [Nat.pow_zero, Nat.div_one]; exact hx6, (by show (0 : Int32).toInt = _; decide), by omega, rfl, by rw [Nat.pow_zero, Nat.mod_one, Nat.zero_mul]; exact zero_ris hl⟩
  rintro n ⟨y6, y9, c'⟩ ⟨i, w, h1, h2, h3, h4, h5⟩
  change y6.toInt = _ at h1
  change y9.toInt = _ at h2
  change c' = _ at h4
  subst h4
  show (∃ b, f_X6_roundTens_L73 f x2 x4 x5 y6 x8 y9 (srws c 0 w) = _ ∧ _) ∨ ∃ a' n', f_X6_roundTens_L73 f x2 x4 x5 y6 x8 y9 (srws c 0 w) = _ ∧ _
  unfold f_X6_roundTens_L73
  by_cases hi : i = D
  · rw [if_pos (by rw [ile, hx8, h2]; omega)]
    refine .inl ⟨_, rfl, w, rfl, ?_⟩
    rw [hi, Nat.mod_eq_of_lt hND] at h5
    exact h5
  · rw [if_neg (by rw [ile, hx8, h2]; omega)]
    have hd := lrm10 h1
    have hp : (x4 + y9).toInt = ((K + i : Nat) : Int) - 1080 := by rw [ia (by omega) (by omega), hx4, h2]; omega
    have hV : N % 10 ^ i * 10 ^ K < 10 ^ (K + i) := by
      rw [Nat.add_comm, Nat.pow_add]
      exact Nat.mul_lt_mul_of_pos_right (Nat.mod_lt _ (Nat.pow_pos (by decide))) (Nat.pow_pos (by decide))
    obtain ⟨w', s1, s2⟩ := addDigit_spec (c := srws c 0 w) (r := 0) (k := K + i) (d := N / 10 ^ i % 10) (by rw [rws_same]; exact h5) hV (by omega) hd (Nat.mod_lt _ (by decide)) hp
    rw [srws_srws] at s1
    simp only [lt]
    rw [s1]
    refine .inr ⟨_, n - 1, rfl, by omega, i + 1, w', ?_, ?_, by omega, rfl, ?_⟩
    · show (y6 / 10).toInt = _
      rw [ldv10 h1, Nat.div_div_eq_div_mul, Nat.pow_succ]
    · show (y9 + 1).toInt = _
      rw [ia (by omega) (by omega), h2, one]; omega
    · rw [mod10s, Nat.add_mul, Nat.mul_assoc (N / 10 ^ i % 10), ← Nat.pow_add, Nat.add_comm i K]
      exact s2
theorem fl_tens {N K : Nat} {E : Int} (hK : (K : Int) = E + 1080) : Fl (N * tp E * GG) (tp (-E)) (N * 10 ^ K) false := by
  have e : N * 10 ^ K * tp (-E) = N * tp E * GG := by
    rw [GG_eq]
    unfold tp
    rw [Nat.mul_assoc, Nat.mul_assoc, ← Nat.pow_add, ← Nat.pow_add]
    congr 2
    omega
  have hp := tp_pos (-E)
  refine ⟨by rw [e]; exact Nat.le_refl _, by rw [Nat.add_mul, e]; omega, by simp [e]⟩
theorem dn_mul {N D K : Nat} (h : Dn N D) : Dn (N * 10 ^ K) (D + K) := by
  obtain ⟨h1, h2, h3⟩ := h
  refine ⟨by omega, ?_, ?_⟩
  · rw [show D + K - 1 = D - 1 + K by omega, Nat.pow_add]; exact Nat.mul_le_mul_right _ h2
  · rw [Nat.pow_add]; exact Nat.mul_lt_mul_of_pos_right h3 (Nat.pow_pos (by decide))
theorem dn_pos {N D : Nat} (h : Dn N D) : N ≠ 0 := by
  have := h.2.1
  have : 0 < 10 ^ (D - 1) := Nat.pow_pos (by decide)
  omega
theorem cs_srws {c : CS} {r f : Nat} {w : RWs} {neg : Bool} {v : Nat × Nat} : Cs (srws c r w) f neg v = srws (Cs c f neg v) r w := rfl
theorem ctens49 {c : CS} {f way N D : Nat} {E : Int} {neg : Bool} (hf : f < 4) (hw : way < 5) (hr : Rw (rws c 0)) {x2 : Int64} (hneg : (0 ≤ x2) = (neg = false)) {x4 x8 : Int32} (hx4 : x4.toInt = E) (hE1 : -5000 ≤ E) (hE2 : E ≤ 5000) (hx8 : x8.toInt = D) {x6 : Int64} (hx6 : x6.toInt = -(N : Int)) (hdn : Dn N D) (hD : D ≤ 19) : ∃ w r, f_X6_roundTens_J49 f x2 x4 (Int32.ofNat way) x6 x8 (nb neg) f c = some (Cs (srws c 0 w) f neg r) ∧ Rw w ∧ RT f neg way (N * tp E) (tp (-E)) r := by
  have hP : (x8 + x4).toInt = (D : Int) + E := by rw [ia (by omega) (by omega), hx8, hx4]
  unfold f_X6_roundTens_J49
  rw [far_spec hf hw hP]
  simp only [Option.bind]
  by_cases h1 : (D : Int) + E ≤ 310
  · rw [if_pos h1]
    by_cases h2 : -330 ≤ (D : Int) + E
    · rw [if_pos h2]
      simp only [if_true]
      obtain ⟨V0, s0, hr0⟩ := hr
      obtain ⟨l, g1, g2⟩ := empty_spec hr0
      rw [g1]; simp only
      obtain ⟨K, hK⟩ : ∃ K : Nat, (K : Int) = E + 1080 := ⟨(E + 1080).toNat, by omega⟩
      obtain ⟨b, k1, w, rfl, k2⟩ := tens_loop (c := c) (N := N) (D := D) (K := K) (E := E) (f := f) (x2 := x2) (x4 := x4) (x5 := Int32.ofNat way) (x8 := x8) (x6 := x6) (l := l) hK hD hdn.2.2 (by omega) hx4 hx8 hx6 g2
      rw [k1]; simp only
      have hgo : (if 0 ≤ x2 then f_X6_roundTens_J131 (Int32.ofNat way) 0 f 0 (srws c 0 w) else f_X6_roundTens_J131 (Int32.ofNat way) 1 f 0 (srws c 0 w)) = f_X6_roundTens_J131 (Int32.ofNat way) (nb neg) f 0 (srws c 0 w) := by
        simp only [hneg]
        cases neg <;> simp [nb]
      rw [hgo]
      unfold f_X6_roundTens_J131
      obtain ⟨w', V', s', q, hh, e, j1, j2, j3⟩ := rrow_spec (c := srws c 0 w) (r := 0) (n := D + K) (neg := neg) (A := N * tp E) (B := tp (-E)) hf hw (by rw [rws_same]; exact k2) (dn_pos (dn_mul hdn)) (dn_mul hdn) (by omega) (by omega) (fl_tens hK)
      rw [srws_srws] at j1
      rw [j1]; simp only [Option.bind]
      exact ⟨w', _, rfl, ⟨V', s', j2⟩, .inr (.inr ⟨q, hh, e, j3, rfl⟩)⟩
    · rw [if_neg h2]
      refine ⟨rws c 0, _, by rw [srws_self]; rfl, hr, .inr (.inl ⟨far_lo hdn (by omega), rfl⟩)⟩
  · rw [if_neg h1]
    refine ⟨rws c 0, _, by rw [srws_self]; rfl, hr, .inl ⟨far_hi hdn (by omega), rfl⟩⟩
theorem ctens_spec {c : CS} {f way : Nat} {E : Int} (hf : f < 4) (hw : way < 5) (hr : Rw (rws c 0)) {x2 : Int64} {x4 : Int32} (hx4 : x4.toInt = E) (hE1 : -5000 ≤ E) (hE2 : E ≤ 5000) : ∃ w r, f_X6_roundTens f x2 x4 (Int32.ofNat way) c = some (Cs (srws c 0 w) f (decide (x2.toInt < 0)) r) ∧ Rw w ∧ ((x2.toInt.natAbs = 0 ∧ r = (0, 0)) ∨ (x2.toInt.natAbs ≠ 0 ∧ RT f (decide (x2.toInt < 0)) way (x2.toInt.natAbs * tp E) (tp (-E)) r)) := by
  have e0 : (0 : Int64).toInt = 0 := by decide
  have hr2 := r64 x2
  unfold f_X6_roundTens
  by_cases h0 : x2 = 0
  · rw [if_pos h0]
    have hx : x2.toInt = 0 := by rw [h0]; exact e0
    refine ⟨rws c 0, (0, 0), ?_, hr, .inl ⟨by omega, rfl⟩⟩
    rw [srws_self, hx]
    rfl
  · rw [if_neg h0]
    have hx0 : x2.toInt ≠ 0 := fun h => h0 (by rw [leq, h, e0])
    have hN : x2.toInt.natAbs ≠ 0 := by omega
    have hneg : (0 ≤ x2) = (decide (x2.toInt < 0) = false) := by
      rw [lle, e0]; simp
    obtain ⟨s0, hs0, hgo⟩ : ∃ s0 : Int64, s0.toInt = -((x2.toInt.natAbs : Nat) : Int) ∧ (if 0 ≤ x2 then f_X6_roundTens_J27 f x2 x4 (Int32.ofNat way) (-x2) c else f_X6_roundTens_J27 f x2 x4 (Int32.ofNat way) x2 c) = f_X6_roundTens_J27 f x2 x4 (Int32.ofNat way) s0 c := by
      by_cases h1 : 0 ≤ x2
      · refine ⟨-x2, ?_, if_pos h1⟩
        rw [lle, e0] at h1
        rw [lneg (by omega)]; omega
      · refine ⟨x2, ?_, if_neg h1⟩
        rw [lle, e0] at h1
        omega
    rw [hgo]
    unfold f_X6_roundTens_J27
    obtain ⟨b, D, g1, g2, g3, g4⟩ := digitsOf_spec hs0 hN
    rw [g1]; simp only [Option.bind]
    have hgo2 : (if 0 ≤ x2 then f_X6_roundTens_J49 f x2 x4 (Int32.ofNat way) s0 b 0 f c else f_X6_roundTens_J49 f x2 x4 (Int32.ofNat way) s0 b 1 f c) = f_X6_roundTens_J49 f x2 x4 (Int32.ofNat way) s0 b (nb (decide (x2.toInt < 0))) f c := by
      simp only [hneg]
      cases decide (x2.toInt < 0) <;> simp [nb]
    rw [hgo2]
    obtain ⟨w, r, k1, k2, k3⟩ := ctens49 (c := c) (neg := decide (x2.toInt < 0)) (x2 := x2) hf hw hr hneg hx4 hE1 hE2 g2 hs0 g3 g4
    exact ⟨w, r, k1, k2, .inr ⟨hN, k3⟩⟩
