/-! the reference's roundDecimal and roundBinary -/
theorem rd_round {f way A B : Nat} {neg : Bool} (hf : f < 4) (hw : way < 5) {m0 m : MS} (h : Fr [3, 4, 5] [11] [2] m0 m) (ha : W30 (mA m 3)) (hb' : W30 (mA m 4)) (hA : vl (mA m 3) = A) (hB : vl (mA m 4) = B) (hA0 : 0 < A) (hB0 : 0 < B) (hAf : A * 2 ^ 1074 < B320) (hBf : B * 2 ^ 60 < B320) : ∃ m' r, f_X7_round (Int32.ofNat f) (nb neg) (Int32.ofNat way) m = some m' ∧ Rd m0 m' f neg r ∧ RV f neg way A B r := by
  obtain ⟨u3, u4, u5, q, hh, e, g1, g2⟩ := round_spec (neg := neg) hf hw ha hb' hA hB hA0 hB0 hAf hBf
  refine ⟨_, _, g1, rs_rd ?_, q, hh, e, g2, rfl⟩
  exact h.trans ((Fr.sA (by decide)).trans ((Fr.sA (by decide)).trans (Fr.sA (by decide))))
theorem nI_inj {a b : Nat} (ha : a < 2147483648) (hb : b < 2147483648) : (nI a = nI b) = (a = b) := by
  rw [ieq, nI_toInt ha, nI_toInt hb]; simp only [eq_iff_iff]; omega
theorem rd_lead {m : MS} {R : Nat} {d : Nat → Nat} (hR : mI m 10 = nI R) (hR2 : R ≤ 1600) (hd : ∀ k, k < R → (mA m 7 k).toInt = (d k : Int) ∧ d k < 10) {x1 x2 x3 x4 : Int32} : ∃ b, Lp (fun a => f_X7_roundDecimal_L3 x1 x2 x3 x4 a m) 0 = some b ∧ ∃ k, b = nI k ∧ k ≤ R ∧ (∀ i, i < k → d i = 0) ∧ (k < R → d k ≠ 0) := by
  refine Lp_inv (F := fun a => f_X7_roundDecimal_L3 x1 x2 x3 x4 a m) (fun n a => ∃ k, a = nI k ∧ k + n = R ∧ ∀ i, i < k → d i = 0) _ ?_ R 0 ⟨0, rfl, by omega, fun i hi => by omega⟩
  rintro n _ ⟨k, rfl, hn, hz⟩
  show (∃ b, f_X7_roundDecimal_L3 x1 x2 x3 x4 (nI k) m = _ ∧ _) ∨ ∃ a' n', f_X7_roundDecimal_L3 x1 x2 x3 x4 (nI k) m = _ ∧ _
  unfold f_X7_roundDecimal_L3
  rw [hR]
  by_cases h0 : k = R
  · rw [if_pos ((cle2 (by omega) (by omega)).mpr (by omega))]
    exact .inl ⟨_, rfl, k, rfl, by omega, hz, fun h => by omega⟩
  · rw [if_neg (fun h => by have := (cle2 (by omega) (by omega)).mp h; omega), if_pos ((vIn (by omega)).mpr (by show k < 1600; omega)), nI_clamp (show k < 2 ^ 31 by omega)]
    have hk := hd k (by omega)
    by_cases h1 : mA m 7 k = 0
    · rw [if_pos h1]
      rw [ieq, hk.1, k0] at h1
      simp only [lt]
      rw [nI_inc (by omega)]
      refine .inr ⟨_, n - 1, rfl, by omega, k + 1, rfl, by omega, fun i hi => ?_⟩
      by_cases h2 : i = k
      · rw [h2]; omega
      · exact hz i (by omega)
    · rw [if_neg h1]
      rw [ieq, hk.1, k0] at h1
      exact .inl ⟨_, rfl, k, rfl, by omega, hz, fun _ h => by omega⟩
theorem c_fit : 10 ^ 1600 * 2 ^ 1074 < 2 ^ 9600 := by decide +kernel
theorem c_fit2 : 10 ^ 1960 * 2 ^ 60 < 2 ^ 9600 := by decide +kernel
theorem fitA {A n : Nat} (h : A < 10 ^ n) (hn : n ≤ 1600) : A * 2 ^ 1074 < B320 := by
  have h1 : 10 ^ n ≤ 10 ^ 1600 := Nat.pow_le_pow_right (by decide) hn
  have h2 : A * 2 ^ 1074 ≤ 10 ^ 1600 * 2 ^ 1074 := Nat.mul_le_mul_right _ (Nat.le_trans (Nat.le_of_lt h) h1)
  rw [B320_eq]
  exact Nat.lt_of_le_of_lt h2 c_fit
theorem fitA' {A n : Nat} (h : A < 10 ^ n) (hn : n ≤ 1600) : A < B320 := by
  have h1 := fitA h hn
  have h2 : A * 1 ≤ A * 2 ^ 1074 := Nat.mul_le_mul_left _ (pp2 _)
  omega
theorem fitB {n : Nat} (hn : n ≤ 1960) : 10 ^ n * 2 ^ 60 < B320 := by
  have h1 : 10 ^ n ≤ 10 ^ 1960 := Nat.pow_le_pow_right (by decide) hn
  have h2 : 10 ^ n * 2 ^ 60 ≤ 10 ^ 1960 * 2 ^ 60 := Nat.mul_le_mul_right _ h1
  rw [B320_eq]
  exact Nat.lt_of_le_of_lt h2 c_fit2
theorem fitB' {n : Nat} (hn : n ≤ 1960) : 10 ^ n < B320 := by
  have h1 := fitB hn
  have h2 : 10 ^ n * 1 ≤ 10 ^ n * 2 ^ 60 := Nat.mul_le_mul_left _ (pp2 _)
  omega
theorem yyd {x : Int32} {d : Nat} (h : x.toInt = (d : Int)) : x.toInt.toNat = d := by omega
theorem rd_grow {m : MS} {R k0' : Nat} {d : Nat → Nat} (hR : mI m 10 = nI R) (hR2 : R ≤ 1600) (hd : ∀ k, k < R → (mA m 7 k).toInt = (d k : Int) ∧ d k < 10) {x1 x2 x3 x4 : Int32} (hk0 : k0' ≤ R) (hw : W30 (mA m 3)) (hv : vl (mA m 3) = nv 10 d k0') : ∃ b, Lp (fun a => f_X7_roundDecimal_L145 x1 x2 x3 x4 a.1 a.2) (nI k0', m) = some b ∧ ∃ u, b = smA m 3 u ∧ W30 u ∧ vl u = nv 10 d R := by
  refine Lp_inv (F := fun a => f_X7_roundDecimal_L145 x1 x2 x3 x4 a.1 a.2) (fun n a => ∃ k u, a = (nI k, smA m 3 u) ∧ k + n = R ∧ W30 u ∧ vl u = nv 10 d k) _ ?_ (R - k0') (nI k0', m) ⟨k0', mA m 3, by rw [smA_self], by omega, hw, hv⟩
  rintro n _ ⟨k, u, rfl, hn, hu, hvu⟩
  show (∃ b, f_X7_roundDecimal_L145 x1 x2 x3 x4 (nI k) (smA m 3 u) = _ ∧ _) ∨ ∃ a' n', f_X7_roundDecimal_L145 x1 x2 x3 x4 (nI k) (smA m 3 u) = _ ∧ _
  unfold f_X7_roundDecimal_L145
  rw [mI_smA, hR]
  by_cases h0 : k = R
  · rw [if_pos ((cle2 (by omega) (by omega)).mpr (by omega))]
    exact .inl ⟨_, rfl, u, rfl, hu, by rw [hvu, h0]⟩
  · have hk := hd k (by omega)
    have hlt : nv 10 d k * 10 + d k < 10 ^ (k + 1) := nv_lt (d := d) (n := k + 1) (fun i hi => (hd i (by omega)).2)
    have hfit := fitA' hlt (by omega)
    rw [if_neg (fun h => by have := (cle2 (by omega) (by omega)).mp h; omega), if_pos ((vIn (by omega)).mpr (by show k < 1600; omega)), nI_clamp (show k < 2 ^ 31 by omega), smA_ne (show (7 : Nat) ≠ 3 by decide)]
    obtain ⟨v, g1, g2, g3⟩ := grow_fit (j := 3) rfl (y := 10) (x := mA m 7 k) (m := smA m 3 u) (by decide) (by decide) (by omega) (by omega) (by rw [smA_same]; exact hu) (by rw [smA_same, yy10, yyd hk.1, vl_eq, hvu]; exact hfit)
    rw [smA_same, yy10, yyd hk.1, vl_eq, vl_eq, hvu] at g3
    rw [smA_smA] at g1
    rw [g1]
    simp only [Option.bind, lt]
    rw [nI_inc (by omega)]
    exact .inr ⟨_, n - 1, rfl, by omega, k + 1, v, rfl, by omega, g2, g3⟩
theorem vl_zero {u : Nat → Int32} (h : ∀ i, i < 320 → u i = 0) : vl u = 0 := by
  rw [← vl_eq]; exact pv_zero (fun i hi => dg0 (h i hi))
theorem w30_zero {u : Nat → Int32} (h : ∀ i, i < 320 → u i = 0) : W30 u := fun i hi => by rw [h i hi]; exact ⟨by decide, by decide⟩
theorem one_n : (1 : Int64).toBitVec.toNat = 1 := by decide
theorem set1 {j : Nat} (hj : mLen j = 320) (m : MS) : ∃ v, f_X7_set j 1 m = some (smA m j v) ∧ W30 v ∧ vl v = 1 := by
  obtain ⟨v, h1, h2, h3⟩ := set_spec hj 1 m
  exact ⟨v, h1, h2, by rw [← vl_eq, h3]; exact one_n⟩
theorem val1 {u : Nat → Int32} (h : ∀ i, i < 320 → u i = 0) : W30 (upd u 0 1) ∧ vl (upd u 0 1) = 1 := by
  constructor
  · exact (w30_zero h).upd (by decide) (by decide)
  · rw [← vl_eq, val3 (fun i h3 hi => by rw [upd_ne (by omega)]; exact h i hi)]
    unfold dg
    rw [upd_eq, upd_ne (by decide), upd_ne (by decide), h 1 (by omega), h 2 (by omega)]
    decide
theorem rd_zero {m : MS} {f : Nat} {neg : Bool} (hf : f < 4) : Rd m (smI (smJ m 2 (if nb neg = 0 then 0 else f_X7_signBit (Int32.ofNat f))) 11 0) f neg (0, 0) := by
  have : (if nb neg = 0 then (0 : Int64) else f_X7_signBit (Int32.ofNat f)) = sgn f neg 0 := by
    rw [cm_sb f hf]
    unfold sgn
    cases neg
    · rfl
    · have e : L64 0 ||| f_X2_signBit f = f_X2_signBit f := by
        rw [← Int64.toBitVec_inj]; simp [L64]
      simp only [nb, if_true]
      rw [if_neg (by decide), e]
  rw [this]
  exact rs_rd (r := (0, 0)) (Fr.refl m)
theorem tp_nat {n : Nat} {E : Int} (h : E = n) : tp E = 10 ^ n := by unfold tp; rw [h]; rfl
theorem tp_neg {E : Int} (h : E ≤ 0) : tp E = 1 := by unfold tp; rw [show E.toNat = 0 by omega, Nat.pow_zero]
theorem rdec_spec {f way R : Nat} {neg : Bool} (hf : f < 4) (hw : way < 5) {m : MS} {d : Nat → Nat} {x3 : Int32} {E : Int} (hR : mI m 10 = nI R) (hR2 : R ≤ 1600) (hd : ∀ k, k < R → (mA m 7 k).toInt = (d k : Int) ∧ d k < 10) (hE : x3.toInt = E) (hE1 : -1000000000 ≤ E) (hE2 : E ≤ 1000000000) : ∃ m' r, f_X7_roundDecimal (Int32.ofNat f) (nb neg) x3 (Int32.ofNat way) m = some m' ∧ Rd m m' f neg r ∧ ((nv 10 d R = 0 ∧ r = (0, 0)) ∨ (nv 10 d R ≠ 0 ∧ RT f neg way (nv 10 d R * tp E) (tp (-E)) r)) := by
  obtain ⟨_, g1, k, rfl, hk, hz, hnz⟩ := rd_lead hR hR2 hd (x1 := Int32.ofNat f) (x2 := nb neg) (x3 := x3) (x4 := Int32.ofNat way)
  unfold f_X7_roundDecimal
  rw [g1]; simp only [Option.bind]
  have hkR' : (nI k = nI R) = (k = R) := nI_inj (by omega) (by omega)
  rw [hR]
  by_cases h0 : k = R
  · rw [if_pos (hkR'.mpr h0)]
    have hN : nv 10 d R = 0 := nv_zero (fun i hi => hz i (by omega))
    have := rd_zero (m := m) (neg := neg) hf
    by_cases hn : nb neg = 0
    · rw [if_pos hn] at this ⊢
      exact ⟨_, (0, 0), rfl, this, .inl ⟨hN, rfl⟩⟩
    · rw [if_neg hn] at this ⊢
      exact ⟨_, (0, 0), rfl, this, .inl ⟨hN, rfl⟩⟩
  · rw [if_neg (fun q => h0 (hkR'.mp q))]
    have hkR : k < R := by omega
    have hdn := nv_dn (n := R) (fun i hi => (hd i hi).2) hz hkR (hnz hkR)
    have hN0 : 0 < nv 10 d R := Nat.lt_of_lt_of_le (Nat.pow_pos (by decide)) hdn.2.1
    have hN1 : nv 10 d R ≠ 0 := Nat.ne_of_gt hN0
    have hx6 : (nI R - nI k + x3).toInt = ((R - k : Nat) : Int) + E := by
      rw [nI_sub (by omega) (by omega)]
      have e1 : (nI (R - k)).toInt = ((R - k : Nat) : Int) := nI_toInt (by omega)
      rw [ia (by omega) (by omega), e1, hE]
    have hvk : nv 10 d k = 0 := nv_zero hz
    obtain ⟨v3, z1, z2⟩ := zero_spec (j := 3) rfl m
    obtain ⟨v4, s1, s2, s3⟩ := set1 (j := 4) rfl (smA m 3 v3)
    simp only [lt]
    rw [z1]; simp only
    rw [s1]; simp only
    have e330 : (330 : Int32).toInt = 330 := by decide
    have e360 : (-360 : Int32).toInt = -360 := by decide
    have hFr : Fr [3, 4, 5] [11] [2] m (smA (smA m 3 v3) 4 v4) := (Fr.sA (by decide)).trans (Fr.sA (by decide))
    have q3 : mA (smA (smA m 3 v3) 4 v4) 3 = v3 := by rw [smA_ne (by decide), smA_same]
    have q4 : mA (smA (smA m 3 v3) 4 v4) 4 = v4 := smA_same
    by_cases h1 : ((R - k : Nat) : Int) + E ≤ 330
    · rw [if_pos (by rw [ile, hx6, e330]; exact h1)]
      by_cases h2 : -360 ≤ ((R - k : Nat) : Int) + E
      · rw [if_pos (by rw [ile, hx6, e360]; exact h2)]
        obtain ⟨_, l1, u, rfl, l2, l3⟩ := rd_grow (m := smA (smA m 3 v3) 4 v4) (d := d) (R := R) (k0' := k) (x1 := Int32.ofNat f) (x2 := nb neg) (x3 := x3) (x4 := Int32.ofNat way) hR hR2 (fun i hi => by rw [smA_ne (by decide), smA_ne (by decide)]; exact hd i hi) hk (by rw [q3]; exact w30_zero z2) (by rw [q3, vl_zero z2, hvk])
        rw [l1]; simp only
        have r3 : mA (smA (smA (smA m 3 v3) 4 v4) 3 u) 3 = u := smA_same
        have r4 : mA (smA (smA (smA m 3 v3) 4 v4) 3 u) 4 = v4 := by rw [smA_ne (by decide), q4]
        have hFr2 : Fr [3, 4, 5] [11] [2] m (smA (smA (smA m 3 v3) 4 v4) 3 u) := hFr.trans (Fr.sA (by decide))
        by_cases h3 : E ≤ 0
        · rw [if_pos (by rw [ile, hE, k0]; exact h3)]
          obtain ⟨n, hn⟩ : ∃ n : Nat, -E = n := ⟨(-E).toNat, by omega⟩
          have hx : -x3 = nI n := nIeq (by rw [ineg (by omega), hE]; exact hn) (by omega)
          obtain ⟨w, t1, t2, t3⟩ := tens_spec (j := 4) rfl (n := n) (m := smA (smA (smA m 3 v3) 4 v4) 3 u) (by omega) (by rw [r4]; exact s2) (by rw [r4, vl_eq, s3, Nat.one_mul]; exact fitB' (by omega))
          rw [r4, vl_eq, vl_eq, s3, Nat.one_mul] at t3
          rw [hx, t1]; simp only
          unfold f_X7_roundDecimal_J200
          obtain ⟨m', r, j1, j2, j3⟩ := rd_round (neg := neg) hf hw (m0 := m) (m := smA (smA (smA (smA m 3 v3) 4 v4) 3 u) 4 w) (A := nv 10 d R) (B := 10 ^ n) (hFr2.trans (Fr.sA (by decide))) (by rw [smA_ne (by decide), r3]; exact l2) (by rw [smA_same]; exact t2) (by rw [smA_ne (by decide), r3]; exact l3) (by rw [smA_same]; exact t3) hN0 (Nat.pow_pos (by decide)) (fitA hdn.2.2 (by omega)) (fitB (by omega))
          rw [j1]; simp only [Option.bind]
          refine ⟨m', r, rfl, j2, .inr ⟨hN1, .inr (.inr ?_)⟩⟩
          rw [tp_nat hn, tp_neg h3, Nat.mul_one]
          exact j3
        · rw [if_neg (by rw [ile, hE, k0]; exact h3)]
          obtain ⟨n, hn⟩ : ∃ n : Nat, E = n := ⟨E.toNat, by omega⟩
          have hx : x3 = nI n := nIeq (by rw [hE]; exact hn) (by omega)
          have hb : nv 10 d R * 10 ^ n < 10 ^ (R - k + n) := by
            rw [Nat.pow_add]; exact Nat.mul_lt_mul_of_pos_right hdn.2.2 (Nat.pow_pos (by decide))
          obtain ⟨w, t1, t2, t3⟩ := tens_spec (j := 3) rfl (n := n) (m := smA (smA (smA m 3 v3) 4 v4) 3 u) (by omega) (by rw [r3]; exact l2) (by rw [r3, vl_eq, l3]; exact fitA' hb (by omega))
          rw [r3, vl_eq, vl_eq, l3] at t3
          rw [hx, t1]; simp only
          unfold f_X7_roundDecimal_J200
          obtain ⟨m', r, j1, j2, j3⟩ := rd_round (neg := neg) hf hw (m0 := m) (m := smA (smA (smA (smA m 3 v3) 4 v4) 3 u) 3 w) (A := nv 10 d R * 10 ^ n) (B := 1) (hFr2.trans (Fr.sA (by decide))) (by rw [smA_same]; exact t2) (by rw [smA_ne (by decide), r4]; exact s2) (by rw [smA_same]; exact t3) (by rw [smA_ne (by decide), r4]; exact s3) (Nat.mul_pos hN0 (Nat.pow_pos (by decide))) (by decide) (fitA hb (by omega)) (by have := fitB (n := 0) (by omega); rw [Nat.pow_zero] at this; exact this)
          rw [j1]; simp only [Option.bind]
          refine ⟨m', r, rfl, j2, .inr ⟨hN1, .inr (.inr ?_)⟩⟩
          rw [tp_nat hn, tp_neg (show -E ≤ 0 by omega)]
          exact j3
      · rw [if_neg (by rw [ile, hx6, e360]; exact h2), if_pos (show vI 0 (mLen 3) from ⟨by decide, by decide⟩)]
        obtain ⟨w1, w2⟩ := val1 z2
        obtain ⟨w, t1, t2, t3⟩ := tens_spec (j := 4) rfl (n := 400) (m := smA (smA (smA m 3 v3) 4 v4) 3 (upd v3 0 1)) (by omega) (by rw [smA_ne (by decide), q4]; exact s2) (by rw [smA_ne (by decide), q4, vl_eq, s3, Nat.one_mul]; exact fitB' (by omega))
        rw [smA_ne (by decide), q4, vl_eq, vl_eq, s3, Nat.one_mul] at t3
        have t1' : f_X7_tens 4 400 (smA (smA (smA m 3 v3) 4 v4) 3 (upd (mA (smA (smA m 3 v3) 4 v4) 3) (0 : Int32).toNatClampNeg 1)) = some (smA (smA (smA (smA m 3 v3) 4 v4) 3 (upd v3 0 1)) 4 w) := by rw [q3]; exact t1
        rw [t1']; simp only
        unfold f_X7_roundDecimal_J200
        obtain ⟨m', r, j1, j2, j3⟩ := rd_round (neg := neg) hf hw (m0 := m) (m := smA (smA (smA (smA m 3 v3) 4 v4) 3 (upd v3 0 1)) 4 w) (A := 1) (B := 10 ^ 400) (hFr.trans ((Fr.sA (by decide)).trans (Fr.sA (by decide)))) (by rw [smA_ne (by decide), smA_same]; exact w1) (by rw [smA_same]; exact t2) (by rw [smA_ne (by decide), smA_same]; exact w2) (by rw [smA_same]; exact t3) (by decide) (Nat.pow_pos (by decide)) (fitA (n := 1) (by decide) (by omega)) (fitB (by omega))
        rw [j1]; simp only [Option.bind]
        refine ⟨m', r, rfl, j2, .inr ⟨hN1, .inr (.inl ⟨far_lo hdn (by omega), j3.tiny (by decide) ?_⟩)⟩⟩
        decide +kernel
    · rw [if_neg (by rw [ile, hx6, e330]; exact h1), if_pos (show vI 0 (mLen 3) from ⟨by decide, by decide⟩)]
      obtain ⟨w1, w2⟩ := val1 z2
      have hb : 1 * 10 ^ 330 < 10 ^ 331 := by decide +kernel
      obtain ⟨w, t1, t2, t3⟩ := tens_spec (j := 3) rfl (n := 330) (m := smA (smA (smA m 3 v3) 4 v4) 3 (upd v3 0 1)) (by omega) (by rw [smA_same]; exact w1) (by rw [smA_same, vl_eq, w2]; exact fitA' hb (by omega))
      rw [smA_same, vl_eq, vl_eq, w2] at t3
      have t1' : f_X7_tens 3 330 (smA (smA (smA m 3 v3) 4 v4) 3 (upd (mA (smA (smA m 3 v3) 4 v4) 3) (0 : Int32).toNatClampNeg 1)) = some (smA (smA (smA (smA m 3 v3) 4 v4) 3 (upd v3 0 1)) 3 w) := by rw [q3]; exact t1
      rw [t1']; simp only
      unfold f_X7_roundDecimal_J200
      obtain ⟨m', r, j1, j2, j3⟩ := rd_round (neg := neg) hf hw (m0 := m) (m := smA (smA (smA (smA m 3 v3) 4 v4) 3 (upd v3 0 1)) 3 w) (A := 1 * 10 ^ 330) (B := 1) (hFr.trans ((Fr.sA (by decide)).trans (Fr.sA (by decide)))) (by rw [smA_same]; exact t2) (by rw [smA_ne (by decide), smA_ne (by decide), q4]; exact s2) (by rw [smA_same]; exact t3) (by rw [smA_ne (by decide), smA_ne (by decide), q4]; exact s3) (Nat.mul_pos (by decide) (Nat.pow_pos (by decide))) (by decide) (fitA hb (by omega)) (by have := fitB (n := 0) (by omega); rw [Nat.pow_zero] at this; exact this)
      rw [j1]; simp only [Option.bind]
      refine ⟨m', r, rfl, j2, .inr ⟨hN1, .inl ⟨far_hi hdn (by omega), j3.big ?_⟩⟩⟩
      decide +kernel
