/-! the reference takes digits -/
theorem dgt_zn {A n z k : Nat} (hn : Dn A n) (hz : Zn A z) (hk : n - z ≤ k) : dgt A n k = 0 := by
  by_cases h : k < n
  · rw [dgt_lo h]; exact zn_dig hz (by omega)
  · exact dgt_hi (by omega) hn.1
theorem td15 {m : MS} {A n z : Nat} (hn : Dn A n) (hz : Zn A z) (hn2 : n ≤ 1500) (h8 : mI m 8 = nI (n - z)) (h6 : ∀ i, i < n → (mA m 6 i).toInt = ((dgt A n i : Nat) : Int)) {j : Nat} (hj : j ≤ 1600) {x2 : Int32} : ∃ b, Lp (fun a => f_X7_takeDigits_L15 (nI j) x2 a.1 a.2) (0, m) = some b ∧ ∃ v, b = smA m 2 v ∧ ∀ i, i < j → (v i).toInt = ((dgt A n i : Nat) : Int) := by
  refine Lp_inv (F := fun a => f_X7_takeDigits_L15 (nI j) x2 a.1 a.2) (fun q a => ∃ (k : Nat) (v : Nat → Int32), a = (nI k, smA m 2 v) ∧ k + q = j ∧ ∀ i, i < k → (v i).toInt = ((dgt A n i : Nat) : Int)) _ ?_ j (0, m) ⟨0, mA m 2, by rw [smA_self]; rfl, by omega, fun i hi => by omega⟩
  rintro q _ ⟨k, v, rfl, h1, h2⟩
  show (∃ b, f_X7_takeDigits_L15 (nI j) x2 (nI k) (smA m 2 v) = _ ∧ _) ∨ ∃ a' n', f_X7_takeDigits_L15 (nI j) x2 (nI k) (smA m 2 v) = _ ∧ _
  unfold f_X7_takeDigits_L15
  by_cases hk : k = j
  · rw [if_pos ((cle2 (by omega) (by omega)).mpr (by omega))]
    exact .inl ⟨_, rfl, v, rfl, fun i hi => h2 i (by omega)⟩
  · rw [if_neg (fun h => by have := (cle2 (by omega) (by omega)).mp h; omega), mI_smA, h8]
    have fin : ∀ x : Int32, x.toInt = ((dgt A n k : Nat) : Int) → ∀ i, i < k + 1 → (upd v k x i).toInt = ((dgt A n i : Nat) : Int) := by
      intro x hx i hi
      by_cases hik : i = k
      · rw [hik, upd_eq]; exact hx
      · rw [upd_ne hik]; exact h2 i (by omega)
    by_cases hm : n - z ≤ k
    · rw [if_pos ((cle2 (by omega) (by omega)).mpr hm), if_pos ((vIn (by omega)).mpr (by show k < 1600; omega)), nI_clamp (show k < 2 ^ 31 by omega)]
      simp only [lt, smA_same, smA_smA]
      rw [nI_inc (by omega)]
      exact .inr ⟨_, q - 1, rfl, by omega, k + 1, upd v k 0, rfl, by omega, fin 0 (by rw [dgt_zn hn hz hm]; rfl)⟩
    · rw [if_neg (fun h => hm ((cle2 (by omega) (by omega)).mp h)), if_pos ((vIn (by omega)).mpr (by show k < 1600; omega)), if_pos ((vIn (by omega)).mpr (by show k < 1600; omega)), nI_clamp (show k < 2 ^ 31 by omega)]
      simp only [lt, smA_same, smA_smA]
      rw [nI_inc (by omega), smA_ne (show (6 : Nat) ≠ 2 by decide)]
      exact .inr ⟨_, q - 1, rfl, by omega, k + 1, upd v k (mA m 6 k), rfl, by omega, fin _ (h6 k (by omega))⟩
/-- the first j digits as a number -/
def Tj (A n j : Nat) : Nat := A * 10 ^ j / 10 ^ n
theorem dgt_T {A n j k : Nat} (hn : 0 < n) (hk : k < j) : dgt A n k = dgt (Tj A n j) j k := by
  rw [dgt_lo hk]
  unfold dgt Tj
  rw [Nat.div_div_eq_div_mul, ← Nat.pow_add]
  congr 1
  have e1 : A * 10 ^ j = A * 10 ^ k * 10 ^ (j - k) := by rw [Nat.mul_assoc, ← Nat.pow_add, show k + (j - k) = j by omega]
  have e2 : 10 ^ (n + (j - 1 - k)) = 10 ^ (n - 1) * 10 ^ (j - k) := by rw [← Nat.pow_add, show n - 1 + (j - k) = n + (j - 1 - k) by omega]
  rw [e1, e2, Nat.mul_div_mul_right _ _ (Nat.pow_pos (by decide))]
theorem dn_T {A n j : Nat} (hn : Dn A n) (hj : 0 < j) : Dn (Tj A n j) j := by
  obtain ⟨h1, h2, h3⟩ := hn
  have hp : 0 < 10 ^ n := Nat.pow_pos (by decide)
  refine ⟨hj, ?_, ?_⟩
  · unfold Tj
    rw [Nat.le_div_iff_mul_le hp, ← Nat.pow_add, show j - 1 + n = n - 1 + j by omega, Nat.pow_add]
    exact Nat.mul_le_mul_right _ h2
  · unfold Tj
    rw [Nat.div_lt_iff_lt_mul hp, Nat.mul_comm]
    exact Nat.mul_lt_mul_of_pos_left h3 (Nat.pow_pos (by decide))
theorem nines {T q : Nat} (h : T % 10 ^ q = 10 ^ q - 1) (hd : T / 10 ^ q % 10 = 9) : T % 10 ^ (q + 1) = 10 ^ (q + 1) - 1 := by
  have hp : 0 < 10 ^ q := Nat.pow_pos (by decide)
  rw [mod10s, h, hd, Nat.pow_succ]
  omega
theorem inc_dig {T q i : Nat} (h : T % 10 ^ q = 10 ^ q - 1) (hd : T / 10 ^ q % 10 ≠ 9) : (T + 1) / 10 ^ i % 10 = if i < q then 0 else if i = q then T / 10 ^ q % 10 + 1 else T / 10 ^ i % 10 := by
  have hp : 0 < 10 ^ q := Nat.pow_pos (by decide)
  have h1 := Nat.div_add_mod T (10 ^ q)
  have hT : T + 1 = 10 ^ q * (T / 10 ^ q + 1) := by rw [Nat.mul_add, Nat.mul_one]; omega
  have hq : (T + 1) / 10 ^ q = T / 10 ^ q + 1 := by rw [hT, Nat.mul_div_cancel_left _ hp]
  by_cases c1 : i < q
  · rw [if_pos c1, hT, show q = i + ((q - i - 1) + 1) by omega, Nat.pow_add, Nat.mul_assoc, Nat.mul_div_cancel_left _ (Nat.pow_pos (by decide)), Nat.pow_succ, Nat.mul_right_comm, Nat.mul_mod_left]
  · rw [if_neg c1]
    by_cases c2 : i = q
    · rw [if_pos c2, c2, hq]; omega
    · rw [if_neg c2, show i = q + (1 + (i - q - 1)) by omega, Nat.pow_add, Nat.pow_add, Nat.pow_one, ← Nat.div_div_eq_div_mul, ← Nat.div_div_eq_div_mul, ← Nat.div_div_eq_div_mul (m := T), ← Nat.div_div_eq_div_mul, hq]
      have : (T / 10 ^ q + 1) / 10 = T / 10 ^ q / 10 := by omega
      rw [this]
theorem td59 {m : MS} {T j : Nat} (hj0 : 0 < j) (hj : j ≤ 1600) (hT : Dn T j) (hv : ∀ i, i < j → (mA m 2 i).toInt = ((dgt T j i : Nat) : Int)) : ∃ b, Lp (fun a => f_X7_takeDigits_L59 a.1 a.2) (nI j - 1, m) = some b ∧ ∃ (q : Nat) (v : Nat → Int32), b.2 = smA m 2 v ∧ b.1.toInt = (j : Int) - 1 - q ∧ q ≤ j ∧ T % 10 ^ q = 10 ^ q - 1 ∧ (q < j → T / 10 ^ q % 10 ≠ 9) ∧ ∀ i, i < j → (v i).toInt = if j - q ≤ i then 0 else ((dgt T j i : Nat) : Int) := by
  have one : (1 : Int32).toInt = 1 := by decide
  have e9 : (9 : Int32).toInt = 9 := by decide
  refine Lp_inv (F := fun a => f_X7_takeDigits_L59 a.1 a.2) (fun n a => ∃ (q : Nat) (v : Nat → Int32), a.2 = smA m 2 v ∧ a.1.toInt = (j : Int) - 1 - q ∧ q + n = j ∧ T % 10 ^ q = 10 ^ q - 1 ∧ ∀ i, i < j → (v i).toInt = if j - q ≤ i then 0 else ((dgt T j i : Nat) : Int)) _ ?_ j (nI j - 1, m) ⟨0, mA m 2, by rw [smA_self], ?_, by omega, by rw [Nat.pow_zero, Nat.mod_one], fun i hi => by rw [if_neg (by omega)]; exact hv i hi⟩
  · rintro n ⟨x3, m'⟩ ⟨q, v, h1, h2, h3, h4, h5⟩
    change m' = _ at h1
    change x3.toInt = _ at h2
    subst h1
    show (∃ b, f_X7_takeDigits_L59 x3 (smA m 2 v) = _ ∧ _) ∨ ∃ a' n', f_X7_takeDigits_L59 x3 (smA m 2 v) = _ ∧ _
    unfold f_X7_takeDigits_L59
    by_cases hq : q = j
    · rw [if_pos (by rw [ilt, h2, k0]; omega)]
      exact .inl ⟨_, rfl, q, v, rfl, h2, by omega, h4, fun h => by omega, h5⟩
    · have hvi : vI x3 (mLen 2) := ⟨by omega, by show x3.toInt < 1600; omega⟩
      have hc : x3.toNatClampNeg = j - 1 - q := by rw [cl]; omega
      have hd := h5 (j - 1 - q) (by omega)
      rw [if_neg (by omega), dgt_lo (by omega), show j - 1 - (j - 1 - q) = q by omega] at hd
      rw [if_neg (by rw [ilt, h2, k0]; omega), if_pos hvi, hc, smA_same]
      by_cases h9 : T / 10 ^ q % 10 = 9
      · rw [if_pos (by rw [ieq, hd, e9]; omega), if_pos hvi]
        simp only [lt, smA_smA]
        refine .inr ⟨_, n - 1, rfl, by omega, q + 1, upd v (j - 1 - q) 0, rfl, ?_, by omega, nines h4 h9, fun i hi => ?_⟩
        · show (x3 + -1).toInt = _
          have e1 : (-1 : Int32).toInt = -1 := by decide
          rw [ia (by omega) (by omega), h2, e1]; omega
        · by_cases hi2 : i = j - 1 - q
          · rw [hi2, upd_eq, if_pos (by omega)]; rfl
          · rw [upd_ne hi2, h5 i hi]
            by_cases hi3 : j - q ≤ i
            · rw [if_pos hi3, if_pos (by omega)]
            · rw [if_neg hi3, if_neg (by omega)]
      · rw [if_neg (by rw [ieq, hd, e9]; omega)]
        exact .inl ⟨_, rfl, q, v, rfl, h2, by omega, h4, fun _ => h9, h5⟩
  · show (nI j - 1).toInt = _
    have e1 : (nI j).toInt = j := nI_toInt (by omega)
    rw [is_ (by omega) (by omega), e1, one]; omega
/-- the digits that are taken: those of U, N of them -/
theorem takeDigits_spec {m : MS} {A n z j : Nat} {P : Int} {up : Bool} (hS : Sp m A n z P) (hj0 : 0 < j) (hj : j ≤ 1500) (hP : -100000 ≤ P ∧ P ≤ 100000) : ∃ m' N, f_X7_takeDigits (nI j) (nb up) m = some m' ∧ Fr [2] [3, 4] [] m m' ∧ Dn (Tj A n j + ubi up) N ∧ (N = j ∨ (N = j + 1 ∧ Tj A n j + ubi up = 10 ^ j)) ∧ mI m' 3 = nI j ∧ (mI m' 4).toInt = P + ((N : Int) - j) ∧ ∀ i, i < j → (mA m' 2 i).toInt = ((dgt (Tj A n j + ubi up) N i : Nat) : Int) := by
  obtain ⟨s1, s2, s3, s4, s5, s6, s7⟩ := hS
  have hT := dn_T s1 hj0
  obtain ⟨_, g1, v, rfl, g2⟩ := td15 (m := smI (smI m 3 (nI j)) 4 (mI (smI m 3 (nI j)) 9)) (j := j) (x2 := nb up) s1 s2 s4 (by rw [mI_smI_ne (by decide), mI_smI_ne (by decide)]; exact s5) (fun i hi => by rw [mA_smI, mA_smI]; exact s7 i hi) (by omega)
  have g3 : ∀ i, i < j → (v i).toInt = ((dgt (Tj A n j) j i : Nat) : Int) := fun i hi => by rw [g2 i hi, dgt_T s1.1 hi]
  have hFr : Fr [2] [3, 4] [] m (smA (smI (smI m 3 (nI j)) 4 (mI (smI m 3 (nI j)) 9)) 2 v) := (Fr.sI (by decide)).trans ((Fr.sI (by decide)).trans (Fr.sA (by decide)))
  have e9 : mI (smI m 3 (nI j)) 9 = mI m 9 := mI_smI_ne (by decide)
  unfold f_X7_takeDigits
  simp only [lt]
  rw [g1]; simp only [Option.bind]
  cases up
  · rw [if_pos (show nb false = 0 from rfl)]
    refine ⟨_, j, rfl, hFr, hT, .inl rfl, ?_, ?_, fun i hi => ?_⟩
    · rw [mI_smA, mI_smI_ne (by decide), mI_smI]
    · rw [mI_smA, mI_smI, e9, s6]; omega
    · rw [smA_same]; exact g3 i hi
  · rw [if_neg (show ¬ nb true = 0 by decide)]
    obtain ⟨⟨y, m2⟩, k1, q, w, k2, k3, k4, k5, k6, k7⟩ := td59 (m := smA (smI (smI m 3 (nI j)) 4 (mI (smI m 3 (nI j)) 9)) 2 v) hj0 (by omega) hT (fun i hi => by rw [smA_same]; exact g3 i hi)
    change m2 = _ at k2
    change y.toInt = _ at k3
    subst k2
    rw [smA_smA] at k1
    rw [k1]; simp only
    by_cases hq : q = j
    · rw [if_pos (by rw [ilt, k3, k0]; omega), if_pos (show vI 0 (mLen 2) from ⟨by decide, by decide⟩)]
      have hTn : Tj A n j + ubi true = 10 ^ j := by
        have h1 := hT.2.2
        rw [hq, Nat.mod_eq_of_lt h1] at k5
        have hp : 0 < 10 ^ j := Nat.pow_pos (by decide)
        show Tj A n j + 1 = _
        omega
      refine ⟨_, j + 1, rfl, ?_, ?_, .inr ⟨rfl, hTn⟩, ?_, ?_, fun i hi => ?_⟩
      · exact (Fr.sI (by decide)).trans ((Fr.sI (by decide)).trans ((Fr.sA (by decide)).trans ((Fr.sA (by decide)).trans (Fr.sI (by decide)))))
      · rw [hTn]; exact ⟨by omega, by rw [Nat.add_sub_cancel]; exact Nat.le_refl _, Nat.pow_lt_pow_right (by decide) (by omega)⟩
      · rw [mI_smI_ne (by decide), mI_smA, mI_smA, mI_smI_ne (by decide), mI_smI]
      · have one : (1 : Int32).toInt = 1 := by decide
        rw [mI_smI]
        simp only [mI_smA, mI_smI]
        rw [e9, ia (by omega) (by omega), s6, one]; omega
      · rw [mA_smI, smA_same, smA_same, hTn]
        show (upd w 0 1 i).toInt = _
        have hdg : dgt (10 ^ j) (j + 1) i = if i = 0 then 1 else 0 := by
          unfold dgt
          rw [Nat.add_sub_cancel, Nat.mul_div_cancel_left _ (Nat.pow_pos (by decide))]
          by_cases hi0 : i = 0
          · rw [if_pos hi0, hi0]
          · rw [if_neg hi0, show i = (i - 1) + 1 by omega, Nat.pow_succ, Nat.mul_mod_left]
        rw [hdg]
        by_cases hi0 : i = 0
        · rw [hi0, upd_eq]; decide
        · rw [upd_ne hi0, k7 i hi, if_pos (by omega), if_neg hi0]; rfl
    · have hvi : vI y (mLen 2) := ⟨by omega, by show y.toInt < 1600; omega⟩
      have hc : y.toNatClampNeg = j - 1 - q := by rw [cl]; omega
      rw [if_neg (by rw [ilt, k3, k0]; omega), if_pos hvi, if_pos hvi, hc]
      have hdq : (w (j - 1 - q)).toInt = ((Tj A n j / 10 ^ q % 10 : Nat) : Int) := by
        rw [k7 _ (by omega), if_neg (by omega), dgt_lo (by omega), show j - 1 - (j - 1 - q) = q by omega]
      have hd9 := k6 (by omega)
      have hd10 : Tj A n j / 10 ^ q % 10 < 10 := Nat.mod_lt _ (by decide)
      have hinc := fun i => inc_dig (i := i) k5 hd9
      have hDn : Dn (Tj A n j + ubi true) j := by
        refine ⟨hj0, Nat.le_trans hT.2.1 (Nat.le_add_right _ _), ?_⟩
        show Tj A n j + 1 < 10 ^ j
        rcases Nat.lt_or_ge (Tj A n j + 1) (10 ^ j) with h | h
        · exact h
        · exfalso
          have h1 := hT.2.2
          have h2 : Tj A n j = 10 ^ j - 1 := by omega
          have h3 := hinc q
          rw [if_neg (by omega), if_pos rfl, show Tj A n j + 1 = 10 ^ j by omega, show j = (j - q - 1) + 1 + q by omega, Nat.pow_add, Nat.mul_div_cancel _ (Nat.pow_pos (by decide)), Nat.pow_succ, Nat.mul_mod_left] at h3
          omega
      refine ⟨_, j, rfl, ?_, hDn, .inl rfl, ?_, ?_, fun i hi => ?_⟩
      · have h := hFr.trans ((Fr.sA (v := w) (show 2 ∈ [2] by decide)).trans (Fr.sA (v := upd w (j - 1 - q) (w (j - 1 - q) + 1)) (show 2 ∈ [2] by decide)))
        simpa only [smA_smA, smA_same] using h
      · simp only [mI_smA]; rw [mI_smI_ne (by decide), mI_smI]
      · simp only [mI_smA]; rw [mI_smI, e9, s6]; omega
      · simp only [smA_same]
        have one : (1 : Int32).toInt = 1 := by decide
        rw [dgt_lo hi]
        show _ = (((Tj A n j + 1) / 10 ^ (j - 1 - i) % 10 : Nat) : Int)
        rw [hinc]
        by_cases hi2 : i = j - 1 - q
        · rw [hi2, upd_eq, show j - 1 - (j - 1 - q) = q by omega, if_neg (by omega), if_pos rfl, ia (by omega) (by omega), hdq, one]; omega
        · rw [upd_ne hi2, k7 i hi]
          by_cases hi3 : j - q ≤ i
          · rw [if_pos hi3, if_pos (by omega)]; rfl
          · rw [if_neg hi3, if_neg (by omega), if_neg (by omega), dgt_lo hi]
