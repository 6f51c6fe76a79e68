theorem copy_loop {i j : Nat} (hi : mLen i = 320) (hj : mLen j = 320) (hne : i ≠ j) : ∀ (r k : Nat) (m : MS), k + r = 320 → (∀ q, q < k → mA m j q = mA m i q) → ∃ v, Lp (fun a => f_X7_copyRow_L2 i j a.1 a.2) (nI k, m) = some (smA m j v) ∧ ∀ q, q < 320 → v q = mA m i q := by
  intro r
  induction r with
  | zero =>
    intro k m hk h
    refine ⟨mA m j, ?_, fun q hq => h q (by omega)⟩
    rw [smA_self]
    refine Lp_r ?_
    show f_X7_copyRow_L2 i j (nI k) m = _
    unfold f_X7_copyRow_L2
    rw [if_pos ((cle k320 (by omega)).mpr (by omega))]
  | succ r ih =>
    intro k m hk h
    have hs : f_X7_copyRow_L2 i j (nI k) m = some (.inl (nI (k + 1), smA m j (upd (mA m j) k (mA m i k)))) := by
      unfold f_X7_copyRow_L2
      rw [if_neg (fun h => by have := (cle k320 (by omega)).mp h; omega), if_pos ((vIn (by omega)).mpr (by omega)), if_pos ((vIn (by omega)).mpr (by omega))]
      simp only [lt, nI_1, nI_clamp (show k < 2 ^ 31 by omega)]
    obtain ⟨v, h1, h2⟩ := ih (k + 1) (smA m j (upd (mA m j) k (mA m i k))) (by omega) (fun q hq => by
      rw [smA_same, smA_ne hne]
      by_cases h9 : q = k
      · rw [h9, upd_eq]
      · rw [upd_ne h9]; exact h q (by omega))
    rw [smA_smA] at h1
    rw [smA_ne hne] at h2
    exact ⟨v, (Lp_l (F := fun a => f_X7_copyRow_L2 i j a.1 a.2) (a := (nI k, m)) hs).trans h1, h2⟩
theorem copy_spec {i j : Nat} (hi : mLen i = 320) (hj : mLen j = 320) (hne : i ≠ j) {m : MS} (hw : W30 (mA m i)) : ∃ v, f_X7_copyRow i j m = some (smA m j v) ∧ W30 v ∧ val v = val (mA m i) := by
  obtain ⟨v, h1, h2⟩ := copy_loop hi hj hne 320 0 m (by omega) (fun q hq => by omega)
  refine ⟨v, ?_, fun k hk => by rw [h2 k hk]; exact hw k hk, pv_congr (fun k hk => by unfold dg; rw [h2 k hk])⟩
  unfold f_X7_copyRow
  rw [show ((0 : Int32), m) = (nI 0, m) from rfl, h1]
  rfl
/-! set -/
theorem pv3 {d : Nat → Nat} {B n k : Nat} (hn : n = 3 + k) (h : ∀ i, 3 ≤ i → i < n → d i = 0) : pv B d n = d 0 + d 1 * B + d 2 * B ^ 2 := by
  subst hn
  rw [pv_split 3 k, pv_zero (n := k) (fun i hi => h (3 + i) (by omega) (by omega))]
  simp [pv]
theorem dg0 {f : Nat → Int32} {k : Nat} (h : f k = 0) : dg f k = 0 := by unfold dg; rw [h]; rfl
theorem n320 : (320 : Nat) = 3 + 317 := rfl
theorem val3 {f : Nat → Int32} (h : ∀ i, 3 ≤ i → i < 320 → f i = 0) : val f = dg f 0 + dg f 1 * 1073741824 + dg f 2 * 1073741824 ^ 2 :=
  pv3 (d := dg f) (B := 1073741824) (n := 320) (k := 317) n320 (fun i h3 hi => dg0 (h i h3 hi))
theorem set_spec {j : Nat} (hj : mLen j = 320) (x : Int64) (m : MS) : ∃ v, f_X7_set j x m = some (smA m j v) ∧ W30 v ∧ val v = x.toBitVec.toNat := by
  obtain ⟨v, h1, h2⟩ := zero_spec hj m
  have hx := u64 x
  have n1 := jushr_nat (x := x) (y := 30) (k := 30) rfl (by omega)
  have n2 := jushr_nat (x := x) (y := 60) (k := 60) rfl (by omega)
  have u1 := u64 (jushr x 30)
  have u2 := u64 (jushr x 60)
  have a0 := am30 x
  have a1 := am30 (jushr x 30)
  have e0 : (x &&& 1073741823).toInt32.toInt = (x.toBitVec.toNat % 1073741824 : Nat) := by
    rw [li (by omega) (by omega), a0]; omega
  have e1 : ((jushr x 30) &&& 1073741823).toInt32.toInt = (x.toBitVec.toNat / 1073741824 % 1073741824 : Nat) := by
    rw [li (by omega) (by omega), a1]
    rw [show (2 : Nat) ^ 30 = 1073741824 from rfl] at n1
    omega
  have e2 : (jushr x 60).toInt32.toInt = (x.toBitVec.toNat / 1152921504606846976 : Nat) := by
    rw [show (2 : Nat) ^ 60 = 1152921504606846976 from rfl] at n2
    rw [li (by omega) (by omega)]
    omega
  have hv0 : vI 0 (mLen j) := by rw [hj]; exact ⟨by decide, by decide⟩
  have hv1 : vI 1 (mLen j) := by rw [hj]; exact ⟨by decide, by decide⟩
  have hv2 : vI 2 (mLen j) := by rw [hj]; exact ⟨by decide, by decide⟩
  refine ⟨upd (upd (upd v 0 (x &&& 1073741823).toInt32) 1 ((jushr x 30) &&& 1073741823).toInt32) 2 (jushr x 60).toInt32, ?_, ?_, ?_⟩
  · unfold f_X7_set
    rw [h1]
    simp only [Option.bind, lt]
    rw [if_pos hv0, if_pos hv1, if_pos hv2]
    simp only [smA_same, smA_smA]
    rfl
  · intro k hk
    by_cases q2 : k = 2
    · rw [q2, upd_eq, e2]; omega
    · rw [upd_ne q2]
      by_cases q1 : k = 1
      · rw [q1, upd_eq, e1]; omega
      · rw [upd_ne q1]
        by_cases q0 : k = 0
        · rw [q0, upd_eq, e0]; omega
        · rw [upd_ne q0, h2 k hk]; exact ⟨by decide, by decide⟩
  · rw [val3 (fun i h3 hi => by rw [upd_ne (by omega), upd_ne (by omega), upd_ne (by omega)]; exact h2 i hi)]
    unfold dg
    rw [upd_eq, upd_ne (show (0 : Nat) ≠ 2 by omega), upd_ne (show (0 : Nat) ≠ 1 by omega), upd_eq, upd_ne (show (1 : Nat) ≠ 2 by omega), upd_eq, e0, e1, e2]
    omega
/-! tens -/
theorem k9 : (9 : Int32).toInt = ((9 : Nat) : Int) := by decide +kernel
theorem k0 : (0 : Int32).toInt = ((0 : Nat) : Int) := by decide +kernel
theorem nI_neg {k n : Nat} (h : n ≤ k) (hk : k < 2147483648) {a : Int32} (ha : a.toInt = -(n : Int)) : nI k + a = nI (k - n) := by
  rw [ieq, nI_toInt (by omega)]
  have h1 : (nI k).toInt = (k : Int) := nI_toInt hk
  rw [ia (by omega) (by omega)]
  omega
theorem mp1 {V T k n : Nat} (hk : 0 < k) (h : V * k ^ (n + 1) < T) : V * k < T ∧ V * k * k ^ n = V * k ^ (n + 1) := by
  have h1 : V * k * k ^ n = V * k ^ (n + 1) := by rw [Nat.pow_succ, Nat.mul_assoc, Nat.mul_comm k]
  have h2 : V * k * 1 ≤ V * k * k ^ n := Nat.mul_le_mul_left _ (Nat.pow_pos hk)
  exact ⟨by omega, h1⟩
theorem yy10 : (10 : Int32).toInt.toNat = 10 := by decide +kernel
theorem yy9 : (1000000000 : Int32).toInt.toNat = 1000000000 := by decide +kernel
theorem yy0 : (0 : Int32).toInt.toNat = 0 := by decide +kernel
theorem grow_mul {j : Nat} (hj : mLen j = 320) {y : Int32} {Y : Nat} (hY : y.toInt.toNat = Y) (hy0 : 0 ≤ y.toInt) (hy1 : y.toInt ≤ 1000000000) {m : MS} (hw : W30 (mA m j)) (hf : val (mA m j) * Y < B320) : ∃ v, f_X7_grow j y 0 m = some (smA m j v) ∧ W30 v ∧ val v = val (mA m j) * Y := by
  subst hY
  obtain ⟨v, h1, h2, h3⟩ := grow_fit hj (y := y) (x := 0) hy0 hy1 (by decide +kernel) (by decide +kernel) hw (by rw [yy0, Nat.add_zero]; exact hf)
  rw [yy0, Nat.add_zero] at h3
  exact ⟨v, h1, h2, h3⟩
theorem tens1 {j : Nat} (hj : mLen j = 320) : ∀ (n : Nat) (m : MS), n < 1000000 → W30 (mA m j) → val (mA m j) * 10 ^ n < B320 → ∃ v, Lp (fun a => f_X7_tens_L21 j a.1 a.2) (nI n, m) = some (smA m j v) ∧ W30 v ∧ val v = val (mA m j) * 10 ^ n := by
  intro n
  induction n with
  | zero =>
    intro m hn hw hf
    refine ⟨mA m j, ?_, hw, by rw [Nat.pow_zero, Nat.mul_one]⟩
    rw [smA_self]
    refine Lp_r ?_
    show f_X7_tens_L21 j (nI 0) m = _
    unfold f_X7_tens_L21
    rw [if_pos ((cge k0 (by omega)).mpr (by omega))]
  | succ n ih =>
    intro m hn hw hf
    obtain ⟨h10, hp⟩ := mp1 (by decide) hf
    obtain ⟨v, g1, g2, g3⟩ := grow_mul hj yy10 (by decide +kernel) (by decide +kernel) hw h10
    have hs : f_X7_tens_L21 j (nI (n + 1)) m = some (.inl (nI n, smA m j v)) := by
      unfold f_X7_tens_L21
      rw [if_neg (fun h => by have := (cge k0 (by omega)).mp h; omega), g1]
      simp only [Option.bind, lt]
      rw [nI_neg (n := 1) (by omega) (by omega) (by decide)]
      rfl
    obtain ⟨u, h1, h2, h3⟩ := ih (smA m j v) (by omega) (by rw [smA_same]; exact g2) (by rw [smA_same, g3, hp]; exact hf)
    rw [smA_smA] at h1
    rw [smA_same, g3, hp] at h3
    exact ⟨u, (Lp_l (F := fun a => f_X7_tens_L21 j a.1 a.2) (a := (nI (n + 1), m)) hs).trans h1, h2, h3⟩
theorem tens9 {j : Nat} (hj : mLen j = 320) : ∀ (q r : Nat) (m : MS), r < 9 → 9 * q + r < 1000000 → W30 (mA m j) → val (mA m j) * 1000000000 ^ q < B320 → ∃ v, Lp (fun a => f_X7_tens_L2 j a.1 a.2) (nI (9 * q + r), m) = some (nI r, smA m j v) ∧ W30 v ∧ val v = val (mA m j) * 1000000000 ^ q := by
  intro q
  induction q with
  | zero =>
    intro r m hr hn hw hf
    refine ⟨mA m j, ?_, hw, by rw [Nat.pow_zero, Nat.mul_one]⟩
    rw [smA_self]
    refine Lp_r ?_
    show f_X7_tens_L2 j (nI (9 * 0 + r)) m = _
    unfold f_X7_tens_L2
    rw [if_pos ((cgt k9 (by omega)).mpr (by omega)), show 9 * 0 + r = r by omega]
  | succ q ih =>
    intro r m hr hn hw hf
    obtain ⟨h10, hp⟩ := mp1 (by decide) hf
    obtain ⟨v, g1, g2, g3⟩ := grow_mul hj yy9 (by decide +kernel) (by decide +kernel) hw h10
    have hs : f_X7_tens_L2 j (nI (9 * (q + 1) + r)) m = some (.inl (nI (9 * q + r), smA m j v)) := by
      unfold f_X7_tens_L2
      rw [if_neg (fun h => by have := (cgt k9 (by omega)).mp h; omega), g1]
      simp only [Option.bind, lt]
      rw [nI_neg (n := 9) (by omega) (by omega) (by decide), show 9 * (q + 1) + r - 9 = 9 * q + r by omega]
    obtain ⟨u, h1, h2, h3⟩ := ih r (smA m j v) hr (by omega) (by rw [smA_same]; exact g2) (by rw [smA_same, g3, hp]; exact hf)
    rw [smA_smA] at h1
    rw [smA_same, g3, hp] at h3
    exact ⟨u, (Lp_l (F := fun a => f_X7_tens_L2 j a.1 a.2) (a := (nI (9 * (q + 1) + r), m)) hs).trans h1, h2, h3⟩
theorem p10_9 (n : Nat) : 1000000000 ^ (n / 9) * 10 ^ (n % 9) = 10 ^ n := by
  have h : (1000000000 : Nat) = 10 ^ 9 := by decide
  rw [h, ← Nat.pow_mul, ← Nat.pow_add, Nat.div_add_mod]
theorem mp2 {V T a b : Nat} (hb : 0 < b) (h : V * (a * b) < T) : V * a < T := by
  have : V * a * 1 ≤ V * a * b := Nat.mul_le_mul_left _ hb
  rw [Nat.mul_assoc V a b] at this
  omega
theorem tens_spec {j : Nat} (hj : mLen j = 320) {n : Nat} {m : MS} (hn : n < 1000000) (hw : W30 (mA m j)) (hf : val (mA m j) * 10 ^ n < B320) : ∃ v, f_X7_tens j (nI n) m = some (smA m j v) ∧ W30 v ∧ val v = val (mA m j) * 10 ^ n := by
  have hdm := Nat.div_add_mod n 9
  have hp : val (mA m j) * 1000000000 ^ (n / 9) * 10 ^ (n % 9) = val (mA m j) * 10 ^ n := by
    rw [Nat.mul_assoc, p10_9]
  have h9 : val (mA m j) * 1000000000 ^ (n / 9) < B320 := mp2 (b := 10 ^ (n % 9)) (Nat.pow_pos (by decide)) (by rw [p10_9]; exact hf)
  obtain ⟨v, g1, g2, g3⟩ := tens9 hj (n / 9) (n % 9) m (Nat.mod_lt _ (by omega)) (by omega) hw h9
  obtain ⟨u, h1, h2, h3⟩ := tens1 hj (n % 9) (smA m j v) (by omega) (by rw [smA_same]; exact g2) (by rw [smA_same, g3, hp]; exact hf)
  rw [smA_smA] at h1
  rw [smA_same, g3, hp] at h3
  refine ⟨u, ?_, h2, h3⟩
  unfold f_X7_tens
  rw [hdm] at g1
  rw [g1]
  simp only [Option.bind]
  rw [h1]
