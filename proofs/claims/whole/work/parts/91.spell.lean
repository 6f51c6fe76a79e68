/-! the reference spells a number -/
def PTn (f : Nat → Int32) (k n : Nat) : Nat := if n = 0 then pv 1073741824 (fun i => dg f (k + i)) (320 - k) else PTn f k (n - 1)
termination_by n
abbrev pt (f : Nat → Int32) (k : Nat) : Nat := PTn f k 0
theorem pt_eq (f : Nat → Int32) (k : Nat) : pt f k = pv 1073741824 (fun i => dg f (k + i)) (320 - k) := by
  show PTn f k 0 = _
  rw [PTn]; simp
theorem pt_succ {f : Nat → Int32} {k : Nat} (hk : k < 320) : pt f k = dg f k + 1073741824 * pt f (k + 1) := by
  rw [pt_eq, pt_eq, show 320 - k = (320 - (k + 1)) + 1 by omega, pv_one]
  congr 2
  · congr 1
    funext i
    rw [Nat.add_assoc]
theorem pt_0 (f : Nat → Int32) : pt f 0 = vl f := by
  rw [pt_eq, ← vl_eq]
  exact pv_congr (fun i _ => by rw [Nat.zero_add])
theorem pt_320 (f : Nat → Int32) : pt f 320 = 0 := by rw [pt_eq]; rfl
theorem pt_congr {f g : Nat → Int32} {k : Nat} (h : ∀ i, k ≤ i → i < 320 → f i = g i) : pt f k = pt g k := by
  rw [pt_eq, pt_eq]
  exact pv_congr (fun i hi => by unfold dg; rw [h (k + i) (by omega) (by omega)])
theorem dv_bits {x : Int64} {a : Int32} {R D : Nat} (hx : x.toInt = (R : Int)) (ha : a.toInt = (D : Int)) (hR : R < 1000000000) (hD : D < 1073741824) : (jshl x 30 ||| a.toInt64).toInt = ((R * 1073741824 + D : Nat) : Int) := by
  have h1 := jshl_eq (x := x) (y := 30) (k := 30) rfl (by decide) (by omega) (by rw [hx]; omega)
  rw [hx] at h1
  have e1 : (jshl x 30).toBitVec.toNat = R * 1073741824 := whole_n (by rw [h1]; omega)
  have e2 : a.toInt64.toBitVec.toNat = D := whole_n (by rw [il]; exact ha)
  have e3 := or64 (jshl x 30) a.toInt64
  rw [e1, e2, or_add (k := 30) hD (by rw [show (2 : Nat) ^ 30 = 1073741824 from rfl]; exact Nat.mul_mod_left _ _)] at e3
  have e4 := u64 (jshl x 30 ||| a.toInt64)
  omega
theorem div_ar9 {P Q R D B : Nat} (h : P = Q * 1000000000 + R) : D + B * P = ((R * B + D) / 1000000000 + B * Q) * 1000000000 + (R * B + D) % 1000000000 := by
  have h1 := Nat.div_add_mod (R * B + D) 1000000000
  rw [h]
  generalize (R * B + D) / 1000000000 = q at *
  generalize (R * B + D) % 1000000000 = r at *
  grind
theorem q_lt {R D : Nat} (hR : R < 1000000000) (hD : D < 1073741824) : (R * 1073741824 + D) / 1000000000 < 1073741824 := by omega
def SD9 (o : Nat → Int32) (m : MS) (n : Nat) (a : Int64 × Int32 × MS) : Prop := ∃ (u : Nat → Int32) (R : Nat), a.1.toInt = (R : Int) ∧ R < 1000000000 ∧ a.2.1.toInt = (n : Int) - 1 ∧ n ≤ 320 ∧ a.2.2 = smA m 3 u ∧ W30 u ∧ (∀ i, i < n → u i = o i) ∧ pt o n = pt u n * 1000000000 + R
theorem sd_step {o : Nat → Int32} (ho : W30 o) {m : MS} {x1 x2 : Int32} (n : Nat) (a : Int64 × Int32 × MS) (hI : SD9 o m n a) : (∃ z, f_X7_spell_L81 x1 x2 a.1 a.2.1 a.2.2 = some (.inr z) ∧ ∃ u R, z.1.toInt = ((R : Nat) : Int) ∧ R < 1000000000 ∧ z.2 = smA m 3 u ∧ W30 u ∧ vl o = vl u * 1000000000 + R) ∨ ∃ a' n', f_X7_spell_L81 x1 x2 a.1 a.2.1 a.2.2 = some (.inl a') ∧ n' < n ∧ SD9 o m n' a' := by
  obtain ⟨x3, x5, m'⟩ := a
  obtain ⟨u, R, h1, h2, h3, h4, h5, h6, h7, h8⟩ := hI
  change x3.toInt = _ at h1
  change x5.toInt = _ at h3
  change m' = _ at h5
  subst h5
  show (∃ z, f_X7_spell_L81 x1 x2 x3 x5 (smA m 3 u) = some (.inr z) ∧ _) ∨ ∃ a' n', f_X7_spell_L81 x1 x2 x3 x5 (smA m 3 u) = some (.inl a') ∧ _
  unfold f_X7_spell_L81
  by_cases hn : n = 0
  · rw [if_pos (by rw [ilt, h3, k0]; omega)]
    refine .inl ⟨_, rfl, u, R, h1, h2, rfl, h6, ?_⟩
    rw [hn, pt_0, pt_0] at h8
    exact h8
  · obtain ⟨k, rfl⟩ : ∃ k, n = k + 1 := ⟨n - 1, by omega⟩
    have hv : vI x5 (mLen 3) := ⟨by omega, by show x5.toInt < 320; omega⟩
    have hc : x5.toNatClampNeg = k := by rw [cl]; omega
    have hok := ho k (by omega)
    have hD := dg_int hok.1
    have hDl := ho.dg (show k < 320 by omega)
    have hx := dv_bits h1 (show (o k).toInt = (dg o k : Int) from hD.symm) h2 hDl
    rw [if_neg (by rw [ilt, h3, k0]; omega), if_pos hv]
    simp only [lt]
    rw [if_pos hv, hc, smA_same, smA_smA, h7 k (by omega)]
    generalize jshl x3 30 ||| (o k).toInt64 = X at hx ⊢
    generalize hdo : dg o k = D at *
    have hq := ldv_n hx k9ln
    have hr := lrm_n hx k9ln
    have hql := q_lt h2 hDl
    have hrl : (R * 1073741824 + D) % 1000000000 < 1000000000 := Nat.mod_lt _ (by decide)
    have hq32 := li_n hq (Nat.lt_trans hql (by decide))
    refine .inr ⟨_, k, rfl, by omega, upd u k (X / 1000000000).toInt32, _, hr, hrl, ?_, by omega, rfl, h6.upd (nn_i hq32) (lt_i hq32 hql), fun i hi => ?_, ?_⟩
    · show (x5 + -1).toInt = _
      have e1 : (-1 : Int32).toInt = -1 := by decide
      rw [ia (by omega) (by omega), h3, e1]; omega
    · rw [upd_ne (by omega)]; exact h7 i (by omega)
    · rw [pt_succ (f := o) (by omega), pt_succ (f := upd u k (X / 1000000000).toInt32) (by omega), dg_upd, hq32, Int.toNat_natCast, pt_congr (f := upd u k (X / 1000000000).toInt32) (g := u) (k := k + 1) (fun i hi _ => upd_ne (by omega))]
      rw [hdo]
      exact div_ar9 h8
theorem sd_spec {m : MS} (hw : W30 (mA m 3)) {x1 x2 : Int32} : ∃ z, Lp (fun a => f_X7_spell_L81 x1 x2 a.1 a.2.1 a.2.2) (0, 319, m) = some z ∧ ∃ u R, z.1.toInt = ((R : Nat) : Int) ∧ R < 1000000000 ∧ z.2 = smA m 3 u ∧ W30 u ∧ vl (mA m 3) = vl u * 1000000000 + R := by
  exact Lp_inv (F := fun a => f_X7_spell_L81 x1 x2 a.1 a.2.1 a.2.2) (SD9 (mA m 3) m) _ (fun n a h => sd_step hw n a h) 320 (0, 319, m) ⟨mA m 3, 0, (by show (0 : Int64).toInt = _; decide), by decide, (by show (319 : Int32).toInt = _; decide), by decide, by rw [smA_self], hw, fun i _ => rfl, by rw [pt_320]⟩
/-- nine digits of a rest -/
theorem nine {m : MS} {R b : Nat} (hb : b + 9 ≤ 1600) {x1 : Int32} {x3 : Int64} (h3 : x3.toInt = (R : Int)) : ∃ z, Lp (fun a => f_X7_spell_L131 x1 a.1 a.2.1 a.2.2.1 a.2.2.2) (nI b, x3, 0, m) = some z ∧ ∃ v, z = (nI (b + 9), smA m 6 v) ∧ (∀ i, i < b → v i = mA m 6 i) ∧ ∀ j, j < 9 → (v (b + j)).toInt = ((R / 10 ^ j % 10 : Nat) : Int) := by
  have k10 : (10 : Int64).toInt = ((10 : Nat) : Int) := by decide
  have e9 : (9 : Int32).toInt = 9 := by decide
  refine Lp_inv (F := fun a => f_X7_spell_L131 x1 a.1 a.2.1 a.2.2.1 a.2.2.2) (fun n a => ∃ (k : Nat) (v : Nat → Int32), k + n = 9 ∧ a.1 = nI (b + k) ∧ a.2.1.toInt = ((R / 10 ^ k : Nat) : Int) ∧ a.2.2.1 = nI k ∧ a.2.2.2 = smA m 6 v ∧ (∀ i, i < b → v i = mA m 6 i) ∧ ∀ j, j < k → (v (b + j)).toInt = ((R / 10 ^ j % 10 : Nat) : Int)) _ ?_ 9 (nI b, x3, 0, m) ⟨0, mA m 6, rfl, rfl, by rw [Nat.pow_zero, Nat.div_one]; exact h3, rfl, by rw [smA_self], fun i _ => rfl, fun j hj => by omega⟩
  rintro n ⟨y2, y3, y5, m'⟩ ⟨k, v, g1, g2, g3, g4, g5, g6, g7⟩
  change y2 = _ at g2
  change y3.toInt = _ at g3
  change y5 = _ at g4
  change m' = _ at g5
  subst g2 g4 g5
  show (∃ z, f_X7_spell_L131 x1 (nI (b + k)) y3 (nI k) (smA m 6 v) = _ ∧ _) ∨ ∃ a' n', f_X7_spell_L131 x1 (nI (b + k)) y3 (nI k) (smA m 6 v) = _ ∧ _
  unfold f_X7_spell_L131
  by_cases hk : k = 9
  · rw [if_pos (by rw [ile, nI_toInt (by omega), e9]; omega)]
    exact .inl ⟨_, rfl, v, by rw [hk], g6, fun j hj => g7 j (by omega)⟩
  · rw [if_neg (by rw [ile, nI_toInt (by omega), e9]; omega), if_pos ((vIn (by omega)).mpr (by show b + k < 1600; omega)), nI_clamp (show b + k < 2 ^ 31 by omega)]
    simp only [lt]
    rw [smA_same, smA_smA, nI_inc (by omega), nI_inc (by omega)]
    have hd := lrm_n g3 k10
    have hdl : R / 10 ^ k % 10 < 10 := Nat.mod_lt _ (by decide)
    have hd32 := li_n hd (Nat.lt_trans hdl (by decide))
    refine .inr ⟨_, n - 1, rfl, by omega, k + 1, upd v (b + k) (lrm y3 10).toInt32, by omega, rfl, ?_, rfl, rfl, fun i hi => ?_, fun j hj => ?_⟩
    · show (y3 / 10).toInt = _
      rw [ldv_n g3 k10, Nat.div_div_eq_div_mul, Nat.pow_succ]
    · rw [upd_ne (by omega)]; exact g6 i hi
    · by_cases hjk : j = k
      · rw [hjk, upd_eq]; exact hd32
      · rw [upd_ne (by omega)]; exact g7 j (by omega)
theorem dig9 {A J j : Nat} (hj : j < 9) : A / 10 ^ (9 * J) % 1000000000 / 10 ^ j % 10 = A / 10 ^ (9 * J + j) % 10 := by
  have := gd_dig (V := A) (a := J) (t := j) hj
  unfold gd at this
  rw [B9] at this
  exact this
/-- all digits, the lowest first -/
theorem all_digits {m : MS} {A : Nat} (hw : W30 (mA m 3)) (hA : vl (mA m 3) = A) (hA2 : ∀ k, 1500 ≤ k → A / 10 ^ k = 0) {x1 : Int32} : ∃ z, Lp (fun a => f_X7_spell_L64 x1 a.1 a.2) (0, m) = some z ∧ ∃ J u v, z = (nI (9 * J), smA (smA m 3 u) 6 v) ∧ 9 * J ≤ 1512 ∧ A < 10 ^ (9 * J) ∧ ∀ i, i < 9 * J → (v i).toInt = ((A / 10 ^ i % 10 : Nat) : Int) := by
  refine Lp_inv (F := fun a => f_X7_spell_L64 x1 a.1 a.2) (fun n a => ∃ (J : Nat) (u v : Nat → Int32), J + n = 168 ∧ a = (nI (9 * J), smA (smA m 3 u) 6 v) ∧ W30 u ∧ vl u = A / 10 ^ (9 * J) ∧ ∀ i, i < 9 * J → (v i).toInt = ((A / 10 ^ i % 10 : Nat) : Int)) _ ?_ 168 (0, m) ⟨0, mA m 3, mA m 6, rfl, by rw [smA_self, smA_self]; rfl, hw, by rw [hA, Nat.mul_zero, Nat.pow_zero, Nat.div_one], fun i hi => by omega⟩
  rintro n _ ⟨J, u, v, g1, rfl, g3, g4, g5⟩
  show (∃ z, f_X7_spell_L64 x1 (nI (9 * J)) (smA (smA m 3 u) 6 v) = _ ∧ _) ∨ ∃ a' n', f_X7_spell_L64 x1 (nI (9 * J)) (smA (smA m 3 u) 6 v) = _ ∧ _
  have q3 : mA (smA (smA m 3 u) 6 v) 3 = u := by rw [smA_ne (by decide), smA_same]
  obtain ⟨L, l1, l2, l3⟩ := len_spec (j := 3) rfl (m := smA (smA m 3 u) 6 v) (by rw [q3]; exact g3)
  rw [q3, vl_eq, g4] at l3
  unfold f_X7_spell_L64
  rw [l1]; simp only [Option.bind]
  have hL : (nI L).toInt = L := nI_toInt (by omega)
  by_cases hz : A / 10 ^ (9 * J) = 0
  · rw [if_pos ((le0_of hL).mpr ((bl0 l3).mpr hz))]
    exact .inl ⟨_, rfl, J, u, v, rfl, by omega, dz (Nat.pow_pos (by decide)) hz, g5⟩
  · rw [if_neg (fun q => hz ((bl0 l3).mp ((le0_of hL).mp q)))]
    have hJ : 9 * J < 1500 := by
      rcases Nat.lt_or_ge (9 * J) 1500 with q | q
      · exact q
      · exfalso
        exact hz (hA2 _ q)
    obtain ⟨⟨zr, zm⟩, s1, u', R, s2, s3, s4, s5, s6⟩ := sd_spec (m := smA (smA m 3 u) 6 v) (by rw [q3]; exact g3) (x1 := x1) (x2 := nI (9 * J))
    change zr.toInt = _ at s2
    change zm = _ at s4
    subst s4
    rw [q3, g4] at s6
    rw [s1]; simp only
    obtain ⟨_, t1, v', rfl, t2, t3⟩ := nine (m := smA (smA (smA m 3 u) 6 v) 3 u') (b := 9 * J) (by omega) (x1 := x1) s2
    rw [t1]; simp only
    have e6 : mA (smA (smA (smA m 3 u) 6 v) 3 u') 6 = v := by rw [smA_ne (by decide), smA_same]
    rw [e6] at t2
    have hst : smA (smA (smA (smA m 3 u) 6 v) 3 u') 6 v' = smA (smA m 3 u') 6 v' := by
      rw [smA_comm (i := 6) (j := 3) (by decide), smA_smA, smA_smA]
    rw [hst]
    have hq : vl u' = A / 10 ^ (9 * J) / 1000000000 := by omega
    have hr : R = A / 10 ^ (9 * J) % 1000000000 := by omega
    refine .inr ⟨_, n - 1, rfl, by omega, J + 1, u', v', by omega, by rw [show 9 * (J + 1) = 9 * J + 9 by omega], s5, ?_, fun i hi => ?_⟩
    · rw [hq, Nat.div_div_eq_div_mul, show (1000000000 : Nat) = 10 ^ 9 from rfl, ← Nat.pow_add, show 9 * (J + 1) = 9 * J + 9 by omega]
    · by_cases h1 : i < 9 * J
      · rw [t2 i h1]; exact g5 i h1
      · obtain ⟨j, rfl⟩ : ∃ j, i = 9 * J + j := ⟨i - 9 * J, by omega⟩
        rw [t3 j (by omega), hr, dig9 (by omega)]
