theorem zn_ex : ∀ (n A : Nat), A < 10 ^ n → A ≠ 0 → ∃ z, Zn A z ∧ z < n := by
  intro n
  induction n with
  | zero => intro A h h0; rw [Nat.pow_zero] at h; omega
  | succ n ih =>
    intro A h h0
    by_cases hd : A % 10 = 0
    · obtain ⟨z, ⟨z1, z2⟩, z3⟩ := ih (A / 10) (by rw [Nat.pow_succ] at h; rw [Nat.div_lt_iff_lt_mul (by decide)]; exact h) (by omega)
      refine ⟨z + 1, ⟨?_, ?_⟩, by omega⟩
      · rw [Nat.pow_succ, Nat.mul_comm, Nat.mod_mul, hd, z1]
      · rw [Nat.pow_succ, Nat.mul_comm, ← Nat.div_div_eq_div_mul]; exact z2
    · exact ⟨0, ⟨by rw [Nat.pow_zero, Nat.mod_one], by rw [Nat.pow_zero, Nat.div_one]; exact hd⟩, by omega⟩
theorem zn_dig {A z j : Nat} (h : Zn A z) (hj : j < z) : A / 10 ^ j % 10 = 0 := by
  obtain ⟨q, hq⟩ := Nat.dvd_of_mod_eq_zero h.1
  rw [hq, show z = j + ((z - j - 1) + 1) by omega, Nat.pow_add, Nat.mul_assoc, Nat.mul_div_cancel_left _ (Nat.pow_pos (by decide)), Nat.pow_succ, Nat.mul_right_comm, Nat.mul_mod_left]
theorem dn_hi {A n i : Nat} (h : Dn A n) (hi : n ≤ i) : A / 10 ^ i % 10 = 0 := by
  rw [Nat.div_eq_of_lt (Nat.lt_of_lt_of_le h.2.2 (Nat.pow_le_pow_right (by decide) hi))]
theorem dn_top {A n : Nat} (h : Dn A n) : A / 10 ^ (n - 1) % 10 ≠ 0 := by
  have h1 : A / 10 ^ (n - 1) < 10 := by
    rw [Nat.div_lt_iff_lt_mul (Nat.pow_pos (by decide)), Nat.mul_comm, ← Nat.pow_succ, show (n - 1).succ = n by have := h.1; omega]
    exact h.2.2
  have h2 : 0 < A / 10 ^ (n - 1) := Nat.div_pos h.2.1 (Nat.pow_pos (by decide))
  omega
theorem l168 {m : MS} {A n K : Nat} (hn : Dn A n) (hK : n ≤ K) (hK2 : K ≤ 1600) (hv : ∀ i, i < K → (mA m 6 i).toInt = ((A / 10 ^ i % 10 : Nat) : Int)) {x1 : Int32} : Lp (fun a => f_X7_spell_L168 x1 a m) (nI K) = some (nI n) := by
  have one : (1 : Int32).toInt = 1 := by decide
  have hn0 := hn.1
  obtain ⟨b, g1, rfl⟩ := Lp_inv (F := fun a => f_X7_spell_L168 x1 a m) (fun q a => a = nI (n + q) ∧ n + q ≤ K) (fun b => b = nI n) (by
    rintro q _ ⟨rfl, h1⟩
    show (∃ b, f_X7_spell_L168 x1 (nI (n + q)) m = _ ∧ _) ∨ ∃ a' n', f_X7_spell_L168 x1 (nI (n + q)) m = _ ∧ _
    unfold f_X7_spell_L168
    rw [show (1 : Int32) = nI 1 from rfl, nI_sub (by omega) (by omega), if_pos ((vIn (by omega)).mpr (by show n + q - 1 < 1600; omega)), nI_clamp (show n + q - 1 < 2 ^ 31 by omega)]
    have hvi := hv (n + q - 1) (by omega)
    by_cases hq : q = 0
    · subst hq
      rw [if_neg (fun h => dn_top hn (by rw [ieq, hvi, k0, Nat.add_zero] at h; omega))]
      exact .inl ⟨_, rfl, rfl⟩
    · rw [if_pos (by rw [ieq, hvi, dn_hi hn (by omega)]; rfl)]
      simp only [lt]
      rw [nI_neg (n := 1) (by omega) (by omega) (by decide)]
      exact .inr ⟨_, q - 1, rfl, by omega, by rw [show n + q - 1 = n + (q - 1) by omega], by omega⟩) (K - n) (nI K) ⟨by rw [show n + (K - n) = K by omega], by omega⟩
  exact g1
theorem l187 {m : MS} {n : Nat} (hn : n ≤ 1600) (hn0 : 0 < n) {x1 : Int32} : ∃ b, Lp (fun a => f_X7_spell_L187 x1 (nI n) a.1 a.2) (0, m) = some b ∧ ∃ w, b = smA m 6 w ∧ ∀ i, i < n → w i = mA m 6 (n - 1 - i) := by
  refine Lp_inv (F := fun a => f_X7_spell_L187 x1 (nI n) a.1 a.2) (fun q a => ∃ (k : Nat) (w : Nat → Int32), a = (nI k, smA m 6 w) ∧ k + q = n ∧ 2 * k ≤ n ∧ ∀ i, i < n → w i = if i < k ∨ n - 1 - k < i then mA m 6 (n - 1 - i) else mA m 6 i) _ ?_ n (0, m) ⟨0, mA m 6, by rw [smA_self]; rfl, by omega, by omega, fun i hi => by rw [if_neg (by omega)]⟩
  rintro q _ ⟨k, w, rfl, h1, h2, h3⟩
  show (∃ b, f_X7_spell_L187 x1 (nI n) (nI k) (smA m 6 w) = _ ∧ _) ∨ ∃ a' n', f_X7_spell_L187 x1 (nI n) (nI k) (smA m 6 w) = _ ∧ _
  unfold f_X7_spell_L187
  rw [show (1 : Int32) = nI 1 from rfl, nI_sub (by omega) (by omega)]
  by_cases hs : n - 1 ≤ 2 * k
  · by_cases hk : k ≤ n - 1
    · rw [nI_sub hk (by omega), if_pos ((cle2 (by omega) (by omega)).mpr (by omega))]
      refine .inl ⟨_, rfl, w, rfl, fun i hi => ?_⟩
      rw [h3 i hi]
      by_cases hi2 : i < k ∨ n - 1 - k < i
      · rw [if_pos hi2]
      · rw [if_neg hi2]; congr 1; omega
    · omega
  · rw [nI_sub (by omega) (by omega), if_neg (fun h => by have := (cle2 (by omega) (by omega)).mp h; omega), if_pos ((vIn (by omega)).mpr (by show k < 1600; omega))]
    simp only [lt]
    rw [if_pos ((vIn (by omega)).mpr (by show n - 1 - k < 1600; omega)), if_pos ((vIn (by omega)).mpr (by show k < 1600; omega)), nI_clamp (show k < 2 ^ 31 by omega), nI_clamp (show n - 1 - k < 2 ^ 31 by omega), if_pos ((vIn (by omega)).mpr (by show n - 1 - k < 1600; omega))]
    simp only [smA_same, smA_smA]
    rw [show nI k + nI 1 = nI (k + 1) from nI_inc (by omega)]
    refine .inr ⟨_, q - 1, rfl, by omega, k + 1, upd (upd w k (w (n - 1 - k))) (n - 1 - k) (w k), rfl, by omega, by omega, fun i hi => ?_⟩
    by_cases hi1 : i = n - 1 - k
    · rw [hi1, upd_eq, h3 k (by omega), if_neg (by omega), if_pos (by omega)]
      congr 1; omega
    · rw [upd_ne hi1]
      by_cases hi2 : i = k
      · rw [hi2, upd_eq, h3 (n - 1 - k) (by omega), if_neg (by omega), if_pos (by omega)]
      · rw [upd_ne hi2, h3 i hi]
        by_cases hi3 : i < k ∨ n - 1 - k < i
        · rw [if_pos hi3, if_pos (by omega)]
        · rw [if_neg hi3, if_neg (by omega)]
theorem l245 {m : MS} {A n z : Nat} (hn0 : z < n) (hn : n ≤ 1600) (hz : Zn A z) (hv : ∀ i, i < n → (mA m 6 i).toInt = ((dgt A n i : Nat) : Int)) : Lp (fun a => f_X7_spell_L245 a m) (nI n) = some (nI (n - z)) := by
  obtain ⟨b, g1, rfl⟩ := Lp_inv (F := fun a => f_X7_spell_L245 a m) (fun q a => ∃ j, a = nI (n - j) ∧ j + q = z) (fun b => b = nI (n - z)) (by
    rintro q _ ⟨j, rfl, h1⟩
    show (∃ b, f_X7_spell_L245 (nI (n - j)) m = _ ∧ _) ∨ ∃ a' n', f_X7_spell_L245 (nI (n - j)) m = _ ∧ _
    unfold f_X7_spell_L245
    rw [show (1 : Int32) = nI 1 from rfl, nI_sub (by omega) (by omega), if_pos ((vIn (by omega)).mpr (by show n - j - 1 < 1600; omega)), nI_clamp (show n - j - 1 < 2 ^ 31 by omega)]
    have hvi := hv (n - j - 1) (by omega)
    rw [dgt_lo (by omega), show n - 1 - (n - j - 1) = j by omega] at hvi
    by_cases hq : q = 0
    · have hjz : j = z := by omega
      subst hjz
      rw [if_neg (fun h => hz.2 (by rw [ieq, hvi, k0] at h; omega))]
      exact .inl ⟨_, rfl, rfl⟩
    · rw [if_pos (by rw [ieq, hvi, zn_dig hz (by omega)]; rfl)]
      simp only [lt]
      rw [nI_neg (n := 1) (by omega) (by omega) (by decide)]
      exact .inr ⟨_, q - 1, rfl, by omega, j + 1, by rw [show n - j - 1 = n - (j + 1) by omega], by omega⟩) z (nI n) ⟨0, rfl, by omega⟩
  exact g1
/-- what is spelt, times 10^t -/
def spA (w : Nat) (u : Int) : Nat := w * p2 u * 5 ^ (-u).toNat
theorem c_sp : 2 ^ 55 * 2 ^ 1000 * 5 ^ 1080 < 10 ^ 1500 := by decide +kernel
theorem c_sp2 : 2 ^ 55 * 5 ^ 1080 < 2 ^ 9600 := by decide +kernel
theorem spA_lt {w : Nat} {u : Int} (hw : w < 2 ^ 55) (hu1 : -1080 ≤ u) (hu2 : u ≤ 1000) : spA w u < 10 ^ 1500 := by
  unfold spA p2
  have h1 : 2 ^ u.toNat ≤ 2 ^ 1000 := pw_le (by omega)
  have h2 : 5 ^ (-u).toNat ≤ 5 ^ 1080 := Nat.pow_le_pow_right (by decide) (by omega)
  exact Nat.lt_of_le_of_lt (Nat.mul_le_mul (Nat.mul_le_mul (Nat.le_of_lt hw) h1) h2) c_sp
theorem l42 {m : MS} {w t : Nat} (hw : W30 (mA m 3)) (hv : vl (mA m 3) = w) (hwb : w < 2 ^ 55) (ht : t ≤ 1080) : ∃ b, Lp (fun a => f_X7_spell_L42 (nI t) a.1 a.2) (0, m) = some b ∧ ∃ u, b = smA m 3 u ∧ W30 u ∧ vl u = w * 5 ^ t := by
  have yy5 : (5 : Int32).toInt.toNat = 5 := by decide
  refine Lp_inv (F := fun a => f_X7_spell_L42 (nI t) a.1 a.2) (fun q a => ∃ (k : Nat) (u : Nat → Int32), a = (nI k, smA m 3 u) ∧ k + q = t ∧ W30 u ∧ vl u = w * 5 ^ k) _ ?_ t (0, m) ⟨0, mA m 3, by rw [smA_self]; rfl, by omega, hw, by rw [Nat.pow_zero, Nat.mul_one]; exact hv⟩
  rintro q _ ⟨k, u, rfl, h1, h2, h3⟩
  show (∃ b, f_X7_spell_L42 (nI t) (nI k) (smA m 3 u) = _ ∧ _) ∨ ∃ a' n', f_X7_spell_L42 (nI t) (nI k) (smA m 3 u) = _ ∧ _
  unfold f_X7_spell_L42
  by_cases hk : k = t
  · rw [if_pos ((cle2 (by omega) (by omega)).mpr (by omega))]
    exact .inl ⟨_, rfl, u, rfl, h2, by rw [h3, hk]⟩
  · rw [if_neg (fun h => by have := (cle2 (by omega) (by omega)).mp h; omega)]
    have hfit : w * 5 ^ k * 5 < B320 := by
      rw [Nat.mul_assoc, ← Nat.pow_succ, B320_eq]
      exact Nat.lt_of_le_of_lt (Nat.mul_le_mul (Nat.le_of_lt hwb) (Nat.pow_le_pow_right (by decide) (by omega))) c_sp2
    obtain ⟨v, g1, g2, g3⟩ := grow_mul (j := 3) rfl yy5 (by decide) (by decide) (m := smA m 3 u) (by rw [smA_same]; exact h2) (by rw [smA_same, vl_eq, h3]; exact hfit)
    rw [smA_same, vl_eq, vl_eq, h3] at g3
    rw [smA_smA] at g1
    rw [g1]
    simp only [Option.bind, lt]
    rw [nI_inc (by omega)]
    exact .inr ⟨_, q - 1, rfl, by omega, k + 1, v, rfl, by omega, g2, by rw [g3, Nat.mul_assoc, Nat.pow_succ]⟩
/-- what spell leaves -/
def Sp (m : MS) (A n z : Nat) (P : Int) : Prop := Dn A n ∧ Zn A z ∧ z < n ∧ n ≤ 1500 ∧ mI m 8 = nI (n - z) ∧ (mI m 9).toInt = P ∧ ∀ i, i < n → (mA m 6 i).toInt = ((dgt A n i : Nat) : Int)
theorem dn_ex {A : Nat} (h : A ≠ 0) : ∃ n, Dn A n := by
  have key : ∀ k A, A < 10 ^ k → A ≠ 0 → ∃ n, Dn A n := by
    intro k
    induction k with
    | zero => intro A h1 h2; rw [Nat.pow_zero] at h1; omega
    | succ k ih =>
      intro A h1 h2
      by_cases h3 : A < 10 ^ k
      · exact ih A h3 h2
      · exact ⟨k + 1, by omega, by rw [Nat.add_sub_cancel]; omega, h1⟩
  exact key A A (Nat.lt_pow_self (by decide)) h
theorem sp_tail {m0 m : MS} {A t : Nat} (hw : W30 (mA m 3)) (hA : vl (mA m 3) = A) (hA0 : A ≠ 0) (hA2 : A < 10 ^ 1500) (hF : Fr [3, 6] [8, 9] [] m0 m) {x1 : Int32} (hx1 : x1 = nI t) (ht : t ≤ 1080) : ∃ m' n z, (Option.bind (Lp (fun a => f_X7_spell_L64 x1 a.1 a.2) (0, m)) fun e_24 => Option.bind (Lp (fun a => f_X7_spell_L168 x1 a e_24.2) e_24.1) fun e_28 => Option.bind (Lp (fun a => f_X7_spell_L187 x1 e_28 a.1 a.2) (0, e_24.2)) fun e_38 => lt (smI e_38 9 (e_28 - x1)) fun m_39 => Option.bind (Lp (fun a => f_X7_spell_L245 a m_39) e_28) fun e_43 => lt (smI m_39 8 e_43) fun m_44 => some m_44) = some m' ∧ Fr [3, 6] [8, 9] [] m0 m' ∧ Sp m' A n z ((n : Int) - t) := by
  obtain ⟨n, hn⟩ := dn_ex hA0
  obtain ⟨z, hz1, hz2⟩ := zn_ex n A hn.2.2 hA0
  have hn15 : n - 1 < 1500 := (Nat.pow_lt_pow_iff_right (a := 10) (by decide)).mp (Nat.lt_of_le_of_lt hn.2.1 hA2)
  have hA3 : ∀ k, 1500 ≤ k → A / 10 ^ k = 0 := fun k hk => Nat.div_eq_of_lt (Nat.lt_of_lt_of_le hA2 (Nat.pow_le_pow_right (by decide) hk))
  clear hA2
  obtain ⟨_, g1, J, u, v, rfl, g2, g3, g4⟩ := all_digits (m := m) (x1 := x1) hw hA hA3
  have hJn : n ≤ 9 * J := by
    rcases Nat.lt_or_ge (9 * J) n with q | q
    · exfalso
      have h1 : 10 ^ (9 * J) ≤ 10 ^ (n - 1) := Nat.pow_le_pow_right (by decide) (by omega)
      exact Nat.lt_irrefl _ (Nat.lt_of_lt_of_le g3 (Nat.le_trans h1 hn.2.1))
    · exact q
  have hn0 := hn.1
  have h168 := l168 (m := smA (smA m 3 u) 6 v) (K := 9 * J) (x1 := x1) hn hJn (by omega) (fun i hi => by rw [smA_same]; exact g4 i hi)
  obtain ⟨_, k1, w, rfl, k2⟩ := l187 (m := smA (smA m 3 u) 6 v) (n := n) (x1 := x1) (by omega) hn0
  rw [smA_same] at k2
  rw [smA_smA] at k1
  have hwd : ∀ i, i < n → (w i).toInt = ((dgt A n i : Nat) : Int) := fun i hi => by
    rw [k2 i hi, g4 _ (by omega), dgt_lo hi]
  have h245 := l245 (m := smI (smA (smA m 3 u) 6 w) 9 (nI n - x1)) (A := A) (n := n) (z := z) hz2 (by omega) hz1 (fun i hi => by rw [mA_smI, smA_same]; exact hwd i hi)
  rw [g1]; simp only [Option.bind]
  rw [h168]; simp only
  rw [k1]; simp only [lt]
  rw [h245]; simp only
  refine ⟨_, n, z, rfl, hF.trans ((Fr.sA (by decide)).trans ((Fr.sA (by decide)).trans ((Fr.sI (by decide)).trans (Fr.sI (by decide))))), hn, hz1, hz2, by omega, mI_smI, ?_, fun i hi => ?_⟩
  · rw [mI_smI_ne (by decide), mI_smI, hx1]
    have e1 : (nI n).toInt = n := nI_toInt (by omega)
    have e2 : (nI t).toInt = t := nI_toInt (by omega)
    rw [is_ (by omega) (by omega), e1, e2]
  · rw [mA_smI, mA_smI, smA_same]; exact hwd i hi
theorem spell_spec {m : MS} {w : Nat} {u : Int} (hW : (mJ m 1).toInt = (w : Int)) (hU : (mI m 7).toInt = u) (hw0 : 0 < w) (hw : w < 2 ^ 55) (hu1 : -1080 ≤ u) (hu2 : u ≤ 1000) : ∃ m' n z, f_X7_spell m = some m' ∧ Fr [3, 6] [8, 9] [] m m' ∧ Sp m' (spA w u) n z ((n : Int) - ((-u).toNat : Int)) := by
  have hlt := spA_lt hw hu1 hu2
  have hne : spA w u ≠ 0 := Nat.ne_of_gt (Nat.mul_pos (Nat.mul_pos hw0 (p2_pos _)) (Nat.pow_pos (by decide)))
  obtain ⟨v, s1, s2, s3⟩ := set_spec (j := 3) rfl (mJ m 1) m
  rw [whole_n hW, vl_eq] at s3
  have hU2 : (mI (smA m 3 v) 7).toInt = u := hU
  unfold f_X7_spell
  rw [s1]; simp only [Option.bind]
  by_cases hu : u < 0
  · rw [if_pos (by rw [ilt, hU2, k0]; exact hu)]
    obtain ⟨t, ht⟩ : ∃ t : Nat, -u = t := ⟨(-u).toNat, by omega⟩
    have hx : -(mI (smA m 3 v) 7) = nI t := nIeq (by rw [ineg (by omega), hU2]; exact ht) (by omega)
    obtain ⟨_, l1, u', rfl, l2, l3⟩ := l42 (m := smA m 3 v) (w := w) (t := t) (by rw [smA_same]; exact s2) (by rw [smA_same]; exact s3) hw (by omega)
    rw [smA_smA] at l1
    simp only [lt]
    rw [hx, l1]; simp only
    have hA : vl (mA (smA m 3 u') 3) = spA w u := by
      rw [smA_same, l3]; unfold spA
      rw [p2_neg (by omega), Nat.mul_one, show (-u).toNat = t by omega]
    obtain ⟨m', n, z, k1, k2, k3⟩ := sp_tail (m0 := m) (m := smA m 3 u') (t := t) (x1 := nI t) (by rw [smA_same]; exact l2) hA hne hlt (Fr.sA (by decide)) rfl (by omega)
    refine ⟨m', n, z, k1, k2, ?_⟩
    rw [show (-u).toNat = t by omega]
    exact k3
  · rw [if_neg (by rw [ilt, hU2, k0]; exact hu)]
    obtain ⟨t, ht⟩ : ∃ t : Nat, u = t := ⟨u.toNat, by omega⟩
    have hx : mI (smA m 3 v) 7 = nI t := nIeq (by rw [hU2]; exact ht) (by omega)
    obtain ⟨u', l1, l2, l3⟩ := left_spec (j := 3) rfl (n := t) (m := smA m 3 v) (by omega) (by rw [smA_same]; exact s2) (by rw [smA_same, vl_eq, s3]; exact fit2 hw (by omega))
    rw [smA_same, vl_eq, vl_eq, s3] at l3
    rw [smA_smA] at l1
    rw [hx, l1]; simp only
    have hA : vl (mA (smA m 3 u') 3) = spA w u := by
      rw [smA_same, l3]; unfold spA
      rw [p2_nat ht, show (-u).toNat = 0 by omega, Nat.pow_zero, Nat.mul_one]
    obtain ⟨m', n, z, k1, k2, k3⟩ := sp_tail (m0 := m) (m := smA m 3 u') (t := 0) (x1 := 0) (by rw [smA_same]; exact l2) hA hne hlt (Fr.sA (by decide)) rfl (by omega)
    refine ⟨m', n, z, k1, k2, ?_⟩
    rw [show (-u).toNat = 0 by omega]
    exact k3
