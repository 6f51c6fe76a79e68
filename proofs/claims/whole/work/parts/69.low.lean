/-- z zeros at the end -/
def Zn (V z : Nat) : Prop := V % 10 ^ z = 0 ∧ V / 10 ^ z % 10 ≠ 0
def LI (d : Nat) (B : Int) (n : Nat) (a : Int32 × Int32 × Int32) : Prop := ∃ t : Nat, a.1.toInt = B + t ∧ a.2.1.toInt = ((d / 10 ^ t : Nat) : Int) ∧ a.2.2.toInt = (t : Int) + 1 ∧ t + n = 9 ∧ t ≤ 8 ∧ d % 10 ^ t = 0
theorem low_step {d : Nat} {B : Int} {c : CS} (hB1 : -100000 ≤ B) (hB2 : B ≤ 100000) (hd : d < 1000000000) (hd0 : d ≠ 0) (n : Nat) (a : Int32 × Int32 × Int32) (hI : LI d B n a) : (∃ z, f_X4_lowest_L22 a.1 a.2.1 a.2.2 c = some (.inr z) ∧ ∃ t : Nat, z.toInt = B + t ∧ t ≤ 8 ∧ Zn d t) ∨ ∃ a' n', f_X4_lowest_L22 a.1 a.2.1 a.2.2 c = some (.inl a') ∧ n' < n ∧ LI d B n' a' := by
  obtain ⟨t, h1, h2, h3, h4, h5, h6⟩ := hI
  obtain ⟨x1, x2, x3⟩ := a
  change x1.toInt = _ at h1
  change x2.toInt = _ at h2
  change x3.toInt = _ at h3
  show (∃ z, f_X4_lowest_L22 x1 x2 x3 c = _ ∧ _) ∨ ∃ a' n', f_X4_lowest_L22 x1 x2 x3 c = _ ∧ _
  have e9 : (9 : Int32).toInt = 9 := by decide
  have one : (1 : Int32).toInt = 1 := by decide
  have k10 : (10 : Int32).toInt = ((10 : Nat) : Int) := by decide
  have hm := irm_n h2 k10
  have hdv := idv_n h2 k10
  rw [Nat.div_div_eq_div_mul, ← Nat.pow_succ] at hdv
  unfold f_X4_lowest_L22
  by_cases hc : (9 : Int32) ≤ x3
  · rw [if_pos hc]
    rw [ile, e9, h3] at hc
    have ht : t = 8 := by omega
    subst ht
    refine .inl ⟨_, rfl, 8, h1, by omega, h6, ?_⟩
    clear h1 h2 h3 hm hdv
    rw [show (10 : Nat) ^ 8 = 100000000 by decide] at h6 ⊢
    omega
  · rw [if_neg hc]
    rw [ile, e9, h3] at hc
    by_cases h7 : irm x2 10 = 0
    · rw [if_pos h7]
      rw [ieq, hm, k0] at h7
      have h8 : d / 10 ^ t % 10 = 0 := by omega
      refine .inr ⟨_, n - 1, rfl, by omega, t + 1, ?_, hdv, ?_, by omega, by omega, ?_⟩
      · show (x1 + 1).toInt = _
        rw [ia (by omega) (by omega), h1, one]; omega
      · show (x3 + 1).toInt = _
        rw [ia (by omega) (by omega), h3, one]; omega
      · rw [Nat.pow_succ, Nat.mod_mul, h6, h8]; simp
    · rw [if_neg h7]
      rw [ieq, hm, k0] at h7
      exact .inl ⟨_, rfl, t, h1, h5, h6, by omega⟩
theorem RIs.bot {w : RWs} {V : Nat} {s : Bool} (h : RIs w V s) {i : Nat} (hi : i < 156) (hz : ∀ k, i < k → k < 156 → w.1 k = 0) : V % 1000000000 ^ (155 - i) = 0 := by
  obtain ⟨h1, h2, h3, h4, h5⟩ := h
  have e : tl w.1 (i + 1) = 0 := by rw [tl_eq]; exact hv_zero (fun k hk => dg0 (hz _ (by omega) (by omega)))
  have h6 := rv_tl w.1 (i := i + 1) (by omega)
  rw [e, Nat.add_zero, h4, show 156 - (i + 1) = 155 - i by omega] at h6
  rw [h6, Nat.mul_mod_left]
theorem zn_limb {V a t : Nat} (h0 : V % 1000000000 ^ a = 0) (ht : t ≤ 8) (h : Zn (gd V a) t) : Zn V (9 * a + t) := by
  obtain ⟨h1, h2⟩ := h
  rw [gd_dig (by omega)] at h2
  refine ⟨?_, h2⟩
  unfold gd at h1
  have h3 : (1000000000 : Nat) = 10 ^ t * 10 ^ (9 - t) := by rw [← Nat.pow_add, show t + (9 - t) = 9 by omega]
  rw [h3, Nat.mod_mul_right_mod] at h1
  rw [← h3] at h1
  rw [p9, Nat.mod_mul, h0, h1]; simp
theorem low_spec {c : CS} {r V : Nat} {s : Bool} (h : RIs (rws c r) V s) (hV : V ≠ 0) : ∃ (x : Int32) (z : Nat), f_X4_lowest r c = some x ∧ x.toInt = (z : Int) - 1080 ∧ Zn V z ∧ z ≤ 1404 := by
  obtain ⟨a1, a2, a3, a4, a5⟩ : (rws c r).2.1.toInt ≤ (rws c r).2.2.1.toInt ∧ 0 ≤ (rws c r).2.1.toInt ∧ (rws c r).2.2.1.toInt ≤ 155 ∧ (rws c r).1 (rws c r).2.1.toInt.toNat ≠ 0 ∧ (rws c r).1 (rws c r).2.2.1.toInt.toNat ≠ 0 := by
    obtain ⟨h1, h2, h3, h4, h5⟩ := h
    rcases h3 with h3 | ⟨b1, b2⟩
    · exact h3
    · exact absurd (by rw [← h4]; exact rv_zero (fun k hk => h2 k hk (by omega))) hV
  obtain ⟨i, hi⟩ : ∃ i : Nat, (rws c r).2.2.1.toInt = i := ⟨(rws c r).2.2.1.toInt.toNat, by omega⟩
  have hbot := h.bot (i := i) (by omega) (fun k hk hk2 => h.2.1 k (by omega) (by omega))
  have hx := limb_k (k := 155 - i) h (x := rwE c r) (by unfold rwE; omega)
  have hlt := gd_lt V (155 - i)
  have hne : gd V (155 - i) ≠ 0 := by
    intro h0
    have := h.limb (i := i) (by omega)
    rw [h0] at this
    rw [hi] at a5
    exact a5 (by rw [Int.toNat_natCast, ieq, this]; rfl)
  have e35 : (35 : Int32).toInt = 35 := by decide
  have e9 : (9 : Int32).toInt = 9 := by decide
  have f1 : (35 - rwE c r).toInt = 35 - (i : Int) := by unfold rwE; rw [is_ (by omega) (by omega), hi, e35]
  have f2 : ((35 - rwE c r) * 9).toInt = (35 - (i : Int)) * 9 := by rw [im (by rw [f1, e9]; omega) (by rw [f1, e9]; omega), f1, e9]
  obtain ⟨z, g1, t, g2, g3, g4⟩ := Lp_inv (F := fun a => f_X4_lowest_L22 a.1 a.2.1 a.2.2 c) (LI (gd V (155 - i)) ((35 - (i : Int)) * 9)) (fun z => ∃ t : Nat, z.toInt = (35 - (i : Int)) * 9 + t ∧ t ≤ 8 ∧ Zn (gd V (155 - i)) t) (fun n a hh => low_step (by omega) (by omega) hlt hne n a hh) 9 ((35 - rwE c r) * 9, f_X4_limbAt r (rwE c r) c, 1) ⟨0, by show ((35 - rwE c r) * 9).toInt = _; rw [f2]; simp, by show (f_X4_limbAt r (rwE c r) c).toInt = _; rw [hx]; simp, (show (1 : Int32).toInt = _ by decide), by omega, by omega, by simp; exact Nat.mod_one _⟩
  unfold f_X4_lowest
  simp only [lt]
  rw [g1]
  exact ⟨_, 9 * (155 - i) + t, rfl, by rw [g2]; omega, zn_limb hbot g3 g4, by omega⟩
theorem zn_lt {V z k : Nat} (h : Zn V z) : (z < k) = (V % 10 ^ k ≠ 0) := by
  obtain ⟨h1, h2⟩ := h
  simp only [eq_iff_iff]
  constructor
  · intro hk h3
    obtain ⟨d, rfl⟩ : ∃ d, k = z + (d + 1) := ⟨k - z - 1, by omega⟩
    rw [Nat.pow_add, Nat.mod_mul, h1, Nat.zero_add] at h3
    have h4 : V / 10 ^ z % 10 ^ (d + 1) = 0 := by
      rcases Nat.mul_eq_zero.mp h3 with h | h
      · have := Nat.pow_pos (n := z) (show 0 < 10 by decide); omega
      · exact h
    rw [Nat.pow_succ, Nat.mul_comm] at h4
    have h5 : V / 10 ^ z % (10 * 10 ^ d) % 10 = 0 := by rw [h4]
    rw [Nat.mod_mul_right_mod] at h5
    exact h2 h5
  · intro hk
    rcases Nat.lt_or_ge z k with h | h
    · exact h
    · exfalso
      apply hk
      have : 10 ^ k ∣ 10 ^ z := Nat.pow_dvd_pow 10 h
      exact Nat.mod_eq_zero_of_dvd (Nat.dvd_trans this (Nat.dvd_of_mod_eq_zero h1))
/-- the rest below a place -/
def rst (V k : Nat) : Nat := 2 * hb (V % 10 ^ k) (10 ^ k) + ubi (eb (V % 10 ^ k) (10 ^ k))
theorem rst_lt (V k : Nat) : rst V k < 4 := by
  unfold rst hb ubi
  split <;> split <;> omega
theorem rst0 {V : Nat} : rst V 0 = 0 := by unfold rst; simp [Nat.mod_one]; decide
theorem rst_succ {V k : Nat} : rst V (k + 1) = (if 5 < V / 10 ^ k % 10 then 3 else if V / 10 ^ k % 10 = 5 then (if V % 10 ^ k = 0 then 2 else 3) else if 0 < V / 10 ^ k % 10 then 1 else if V % 10 ^ k = 0 then 0 else 1) := by
  have hp : 0 < 10 ^ k := Nat.pow_pos (by decide)
  have hr := Nat.mod_lt V hp
  unfold rst
  rw [Nat.pow_succ, Nat.mod_mul]
  have hd : V / 10 ^ k % 10 < 10 := Nat.mod_lt _ (by decide)
  generalize V / 10 ^ k % 10 = d at *
  generalize V % 10 ^ k = R at *
  generalize 10 ^ k = P at *
  have hd' : d = 0 ∨ d = 1 ∨ d = 2 ∨ d = 3 ∨ d = 4 ∨ d = 5 ∨ d = 6 ∨ d = 7 ∨ d = 8 ∨ d = 9 := by omega
  unfold hb eb
  rcases hd' with rfl | rfl | rfl | rfl | rfl | rfl | rfl | rfl | rfl | rfl <;> by_cases h0 : R = 0 <;> simp [h0] <;> (try subst h0) <;> (try (rw [if_neg (by omega)])) <;> (try (rw [if_pos (by omega)])) <;> (try (rw [decide_eq_true (by omega)])) <;> (try (rw [decide_eq_false (by omega)])) <;> (try rfl) <;> (try simp [ubi]) <;> (try omega) <;> (try (rw [if_neg (by omega)]))
