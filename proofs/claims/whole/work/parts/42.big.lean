/-! The reference's rows of 320 limbs of 30 bits as numbers. -/
theorem cle {a : Int32} {A k : Nat} (ha : a.toInt = A) (hk : k < 2147483648) : a ≤ nI k ↔ A ≤ k := by rw [ile, ha, nI_toInt hk]; omega
theorem clt {a : Int32} {A k : Nat} (ha : a.toInt = A) (hk : k < 2147483648) : a < nI k ↔ A < k := by rw [ilt, ha, nI_toInt hk]; omega
theorem cge {a : Int32} {A k : Nat} (ha : a.toInt = A) (hk : k < 2147483648) : nI k ≤ a ↔ k ≤ A := by rw [ile, ha, nI_toInt hk]; omega
theorem cgt {a : Int32} {A k : Nat} (ha : a.toInt = A) (hk : k < 2147483648) : nI k < a ↔ k < A := by rw [ilt, ha, nI_toInt hk]; omega
theorem vIn {k N : Nat} (hk : k < 2147483648) : vI (nI k) N ↔ k < N := by
  unfold vI; rw [nI_toInt hk]; omega
theorem smA_same {m : MS} {j : Nat} {v : Nat → Int32} : mA (smA m j v) j = v := by simp [mA, smA, fup]
theorem smA_ne {m : MS} {i j : Nat} {v : Nat → Int32} (h : i ≠ j) : mA (smA m j v) i = mA m i := by simp [mA, smA, fup, h]
theorem smA_smA {m : MS} {j : Nat} {v w : Nat → Int32} : smA (smA m j v) j w = smA m j w := by
  unfold smA fup; simp only; congr 1; funext k; split <;> rfl
theorem smA_self (m : MS) (j : Nat) : smA m j (mA m j) = m := by
  unfold smA mA fup
  have : (fun k => if k = j then m.1 j else m.1 k) = m.1 := by funext k; split <;> simp_all
  rw [this]
theorem smA_comm {m : MS} {i j : Nat} {v w : Nat → Int32} (h : i ≠ j) : smA (smA m i v) j w = smA (smA m j w) i v := by
  unfold smA fup; simp only; congr 1; funext k
  by_cases h1 : k = i
  · subst h1; simp [h]
  · simp [h1]
def pv (B : Nat) (d : Nat → Nat) : Nat → Nat
  | 0 => 0
  | n + 1 => pv B d n + d n * B ^ n
theorem pv_lt {B : Nat} {d : Nat → Nat} {n : Nat} (h : ∀ k, k < n → d k < B) : pv B d n < B ^ n := by
  induction n with
  | zero => simp [pv]
  | succ n ih =>
    have h1 := ih (fun k hk => h k (by omega))
    have h2 := h n (by omega)
    have h3 : (d n + 1) * B ^ n ≤ B * B ^ n := Nat.mul_le_mul_right _ h2
    rw [Nat.add_mul, Nat.one_mul] at h3
    rw [pv, Nat.pow_succ, Nat.mul_comm (B ^ n) B]
    omega
theorem pv_congr {B : Nat} {d e : Nat → Nat} {n : Nat} (h : ∀ k, k < n → d k = e k) : pv B d n = pv B e n := by
  induction n with
  | zero => rfl
  | succ n ih => rw [pv, pv, ih (fun k hk => h k (by omega)), h n (by omega)]
theorem pv_zero {B : Nat} {d : Nat → Nat} {n : Nat} (h : ∀ k, k < n → d k = 0) : pv B d n = 0 := by
  induction n with
  | zero => rfl
  | succ n ih => rw [pv, ih (fun k hk => h k (by omega)), h n (by omega)]; simp
/-- the limbs from k on, as a number of their own -/
theorem pv_split {B : Nat} {d : Nat → Nat} (k n : Nat) : pv B d (k + n) = pv B d k + B ^ k * pv B (fun i => d (k + i)) n := by
  induction n with
  | zero => simp [pv]
  | succ n ih =>
    rw [← Nat.add_assoc, pv, ih, pv, Nat.mul_add, Nat.pow_add]
    rw [Nat.add_assoc, Nat.mul_left_comm]
def dg (f : Nat → Int32) (k : Nat) : Nat := (f k).toInt.toNat
def W30 (f : Nat → Int32) : Prop := ∀ k, k < 320 → 0 ≤ (f k).toInt ∧ (f k).toInt < 1073741824
def val (f : Nat → Int32) : Nat := pv 1073741824 (dg f) 320
def pB (B n : Nat) : Nat := B ^ n
def B320 : Nat := pB 1073741824 320
theorem W30.dg {f : Nat → Int32} (h : W30 f) {k : Nat} (hk : k < 320) : dg f k < 1073741824 := by
  have := h k hk
  show (f k).toInt.toNat < 1073741824
  omega
theorem W30.lt {f : Nat → Int32} (h : W30 f) : val f < B320 := pv_lt (fun k hk => h.dg hk)
theorem upd_eq {f : Nat → Int32} {k : Nat} {x : Int32} : upd f k x k = x := pk_us
theorem upd_ne {f : Nat → Int32} {k j : Nat} {x : Int32} (h : j ≠ k) : upd f k x j = f j := pk_un h
