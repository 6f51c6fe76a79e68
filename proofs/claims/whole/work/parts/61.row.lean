/-! The class's rows as numbers: 156 limbs below 10^9, the highest first -/
theorem rws_same {c : CS} {r : Nat} {x : RWs} : rws (srws c r x) r = x := by simp [rws, srws, fup]
theorem rws_ne {c : CS} {r q : Nat} {x : RWs} (h : q ≠ r) : rws (srws c r x) q = rws c q := by simp [rws, srws, fup, h]
theorem srws_srws {c : CS} {r : Nat} {x y : RWs} : srws (srws c r x) r y = srws c r y := by
  unfold srws
  have : fup (fup c.2.2.2.2.1 r x) r y = fup c.2.2.2.2.1 r y := by funext k; unfold fup; split <;> rfl
  simp only [this]
theorem srws_self (c : CS) (r : Nat) : srws c r (rws c r) = c := by
  unfold srws rws
  have : fup c.2.2.2.2.1 r (c.2.2.2.2.1 r) = c.2.2.2.2.1 := by
    funext k; unfold fup
    by_cases h : k = r
    · rw [if_pos h, h]
    · rw [if_neg h]
  rw [this]
theorem srws_comm {c : CS} {r q : Nat} {x y : RWs} (h : r ≠ q) : srws (srws c r x) q y = srws (srws c q y) r x := by
  unfold srws
  have : fup (fup c.2.2.2.2.1 r x) q y = fup (fup c.2.2.2.2.1 q y) r x := by
    funext k; unfold fup
    by_cases h1 : k = q
    · rw [if_pos h1, if_neg (by omega), if_pos h1]
    · rw [if_neg h1]
      by_cases h2 : k = r
      · rw [if_pos h2, if_pos h2]
      · rw [if_neg h2, if_neg h2, if_neg h1]
  simp only [this]
/-- the limbs above place n, as a number -/
def hv (d : Nat → Nat) : Nat → Nat
  | 0 => 0
  | n + 1 => hv d n * 1000000000 + d n
theorem hv_congr {d e : Nat → Nat} {n : Nat} (h : ∀ k, k < n → d k = e k) : hv d n = hv e n := by
  induction n with
  | zero => rfl
  | succ n ih => rw [hv, hv, ih (fun k hk => h k (by omega)), h n (by omega)]
theorem hv_zero {d : Nat → Nat} {n : Nat} (h : ∀ k, k < n → d k = 0) : hv d n = 0 := by
  induction n with
  | zero => rfl
  | succ n ih => rw [hv, ih (fun k hk => h k (by omega)), h n (by omega)]
theorem hv_lt {d : Nat → Nat} {n : Nat} (h : ∀ k, k < n → d k < 1000000000) : hv d n < 1000000000 ^ n := by
  induction n with
  | zero => simp [hv]
  | succ n ih =>
    have h1 := ih (fun k hk => h k (by omega))
    have h2 := h n (by omega)
    rw [hv, Nat.pow_succ]
    omega
theorem hv_add {d : Nat → Nat} (n k : Nat) : hv d (n + k) = hv d n * 1000000000 ^ k + hv (fun i => d (n + i)) k := by
  induction k with
  | zero => simp [hv]
  | succ k ih =>
    rw [← Nat.add_assoc, hv, ih, hv, Nat.pow_succ]
    have : hv d n * (1000000000 ^ k * 1000000000) = hv d n * 1000000000 ^ k * 1000000000 := by rw [Nat.mul_assoc]
    rw [this]
    omega
theorem hv_one {d : Nat → Nat} (k : Nat) : hv d (k + 1) = d 0 * 1000000000 ^ k + hv (fun i => d (1 + i)) k := by
  rw [Nat.add_comm k 1, hv_add 1 k]; simp [hv]
/-- a limb of the number -/
theorem hv_limb {d : Nat → Nat} {n i : Nat} (hi : i < n) (h : ∀ k, k < n → d k < 1000000000) : hv d n / 1000000000 ^ (n - 1 - i) % 1000000000 = d i := by
  obtain ⟨k, rfl⟩ : ∃ k, n = (i + 1) + k := ⟨n - (i + 1), by omega⟩
  rw [hv_add (i + 1) k, show i + 1 + k - 1 - i = k by omega]
  have h1 : hv (fun j => d (i + 1 + j)) k < 1000000000 ^ k := hv_lt (fun j hj => h (i + 1 + j) (by omega))
  rw [Nat.mul_comm, Nat.mul_add_div (Nat.pow_pos (by decide)), Nat.div_eq_of_lt h1, hv, Nat.add_zero]
  have := h i (by omega)
  omega
def RvN (l : Nat → Int32) (n : Nat) : Nat := if n = 0 then hv (dg l) 156 else RvN l (n - 1)
termination_by n
abbrev rv (l : Nat → Int32) : Nat := RvN l 0
theorem rv_eq (l : Nat → Int32) : rv l = hv (dg l) 156 := by
  show RvN l 0 = _
  rw [RvN]; simp
def LR (l : Nat → Int32) : Prop := ∀ i, i < 156 → 0 ≤ (l i).toInt ∧ (l i).toInt < 1000000000
def LZ (l : Nat → Int32) (F E : Int) : Prop := ∀ i : Nat, i < 156 → ((i : Int) < F ∨ E < (i : Int)) → l i = 0
def RE (l : Nat → Int32) (F E : Int) : Prop := (F ≤ E ∧ 0 ≤ F ∧ E ≤ 155 ∧ l F.toNat ≠ 0 ∧ l E.toNat ≠ 0) ∨ (F = 156 ∧ E = -1)
def RIs (w : RWs) (V : Nat) (s : Bool) : Prop := LR w.1 ∧ LZ w.1 w.2.1.toInt w.2.2.1.toInt ∧ RE w.1 w.2.1.toInt w.2.2.1.toInt ∧ rv w.1 = V ∧ w.2.2.2 = nb s
theorem LR.dg {l : Nat → Int32} (h : LR l) {i : Nat} (hi : i < 156) : dg l i < 1000000000 := by
  have := h i hi
  show (l i).toInt.toNat < 1000000000
  omega
theorem LR.upd {l : Nat → Int32} (h : LR l) {i : Nat} {x : Int32} (h0 : 0 ≤ x.toInt) (h1 : x.toInt < 1000000000) : LR (upd l i x) := by
  intro k hk
  by_cases q : k = i
  · rw [q, upd_eq]; exact ⟨h0, h1⟩
  · rw [upd_ne q]; exact h k hk
theorem limbAt_in {c : CS} {r : Nat} {x : Int32} {i : Nat} (hx : x.toInt = i) (hi : i < 156) : f_X4_limbAt r x c = (rws c r).1 i := by
  have e : (156 : Int32).toInt = 156 := by decide
  have ec : x.toNatClampNeg = i := by rw [cl, hx]; omega
  unfold f_X4_limbAt
  rw [if_neg (by rw [ilt, hx, k0]; omega), if_pos (by rw [ilt, hx, e]; omega), ec]
  rfl
theorem limbAt_out {c : CS} {r : Nat} {x : Int32} (hx : x.toInt < 0 ∨ 156 ≤ x.toInt) : f_X4_limbAt r x c = 0 := by
  have e : (156 : Int32).toInt = 156 := by decide
  unfold f_X4_limbAt
  by_cases h : x < 0
  · rw [if_pos h]
  · rw [if_neg h, if_neg (by rw [ilt, e]; rw [ilt, k0] at h; omega)]
theorem min_i {x y : Int32} : (f_JM_min x y).toInt = if y.toInt < x.toInt then y.toInt else x.toInt := by
  unfold f_JM_min
  by_cases h : y < x
  · rw [if_pos h, if_pos (ilt.mp h)]
  · rw [if_neg h, if_neg (fun q => h (ilt.mpr q))]
theorem max_i {x y : Int32} : (f_JM_max x y).toInt = if x.toInt < y.toInt then y.toInt else x.toInt := by
  unfold f_JM_max
  by_cases h : x < y
  · rw [if_pos h, if_pos (ilt.mp h)]
  · rw [if_neg h, if_neg (fun q => h (ilt.mpr q))]
theorem setLimb_out {c : CS} {r : Nat} {x y : Int32} (hx : x.toInt < 0 ∨ 156 ≤ x.toInt) : f_X4_setLimb r x y c = c := by
  have e : (156 : Int32).toInt = 156 := by decide
  unfold f_X4_setLimb
  by_cases h : x < 0
  · rw [if_pos h]
  · rw [if_neg h, if_neg (by rw [ilt, e]; rw [ilt, k0] at h; omega)]
theorem setLimb_in {c : CS} {r : Nat} {x y : Int32} {i : Nat} (hx : x.toInt = i) (hi : i < 156) : ∃ F E, f_X4_setLimb r x y c = srws c r (upd (rws c r).1 i y, F, E, (rws c r).2.2.2) ∧ F.toInt = (if y = 0 then (rws c r).2.1.toInt else if (i : Int) < (rws c r).2.1.toInt then (i : Int) else (rws c r).2.1.toInt) ∧ E.toInt = (if y = 0 then (rws c r).2.2.1.toInt else if (rws c r).2.2.1.toInt < (i : Int) then (i : Int) else (rws c r).2.2.1.toInt) := by
  have e : (156 : Int32).toInt = 156 := by decide
  have ec : x.toNatClampNeg = i := by rw [cl, hx]; omega
  unfold f_X4_setLimb
  rw [if_neg (by rw [ilt, hx, k0]; omega), if_pos (by rw [ilt, hx, e]; omega)]
  simp only [lt, ec]
  have e1 : srwL c r (upd (rwL c r) i y) = srws c r (upd (rws c r).1 i y, (rws c r).2) := rfl
  rw [e1]
  by_cases h : y = 0
  · rw [if_pos h, if_pos h, if_pos h]
    exact ⟨(rws c r).2.1, (rws c r).2.2.1, rfl, rfl, rfl⟩
  · rw [if_neg h, if_neg h, if_neg h]
    refine ⟨f_JM_min (rws c r).2.1 x, f_JM_max (rws c r).2.2.1 x, ?_, by rw [min_i, hx], by rw [max_i, hx]⟩
    unfold srwE srwF rwF rwE
    simp only [rws_same, srws_srws]
