/-! what a number A / B is rounded to -/
def RV (f : Nat) (neg : Bool) (way A B : Nat) (r : Nat × Nat) : Prop := ∃ q h e, Rq f A B q h e ∧ r = RO f neg way q h e
theorem RV.uniq {f way A B : Nat} {neg : Bool} {r r' : Nat × Nat} (a : RV f neg way A B r) (b : RV f neg way A B r') : r = r' := by
  obtain ⟨q, h, e, a1, rfl⟩ := a
  obtain ⟨q', h', e', b1, rfl⟩ := b
  obtain ⟨rfl, rfl, rfl⟩ := rq_unique a1 b1
  rfl
theorem RV.scale {f way A B A' B' : Nat} {neg : Bool} {r : Nat × Nat} (hc : A * B' = A' * B) (hB' : 0 < B') (a : RV f neg way A B r) : RV f neg way A' B' r := by
  obtain ⟨q, h, e, a1, rfl⟩ := a
  exact ⟨q, h, e, rq_scale hc hB' a1, rfl⟩
theorem RV.big {f way A B : Nat} {neg : Bool} {r : Nat × Nat} (a : RV f neg way A B r) (hb : B * 2 ^ 1024 ≤ A) : r = ovr f way neg := by
  obtain ⟨q, h, e, a1, rfl⟩ := a
  exact ro_big a1 hb
theorem RV.tiny {f way A B : Nat} {neg : Bool} {r : Nat × Nat} (a : RV f neg way A B r) (hA : 0 < A) (hb : A * 2 ^ 1075 < B) : r = RO f neg way (lst f) 0 true := by
  obtain ⟨q, h, e, a1, rfl⟩ := a
  obtain ⟨rfl, rfl, rfl⟩ := rq_unique a1 (rq_tiny hA hb)
  rfl
def RT (f : Nat) (neg : Bool) (way A B : Nat) (r : Nat × Nat) : Prop := (B * 2 ^ 1024 ≤ A ∧ r = ovr f way neg) ∨ (A * 2 ^ 1075 < B ∧ r = RO f neg way (lst f) 0 true) ∨ RV f neg way A B r
theorem bt_absurd {A B T U : Nat} (hA : 0 < A) (hT : 0 < T) (hU : 0 < U) (h1 : B * T ≤ A) (h2 : A * U < B) : False := by
  have h3 : B * 1 ≤ B * T := Nat.mul_le_mul_left _ hT
  have h4 : A * 1 ≤ A * U := Nat.mul_le_mul_left _ hU
  omega
theorem pp2 (k : Nat) : 0 < 2 ^ k := Nat.pow_pos (by decide)
theorem RT.uniq {f way A B : Nat} {neg : Bool} {r r' : Nat × Nat} (hA : 0 < A) (a : RT f neg way A B r) (b : RT f neg way A B r') : r = r' := by
  rcases a with ⟨a1, a2⟩ | ⟨a1, a2⟩ | a
  · rcases b with ⟨b1, b2⟩ | ⟨b1, b2⟩ | b
    · rw [a2, b2]
    · exact (bt_absurd hA (pp2 1024) (pp2 1075) a1 b1).elim
    · rw [a2, b.big a1]
  · rcases b with ⟨b1, b2⟩ | ⟨b1, b2⟩ | b
    · exact (bt_absurd hA (pp2 1024) (pp2 1075) b1 a1).elim
    · rw [a2, b2]
    · rw [a2, b.tiny hA a1]
  · rcases b with ⟨b1, b2⟩ | ⟨b1, b2⟩ | b
    · rw [b2, a.big b1]
    · rw [b2, a.tiny hA b1]
    · exact a.uniq b
theorem cross_le {A B A' B' T : Nat} (hc : A * B' = A' * B) (hB : 0 < B) (h : B * T ≤ A) : B' * T ≤ A' := by
  refine Nat.le_of_mul_le_mul_right (c := B) ?_ hB
  rw [← hc]
  have := Nat.mul_le_mul_right B' h
  rw [Nat.mul_right_comm]
  rw [Nat.mul_right_comm, Nat.mul_comm B B'] at this
  exact this
theorem cross_lt {A B A' B' T : Nat} (hc : A * B' = A' * B) (hB' : 0 < B') (h : A * T < B) : A' * T < B' := by
  refine Nat.lt_of_mul_lt_mul_right (a := B) ?_
  have := Nat.mul_lt_mul_of_pos_right h hB'
  have e1 : A' * T * B = A * T * B' := by rw [Nat.mul_right_comm, ← hc, Nat.mul_right_comm]
  rw [e1, Nat.mul_comm B' B]
  exact this
theorem RT.scale {f way A B A' B' : Nat} {neg : Bool} {r : Nat × Nat} (hc : A * B' = A' * B) (hB : 0 < B) (hB' : 0 < B') (a : RT f neg way A B r) : RT f neg way A' B' r := by
  rcases a with ⟨a1, a2⟩ | ⟨a1, a2⟩ | a
  · exact .inl ⟨cross_le hc hB a1, a2⟩
  · exact .inr (.inl ⟨cross_lt hc hB' a1, a2⟩)
  · exact .inr (.inr (a.scale hc hB'))
theorem ro_lt {f way : Nat} {neg : Bool} {q : Int} {h : Nat} {e : Bool} : (RO f neg way q h e).1 ≤ inf f := by
  unfold RO
  split
  · unfold ovr
    show (if farw way neg then inf f else inf f - 1) ≤ inf f
    split <;> omega
  · rename_i h1
    show szf f neg way q h e ≤ inf f
    omega
theorem ovr_lt {f way : Nat} {neg : Bool} : (ovr f way neg).1 ≤ inf f := by
  show (if farw way neg then inf f else inf f - 1) ≤ inf f
  split <;> omega
theorem RT.lt {f way A B : Nat} {neg : Bool} {r : Nat × Nat} (a : RT f neg way A B r) : r.1 ≤ inf f := by
  rcases a with ⟨_, a2⟩ | ⟨_, a2⟩ | ⟨q, h, e, _, a2⟩
  · rw [a2]; exact ovr_lt
  · rw [a2]; exact ro_lt
  · rw [a2]; exact ro_lt
/-! decimals far off -/
theorem c1024 : 2 ^ 1024 ≤ 10 ^ 309 := by decide +kernel
theorem c1075 : 2 ^ 1075 ≤ 10 ^ 324 := by decide +kernel
def tp (E : Int) : Nat := 10 ^ E.toNat
theorem tp_pos (E : Int) : 0 < tp E := Nat.pow_pos (by decide)
theorem far_hi {N D : Nat} {E : Int} (hN : Dn N D) (h : 310 < (D : Int) + E) : tp (-E) * 2 ^ 1024 ≤ N * tp E := by
  have h1 : tp (-E) * 2 ^ 1024 ≤ tp (-E) * 10 ^ 309 := Nat.mul_le_mul_left _ c1024
  have h2 : 10 ^ (D - 1) * tp E ≤ N * tp E := Nat.mul_le_mul_right _ hN.2.1
  have h3 : tp (-E) * 10 ^ 309 ≤ 10 ^ (D - 1) * tp E := by
    unfold tp
    rw [← Nat.pow_add, ← Nat.pow_add]
    exact Nat.pow_le_pow_right (by decide) (by omega)
  exact Nat.le_trans h1 (Nat.le_trans h3 h2)
theorem far_lo {N D : Nat} {E : Int} (hN : Dn N D) (h : (D : Int) + E < -330) : N * tp E * 2 ^ 1075 < tp (-E) := by
  have h1 : N * tp E * 2 ^ 1075 ≤ N * tp E * 10 ^ 324 := Nat.mul_le_mul_left _ c1075
  have h2 : N * (tp E * 10 ^ 324) < 10 ^ D * (tp E * 10 ^ 324) := Nat.mul_lt_mul_of_pos_right hN.2.2 (Nat.mul_pos (tp_pos _) (Nat.pow_pos (by decide)))
  have h3 : 10 ^ D * (tp E * 10 ^ 324) ≤ tp (-E) := by
    unfold tp
    rw [← Nat.pow_add, ← Nat.pow_add]
    exact Nat.pow_le_pow_right (by decide) (by omega)
  rw [Nat.mul_assoc N (tp E) (10 ^ 324)] at h1
  exact Nat.lt_of_le_of_lt h1 (Nat.lt_of_lt_of_le h2 h3)
/-! numbers of digits -/
def nv (b : Nat) (d : Nat → Nat) : Nat → Nat
  | 0 => 0
  | n + 1 => nv b d n * b + d n
theorem nv_congr {b : Nat} {d e : Nat → Nat} {n : Nat} (h : ∀ k, k < n → d k = e k) : nv b d n = nv b e n := by
  induction n with
  | zero => rfl
  | succ n ih => rw [nv, nv, ih (fun k hk => h k (by omega)), h n (by omega)]
theorem nv_zero {b : Nat} {d : Nat → Nat} {n : Nat} (h : ∀ k, k < n → d k = 0) : nv b d n = 0 := by
  induction n with
  | zero => rfl
  | succ n ih => rw [nv, ih (fun k hk => h k (by omega)), h n (by omega)]; simp
theorem nv_lt {b : Nat} {d : Nat → Nat} {n : Nat} (h : ∀ k, k < n → d k < b) : nv b d n < b ^ n := by
  induction n with
  | zero => simp [nv]
  | succ n ih =>
    have h1 := ih (fun k hk => h k (by omega))
    have h2 := h n (by omega)
    have h3 : (nv b d n + 1) * b ≤ b ^ n * b := Nat.mul_le_mul_right _ h1
    rw [Nat.add_mul, Nat.one_mul] at h3
    rw [nv, Nat.pow_succ]
    omega
theorem nv_add {b : Nat} {d : Nat → Nat} (n k : Nat) : nv b d (n + k) = nv b d n * b ^ k + nv b (fun i => d (n + i)) k := by
  induction k with
  | zero => simp [nv]
  | succ k ih =>
    rw [← Nat.add_assoc, nv, ih, nv, Nat.pow_succ, Nat.add_mul, Nat.mul_assoc]
    omega
/-- the first digit other than 0 at place k: so many digits -/
theorem nv_dn {d : Nat → Nat} {k n : Nat} (h : ∀ i, i < n → d i < 10) (hz : ∀ i, i < k → d i = 0) (hk : k < n) (hd : d k ≠ 0) : Dn (nv 10 d n) (n - k) := by
  obtain ⟨r, rfl⟩ : ∃ r, n = k + (r + 1) := ⟨n - k - 1, by omega⟩
  rw [nv_add k (r + 1), nv_zero hz, Nat.zero_mul, Nat.zero_add, show k + (r + 1) - k = r + 1 by omega]
  refine ⟨by omega, ?_, nv_lt (fun i hi => h (k + i) (by omega))⟩
  rw [Nat.add_sub_cancel, Nat.add_comm r 1, nv_add 1 r]
  have h1 : nv 10 (fun i => d (k + i)) 1 = d k := by simp [nv]
  rw [h1]
  have h2 : 1 * 10 ^ r ≤ d k * 10 ^ r := Nat.mul_le_mul_right _ (Nat.pos_of_ne_zero hd)
  omega
/-! frames of the reference's state -/
def Fr (a i j : List Nat) (m m' : MS) : Prop := (∀ k, k ∉ a → mA m' k = mA m k) ∧ (∀ k, k ∉ i → mI m' k = mI m k) ∧ (∀ k, k ∉ j → mJ m' k = mJ m k)
theorem Fr.refl {a i j : List Nat} (m : MS) : Fr a i j m m := ⟨fun _ _ => rfl, fun _ _ => rfl, fun _ _ => rfl⟩
theorem Fr.trans {a i j : List Nat} {m m' m'' : MS} (h : Fr a i j m m') (g : Fr a i j m' m'') : Fr a i j m m'' :=
  ⟨fun k hk => (g.1 k hk).trans (h.1 k hk), fun k hk => (g.2.1 k hk).trans (h.2.1 k hk), fun k hk => (g.2.2 k hk).trans (h.2.2 k hk)⟩
theorem Fr.mono {a i j a' i' j' : List Nat} {m m' : MS} (h : Fr a i j m m') (ha : ∀ k, k ∈ a → k ∈ a') (hi : ∀ k, k ∈ i → k ∈ i') (hj : ∀ k, k ∈ j → k ∈ j') : Fr a' i' j' m m' :=
  ⟨fun k hk => h.1 k (fun q => hk (ha k q)), fun k hk => h.2.1 k (fun q => hk (hi k q)), fun k hk => h.2.2 k (fun q => hk (hj k q))⟩
theorem mI_smI_ne {m : MS} {i k : Nat} {v : Int32} (h : k ≠ i) : mI (smI m i v) k = mI m k := by simp [mI, smI, fup, h]
theorem mI_smI {m : MS} {i : Nat} {v : Int32} : mI (smI m i v) i = v := by simp [mI, smI, fup]
theorem mJ_smJ_ne {m : MS} {i k : Nat} {v : Int64} (h : k ≠ i) : mJ (smJ m i v) k = mJ m k := by simp [mJ, smJ, fup, h]
theorem mJ_smJ {m : MS} {i : Nat} {v : Int64} : mJ (smJ m i v) i = v := by simp [mJ, smJ, fup]
theorem mI_smA {m : MS} {i k : Nat} {v : Nat → Int32} : mI (smA m i v) k = mI m k := rfl
theorem mJ_smA {m : MS} {i k : Nat} {v : Nat → Int32} : mJ (smA m i v) k = mJ m k := rfl
theorem mA_smI {m : MS} {i k : Nat} {v : Int32} : mA (smI m i v) k = mA m k := rfl
theorem mJ_smI {m : MS} {i k : Nat} {v : Int32} : mJ (smI m i v) k = mJ m k := rfl
theorem mA_smJ {m : MS} {i k : Nat} {v : Int64} : mA (smJ m i v) k = mA m k := rfl
theorem mI_smJ {m : MS} {i k : Nat} {v : Int64} : mI (smJ m i v) k = mI m k := rfl
theorem Fr.sA {a i j : List Nat} {m : MS} {k : Nat} {v : Nat → Int32} (h : k ∈ a) : Fr a i j m (smA m k v) := ⟨fun q hq => smA_ne (fun e => hq (e ▸ h)), fun _ _ => rfl, fun _ _ => rfl⟩
theorem Fr.sI {a i j : List Nat} {m : MS} {k : Nat} {v : Int32} (h : k ∈ i) : Fr a i j m (smI m k v) := ⟨fun _ _ => rfl, fun q hq => mI_smI_ne (fun e => hq (e ▸ h)), fun _ _ => rfl⟩
theorem Fr.sJ {a i j : List Nat} {m : MS} {k : Nat} {v : Int64} (h : k ∈ j) : Fr a i j m (smJ m k v) := ⟨fun _ _ => rfl, fun _ _ => rfl, fun q hq => mJ_smJ_ne (fun e => hq (e ▸ h))⟩
/-- what a rounding of the reference leaves -/
def Rd (m m' : MS) (f : Nat) (neg : Bool) (r : Nat × Nat) : Prop := Fr [3, 4, 5] [11] [2] m m' ∧ mJ m' 2 = sgn f neg r.1 ∧ mI m' 11 = Int32.ofNat r.2
theorem rs_rd {m m' : MS} {f : Nat} {neg : Bool} {r : Nat × Nat} (h : Fr [3, 4, 5] [11] [2] m m') : Rd m (Rs m' f neg r) f neg r := by
  refine ⟨h.trans ((Fr.sJ (by decide)).trans (Fr.sI (by decide))), ?_, ?_⟩
  · unfold Rs; rw [mJ_smI, mJ_smJ]
  · unfold Rs; rw [mI_smI]
