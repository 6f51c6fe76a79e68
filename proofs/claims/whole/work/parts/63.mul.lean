/-! multiply -/
theorem dg_upd_ne {l : Nat → Int32} {i k : Nat} {x : Int32} (h : k ≠ i) : dg (upd l i x) k = dg l k := by unfold dg; rw [upd_ne h]
theorem dg_upd {l : Nat → Int32} {i : Nat} {x : Int32} : dg (upd l i x) i = x.toInt.toNat := by unfold dg; rw [upd_eq]
def TL (l : Nat → Int32) (i n : Nat) : Nat := if n = 0 then hv (fun k => dg l (i + k)) (156 - i) else TL l i (n - 1)
termination_by n
abbrev tl (l : Nat → Int32) (i : Nat) : Nat := TL l i 0
theorem tl_eq (l : Nat → Int32) (i : Nat) : tl l i = hv (fun k => dg l (i + k)) (156 - i) := by
  show TL l i 0 = _
  rw [TL]; simp
theorem tl_succ {l : Nat → Int32} {i : Nat} (hi : i < 156) : tl l i = dg l i * 1000000000 ^ (155 - i) + tl l (i + 1) := by
  rw [tl_eq, tl_eq]
  rw [show 156 - i = (155 - i) + 1 by omega, hv_one, Nat.add_zero, show 156 - (i + 1) = 155 - i by omega]
  congr 2
  funext k
  rw [Nat.add_assoc]
theorem tl_congr {l u : Nat → Int32} {i : Nat} (h : ∀ k, i ≤ k → k < 156 → l k = u k) : tl l i = tl u i := by
  rw [tl_eq, tl_eq]
  exact hv_congr (fun k hk => by unfold dg; rw [h (i + k) (by omega) (by omega)])
theorem tl_upd {l : Nat → Int32} {i j : Nat} {x : Int32} (h : j < i) : tl (upd l j x) i = tl l i := tl_congr (fun k hk _ => upd_ne (by omega))
theorem rv_tl (l : Nat → Int32) {i : Nat} (hi : i ≤ 156) : rv l = hv (dg l) i * 1000000000 ^ (156 - i) + tl l i := by
  rw [rv_eq, tl_eq]
  rw [← hv_add i (156 - i), show i + (156 - i) = 156 by omega]
theorem rv_ge {l : Nat → Int32} (h : LR l) {i : Nat} (hi : i < 156) : dg l i * 1000000000 ^ (155 - i) ≤ rv l := by
  rw [rv_tl l (i := i) (by omega), tl_succ hi]
  omega
theorem mul_q {d P C : Nat} (hd : d < 1000000000) (hC : C < P) : (d * P + C) / 1000000000 < P := by
  apply Nat.div_lt_of_lt_mul
  have h11 : d * P ≤ 999999999 * P := Nat.mul_le_mul_right _ (by omega)
  clear hd
  generalize d * P = D at *
  omega
theorem dv9 {X : Int64} {S : Nat} (h : X.toInt = S) (hS : S < 9223372036854775808) : (X / 1000000000).toInt = ((S / 1000000000 : Nat) : Int) ∧ (X - (X / 1000000000) * 1000000000).toInt32.toInt = ((S % 1000000000 : Nat) : Int) := by
  have eB : (1000000000 : Int64).toInt = 1000000000 := by decide +kernel
  have e4 : (X / 1000000000).toInt = ((S / 1000000000 : Nat) : Int) := by
    rw [ldv (by omega), h, eB, Int.tdiv_eq_ediv_of_nonneg (by omega)]; omega
  have e6 : ((X / 1000000000) * 1000000000).toInt = ((S / 1000000000 * 1000000000 : Nat) : Int) := by
    rw [lm (by rw [e4, eB]; omega) (by rw [e4, eB]; omega), e4, eB]; omega
  have e7 : (X - (X / 1000000000) * 1000000000).toInt = ((S % 1000000000 : Nat) : Int) := by
    rw [ls_ (by rw [h, e6]; omega) (by rw [h, e6]; omega), h, e6]; omega
  have hR : S % 1000000000 < 1000000000 := Nat.mod_lt _ (by omega)
  refine ⟨e4, ?_⟩
  clear e4 e6 h
  generalize S % 1000000000 = R at *
  rw [li (by rw [e7]; omega) (by rw [e7]; omega), e7]
theorem mul_limb {d b : Nat} {C : Int64} {y : Int32} {x1 : Int32} (hb : b ≤ 29) (hx1 : x1.toInt = b) (hy : y.toInt = (d : Int)) (hd : d < 1000000000) (h8 : 0 ≤ C.toInt) (h9 : C.toInt < ((2 ^ b : Nat) : Int)) : ∃ Q R : Nat, ((jshl y.toInt64 x1 + C) / 1000000000).toInt = Q ∧ Q < 2 ^ b ∧ ((jshl y.toInt64 x1 + C) - ((jshl y.toInt64 x1 + C) / 1000000000) * 1000000000).toInt32.toInt = R ∧ R < 1000000000 ∧ d * 2 ^ b + C.toInt.toNat = Q * 1000000000 + R := by
  have hpb : 2 ^ b ≤ 2 ^ 29 := Nat.pow_le_pow_right (by decide) hb
  rw [show (2 : Nat) ^ 29 = 536870912 by decide] at hpb
  have h12 : d * 2 ^ b ≤ 1000000000 * 536870912 := Nat.mul_le_mul (by omega) hpb
  have e1 : (jshl y.toInt64 x1).toInt = ((d * 2 ^ b : Nat) : Int) := by
    have e0 : y.toInt64.toInt = (d : Int) := by rw [il, hy]
    have e2 : ((d * 2 ^ b : Nat) : Int) = (d : Int) * 2 ^ b := by simp
    rw [jshl_eq (k := b) hx1 (by omega) (by rw [e0]; omega) (by rw [e0, ← e2]; omega), e0, e2]
  have hq := mul_q (P := 2 ^ b) (C := C.toInt.toNat) hd (by omega)
  generalize 2 ^ b = P at *
  have e3 : (jshl y.toInt64 x1 + C).toInt = ((d * P + C.toInt.toNat : Nat) : Int) := by
    rw [la (by rw [e1]; omega) (by rw [e1]; omega), e1]; omega
  have hS : d * P + C.toInt.toNat < 9223372036854775808 := by omega
  obtain ⟨k1, k2⟩ := dv9 e3 hS
  exact ⟨_, _, k1, hq, k2, Nat.mod_lt _ (by decide), (Nat.div_add_mod' _ _).symm⟩
def MEq (V b H C i T : Nat) : Prop := V * 2 ^ b = (H * 2 ^ b + C) * 1000000000 ^ (156 - i) + T
/-- limbs from i on are done: carry c -/
def MI (W : RWs) (b V : Nat) (c : CS) (r : Nat) (n : Nat) (a : Int64 × Int32 × CS) : Prop := ∃ (l : Nat → Int32) (i : Nat), a.2.2 = srws c r (l, W.2) ∧ a.2.1.toInt = (i : Int) - 1 ∧ (i : Int) - n = W.2.1.toInt ∧ (i : Int) ≤ W.2.2.1.toInt + 1 ∧ LR l ∧ (∀ k : Nat, k < 156 → ((k : Int) < W.2.1.toInt ∨ W.2.2.1.toInt < k) → l k = 0) ∧ (∀ k, k < i → l k = W.1 k) ∧ 0 ≤ a.1.toInt ∧ a.1.toInt < ((2 ^ b : Nat) : Int) ∧ MEq V b (hv (dg W.1) i) a.1.toInt.toNat i (tl l i)
theorem mul_ar {H D C b S Q R P T V : Nat} (h1 : D * b + C = Q * 1000000000 + R) (h2 : V = ((H * 1000000000 + D) * b + C) * P + T) (hS : S = 1000000000 * P) : V = (H * b + Q) * S + (R * P + T) := by
  rw [h2, hS]
  have e1 : (H * 1000000000 + D) * b + C = (H * b + Q) * 1000000000 + R := by
    rw [Nat.add_mul, Nat.add_mul, Nat.mul_right_comm]; omega
  rw [e1, Nat.add_mul, Nat.mul_assoc]
  omega
theorem mul_step {W : RWs} {b V : Nat} {c : CS} {r : Nat} (hb : b ≤ 29) {x1 : Int32} (hx1 : x1.toInt = b) {x4 : Int32} (hx4 : x4.toInt = W.2.1.toInt) (h0 : 0 ≤ W.2.1.toInt) (hE : W.2.2.1.toInt ≤ 155) (n : Nat) (a : Int64 × Int32 × CS) (hI : MI W b V c r n a) : (∃ z, f_X4_multiply_L24 r x1 a.1 x4 a.2.1 a.2.2 = some (.inr z) ∧ ∃ x i, z.2 = x ∧ MI W b V c r 0 (z.1, i, x)) ∨ ∃ a' n', f_X4_multiply_L24 r x1 a.1 x4 a.2.1 a.2.2 = some (.inl a') ∧ n' < n ∧ MI W b V c r n' a' := by
  obtain ⟨l, i, h1, h2, h3, h4, h5, h6, h7, h8, h9, h10⟩ := hI
  obtain ⟨x2, x5, cc⟩ := a
  change cc = _ at h1
  change x5.toInt = _ at h2
  change 0 ≤ x2.toInt at h8
  change x2.toInt < _ at h9
  subst h1
  show (∃ z, f_X4_multiply_L24 r x1 x2 x4 x5 (srws c r (l, W.2)) = _ ∧ _) ∨ ∃ a' n', f_X4_multiply_L24 r x1 x2 x4 x5 (srws c r (l, W.2)) = _ ∧ _
  have hpb : 2 ^ b ≤ 2 ^ 29 := Nat.pow_le_pow_right (by decide) hb
  rw [show (2 : Nat) ^ 29 = 536870912 by decide] at hpb
  unfold f_X4_multiply_L24
  by_cases hc : x5 < x4
  · rw [if_pos hc]
    rw [ilt] at hc
    have hn : n = 0 := by omega
    subst hn
    exact .inl ⟨_, rfl, srws c r (l, W.2), x5, rfl, l, i, rfl, h2, h3, h4, h5, h6, h7, h8, h9, h10⟩
  · rw [if_neg hc]
    rw [ilt] at hc
    obtain ⟨j, rfl⟩ : ∃ j, i = j + 1 := ⟨i - 1, by omega⟩
    have hx5 : x5 = nI j := nIeq (by omega) (by omega)
    subst hx5
    have hvi : vI (nI j) 156 := (vIn (by omega)).mpr (by omega)
    rw [if_pos hvi]
    simp only [lt]
    rw [if_pos hvi, nI_clamp (show j < 2 ^ 31 by omega)]
    have el : rwL (srws c r (l, W.2)) r = l := by unfold rwL; rw [rws_same]
    rw [el]
    have hlj := h5 j (by omega)
    obtain ⟨Q, R, e4, e5, e6, e7, e8⟩ := mul_limb hb hx1 (dg_int hlj.1).symm (h5.dg (show j < 156 by omega)) h8 h9
    have hdW : dg l j = dg W.1 j := by unfold dg; rw [h7 j (by omega)]
    generalize (jshl (l j).toInt64 x1 + x2) - ((jshl (l j).toInt64 x1 + x2) / 1000000000) * 1000000000 = Y at *
    generalize (jshl (l j).toInt64 x1 + x2) / 1000000000 = Z at *
    refine .inr ⟨_, n - 1, rfl, by omega, upd l j Y.toInt32, j, ?_, ?_, by omega, by omega, ?_, ?_, ?_, ?_, ?_, ?_⟩
    · unfold srwL; simp only [rws_same, srws_srws]
    · exact pred32 (nI_toInt (by omega))
    · exact h5.upd (by omega) (by omega)
    · intro k hk hh
      by_cases q : k = j
      · exfalso; omega
      · rw [upd_ne q]; exact h6 k hk hh
    · intro k hk
      rw [upd_ne (by omega)]; exact h7 k (by omega)
    · show 0 ≤ Z.toInt
      rw [e4]; exact Int.natCast_nonneg _
    · show Z.toInt < _
      rw [e4]; exact Int.ofNat_lt.mpr e5
    · show MEq V b (hv (dg W.1) j) Z.toInt.toNat j (tl (upd l j Y.toInt32) j)
      rw [tl_succ (show j < 156 by omega), dg_upd, tl_upd (show j < j + 1 by omega), e6, e4]
      refine mul_ar (D := dg W.1 j) (C := x2.toInt.toNat) ?_ (h10.trans ?_) ?_
      · rw [← hdW]; exact e8
      · rw [hv, show 156 - (j + 1) = 155 - j by omega]
      · rw [show 156 - j = (155 - j) + 1 by omega, Nat.pow_succ, Nat.mul_comm]
