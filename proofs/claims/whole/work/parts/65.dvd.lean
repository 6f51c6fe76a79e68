/-! divide -/
theorem mask_n {x1 : Int32} {b : Nat} (hb : b ≤ 29) (hx1 : x1.toInt = b) : (jshl 1 x1 - 1).toBitVec.toNat = 2 ^ b - 1 := by
  refine sub1_n (d := b) (by omega) ?_
  have h2 : 2 ^ b < 2 ^ 64 := Nat.pow_lt_pow_right (by decide) (by omega)
  rw [jshl_nat (k := b) hx1 (by omega), show (1 : Int64).toBitVec.toNat = 1 from rfl, Nat.one_mul]
  exact Nat.mod_eq_of_lt h2
theorem dv_q {S P R d : Nat} (hS : S = R * 1000000000 + d) (hR : R < P) (hd : d < 1000000000) : S / P < 1000000000 := by
  apply Nat.div_lt_of_lt_mul
  have h1 : (R + 1) * 1000000000 ≤ P * 1000000000 := Nat.mul_le_mul_right _ hR
  omega
theorem dv_limb {X : Int64} {x1 : Int32} {m : Int64} {b R d : Nat} (hb : b ≤ 29) (hx1 : x1.toInt = b) (hm : m.toBitVec.toNat = 2 ^ b - 1) (hR : R < 2 ^ b) (hd : d < 1000000000) (hX : X.toInt = ((R * 1000000000 + d : Nat) : Int)) : (jushr X x1).toInt32.toInt = (((R * 1000000000 + d) / 2 ^ b : Nat) : Int) ∧ (X &&& m).toInt = (((R * 1000000000 + d) % 2 ^ b : Nat) : Int) := by
  have hpb : 2 ^ b ≤ 2 ^ 29 := Nat.pow_le_pow_right (by decide) hb
  rw [show (2 : Nat) ^ 29 = 536870912 by decide] at hpb
  have hq := dv_q rfl hR hd
  have hp : 0 < 2 ^ b := Nat.pow_pos (by decide)
  have e1 := jushr_nat (x := X) (y := x1) (k := b) hx1 (by omega)
  have e2 := and64 X m
  rw [hm, and_pow] at e2
  have hr := Nat.mod_lt (R * 1000000000 + d) hp
  have u1 := u64 X
  have hXn : X.toBitVec.toNat = R * 1000000000 + d := by clear e1 e2 hq hr; omega
  rw [hXn] at e1 e2
  clear hXn u1 hX
  generalize (R * 1000000000 + d) / 2 ^ b = Q at *
  generalize (R * 1000000000 + d) % 2 ^ b = T at *
  clear hR hd
  have u2 := u64 (jushr X x1)
  have u3 := u64 (X &&& m)
  have e3 : (jushr X x1).toInt = Q := by omega
  refine ⟨?_, by omega⟩
  rw [li (by omega) (by omega), e3]
theorem sum9 {x4 : Int64} {y : Int32} {R d b : Nat} (hb : b ≤ 29) (h4 : x4.toInt = R) (hR : R < 2 ^ b) (hy : y.toInt = d) (hd : d < 1000000000) : (x4 * 1000000000 + y.toInt64).toInt = ((R * 1000000000 + d : Nat) : Int) ∧ (x4 * 1000000000).toInt = ((R * 1000000000 : Nat) : Int) := by
  have hpb : 2 ^ b ≤ 2 ^ 29 := Nat.pow_le_pow_right (by decide) hb
  rw [show (2 : Nat) ^ 29 = 536870912 by decide] at hpb
  have eB : (1000000000 : Int64).toInt = 1000000000 := by decide +kernel
  have e1 : (x4 * 1000000000).toInt = ((R * 1000000000 : Nat) : Int) := by
    rw [lm (by rw [h4, eB]; omega) (by rw [h4, eB]; omega), h4, eB]; omega
  have e2 : y.toInt64.toInt = d := by rw [il, hy]
  refine ⟨?_, e1⟩
  rw [la (by rw [e1, e2]; omega) (by rw [e1, e2]; omega), e1, e2]; omega
def DEq (H G b R : Nat) : Prop := H = G * 2 ^ b + R
theorem d_ar {H G b R D P : Nat} (h : DEq H G b R) (hP : P = 2 ^ b) : DEq (H * 1000000000 + D) (G * 1000000000 + (R * 1000000000 + D) / P) b ((R * 1000000000 + D) % P) := by
  subst hP
  have h1 := Nat.div_add_mod (R * 1000000000 + D) (2 ^ b)
  unfold DEq at *
  rw [h, Nat.add_mul, Nat.add_mul]
  have e : G * 2 ^ b * 1000000000 = G * 1000000000 * 2 ^ b := Nat.mul_right_comm _ _ _
  have e2 : (R * 1000000000 + D) / 2 ^ b * 2 ^ b = 2 ^ b * ((R * 1000000000 + D) / 2 ^ b) := Nat.mul_comm _ _
  rw [e, e2]
  generalize 2 ^ b * ((R * 1000000000 + D) / 2 ^ b) = A at *
  generalize (R * 1000000000 + D) % 2 ^ b = C at *
  generalize G * 1000000000 * 2 ^ b = F at *
  omega
def D1 (W : RWs) (b : Nat) (c : CS) (r : Nat) (n : Nat) (a : Int64 × Int32 × CS) : Prop := ∃ (l : Nat → Int32) (i R : Nat), a.2.2 = srws c r (l, W.2) ∧ a.2.1 = nI i ∧ (i : Int) + n = W.2.2.1.toInt + 1 ∧ W.2.1.toInt ≤ (i : Int) ∧ LR l ∧ LZ l W.2.1.toInt W.2.2.1.toInt ∧ (∀ k, i ≤ k → l k = W.1 k) ∧ a.1.toInt = R ∧ R < 2 ^ b ∧ DEq (hv (dg W.1) i) (hv (dg l) i) b R
theorem d1_step {W : RWs} {b : Nat} {c : CS} {r : Nat} (hb : b ≤ 29) {x1 : Int32} (hx1 : x1.toInt = b) {x2 : Int64} (hx2 : x2.toBitVec.toNat = 2 ^ b - 1) {x6 : Int32} (hx6 : x6.toInt = W.2.2.1.toInt) (h0 : 0 ≤ W.2.1.toInt) (hE : W.2.2.1.toInt ≤ 155) (n : Nat) (a : Int64 × Int32 × CS) (hI : D1 W b c r n a) : (∃ z, f_X4_divide_L31 r x1 x2 a.1 x6 a.2.1 a.2.2 = some (.inr z) ∧ ∃ i, D1 W b c r 0 (z.1, i, z.2)) ∨ ∃ a' n', f_X4_divide_L31 r x1 x2 a.1 x6 a.2.1 a.2.2 = some (.inl a') ∧ n' < n ∧ D1 W b c r n' a' := by
  obtain ⟨l, i, R, h1, h2, h3, h4, h5, h6, h7, h8, h9, h10⟩ := hI
  obtain ⟨x4, x7, cc⟩ := a
  change cc = _ at h1
  change x7 = _ at h2
  change x4.toInt = _ at h8
  subst h1 h2
  show (∃ z, f_X4_divide_L31 r x1 x2 x4 x6 (nI i) (srws c r (l, W.2)) = _ ∧ _) ∨ ∃ a' n', f_X4_divide_L31 r x1 x2 x4 x6 (nI i) (srws c r (l, W.2)) = _ ∧ _
  have hi : (nI i).toInt = i := nI_toInt (by omega)
  unfold f_X4_divide_L31
  by_cases hc : x6 < nI i
  · rw [if_pos hc]
    rw [ilt] at hc
    have hn : n = 0 := by omega
    subst hn
    exact .inl ⟨_, rfl, nI i, l, i, R, rfl, rfl, h3, h4, h5, h6, h7, h8, h9, h10⟩
  · rw [if_neg hc]
    rw [ilt] at hc
    have hvi : vI (nI i) 156 := (vIn (by omega)).mpr (by omega)
    rw [if_pos hvi]
    simp only [lt]
    rw [if_pos hvi, nI_clamp (show i < 2 ^ 31 by omega), nI_inc (by omega)]
    have el : rwL (srws c r (l, W.2)) r = l := by unfold rwL; rw [rws_same]
    rw [el]
    have hli := h5 i (by omega)
    have hd := h5.dg (show i < 156 by omega)
    have s9 := (sum9 hb h8 h9 (dg_int hli.1).symm hd).1
    obtain ⟨e1, e2⟩ := dv_limb hb hx1 hx2 h9 hd s9
    have hq := dv_q rfl h9 hd
    have hr := Nat.mod_lt (R * 1000000000 + dg l i) (show 0 < 2 ^ b from Nat.pow_pos (by decide))
    generalize x4 * 1000000000 + (l i).toInt64 = X at *
    have hdW : dg l i = dg W.1 i := by unfold dg; rw [h7 i (Nat.le_refl _)]
    refine .inr ⟨_, n - 1, rfl, by omega, upd l i (jushr X x1).toInt32, i + 1, (R * 1000000000 + dg l i) % 2 ^ b, ?_, rfl, by omega, by omega, ?_, ?_, ?_, e2, hr, ?_⟩
    · unfold srwL; simp only [rws_same, srws_srws]
    · exact h5.upd (by rw [e1]; exact Int.natCast_nonneg _) (by rw [e1]; exact Int.ofNat_lt.mpr hq)
    · intro k hk hh
      by_cases q : k = i
      · exfalso; omega
      · rw [upd_ne q]; exact h6 k hk hh
    · intro k hk
      rw [upd_ne (by omega)]; exact h7 k (by omega)
    · rw [hv, hv, dg_upd, e1, hv_congr (d := dg (upd l i (jushr X x1).toInt32)) (e := dg l) (fun k hk => dg_upd_ne (by omega)), ← hdW]
      exact d_ar h10 rfl
def D2 (W : RWs) (b : Nat) (c : CS) (r : Nat) (n : Nat) (a : Int64 × Int32 × CS) : Prop := ∃ (l : Nat → Int32) (F E : Int32) (i R : Nat), a.2.2 = srws c r (l, F, E, W.2.2.2) ∧ a.2.1 = nI i ∧ i + n = 156 ∧ 0 ≤ F.toInt ∧ F.toInt ≤ 156 ∧ -1 ≤ E.toInt ∧ E.toInt < (i : Int) ∧ LR l ∧ LZ l F.toInt E.toInt ∧ a.1.toInt = R ∧ R < 2 ^ b ∧ DEq (hv (dg W.1) i) (hv (dg l) i) b R
def D2q (W : RWs) (b V : Nat) (c : CS) (r : Nat) (z : Int64 × CS) : Prop := ∃ (l : Nat → Int32) (F E : Int32) (R : Nat), z.2 = srws c r (l, F, E, W.2.2.2) ∧ 0 ≤ F.toInt ∧ F.toInt ≤ 156 ∧ -1 ≤ E.toInt ∧ E.toInt ≤ 155 ∧ LR l ∧ LZ l F.toInt E.toInt ∧ z.1.toInt = R ∧ R < 2 ^ b ∧ DEq V (rv l) b R
theorem d2_step {W : RWs} {b V : Nat} {c : CS} {r : Nat} (hb : b ≤ 29) {x1 : Int32} (hx1 : x1.toInt = b) {x2 : Int64} (hx2 : x2.toBitVec.toNat = 2 ^ b - 1) (hV : rv W.1 = V) {E0 : Int} (hW : ∀ k : Nat, k < 156 → E0 < (k : Int) → W.1 k = 0) (n : Nat) (a : Int64 × Int32 × CS) (hI : D2 W b c r n a ∧ E0 < a.2.1.toInt) : (∃ z, f_X4_divide_L85 r x1 x2 a.1 a.2.1 a.2.2 = some (.inr z) ∧ D2q W b V c r z) ∨ ∃ a' n', f_X4_divide_L85 r x1 x2 a.1 a.2.1 a.2.2 = some (.inl a') ∧ n' < n ∧ (D2 W b c r n' a' ∧ E0 < a'.2.1.toInt) := by
  obtain ⟨⟨l, F, E, i, R, h1, h2, h3, h4, h4', h4a, h4b, h5, h6, h8, h9, h10⟩, hE0⟩ := hI
  obtain ⟨x4, x7, cc⟩ := a
  change cc = _ at h1
  change x7 = _ at h2
  change x4.toInt = _ at h8
  change E0 < x7.toInt at hE0
  subst h1 h2
  have hi : (nI i).toInt = i := nI_toInt (by omega)
  have e156 : (156 : Int32).toInt = 156 := by decide
  show (∃ z, f_X4_divide_L85 r x1 x2 x4 (nI i) (srws c r (l, F, E, W.2.2.2)) = _ ∧ _) ∨ ∃ a' n', f_X4_divide_L85 r x1 x2 x4 (nI i) (srws c r (l, F, E, W.2.2.2)) = _ ∧ _
  unfold f_X4_divide_L85
  by_cases hc : (156 : Int32) ≤ nI i
  · rw [if_pos hc]
    rw [ile, e156, hi] at hc
    have hi6 : i = 156 := by omega
    rw [hi6] at h10
    rw [← rv_eq, ← rv_eq, hV] at h10
    exact .inl ⟨_, rfl, l, F, E, R, rfl, h4, h4', h4a, by omega, h5, h6, h8, h9, h10⟩
  · rw [if_neg hc]
    rw [ile, e156, hi] at hc
    have e0 : (0 : Int64).toInt = 0 := by decide
    by_cases hz : x4 = 0
    · rw [if_pos hz]
      have hR0 : R = 0 := by rw [leq, h8, e0] at hz; omega
      refine .inl ⟨_, rfl, l, F, E, R, rfl, h4, h4', h4a, by omega, h5, h6, h8, h9, ?_⟩
      have t1 : tl W.1 i = 0 := by rw [tl_eq]; exact hv_zero (fun k hk => dg0 (hW _ (by omega) (by omega)))
      have t2 : tl l i = 0 := by rw [tl_eq]; exact hv_zero (fun k hk => dg0 (h6 _ (by omega) (by omega)))
      unfold DEq at *
      rw [← hV, rv_tl W.1 (i := i) (by omega), rv_tl l (i := i) (by omega), t1, t2, h10, hR0]
      simp only [Nat.add_zero]
      exact Nat.mul_right_comm _ _ _
    · rw [if_neg hz]
      simp only [lt]
      rw [nI_inc (by omega)]
      have s9 := (sum9 (y := 0) (d := 0) hb h8 h9 (by decide) (by decide)).2
      obtain ⟨e1, e2⟩ := dv_limb (R := R) (d := 0) hb hx1 hx2 h9 (by decide) (by rw [Nat.add_zero]; exact s9)
      have hq := dv_q (S := R * 1000000000 + 0) (R := R) (d := 0) rfl h9 (by decide)
      have hr := Nat.mod_lt (R * 1000000000 + 0) (show 0 < 2 ^ b from Nat.pow_pos (by decide))
      generalize x4 * 1000000000 = X at *
      obtain ⟨F1, E1, s1, s2, s3⟩ := setLimb_in (c := srws c r (l, F, E, W.2.2.2)) (r := r) (x := nI i) (y := (jushr X x1).toInt32) (i := i) hi (by omega)
      rw [rws_same] at s1 s2 s3
      rw [s1, srws_srws]
      change F1.toInt = (if (jushr X x1).toInt32 = 0 then F.toInt else if (i : Int) < F.toInt then (i : Int) else F.toInt) at s2
      change E1.toInt = (if (jushr X x1).toInt32 = 0 then E.toInt else if E.toInt < (i : Int) then (i : Int) else E.toInt) at s3
      have hl0 : l i = 0 := h6 i (by omega) (by omega)
      have hd0 : dg W.1 i = 0 := dg0 (hW i (by omega) (by omega))
      generalize (jushr X x1).toInt32 = Y at *
      have hi1 : (nI (i + 1)).toInt = ((i + 1 : Nat) : Int) := nI_toInt (by omega)
      refine .inr ⟨_, n - 1, rfl, by omega, ⟨upd l i Y, F1, E1, i + 1, (R * 1000000000 + 0) % 2 ^ b, rfl, rfl, by omega, ?_, ?_, ?_, ?_, ?_, ?_, e2, hr, ?_⟩, ?_⟩
      · rw [s2]; split <;> (try split) <;> omega
      · rw [s2]; split <;> (try split) <;> omega
      · rw [s3]; split <;> (try split) <;> omega
      · rw [s3]; split <;> (try split) <;> omega
      · exact h5.upd (by rw [e1]; exact Int.natCast_nonneg _) (by rw [e1]; exact Int.ofNat_lt.mpr hq)
      · intro k hk hh
        by_cases q : k = i
        · subst q
          rw [upd_eq]
          by_cases h11 : Y = 0
          · exact h11
          · exfalso
            rw [if_neg h11] at s2 s3
            revert s2 s3; split <;> (try split) <;> omega
        · rw [upd_ne q]
          refine h6 k hk ?_
          rw [s2, s3] at hh
          clear s1 s2 s3 e1 e2 hq hr
          revert hh
          by_cases h11 : Y = 0
          · rw [if_pos h11, if_pos h11]; omega
          · rw [if_neg h11, if_neg h11]; split <;> (try split) <;> omega
      · rw [hv, hv, dg_upd, e1, hv_congr (d := dg (upd l i Y)) (e := dg l) (fun k hk => dg_upd_ne (by omega)), hd0]
        exact d_ar h10 rfl
      · show E0 < (nI (i + 1)).toInt
        omega
