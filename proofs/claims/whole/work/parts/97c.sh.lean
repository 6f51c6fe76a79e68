/-! the class finds the shortest -/
def lR (V VL : Nat) (ev : Bool) (k : Nat) : Bool := decide (VL < V / 10 ^ k * 10 ^ k) || (decide (VL = V / 10 ^ k * 10 ^ k) && ev)
def gR (V VH : Nat) (ev : Bool) (k : Nat) : Bool := decide ((V / 10 ^ k + 1) * 10 ^ k < VH) || (decide ((V / 10 ^ k + 1) * 10 ^ k = VH) && ev)
def bC (V VL VH : Nat) (ev : Bool) (k : Nat) : Bool := if lR V VL ev k && gR V VH ev k then upV 0 false V k else !(lR V VL ev k)
theorem found_o {c : CS} {V VL VH k : Nat} {s0 s1 s2 ev : Bool} (h0 : RIs (rws c 0) V s0) (h1 : RIs (rws c 1) VL s1) (h2 : RIs (rws c 2) VH s2) (h3 : Rw (rws c 3)) (hV : V < 10 ^ 1400) {x : Int32} (hx : x.toInt = (k : Int) - 1080) (hk : k ≤ 1390) : ∃ w, f_X6_foundDownTo x (nb ev) c = some (nb (lR V VL ev k || gR V VH ev k), srws c 3 w) ∧ RIs w ((V / 10 ^ k + ubi (bC V VL VH ev k)) * 10 ^ k) false := by
  obtain ⟨V3, s3, h3'⟩ := h3
  have hkp : kp x.toInt = k := by unfold kp; omega
  obtain ⟨w1, t1, t2⟩ := take_spec (c := c) (r0 := 3) (r1 := 0) (by decide) h0 h3' (x := x) (by omega) (by omega)
  rw [hkp] at t2
  have q0 : ∀ w, RIs (rws (srws c 3 w) 0) V s0 := fun w => by rw [rws_ne (by decide)]; exact h0
  have q1 : ∀ w, RIs (rws (srws c 3 w) 1) VL s1 := fun w => by rw [rws_ne (by decide)]; exact h1
  have q2 : ∀ w, RIs (rws (srws c 3 w) 2) VH s2 := fun w => by rw [rws_ne (by decide)]; exact h2
  obtain ⟨y, a1, a2⟩ := against_spec (c := srws c 3 w1) (r0 := 3) (r1 := 1) (by rw [rws_same]; exact t2) (q1 w1)
  have hfit : V / 10 ^ k * 10 ^ k + 10 ^ k < 1000000000 ^ 156 := by
    have b1 : V / 10 ^ k * 10 ^ k ≤ V := Nat.div_mul_le_self _ _
    have b2 : 10 ^ k ≤ 10 ^ 1400 := Nat.pow_le_pow_right (by decide) (by omega)
    have b3 : 10 ^ 1400 + 10 ^ 1400 ≤ 1000000000 ^ 156 := by decide +kernel
    exact Nat.lt_of_lt_of_le (Nat.add_lt_add_of_lt_of_le (Nat.lt_of_le_of_lt b1 hV) b2) b3
  obtain ⟨w2, t3, t4⟩ := add_spec (c := srws c 3 w1) (r := 3) (by rw [rws_same]; exact t2) hx (by omega) hfit
  clear hfit
  rw [srws_srws] at t3
  have eU : V / 10 ^ k * 10 ^ k + 10 ^ k = (V / 10 ^ k + 1) * 10 ^ k := by rw [Nat.add_mul, Nat.one_mul]
  rw [eU] at t4
  obtain ⟨z, d1, d2⟩ := against_spec (c := srws c 3 w2) (r0 := 3) (r1 := 2) (by rw [rws_same]; exact t4) (q2 w2)
  obtain ⟨w3, e1, e2⟩ := roundAt_o (c := srws c 3 w2) (V3 := (V / 10 ^ k + 1) * 10 ^ k) (s3 := false) (way := 0) (neg := false) (q0 w2) (by rw [rws_same]; exact t4) hV (by decide) (x := x) (by omega) (by omega)
  rw [hkp] at e2
  rw [srws_srws] at e1
  have e1' : f_X6_roundAt x 0 0 (srws c 3 w2) = some (srws c 3 w3) := e1
  obtain ⟨w4, t5, t6⟩ := take_spec (c := srws c 3 w2) (r0 := 3) (r1 := 0) (by decide) (q0 w2) (V0 := (V / 10 ^ k + 1) * 10 ^ k) (s0 := false) (by rw [rws_same]; exact t4) (x := x) (by omega) (by omega)
  rw [hkp] at t6
  rw [srws_srws] at t5
  clear hV
  have hl : (if 0 < y then f_X6_foundDownTo_J41 x (nb ev) 1 (srws c 3 w1) else if y = 0 then if nb ev = 0 then f_X6_foundDownTo_J41 x (nb ev) 0 (srws c 3 w1) else f_X6_foundDownTo_J41 x (nb ev) 1 (srws c 3 w1) else f_X6_foundDownTo_J41 x (nb ev) 0 (srws c 3 w1)) = f_X6_foundDownTo_J41 x (nb ev) (nb (lR V VL ev k)) (srws c 3 w1) := by
    unfold lR
    rcases a2 with ⟨y1, y2⟩ | ⟨y1, y2⟩ | ⟨y1, y2⟩
    · rw [if_pos (by rw [ilt, k0]; omega), decide_eq_true y2]; rfl
    · rw [if_neg (by rw [ilt, k0]; omega), if_pos (by rw [ieq, k0]; omega), decide_eq_false (by omega), decide_eq_true y2.symm]
      cases ev
      · rw [if_pos (show nb false = 0 from rfl)]; rfl
      · rw [if_neg (show ¬ nb true = 0 by decide)]; rfl
    · rw [if_neg (by rw [ilt, k0]; omega), if_neg (by rw [ieq, k0]; omega), decide_eq_false (by omega), decide_eq_false (by omega)]; rfl
  have hg : ∀ l : Int32, (if z < 0 then f_X6_foundDownTo_J83 x l 1 (srws c 3 w2) else if z = 0 then if nb ev = 0 then f_X6_foundDownTo_J83 x l 0 (srws c 3 w2) else f_X6_foundDownTo_J83 x l 1 (srws c 3 w2) else f_X6_foundDownTo_J83 x l 0 (srws c 3 w2)) = f_X6_foundDownTo_J83 x l (nb (gR V VH ev k)) (srws c 3 w2) := by
    intro l
    unfold gR
    rcases d2 with ⟨y1, y2⟩ | ⟨y1, y2⟩ | ⟨y1, y2⟩
    · rw [if_neg (by rw [ilt, k0]; omega), if_neg (by rw [ieq, k0]; omega), decide_eq_false (by omega), decide_eq_false (by omega)]; rfl
    · rw [if_neg (by rw [ilt, k0]; omega), if_pos (by rw [ieq, k0]; omega), decide_eq_false (by omega), decide_eq_true y2]
      cases ev
      · rw [if_pos (show nb false = 0 from rfl)]; rfl
      · rw [if_neg (show ¬ nb true = 0 by decide)]; rfl
    · rw [if_pos (by rw [ilt, k0]; omega), decide_eq_true y2]; rfl
  unfold f_X6_foundDownTo
  rw [t1]; simp only [Option.bind]
  rw [a1]; simp only
  rw [hl]
  unfold f_X6_foundDownTo_J41
  rw [t3]; simp only [Option.bind]
  rw [d1]; simp only
  rw [hg]
  unfold f_X6_foundDownTo_J83 f_X6_foundDownTo_J105 f_X6_foundDownTo_J122 bC
  rw [e1', t5]
  cases lR V VL ev k <;> cases gR V VH ev k
  · exact ⟨w2, rfl, t4⟩
  · exact ⟨w2, rfl, t4⟩
  · exact ⟨w4, rfl, t6⟩
  · exact ⟨w3, rfl, e2⟩
theorem least_ex {P : Nat → Bool} : ∀ {n : Nat}, 1 ≤ n → P n = true → ∃ i, 1 ≤ i ∧ i ≤ n ∧ P i = true ∧ ∀ j, 1 ≤ j → j < i → P j = false := by
  intro n
  induction n with
  | zero => intro h; omega
  | succ n ih =>
    intro h1 h2
    by_cases h3 : ∃ j, 1 ≤ j ∧ j ≤ n ∧ P j = true
    · obtain ⟨j, j1, j2, j3⟩ := h3
      -- the least below
      have key : ∀ m, m ≤ n → 1 ≤ m → P m = true → ∃ i, 1 ≤ i ∧ i ≤ m ∧ P i = true ∧ ∀ j, 1 ≤ j → j < i → P j = false := by
        intro m
        induction m using Nat.strongRecOn with
        | ind m ihm =>
          intro hm hm1 hp
          by_cases h4 : ∃ j, 1 ≤ j ∧ j < m ∧ P j = true
          · obtain ⟨j, a1, a2, a3⟩ := h4
            obtain ⟨i, b1, b2, b3, b4⟩ := ihm j a2 (by omega) a1 a3
            exact ⟨i, b1, by omega, b3, b4⟩
          · refine ⟨m, hm1, Nat.le_refl _, hp, fun j a1 a2 => ?_⟩
            cases hj : P j
            · rfl
            · exact absurd ⟨j, a1, a2, hj⟩ h4
      obtain ⟨i, b1, b2, b3, b4⟩ := key j j2 j1 j3
      exact ⟨i, b1, by omega, b3, b4⟩
    · refine ⟨n + 1, h1, Nat.le_refl _, h2, fun j a1 a2 => ?_⟩
      cases hj : P j
      · rfl
      · exact absurd ⟨j, a1, by omega, hj⟩ h3
theorem cfs_loop {c : CS} {V VL VH N i0 : Nat} {s0 s1 s2 ev : Bool} (h0 : RIs (rws c 0) V s0) (h1 : RIs (rws c 1) VL s1) (h2 : RIs (rws c 2) VH s2) (h3 : Rw (rws c 3)) (hV : V < 10 ^ 1400) (hN1 : 755 ≤ N) (hN2 : N ≤ 1389) (hi0 : 1 ≤ i0) (hi1 : i0 ≤ 19) (hf : (lR V VL ev (N - i0) || gR V VH ev (N - i0)) = true) (hn : ∀ j, 1 ≤ j → j < i0 → (lR V VL ev (N - j) || gR V VH ev (N - j)) = false) {x5 : Int32} (hx5 : x5.toInt = (N : Int) - 1080) : ∃ w, Lp (fun a => f_X6_findShortest_L54 (nb ev) x5 a.1 a.2) (1, c) = some (.inl (nI i0, srws c 3 w)) ∧ RIs w ((V / 10 ^ (N - i0) + ubi (bC V VL VH ev (N - i0))) * 10 ^ (N - i0)) false := by
  have e20 : (20 : Int32).toInt = 20 := by decide
  have hfo : ∀ (w : RWs) (k : Nat) (x : Int32), Rw w → x.toInt = (k : Int) - 1080 → k ≤ 1390 → ∃ w', f_X6_foundDownTo x (nb ev) (srws c 3 w) = some (nb (lR V VL ev k || gR V VH ev k), srws c 3 w') ∧ RIs w' ((V / 10 ^ k + ubi (bC V VL VH ev k)) * 10 ^ k) false := by
    intro w k x hw hx hk
    obtain ⟨w', g1, g2⟩ := found_o (c := srws c 3 w) (V := V) (VL := VL) (VH := VH) (k := k) (ev := ev) (x := x) (by rw [rws_ne (by decide)]; exact h0) (by rw [rws_ne (by decide)]; exact h1) (by rw [rws_ne (by decide)]; exact h2) (by rw [rws_same]; exact hw) hV hx hk
    rw [srws_srws] at g1
    exact ⟨w', g1, g2⟩
  clear hV
  obtain ⟨b, g1, w, rfl, g2⟩ := Lp_inv (F := fun a => f_X6_findShortest_L54 (nb ev) x5 a.1 a.2) (fun n a => ∃ (i : Nat) (w : RWs), a = (nI i, srws c 3 w) ∧ i + n = i0 ∧ 1 ≤ i ∧ Rw w) (fun b => ∃ w, b = .inl (nI i0, srws c 3 w) ∧ RIs w ((V / 10 ^ (N - i0) + ubi (bC V VL VH ev (N - i0))) * 10 ^ (N - i0)) false) (by
    rintro n _ ⟨i, w, rfl, a1, a2, a3⟩
    show (∃ b, f_X6_findShortest_L54 (nb ev) x5 (nI i) (srws c 3 w) = _ ∧ _) ∨ ∃ a' n', f_X6_findShortest_L54 (nb ev) x5 (nI i) (srws c 3 w) = _ ∧ _
    have hi : (nI i).toInt = i := nI_toInt (by omega)
    obtain ⟨w', k1, k2⟩ := hfo w (N - i) (x5 - nI i) a3 (by rw [is_ (by omega) (by omega), hx5, hi]; omega) (by omega)
    unfold f_X6_findShortest_L54
    rw [if_neg (by rw [ile, hi, e20]; omega), k1]
    simp only [Option.bind]
    by_cases hii : i = i0
    · subst hii
      rw [hf, if_neg (show ¬ nb true = 0 by decide)]
      exact .inl ⟨_, rfl, w', rfl, k2⟩
    · rw [hn i a2 (by omega), if_pos (show nb false = 0 from rfl)]
      simp only [lt]
      rw [nI_inc (by omega)]
      exact .inr ⟨_, n - 1, rfl, by omega, i + 1, w', rfl, by omega, by omega, ⟨_, _, k2⟩⟩) (i0 - 1) (1, c) ⟨1, rws c 3, by rw [srws_self]; rfl, by omega, by decide, h3⟩
  exact ⟨w, g1, g2⟩
/-! the middles -/
theorem near_b {f s : Nat} {neg : Bool} (hf : f < 4) (hs : s < sb f) : f_X2_isNearBelow f (sgn f neg s) = nb (nrb f s) := by
  have hfr := frac_i (neg := neg) hf hs
  have hex := sgn_expo (neg := neg) hf hs
  have one : (1 : Int32).toInt = 1 := by decide
  have hp := pp2 (pr f - 1)
  have hd := Nat.div_add_mod s (2 ^ (pr f - 1))
  unfold f_X2_isNearBelow nrb wh un
  generalize hH : 2 ^ (pr f - 1) = H at *
  by_cases h1 : s % H = 0
  · rw [if_pos (by rw [leq, hfr, h1]; rfl)]
    by_cases h2 : s / H ≤ 1
    · rw [if_pos (by rw [ile, hex, one]; omega)]
      rw [decide_eq_false (by
        rintro ⟨-, q⟩
        omega)]
      rfl
    · rw [if_neg (by rw [ile, hex, one]; omega)]
      have hsH : ¬ s < H := fun q => by rw [Nat.div_eq_of_lt q] at h2; omega
      rw [decide_eq_true (by
        refine ⟨?_, by omega⟩
        rw [if_neg hsH, h1, Nat.add_zero])]
      rfl
  · rw [if_neg (by rw [leq, hfr, l0]; omega)]
    rw [decide_eq_false (by
      rintro ⟨q, q2⟩
      by_cases hsH : s < H
      · rw [Nat.div_eq_of_lt hsH] at q2; omega
      · rw [if_neg hsH] at q; omega)]
    rfl
/-- the row of the middle below -/
def VLo (VL w : Nat) (u : Int) (nr : Bool) : Prop := if nr then VL * p2 (2 - u) = (4 * w - 1) * (GG * p2 (u - 2)) else VL * p2 (1 - u) = (2 * w - 1) * (GG * p2 (u - 1))
theorem setLower_o {c : CS} {r f s : Nat} {neg : Bool} (hf : f < 4) (hs : s < inf f) (hs0 : s ≠ 0) (hr : Rw (rws c r)) : ∃ w VL, f_X6_setLowerMiddle r f (sgn f neg s) c = some (srws c r w) ∧ RIs w VL false ∧ VLo VL (wh f s) (un f s) (nrb f s) := by
  obtain ⟨V0, s0, h0⟩ := hr
  have hsb := fin_sb hf hs
  have hub := un_b hf hs
  have hfm := fm_b f
  have hll : lst f = 2 - (gr f : Int) - (pr f : Int) := rfl
  have hwl := wh_lt f s
  have hwb := wh_b f s
  have hw0 : wh f s ≠ 0 := fun q => hs0 (wh_0.mp q)
  have hc := c_whole (neg := neg) hf hsb
  have hu := c_unit (neg := neg) hf hsb
  have two := two_w (neg := neg) hf hsb
  have one : (1 : Int64).toInt = 1 := by decide
  have four : (4 : Int64).toInt = 4 := by decide
  have one' : (1 : Int32).toInt = 1 := by decide
  have two' : (2 : Int32).toInt = 2 := by decide
  unfold f_X6_setLowerMiddle VLo
  rw [near_b hf hsb]
  cases hn : nrb f s
  · rw [if_pos (show nb false = 0 from rfl)]
    have hfit := fit_g (W := 2 * wh f s - 1) (a := pr f + 1) (v := un f s - 1) (by rw [pow2s]; omega) (by omega) (by omega)
    obtain ⟨w, V, g1, g2, g3⟩ := srow_spec (c := c) (r := r) (W := 2 * wh f s - 1) (u := un f s - 1) (x := 2 * f_X2_wholeOf f (sgn f neg s) - 1) (y := f_X2_unitOf f (sgn f neg s) - 1) h0 (by rw [ls_ (by omega) (by omega), two, one]; omega) (by rw [is_ (by omega) (by omega), hu, one']) (by omega) (by omega) (f309 hfit)
    refine ⟨w, V, g1, g2, ?_⟩
    simp only [Bool.false_eq_true, if_false]
    rw [show 1 - un f s = -(un f s - 1) by omega, g3, Nat.mul_assoc]
  · rw [if_neg (show ¬ nb true = 0 by decide)]
    have hn' : lst f < un f s := by
      unfold nrb at hn
      rw [decide_eq_true_iff] at hn
      exact hn.2
    have hfit := fit_g (W := 4 * wh f s - 1) (a := pr f + 2) (v := un f s - 2) (by rw [Nat.pow_add]; omega) (by omega) (by omega)
    have hx4 : (4 * f_X2_wholeOf f (sgn f neg s)).toInt = 4 * (wh f s : Int) := by rw [lm (by rw [four, hc]; omega) (by rw [four, hc]; omega), four, hc]
    obtain ⟨w, V, g1, g2, g3⟩ := srow_spec (c := c) (r := r) (W := 4 * wh f s - 1) (u := un f s - 2) (x := 4 * f_X2_wholeOf f (sgn f neg s) - 1) (y := f_X2_unitOf f (sgn f neg s) - 2) h0 (by rw [ls_ (by omega) (by omega), hx4, one]; omega) (by rw [is_ (by omega) (by omega), hu, two']) (by omega) (by omega) (f309 hfit)
    refine ⟨w, V, g1, g2, ?_⟩
    simp only [if_true]
    rw [show 2 - un f s = -(un f s - 2) by omega, g3, Nat.mul_assoc]
theorem lo_iff {U VL w : Nat} {u : Int} {nr : Bool} (h : VLo VL w u nr) : LoOk U GG w u nr ↔ (VL < U ∨ (VL = U ∧ w % 2 = 0)) := by
  unfold LoOk
  unfold VLo at h
  cases nr
  · simp only [Bool.false_eq_true, if_false] at h ⊢
    rw [← h, Nat.mul_lt_mul_right (p2_pos _), Nat.mul_left_inj (Nat.ne_of_gt (p2_pos _))]
  · simp only [if_true] at h ⊢
    rw [← h, Nat.mul_lt_mul_right (p2_pos _), Nat.mul_left_inj (Nat.ne_of_gt (p2_pos _))]
theorem hi_iff {U VH w : Nat} {u : Int} (h : VH * p2 (-(u - 1)) = (2 * w + 1) * GG * p2 (u - 1)) : HiOk U GG w u ↔ (U < VH ∨ (U = VH ∧ w % 2 = 0)) := by
  unfold HiOk
  rw [show -(u - 1) = 1 - u by omega, Nat.mul_assoc] at h
  rw [← h, Nat.mul_lt_mul_right (p2_pos _), Nat.mul_left_inj (Nat.ne_of_gt (p2_pos _))]
theorem v_two {V w : Nat} {u : Int} (h : V * p2 (-u) = w * GG * p2 u) : V * p2 (1 - u) = 2 * w * (GG * p2 (u - 1)) := by
  refine Nat.eq_of_mul_eq_mul_right (p2_pos (-u)) ?_
  have hs := p2_split (a := u - 1) (b := u) (d := 1) (by omega)
  rw [show -(u - 1) = 1 - u by omega, Nat.pow_one] at hs
  have e1 : V * p2 (1 - u) * p2 (-u) = V * p2 (-u) * p2 (1 - u) := by rw [Nat.mul_right_comm]
  rw [e1, h, Nat.mul_assoc (w * GG), hs]
  simp only [Nat.mul_assoc, Nat.mul_left_comm, Nat.mul_comm]
theorem v_four {V w : Nat} {u : Int} (h : V * p2 (-u) = w * GG * p2 u) : V * p2 (2 - u) = 4 * w * (GG * p2 (u - 2)) := by
  have h2 := v_two h
  have hh := p2_hlf V GG u
  have hY : 0 < GG * p2 (u - 1) := Nat.mul_pos GG_pos (p2_pos _)
  refine Nat.eq_of_mul_eq_mul_right hY ?_
  rw [hh, h2]
  have e : 2 * (2 * w * (GG * p2 (u - 1)) * (GG * p2 (u - 2))) = 2 * (2 * w) * (GG * p2 (u - 2)) * (GG * p2 (u - 1)) := by simp only [Nat.mul_assoc, Nat.mul_left_comm, Nat.mul_comm]
  rw [e, ← Nat.mul_assoc 2 2 w]
/-- how far the middles are -/
theorem gap_ar {M V VL p Y : Nat} (hL : VL * p = (M - 1) * Y) (hV : V * p = M * Y) (hM : 0 < M) (hp : 0 < p) : M * VL + V = M * V := by
  refine Nat.eq_of_mul_eq_mul_right hp ?_
  rw [Nat.add_mul, Nat.mul_assoc, hL, Nat.mul_assoc, hV]
  obtain ⟨K, rfl⟩ : ∃ K, M = K + 1 := ⟨M - 1, by omega⟩
  rw [Nat.add_sub_cancel, ← Nat.mul_add, Nat.add_mul K 1 Y, Nat.one_mul]
theorem lo_gap {V VL w : Nat} {u : Int} {nr : Bool} (h : V * p2 (-u) = w * GG * p2 u) (hL : VLo VL w u nr) (hw : 0 < w) : ∃ M, M ≤ 4 * w ∧ 0 < M ∧ M * VL + V = M * V := by
  unfold VLo at hL
  cases nr
  · simp only [Bool.false_eq_true, if_false] at hL
    exact ⟨2 * w, by omega, by omega, gap_ar hL (v_two h) (by omega) (p2_pos _)⟩
  · simp only [if_true] at hL
    exact ⟨4 * w, by omega, by omega, gap_ar hL (v_four h) (by omega) (p2_pos _)⟩
theorem hi_gap {V VH w : Nat} {u : Int} (h : V * p2 (-u) = w * GG * p2 u) (hH : VH * p2 (-(u - 1)) = (2 * w + 1) * GG * p2 (u - 1)) : V < VH := by
  have h2 := v_two h
  rw [show -(u - 1) = 1 - u by omega, Nat.mul_assoc] at hH
  refine Nat.lt_of_mul_lt_mul_right (a := p2 (1 - u)) ?_
  rw [h2, hH]
  exact Nat.mul_lt_mul_of_pos_right (by omega) (Nat.mul_pos GG_pos (p2_pos _))
theorem lo_lt {V VL M : Nat} (hV : 0 < V) (hM : 0 < M) (h : M * VL + V = M * V) : VL < V := by
  rcases Nat.lt_or_ge VL V with q | q
  · exact q
  · have := Nat.mul_le_mul_left M q; omega
theorem found19 {V VL N M : Nat} (hN : Dn V N) (hN1 : 19 ≤ N) (hM : M ≤ 36028797018963968) (hM0 : 0 < M) (h : M * VL + V = M * V) : VL < V / 10 ^ (N - 19) * 10 ^ (N - 19) := by
  have h1 := hN.2.1
  rw [show N - 1 = 18 + (N - 19) by omega, Nat.pow_add, show (10 : Nat) ^ 18 = 1000000000000000000 by decide] at h1
  have hp : 0 < 10 ^ (N - 19) := Nat.pow_pos (by decide)
  have h2 := Nat.div_add_mod V (10 ^ (N - 19))
  have h3 := Nat.mod_lt V hp
  rw [Nat.mul_comm] at h2
  generalize 10 ^ (N - 19) = T at *
  generalize V / T * T = U at *
  generalize V % T = R at *
  have h4 : M * T ≤ 36028797018963968 * T := Nat.mul_le_mul_right _ hM
  have h5 : M * R < M * T := Nat.mul_lt_mul_of_pos_left h3 hM0
  have h6 : M * V = M * U + M * R := by rw [← h2, Nat.mul_add]
  have h7 : M * VL < M * U := by omega
  exact Nat.lt_of_mul_lt_mul_left h7
