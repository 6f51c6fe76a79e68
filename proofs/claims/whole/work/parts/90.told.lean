/-! what is told, by both -/
theorem txt_len {form n : Nat} {g : Nat → Int32} {p : Int} (hn : n ≤ 1420) (hp1 : p ≤ 400) (hp2 : p < 1 → -p + n ≤ 1490) : (txt form g n p).length ≤ 1495 := by
  have w9 : sxN 9 = 2 := words.2.2.1
  have i1 : (if 1 < n then [(46 : Int32)] else []).length ≤ 1 := by split <;> simp
  have i2 : (if p < (n : Int) then [(46 : Int32)] else []).length ≤ 1 := by split <;> simp
  have i3 : (nl (p - 1)).length ≤ 5 := by
    unfold nl
    have := nd4_len (p - 1).natAbs
    rw [List.length_append]
    split <;> simp <;> omega
  unfold txt pln sci
  split
  · split
    · rw [List.length_append, List.length_append, dl_len, dl_len, dl_len, w9]; omega
    · rw [List.length_append, List.length_append, dl_len, dl_len]; omega
  · rw [List.length_append, List.length_append, List.length_append, List.length_append, dl_len]
    simp only [List.length_cons, List.length_nil]
    omega
theorem Iv.outp {c : CS} {m : MS} {y : (Nat → Int32) × Int32} {v : Nat → Int32} {M : List Int32} (h1 : TxI c m) (h3 : DcI c m) (h4 : rsP c = mJ m 0 ∧ rsF c = mI m 6) (h5 : ∀ r, r < 4 → Rw (rws c r)) (hy : OW y M) (hv : PW v M) (hl : M.length ≤ 1500) : Iv (sb2 c 1 y) (ps m v M) := by
  obtain ⟨n1, t1, t2, t3, t4⟩ := h1
  obtain ⟨n3, d1, d2, d3, d4, d5, d6, d7⟩ := h3
  refine ⟨⟨n1, t1, by rw [sb2_Nne (by decide)]; exact t2, by rw [ps_I (by decide)]; exact t3, ?_⟩, ⟨M.length, hl, by rw [sb2_N]; exact hy.1, ps_I2, fun i hi => ?_⟩, ⟨n3, d1, d2, by rw [ps_I (by decide)]; exact d3, by rw [ps_I (by decide)]; exact d4, by rw [ps_I (by decide)]; exact d5, d6, by rw [ps_A (by decide)]; exact d7⟩, ⟨h4.1, by rw [ps_I (by decide)]; exact h4.2⟩, h5⟩
  · rw [sb2_Bne (by decide), ps_A (by decide)]; exact t4
  · rw [sb2_B, ps_A1, hv i hi]; exact hy.2 i hi
/-- the class's decimal -/
def sdc (c : CS) (D : Nat → Int32) (M C P : Int32) : CS := (c.1, (D, M, C, P), c.2.2)
theorem take_o {c : CS} {r V N n : Nat} {s neg : Bool} (h : RIs (rws c r) V s) (hN : Dq V N) (hn : n ≤ 1420) : ∃ D P, f_X1_take r (nb neg) (nI n) c = some (sdc c D (nb neg) (nI n) P) ∧ P.toInt = (N : Int) - 1080 ∧ ∀ i, i < n → (D i).toInt = ((dgt V N i : Nat) : Int) := by
  have hmin : f_JM_min (nI n) 1420 = nI n := by
    have e1420 : (1420 : Int32).toInt = 1420 := by decide
    unfold f_JM_min
    rw [if_neg (by rw [ilt, nI_toInt (by omega), e1420]; omega)]
  obtain ⟨x, p1, p2, p3, p4⟩ := point_q (c := sdcC (sdcM c (nb neg)) (nI n)) (r := r) h hN
  obtain ⟨D, g1, g2⟩ := give_spec (c := sdcP (sdcC (sdcM c (nb neg)) (nI n)) x) (r := r) (n := n) h hN hn
  refine ⟨D, x, ?_, p2, g2⟩
  unfold f_X1_take
  rw [if_pos (show nb neg = 0 ∨ nb neg = 1 by cases neg <;> decide), hmin]
  simp only [lt]
  rw [p1]; simp only [Option.bind]
  have e : dcC (sdcP (sdcC (sdcM c (nb neg)) (nI n)) x) = nI n := rfl
  rw [e, g1]
  rfl
theorem start_o {c : CS} {neg : Bool} : ∃ y, f_X0_startWith 1 (nb neg) c = sb2 c 1 y ∧ OW y (if neg then [45] else []) := by
  unfold f_X0_startWith
  simp only [lt]
  have e : sbrN c 1 0 = sb2 c 1 (brB c 1, 0) := rfl
  rw [e]
  cases neg
  · exact ⟨_, rfl, ow_nil c⟩
  · obtain ⟨y, g1, g2⟩ := add_o (c := c) (x := 45) (ow_nil c) (by simp) b45
    rw [if_neg (by decide), g1]
    exact ⟨y, rfl, g2⟩
theorem tellRow_o {c : CS} {r V N n form : Nat} {s neg : Bool} {p : Int} (h : RIs (rws c r) V s) (hN : Dq V N) (hn : n ≤ 1420) (hn1 : 1 ≤ n) (hf : form < 3) (hp : p = (N : Int) - 1080) (hp1 : p ≤ 400) (hp2 : p < 1 → -p + n ≤ 1490) : ∃ D P y M, f_X6_tellRow r (nb neg) (nI n) (Int32.ofNat form) c = some (nI M.length, sb2 (sdc c D (nb neg) (nI n) P) 1 y) ∧ P.toInt = p ∧ (∀ i, i < n → (D i).toInt = ((dgt V N i : Nat) : Int)) ∧ OW y M ∧ M = (if neg then [45] else []) ++ txt form (dgf D n) n p := by
  obtain ⟨D, P, t1, t2, t3⟩ := take_o (c := c) (r := r) (neg := neg) h hN hn
  rw [← hp] at t2
  have hd : ∀ k, k < n → 0 ≤ (dcD (sdc c D (nb neg) (nI n) P) k).toInt ∧ (dcD (sdc c D (nb neg) (nI n) P) k).toInt < 10 := by
    intro k hk
    show 0 ≤ (D k).toInt ∧ (D k).toInt < 10
    have := dgt_lt V N k
    rw [t3 k hk]; omega
  obtain ⟨y0, s1, s2⟩ := start_o (c := sdc c D (nb neg) (nI n) P) (neg := neg)
  have hl0 : (if neg then [(45 : Int32)] else []).length ≤ 1 := by split <;> simp
  have hdc : dcC (sdc c D (nb neg) (nI n) P) = nI n := rfl
  have hdp : (dcP (sdc c D (nb neg) (nI n) P)).toInt = p := t2
  unfold f_X6_tellRow
  rw [t1]; simp only [Option.bind, lt]
  rw [s1]
  have hPz : dcP (sb2 (sdc c D (nb neg) (nI n) P) 1 y0) = P := rfl
  have e6 : (-6 : Int32).toInt = -6 := by decide
  have e20 : (20 : Int32).toInt = 20 := by decide
  have e1 : (1 : Int32).toInt = 1 := by decide
  have t2' : (P - 1).toInt = p - 1 := by rw [is_ (by rw [t2, e1]; omega) (by rw [t2, e1]; omega), t2, e1]
  have key : (if Int32.ofNat form = 1 then f_X6_tellRow_J55 (sb2 (sdc c D (nb neg) (nI n) P) 1 y0) else if Int32.ofNat form = 2 then if dcP (sb2 (sdc c D (nb neg) (nI n) P) 1 y0) - 1 < -6 then f_X6_tellRow_J69 (sb2 (sdc c D (nb neg) (nI n) P) 1 y0) else if 20 < dcP (sb2 (sdc c D (nb neg) (nI n) P) 1 y0) - 1 then f_X6_tellRow_J69 (sb2 (sdc c D (nb neg) (nI n) P) 1 y0) else f_X6_tellRow_J55 (sb2 (sdc c D (nb neg) (nI n) P) 1 y0) else f_X6_tellRow_J69 (sb2 (sdc c D (nb neg) (nI n) P) 1 y0)) = if isPl form p then f_X6_tellRow_J55 (sb2 (sdc c D (nb neg) (nI n) P) 1 y0) else f_X6_tellRow_J69 (sb2 (sdc c D (nb neg) (nI n) P) 1 y0) := by
    have hf' : form = 0 ∨ form = 1 ∨ form = 2 := by omega
    rw [hPz]
    rcases hf' with rfl | rfl | rfl
    · rw [if_neg (show ¬ Int32.ofNat 0 = 1 by decide), if_neg (show ¬ Int32.ofNat 0 = 2 by decide)]; rfl
    · rw [if_pos (show Int32.ofNat 1 = 1 from rfl)]; rfl
    · rw [if_neg (show ¬ Int32.ofNat 2 = 1 by decide), if_pos (show Int32.ofNat 2 = 2 from rfl)]
      unfold isPl
      by_cases h1 : p < -5
      · rw [if_pos (by rw [ilt, t2', e6]; omega)]
        have : decide (2 = 1 ∨ 2 = 2 ∧ -5 ≤ p ∧ p ≤ 21) = false := by simp; omega
        rw [this]; rfl
      · rw [if_neg (by rw [ilt, t2', e6]; omega)]
        by_cases h2 : 21 < p
        · rw [if_pos (by rw [ilt, t2', e20]; omega)]
          have : decide (2 = 1 ∨ 2 = 2 ∧ -5 ≤ p ∧ p ≤ 21) = false := by simp; omega
          rw [this]; rfl
        · rw [if_neg (by rw [ilt, t2', e20]; omega)]
          have : decide (2 = 1 ∨ 2 = 2 ∧ -5 ≤ p ∧ p ≤ 21) = true := by simp; omega
          rw [this]; rfl
  rw [key]
  unfold txt
  by_cases hb : isPl form p = true
  · rw [if_pos hb]
    obtain ⟨y1, a1, b1⟩ := addPlain_o (c := sdc c D (nb neg) (nI n) P) hdc hn hd hdp hp1 hp2 s2 hl0
    unfold f_X6_tellRow_J55
    rw [a1]; simp only [Option.bind]
    rw [sb2_N, b1.1]
    exact ⟨D, P, y1, _, rfl, t2, t3, b1, by rw [if_pos hb]; rfl⟩
  · rw [if_neg hb]
    obtain ⟨y1, a1, b1⟩ := addSci_o (c := sdc c D (nb neg) (nI n) P) hdc hn hn1 hd hdp hp1 (by have := hN; omega) s2 hl0
    unfold f_X6_tellRow_J69
    rw [a1]; simp only [Option.bind]
    rw [sb2_N, b1.1]
    exact ⟨D, P, y1, _, rfl, t2, t3, b1, by rw [if_neg hb]; rfl⟩
/-- what the reference's digits are -/
def Mdig (m : MS) (n : Nat) (p : Int) (V N : Nat) : Prop := mI m 3 = nI n ∧ (mI m 4).toInt = p ∧ ∀ i, i < n → (mA m 2 i).toInt = ((dgt V N i : Nat) : Int)
theorem dgf_eq {D E : Nat → Int32} {n V N : Nat} (h1 : ∀ i, i < n → (D i).toInt = ((dgt V N i : Nat) : Int)) (h2 : ∀ i, i < n → (E i).toInt = ((dgt V N i : Nat) : Int)) : dgf D n = dgf E n := by
  funext k
  unfold dgf
  by_cases h : k < n
  · rw [if_pos h, if_pos h]
    have : D k = E k := by rw [ieq, h1 k h, h2 k h]
    rw [this]
  · rw [if_neg h, if_neg h]
/-- both tell the same -/
theorem tell_agree {c0 c : CS} {m0 m : MS} {r V N n form : Nat} {s neg : Bool} {p : Int} (hI : Iv c0 m0) (hc1 : c.1 = c0.1) (hc2 : c.2.2.2.2.2 = c0.2.2.2.2.2) (hrows : ∀ q, q < 4 → Rw (rws c q)) (hF : Fr [2, 3, 4, 5, 6, 7] [0, 3, 4, 5, 7, 8, 9, 10, 11, 12, 13] [1, 2] m0 m) (h : RIs (rws c r) V s) (hN : Dq V N) (hn : n ≤ 1420) (hn1 : 1 ≤ n) (hf : form < 3) (hp : p = (N : Int) - 1080) (hp1 : p ≤ 400) (hp2 : p < 1 → -p + n ≤ 1490) (hM : Mdig m n p V N) (hm5 : mI m 5 = nb neg) : ∃ v c' m', f_X6_tellRow r (nb neg) (nI n) (Int32.ofNat form) c = some (v, c') ∧ f_X7_write (Int32.ofNat form) m = some (v, m') ∧ Iv c' m' ∧ mI m' 0 = mI m 0 := by
  obtain ⟨D, P, y, M, a1, a2, a3, a4, a5⟩ := tellRow_o (c := c) (r := r) (neg := neg) h hN hn hn1 hf hp hp1 hp2
  obtain ⟨b1, b2, b3⟩ := hM
  obtain ⟨v', M', e1, e2, e3⟩ := write_o (m := m) b1 hn hn1 b2 hp1 hp2 hf hm5
  rw [dgf_eq a3 b3] at a5
  have hMM : M = M' := a5.trans e3.symm
  subst hMM
  refine ⟨_, _, _, a1, e1, ?_, ps_I (by decide)⟩
  obtain ⟨⟨n1, t1, t2, t3, t4⟩, -, -, ⟨r1, r2⟩, -⟩ := hI
  obtain ⟨fa, fi, fj⟩ := hF
  refine Iv.outp ⟨n1, t1, ?_, ?_, ?_⟩ ⟨n, hn, rfl, b1, ?_, hm5.symm, ?_, fun i hi => ?_⟩ ⟨?_, ?_⟩ hrows a4 e2 ?_
  · show brN c 0 = _; unfold brN; rw [hc1]; exact t2
  · rw [fi 1 (by decide)]; exact t3
  · intro i hi
    show brB c 0 i &&& 255 = _
    unfold brB; rw [hc1, fa 0 (by decide)]; exact t4 i hi
  · show P = mI m 4
    rw [ieq, a2, b2]
  · show nb neg = 0 ∨ nb neg = 1
    cases neg <;> decide
  · show D i = mA m 2 i
    rw [ieq, a3 i hi, b3 i hi]
  · show rsP c = _; unfold rsP at r1 ⊢; rw [hc2, fj 0 (by decide)]; exact r1
  · show rsF c = _; unfold rsF at r2 ⊢; rw [hc2, fi 6 (by decide)]; exact r2
  · have := txt_len (form := form) (g := dgf (mA m 2) n) hn hp1 hp2
    rw [e3, List.length_append]
    have : (if neg then [(45 : Int32)] else []).length ≤ 1 := by split <;> simp
    omega
/-- inf and nan -/
theorem name_agree {c : CS} {m : MS} {f s : Nat} {neg : Bool} (hf : f < 4) (hs : s < sb f) (hi : inf f ≤ s) (hI : Iv c m) : ∃ v c' m', f_X6_tellName f (sgn f neg s) c = some (v, c') ∧ f_X7_isNoNumber (Int32.ofNat f) (sgn f neg s) m = some (1, m') ∧ mI m' 2 = v ∧ Iv c' m' ∧ mI m' 0 = mI m 0 ∧ mI m' 3 = 0 ∧ mI m' 4 = 0 := by
  obtain ⟨y0, s1, s2⟩ := start_o (c := sdc c (dcD c) (nb neg) 0 0) (neg := neg)
  have hl0 : (if neg then [(45 : Int32)] else []).length ≤ 1 := by split <;> simp
  have hno : f_X1_takeNone (nb neg) c = some (sdc c (dcD c) (nb neg) 0 0) := by
    unfold f_X1_takeNone
    rw [if_pos (show nb neg = 0 ∨ nb neg = 1 by cases neg <;> decide)]
    rfl
  have w7 : sxN 7 = 3 := words.1
  have w8 : sxN 8 = 3 := words.2.1
  have w21 : sxN 21 = 3 := words.2.2.2.2.2.1
  have w22 : sxN 22 = 3 := words.2.2.2.2.2.2.1
  -- the reference up to the word
  obtain ⟨u, hu1, hu2⟩ : ∃ u, f_X7_isNoNumber (Int32.ofNat f) (sgn f neg s) m = f_X7_isNoNumber_J56 (Int32.ofNat f) (sgn f neg s) (ps (smI (smI (smI m 5 (nb neg)) 3 0) 4 0) u (if neg then [45] else [])) ∧ PW u (if neg then [45] else []) := by
    unfold f_X7_isNoNumber
    have key : (if f_X7_isMinus (Int32.ofNat f) (sgn f neg s) = 0 then f_X7_isNoNumber_J14 (Int32.ofNat f) (sgn f neg s) 0 m else f_X7_isNoNumber_J14 (Int32.ofNat f) (sgn f neg s) 1 m) = f_X7_isNoNumber_J14 (Int32.ofNat f) (sgn f neg s) (nb neg) m := by
      rw [x_minus hf, sgn_minus hf hs]
      cases neg
      · rw [if_pos (show nb false = 0 from rfl)]; rfl
      · rw [if_neg (show ¬ nb true = 0 by decide)]; rfl
    rw [key]
    unfold f_X7_isNoNumber_J14
    rw [x_fin hf, s_fin hf hs, if_pos hi]
    simp only [lt, if_true]
    rw [mI_smI_ne (show (5 : Nat) ≠ 2 by decide), mI_smI_ne (show (5 : Nat) ≠ 4 by decide), mI_smI_ne (show (5 : Nat) ≠ 3 by decide), mI_smI, ps_nil]
    cases neg
    · rw [if_neg (show ¬ nb false = 1 by decide)]
      exact ⟨_, rfl, pw_nil _⟩
    · rw [if_pos (show nb true = 1 from rfl)]
      obtain ⟨v1, a1, b1⟩ := put_o (m := smI (smI (smI m 5 (nb true)) 3 0) 4 0) (x := 45) (pw_nil (mA (smI (smI (smI m 5 (nb true)) 3 0) 4 0) 1)) (by simp)
      rw [a1]; simp only [Option.bind]
      exact ⟨v1, rfl, b1⟩
  have fin : ∀ (j j' : Nat), sxN j = 3 → sxN j' = 3 → dl (sxW j) 0 (sxN j) = dl (sxW j') 0 (sxN j') → ∃ v c' m', f_X6_tellName_J45 j 1 (sb2 (sdc c (dcD c) (nb neg) 0 0) 1 y0) = some (v, c') ∧ f_X7_isNoNumber_J72 j' (ps (smI (smI (smI m 5 (nb neg)) 3 0) 4 0) u (if neg then [45] else [])) = some (1, m') ∧ mI m' 2 = v ∧ Iv c' m' ∧ mI m' 0 = mI m 0 ∧ mI m' 3 = 0 ∧ mI m' 4 = 0 := by
    intro j j' hj hj' hjj
    obtain ⟨y1, a1, b1⟩ := addWord_o (c := sdc c (dcD c) (nb neg) 0 0) (j := j) (by rw [hj]; decide) s2 (by rw [hj]; omega)
    obtain ⟨v1, e1, e2⟩ := putWord_o (m := smI (smI (smI m 5 (nb neg)) 3 0) 4 0) (j := j') (by rw [hj']; decide) hu2 (by rw [hj']; omega)
    rw [← hjj] at e1 e2
    unfold f_X6_tellName_J45 f_X7_isNoNumber_J72
    rw [a1, e1]; simp only [Option.bind]
    rw [sb2_N, b1.1]
    refine ⟨_, _, _, rfl, rfl, ps_I2, ?_, ?_, ?_, ?_⟩
    · obtain ⟨⟨n1, t1, t2, t3, t4⟩, -, -, ⟨r1, r2⟩, w⟩ := hI
      refine Iv.outp ⟨n1, t1, t2, ?_, t4⟩ ⟨0, by decide, rfl, ?_, ?_, ?_, ?_, fun i hi => by omega⟩ ⟨r1, ?_⟩ w b1 e2 ?_
      · rw [mI_smI_ne (by decide), mI_smI_ne (by decide), mI_smI_ne (by decide)]; exact t3
      · rw [mI_smI_ne (by decide), mI_smI]; rfl
      · rw [mI_smI]; rfl
      · rw [mI_smI_ne (by decide), mI_smI_ne (by decide), mI_smI]; rfl
      · show nb neg = 0 ∨ nb neg = 1; cases neg <;> decide
      · rw [mI_smI_ne (by decide), mI_smI_ne (by decide), mI_smI_ne (by decide)]; exact r2
      · rw [List.length_append, dl_len, hj]; omega
    · rw [ps_I (by decide), mI_smI_ne (by decide), mI_smI_ne (by decide), mI_smI_ne (by decide)]
    · rw [ps_I (by decide), mI_smI_ne (by decide), mI_smI]
    · rw [ps_I (by decide), mI_smI]
  rw [hu1]
  unfold f_X6_tellName f_X7_isNoNumber_J56
  rw [sgn_minus hf hs, hno]; simp only [Option.bind, lt]
  rw [s1, x_nan hf, s_nan hf hs]
  by_cases hn : s ≤ inf f
  · rw [if_pos hn, if_pos rfl, if_pos rfl]
    exact fin 8 22 w8 w22 words2.2.1
  · rw [if_neg hn, if_neg n10, if_neg n10]
    exact fin 7 21 w7 w21 words2.1
