theorem sw25 (x : Int32) : x = 0 ∨ x = 1 ∨ x = 2 ∨ x = 3 ∨ x = 4 ∨ x = 5 ∨ x = 6 ∨ x = 7 ∨ x = 8 ∨ x = 9 ∨ x = 10 ∨ x = 11 ∨ x = 12 ∨ x = 13 ∨ x = 14 ∨ x = 15 ∨ x = 16 ∨ x = 17 ∨ x = 18 ∨ x = 19 ∨ x = 20 ∨ x = 21 ∨ x = 22 ∨ x = 23 ∨ x = 24 ∨ (x.toInt < 0 ∨ 24 < x.toInt) := by
  by_cases h0 : x = 0
  · simp [h0]
  by_cases h1 : x = 1
  · simp [h1]
  by_cases h2 : x = 2
  · simp [h2]
  by_cases h3 : x = 3
  · simp [h3]
  by_cases h4 : x = 4
  · simp [h4]
  by_cases h5 : x = 5
  · simp [h5]
  by_cases h6 : x = 6
  · simp [h6]
  by_cases h7 : x = 7
  · simp [h7]
  by_cases h8 : x = 8
  · simp [h8]
  by_cases h9 : x = 9
  · simp [h9]
  by_cases h10 : x = 10
  · simp [h10]
  by_cases h11 : x = 11
  · simp [h11]
  by_cases h12 : x = 12
  · simp [h12]
  by_cases h13 : x = 13
  · simp [h13]
  by_cases h14 : x = 14
  · simp [h14]
  by_cases h15 : x = 15
  · simp [h15]
  by_cases h16 : x = 16
  · simp [h16]
  by_cases h17 : x = 17
  · simp [h17]
  by_cases h18 : x = 18
  · simp [h18]
  by_cases h19 : x = 19
  · simp [h19]
  by_cases h20 : x = 20
  · simp [h20]
  by_cases h21 : x = 21
  · simp [h21]
  by_cases h22 : x = 22
  · simp [h22]
  by_cases h23 : x = 23
  · simp [h23]
  by_cases h24 : x = 24
  · simp [h24]
  have e : ∀ j : Int32, ¬ x = j → x.toInt ≠ j.toInt := fun j h h2 => h (Int32.toInt_inj.mp h2)
  have e0 : x.toInt ≠ 0 := e 0 h0
  have e1 : x.toInt ≠ 1 := e 1 h1
  have e2 : x.toInt ≠ 2 := e 2 h2
  have e3 : x.toInt ≠ 3 := e 3 h3
  have e4 : x.toInt ≠ 4 := e 4 h4
  have e5 : x.toInt ≠ 5 := e 5 h5
  have e6 : x.toInt ≠ 6 := e 6 h6
  have e7 : x.toInt ≠ 7 := e 7 h7
  have e8 : x.toInt ≠ 8 := e 8 h8
  have e9 : x.toInt ≠ 9 := e 9 h9
  have e10 : x.toInt ≠ 10 := e 10 h10
  have e11 : x.toInt ≠ 11 := e 11 h11
  have e12 : x.toInt ≠ 12 := e 12 h12
  have e13 : x.toInt ≠ 13 := e 13 h13
  have e14 : x.toInt ≠ 14 := e 14 h14
  have e15 : x.toInt ≠ 15 := e 15 h15
  have e16 : x.toInt ≠ 16 := e 16 h16
  have e17 : x.toInt ≠ 17 := e 17 h17
  have e18 : x.toInt ≠ 18 := e 18 h18
  have e19 : x.toInt ≠ 19 := e 19 h19
  have e20 : x.toInt ≠ 20 := e 20 h20
  have e21 : x.toInt ≠ 21 := e 21 h21
  have e22 : x.toInt ≠ 22 := e 22 h22
  have e23 : x.toInt ≠ 23 := e 23 h23
  have e24 : x.toInt ≠ 24 := e 24 h24
  have : x.toInt < 0 ∨ 24 < x.toInt := by omega
  simp [this]
theorem nI_toInt7 {j Ln : Nat} (h : 7 * j ≤ Ln) (hL : Ln ≤ 3584) : (nI (7 * j)).toInt = 7 * (j : Int) := by
  rw [nI_toInt (by omega)]; omega
theorem len7 {Ln : Nat} (hL : Ln ≤ 3584) : (Int32.ofNat Ln - 7).toInt = (Ln : Int) - 7 := by
  have h1 : (Int32.ofNat Ln).toInt = (Ln : Int) := nI_toInt (n := Ln) (by omega)
  rw [Int32.toInt_sub, h1]
  exact Int.bmod_eq_of_le (by simp; omega) (by simp; omega)
set_option maxRecDepth 20000 in
set_option maxHeartbeats 4000000 in
theorem law_loop {g : Cx} {mc ms b Ln K0 N0 : Nat} {xs : Nat → Int32} {Inv : CS → MS → Prop} (hA : AllA Inv) (hG : Gd g RL cL_law 8 12 mc ms) (hst : g.1.2.1.stackTraces = false) (hX : LX g b Ln xs) (hL : Ln ≤ 3584) (hK0 : K0 + 513 ≤ mc) (hN0 : N0 + 3078 ≤ ms)
    (hend : ∀ (L : List (Nat × Value)) (σ : SS) (k n : Nat), k ≤ mc → n ≤ ms → AW g 2549 L [.int 1] σ k n) : ∀ (r j : Nat), Ln < 7 * (j + r) + 7 → 7 * j ≤ Ln → ∀ (c : CS) (m : MS) (z : Nat → Int64), Inv c m → AW g 23 [(0, .ref b), (1, .ref (wad (cxw g) 0)), (2, .ref (wad (cxw g) 17)), (3, .ref (wad (cxw g) 26)), (4, .int (nI (7 * j)))] [] (c, m, z) (K0 + j) (N0 + 6 * j) := by
  intro r
  induction r with
  | zero =>
    intro j h1 h2 c m z hI
    refine aw_iload hG 4 rfl dL_law_23 ?_
    refine aw_aload_n hG 0 rfl dL_law_25 rfl ?_
    refine aw_slen hG hX dL_law_26 ?_
    refine aw_bipush (v := 7) hG dL_law_27 rfl ?_
    refine aw_isub hG dL_law_29 ?_
    refine aw_icmp_gt (t := 2548) hG dL_law_30 rfl (fun hc => ?_) (fun hc => ?_)
    · refine aw_iconst (v := 1) hG dL_law_2548 rfl ?_
      exact hend _ _ _ _ (by omega) (by omega)
    · exact absurd (Int32.lt_iff_toInt_lt.mpr (by rw [len7 hL, nI_toInt7 h2 hL]; omega)) hc
  | succ r ih =>
    intro j h1 h2 c m z hI
    refine aw_iload hG 4 rfl dL_law_23 ?_
    refine aw_aload_n hG 0 rfl dL_law_25 rfl ?_
    refine aw_slen hG hX dL_law_26 ?_
    refine aw_bipush (v := 7) hG dL_law_27 rfl ?_
    refine aw_isub hG dL_law_29 ?_
    refine aw_icmp_gt (t := 2548) hG dL_law_30 rfl (fun hc => ?_) (fun hc => ?_)
    · refine aw_iconst (v := 1) hG dL_law_2548 rfl ?_
      exact hend _ _ _ _ (by omega) (by omega)
    · have hle : ¬ (Int32.ofNat Ln - 7).toInt < (nI (7 * j)).toInt := fun h => hc (Int32.lt_iff_toInt_lt.mpr h)
      rw [len7 hL, nI_toInt7 h2 hL] at hle
      have h0 : 0 ≤ (nI (7 * j)).toInt := by rw [nI_toInt7 h2 hL]; omega
      have h7 : (nI (7 * j)).toInt + 7 ≤ Ln := by rw [nI_toInt7 h2 hL]; omega
      have kk : ∀ (c' : CS) (m' : MS) (z' : Nat → Int64), Inv c' m' → AW g 2542 [(0, .ref b), (1, .ref (wad (cxw g) 0)), (2, .ref (wad (cxw g) 17)), (3, .ref (wad (cxw g) 26)), (4, .int (nI (7 * j)))] [] (c', m', z') (K0 + j + 1) (N0 + 6 * j + 6) := by
        intro c' m' z' hI'
        refine aw_iinc (v := nI (7 * (j + 1))) (L' := [(4, .int (nI (7 * (j + 1)))), (0, .ref b), (1, .ref (wad (cxw g) 0)), (2, .ref (wad (cxw g) 17)), (3, .ref (wad (cxw g) 26))]) hG 4 rfl dL_law_2542 (by rw [show 7 * (j + 1) = 7 * j + 7 by omega]; exact nI_add (7 * j) 7) (by decide) rfl ?_
        refine aw_goto (t := 23) hG dL_law_2545 rfl ?_
        refine aw_sub (L' := [(0, .ref b), (1, .ref (wad (cxw g) 0)), (2, .ref (wad (cxw g) 17)), (3, .ref (wad (cxw g) 26)), (4, .int (nI (7 * (j + 1))))]) [1, 2, 3, 4, 0] rfl ?_
        have h9 := ih (j + 1) (by omega) (by omega) c' m' z' hI'
        rw [show K0 + (j + 1) = K0 + j + 1 by omega, show N0 + 6 * (j + 1) = N0 + 6 * j + 6 by omega] at h9
        exact h9
      refine aw_aload_n hG 0 rfl dL_law_33 rfl ?_
      refine aw_iload hG 4 rfl dL_law_34 ?_
      refine aw_sld hG hX (sI0 h0 h7) dL_law_36 ?_
      refine aw_bipush (v := 31) hG dL_law_37 rfl ?_
      refine aw_iand hG dL_law_39 ?_
      refine aw_topi (fun x hx => ?_)
      have hk : K0 + j + 1 ≤ mc := by omega
      have hn : N0 + 6 * j + 6 ≤ ms := by omega
      rcases sw25 x with hs | hs | hs | hs | hs | hs | hs | hs | hs | hs | hs | hs | hs | hs | hs | hs | hs | hs | hs | hs | hs | hs | hs | hs | hs | hs
      · refine aw_tableIn (off := 116) (t := 156) hG dL_law_40 (by rw [hs]; decide) (by rw [hs]; decide) (by rw [hs]; rfl) rfl ?_
        exact lc_type hA hG hst hX h0 h7 hL hk hn hI kk
      · refine aw_tableIn (off := 216) (t := 256) hG dL_law_40 (by rw [hs]; decide) (by rw [hs]; decide) (by rw [hs]; rfl) rfl ?_
        exact lc_pass hA hG hk hn hI kk
      · refine aw_tableIn (off := 229) (t := 269) hG dL_law_40 (by rw [hs]; decide) (by rw [hs]; decide) (by rw [hs]; rfl) rfl ?_
        exact lc_clear hA hG hk hn hI kk
      · refine aw_tableIn (off := 242) (t := 282) hG dL_law_40 (by rw [hs]; decide) (by rw [hs]; decide) (by rw [hs]; rfl) rfl ?_
        exact lc_read hA hG hst hX h0 h7 hL hk hn hI kk
      · refine aw_tableIn (off := 310) (t := 350) hG dL_law_40 (by rw [hs]; decide) (by rw [hs]; decide) (by rw [hs]; rfl) rfl ?_
        exact lc_result hA hG hk hn hI kk
      · refine aw_tableIn (off := 324) (t := 364) hG dL_law_40 (by rw [hs]; decide) (by rw [hs]; decide) (by rw [hs]; rfl) rfl ?_
        exact lc_flags hA hG hk hn hI kk
      · refine aw_tableIn (off := 337) (t := 377) hG dL_law_40 (by rw [hs]; decide) (by rw [hs]; decide) (by rw [hs]; rfl) rfl ?_
        exact lc_shortest hA hG hst hX h0 h7 hL hk hn hI kk
      · refine aw_tableIn (off := 449) (t := 489) hG dL_law_40 (by rw [hs]; decide) (by rw [hs]; decide) (by rw [hs]; rfl) rfl ?_
        exact lc_exact hA hG hst hX h0 h7 hL hk hn hI kk
      · refine aw_tableIn (off := 561) (t := 601) hG dL_law_40 (by rw [hs]; decide) (by rw [hs]; decide) (by rw [hs]; rfl) rfl ?_
        exact lc_middle hA hG hst hX h0 h7 hL hk hn hI kk
      · refine aw_tableIn (off := 673) (t := 713) hG dL_law_40 (by rw [hs]; decide) (by rw [hs]; decide) (by rw [hs]; rfl) rfl ?_
        exact lc_digits hA hG hst hX h0 h7 hL hk hn hI kk
      · refine aw_tableIn (off := 811) (t := 851) hG dL_law_40 (by rw [hs]; decide) (by rw [hs]; decide) (by rw [hs]; rfl) rfl ?_
        exact lc_fixed hA hG hst hX h0 h7 hL hk hn hI kk
      · refine aw_tableIn (off := 935) (t := 975) hG dL_law_40 (by rw [hs]; decide) (by rw [hs]; decide) (by rw [hs]; rfl) rfl ?_
        exact lc_hex hA hG hst hX h0 h7 hL hk hn hI kk
      · refine aw_tableIn (off := 1035) (t := 1075) hG dL_law_40 (by rw [hs]; decide) (by rw [hs]; decide) (by rw [hs]; rfl) rfl ?_
        exact lc_out hA hG hst hX h0 h7 hL hk hn hI kk
      · refine aw_tableIn (off := 1091) (t := 1131) hG dL_law_40 (by rw [hs]; decide) (by rw [hs]; decide) (by rw [hs]; rfl) rfl ?_
        exact lc_decimal hA hG hst hX h0 h7 hL hk hn hI kk
      · refine aw_tableIn (off := 1147) (t := 1187) hG dL_law_40 (by rw [hs]; decide) (by rw [hs]; decide) (by rw [hs]; rfl) rfl ?_
        exact lc_digit hA hG hst hX h0 h7 hL hk hn hI kk
      · refine aw_tableIn (off := 1203) (t := 1243) hG dL_law_40 (by rw [hs]; decide) (by rw [hs]; decide) (by rw [hs]; rfl) rfl ?_
        exact lc_nearest hA hG hst hX h0 h7 hL hk hn hI kk
      · refine aw_tableIn (off := 1326) (t := 1366) hG dL_law_40 (by rw [hs]; decide) (by rw [hs]; decide) (by rw [hs]; rfl) rfl ?_
        exact lc_power hA hG hst hX h0 h7 hL hk hn hI kk
      · refine aw_tableIn (off := 1449) (t := 1489) hG dL_law_40 (by rw [hs]; decide) (by rw [hs]; decide) (by rw [hs]; rfl) rfl ?_
        exact lc_convert hA hG hst hX h0 h7 hL hk hn hI kk
      · refine aw_tableIn (off := 1572) (t := 1612) hG dL_law_40 (by rw [hs]; decide) (by rw [hs]; decide) (by rw [hs]; rfl) rfl ?_
        exact lc_next hA hG hst hX h0 h7 hL hk hn hI kk
      · refine aw_tableIn (off := 1699) (t := 1739) hG dL_law_40 (by rw [hs]; decide) (by rw [hs]; decide) (by rw [hs]; rfl) rfl ?_
        exact lc_steps hA hG hst hX h0 h7 hL hk hn hI kk
      · refine aw_tableIn (off := 1842) (t := 1882) hG dL_law_40 (by rw [hs]; decide) (by rw [hs]; decide) (by rw [hs]; rfl) rfl ?_
        exact lc_compare hA hG hst hX h0 h7 hL hk hn hI kk
      · refine aw_tableIn (off := 1986) (t := 2026) hG dL_law_40 (by rw [hs]; decide) (by rw [hs]; decide) (by rw [hs]; rfl) rfl ?_
        exact lc_order hA hG hst hX h0 h7 hL hk hn hI kk
      · refine aw_tableIn (off := 2130) (t := 2170) hG dL_law_40 (by rw [hs]; decide) (by rw [hs]; decide) (by rw [hs]; rfl) rfl ?_
        exact lc_kind hA hG hst hX h0 h7 hL hk hn hI kk
      · refine aw_tableIn (off := 2230) (t := 2270) hG dL_law_40 (by rw [hs]; decide) (by rw [hs]; decide) (by rw [hs]; rfl) rfl ?_
        exact lc_reads hA hG hst hX h0 h7 hL hk hn hI kk
      · refine aw_tableIn (off := 2395) (t := 2435) hG dL_law_40 (by rw [hs]; decide) (by rw [hs]; decide) (by rw [hs]; rfl) rfl ?_
        exact lc_holds hA hG hst hX h0 h7 hL hk hn hI kk
      · refine aw_tableOut (t := 2542) hG dL_law_40 hs rfl ?_
        exact aw_wid (Nat.le_add_right _ _) (Nat.le_add_right _ _) (kk _ _ _ hI)
