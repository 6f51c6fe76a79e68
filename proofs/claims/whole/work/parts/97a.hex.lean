/-! hex -/
def hdg (y : Int64) : Int32 := if 10 ≤ (jushr y 60).toInt32 then (97 + (jushr y 60).toInt32) - 10 else 48 + (jushr y 60).toInt32
def hl : Nat → Int64 → List Int32
  | 0, _ => []
  | n + 1, y => if y = 0 then [] else hdg y :: hl n (jshl y 4)
theorem hl_len : ∀ n y, (hl n y).length ≤ n
  | 0, _ => Nat.le_refl 0
  | n + 1, y => by
    rw [hl]
    by_cases h : y = 0
    · rw [if_pos h]; exact Nat.zero_le _
    · rw [if_neg h, List.length_cons]; have := hl_len n (jshl y 4); omega
theorem hdg_by (y : Int64) : by8 (hdg y) := by
  have h1 := jushr_nat (x := y) (y := 60) (k := 60) rfl (by decide)
  have h2 := y.toBitVec.isLt
  have h3 := u64 (jushr y 60)
  have e10 : (10 : Int32).toInt = 10 := by decide
  have e97 : (97 : Int32).toInt = 97 := by decide
  have e48 : (48 : Int32).toInt = 48 := by decide
  have h4 : (jushr y 60).toBitVec.toNat < 16 := by
    rw [h1, Nat.div_lt_iff_lt_mul (pp2 _), show (16 : Nat) * 2 ^ 60 = 2 ^ 64 from rfl]; exact h2
  have h5 : (jushr y 60).toInt32.toInt = (((jushr y 60).toBitVec.toNat : Nat) : Int) := li_n (by omega) (by omega)
  unfold by8 hdg
  generalize (jushr y 60).toInt32 = z at *
  by_cases h : 10 ≤ z
  · rw [if_pos h]
    have e1 : (97 + z).toInt = 97 + z.toInt := by rw [ia (by omega) (by omega), e97]
    rw [is_ (by omega) (by omega), e1, e10]; omega
  · rw [if_neg h, ia (by omega) (by omega), e48]; omega
theorem chx_l {c : CS} {x3 x4 : Int32} : ∀ (n : Nat) (x : Int64) (y : (Nat → Int32) × Int32) (L : List Int32), n ≤ 16 → OW y L → L.length + n ≤ 1500 → ∃ y', Lp (fun a => f_X0_addHexadecimal_L52 1 x3 x4 a.1 a.2.1 a.2.2) (x, nI (16 - n), sb2 c 1 y) = some (sb2 c 1 y') ∧ OW y' (L ++ hl n x) := by
  have e16 : (16 : Int32).toInt = 16 := by decide
  intro n
  induction n with
  | zero =>
    intro x y L hn hy hl'
    refine ⟨y, Lp_r ?_, by rw [hl, List.append_nil]; exact hy⟩
    show f_X0_addHexadecimal_L52 1 x3 x4 x (nI 16) (sb2 c 1 y) = _
    unfold f_X0_addHexadecimal_L52
    rw [if_pos (show (16 : Int32) ≤ nI 16 by decide)]
  | succ n ih =>
    intro x y L hn hy hl'
    have hi : (nI (16 - (n + 1))).toInt = ((16 - (n + 1) : Nat) : Int) := nI_toInt (by omega)
    by_cases hx : x = 0
    · refine ⟨y, Lp_r ?_, by rw [hl, if_pos hx, List.append_nil]; exact hy⟩
      show f_X0_addHexadecimal_L52 1 x3 x4 x (nI (16 - (n + 1))) (sb2 c 1 y) = _
      unfold f_X0_addHexadecimal_L52
      rw [if_neg (by rw [ile, hi, e16]; omega), if_pos hx]
    · obtain ⟨y', g1, g2⟩ := add_o (c := c) (x := hdg x) hy (by omega) (hdg_by x)
      have hs : f_X0_addHexadecimal_L52 1 x3 x4 x (nI (16 - (n + 1))) (sb2 c 1 y) = some (.inl (jshl x 4, nI (16 - n), sb2 c 1 y')) := by
        unfold f_X0_addHexadecimal_L52 f_X0_addHexadecimal_J98
        rw [if_neg (by rw [ile, hi, e16]; omega), if_neg hx]
        simp only [lt]
        rw [nI_inc (by omega), show 16 - (n + 1) + 1 = 16 - n by omega]
        unfold hdg at g1
        by_cases h10 : 10 ≤ (jushr x 60).toInt32
        · rw [if_pos h10] at g1 ⊢; rw [g1]
        · rw [if_neg h10] at g1 ⊢; rw [g1]
      obtain ⟨y'', k1, k2⟩ := ih (jshl x 4) y' (L ++ [hdg x]) (by omega) g2 (by rw [len1]; omega)
      refine ⟨y'', (Lp_l (F := fun a => f_X0_addHexadecimal_L52 1 x3 x4 a.1 a.2.1 a.2.2) (a := (x, nI (16 - (n + 1)), sb2 c 1 y)) hs).trans k1, ?_⟩
      rw [hl, if_neg hx, app1]; exact k2
theorem sh4 {x : Int64} {n : Nat} (hn : n + 1 ≤ 16) (h : x.toBitVec.toNat % 2 ^ (64 - 4 * (n + 1)) = 0) : (jshl x 4).toBitVec.toNat % 2 ^ (64 - 4 * n) = 0 := by
  rw [jshl_nat (k := 4) rfl (by decide)]
  obtain ⟨q, hq⟩ := Nat.dvd_of_mod_eq_zero h
  rw [hq, show (18446744073709551616 : Nat) = 2 ^ (64 - 4 * n) * 2 ^ (4 * n) by rw [← Nat.pow_add, show 64 - 4 * n + 4 * n = 64 by omega], Nat.mod_mul_right_mod, Nat.mul_right_comm, ← Nat.pow_add, show 64 - 4 * (n + 1) + 4 = 64 - 4 * n by omega]
  exact Nat.mul_mod_right _ _
theorem mhx_l {m : MS} {x3 : Int32} : ∀ (n : Nat) (x : Int64) (v : Nat → Int32) (L : List Int32), n ≤ 16 → x.toBitVec.toNat % 2 ^ (64 - 4 * n) = 0 → PW v L → L.length + n ≤ 1600 → ∃ v', Lp (fun a => f_X7_putHex_L43 a.1 x3 a.2.1 a.2.2) (x, 0, ps m v L) = some (ps m v' (L ++ hl n x)) ∧ PW v' (L ++ hl n x) := by
  have stop : ∀ (v : Nat → Int32) (L : List Int32), Lp (fun a => f_X7_putHex_L43 a.1 x3 a.2.1 a.2.2) (0, 0, ps m v L) = some (ps m v L) := by
    intro v L
    refine Lp_r ?_
    show f_X7_putHex_L43 0 x3 0 (ps m v L) = _
    unfold f_X7_putHex_L43
    rw [if_pos rfl]
  intro n
  induction n with
  | zero =>
    intro x v L hn hx hv hl'
    have hx0 : x = 0 := by
      apply eq_n
      rw [show 64 - 4 * 0 = 64 from rfl, Nat.mod_eq_of_lt x.toBitVec.isLt] at hx
      rw [hx]; rfl
    rw [hx0, hl, List.append_nil]
    exact ⟨v, stop v L, hv⟩
  | succ n ih =>
    intro x v L hn hx hv hl'
    by_cases h0 : x = 0
    · rw [hl, if_pos h0, h0, List.append_nil]
      exact ⟨v, stop v L, hv⟩
    · obtain ⟨v', g1, g2⟩ := put_o (m := m) (x := hdg x) hv (by omega)
      have hs : f_X7_putHex_L43 x x3 0 (ps m v L) = some (.inl (jshl x 4, 0, ps m v' (L ++ [hdg x]))) := by
        unfold f_X7_putHex_L43 f_X7_putHex_J60 f_X7_putHex_J94
        rw [if_neg h0, if_pos rfl]
        simp only [lt]
        unfold hdg at g1 ⊢
        by_cases h10 : 10 ≤ (jushr x 60).toInt32
        · rw [if_pos h10] at g1 ⊢; rw [g1]; rw [if_pos h10]; rfl
        · rw [if_neg h10] at g1 ⊢; rw [g1]; rw [if_neg h10]; rfl
      obtain ⟨v'', k1, k2⟩ := ih (jshl x 4) v' (L ++ [hdg x]) (by omega) (sh4 hn hx) g2 (by rw [len1]; omega)
      rw [← app1] at k1 k2
      rw [hl, if_neg h0]
      exact ⟨v'', (Lp_l (F := fun a => f_X7_putHex_L43 a.1 x3 a.2.1 a.2.2) (a := (x, 0, ps m v L)) hs).trans k1, k2⟩
theorem mhx {m : MS} {x3 : Int32} {x : Int64} {v : Nat → Int32} {L : List Int32} (hv : PW v L) (hl' : L.length ≤ 100) : ∃ v', Lp (fun a => f_X7_putHex_L43 a.1 x3 a.2.1 a.2.2) (x, 1, ps m v L) = some (ps m v' ((L ++ (if x = 0 then [] else [46])) ++ hl 16 x)) ∧ PW v' ((L ++ (if x = 0 then [] else [46])) ++ hl 16 x) := by
  by_cases h0 : x = 0
  · rw [if_pos h0, hl, if_pos h0, List.append_nil, List.append_nil]
    refine ⟨v, Lp_r ?_, hv⟩
    show f_X7_putHex_L43 x x3 1 (ps m v L) = _
    unfold f_X7_putHex_L43
    rw [if_pos h0]
  · rw [if_neg h0, hl, if_neg h0]
    obtain ⟨v1, a1, b1⟩ := put_o (m := m) (x := 46) hv (by omega)
    obtain ⟨v', g1, g2⟩ := put_o (m := m) (x := hdg x) b1 (by rw [len1]; omega)
    have hs : f_X7_putHex_L43 x x3 1 (ps m v L) = some (.inl (jshl x 4, 0, ps m v' ((L ++ [46]) ++ [hdg x]))) := by
      unfold f_X7_putHex_L43 f_X7_putHex_J60 f_X7_putHex_J94
      rw [if_neg h0, if_neg n10, a1]
      simp only [lt, Option.bind]
      unfold hdg at g1 ⊢
      by_cases h10 : 10 ≤ (jushr x 60).toInt32
      · rw [if_pos h10] at g1 ⊢; rw [g1]; rw [if_pos h10]
      · rw [if_neg h10] at g1 ⊢; rw [g1]; rw [if_neg h10]
    obtain ⟨v'', k1, k2⟩ := mhx_l (m := m) (x3 := x3) 15 (jshl x 4) v' ((L ++ [46]) ++ [hdg x]) (by decide) (sh4 (n := 15) (by decide) (by rw [show 64 - 4 * (15 + 1) = 0 from rfl, Nat.pow_zero, Nat.mod_one])) g2 (by rw [len1, len1]; omega)
    rw [← app1 (L := L ++ [46]) (x := hdg x)] at k1 k2
    exact ⟨v'', (Lp_l (F := fun a => f_X7_putHex_L43 a.1 x3 a.2.1 a.2.2) (a := (x, 1, ps m v L)) hs).trans k1, k2⟩
/-- the highest bit is brought to the top -/
theorem mtop {m : MS} {W L : Nat} {x1 : Int64} {x3 : Int32} {E : Int} (h1 : x1.toBitVec.toNat = W) (hb : Bl W L) (hL0 : 0 < L) (hL : L ≤ 63) (h3 : x3.toInt = E) (hE : -100000 ≤ E ∧ E ≤ 100000) : ∃ z, Lp (fun a => f_X7_putHex_L13 a.1 a.2 m) (x1, x3) = some z ∧ z.1.toBitVec.toNat = W * 2 ^ (64 - L) ∧ z.2.toInt = E - (64 - L : Nat) := by
  have hb2 := hb.2.resolve_left (by omega)
  refine Lp_inv (F := fun a => f_X7_putHex_L13 a.1 a.2 m) (fun n a => ∃ i : Nat, i + n = 64 - L ∧ a.1.toBitVec.toNat = W * 2 ^ i ∧ a.2.toInt = E - i) (fun z => z.1.toBitVec.toNat = W * 2 ^ (64 - L) ∧ z.2.toInt = E - (64 - L : Nat)) ?_ (64 - L) (x1, x3) ⟨0, by omega, by rw [Nat.pow_zero, Nat.mul_one]; exact h1, by show x3.toInt = _; rw [h3]; omega⟩
  rintro n ⟨y1, y3⟩ ⟨i, g1, g2, g3⟩
  change y1.toBitVec.toNat = _ at g2
  change y3.toInt = _ at g3
  show (∃ b, f_X7_putHex_L13 y1 y3 m = _ ∧ _) ∨ ∃ a' n', f_X7_putHex_L13 y1 y3 m = _ ∧ _
  have hu := u64 y1
  have hlo : 2 ^ (L - 1 + i) ≤ W * 2 ^ i := by rw [Nat.pow_add]; exact Nat.mul_le_mul_right _ hb2
  have hhi : W * 2 ^ i < 2 ^ (L + i) := by rw [Nat.pow_add]; exact Nat.mul_lt_mul_of_pos_right hb.1 (pp2 _)
  unfold f_X7_putHex_L13
  by_cases hn : n = 0
  · have hi : i = 64 - L := by omega
    have h63 : 2 ^ 63 ≤ 2 ^ (L - 1 + i) := pw_le (by omega)
    rw [p63] at h63
    rw [if_pos (by rw [lle, l0]; omega)]
    exact .inl ⟨_, rfl, by show y1.toBitVec.toNat = _; rw [g2, hi], by show y3.toInt = _; rw [g3, hi]⟩
  · have h63 : 2 ^ (L + i) ≤ 2 ^ 63 := pw_le (by omega)
    rw [p63] at h63
    have hpos : 0 < 2 ^ (L - 1 + i) := pp2 _
    rw [if_neg (by rw [lle, l0]; omega)]
    refine .inr ⟨_, n - 1, rfl, by omega, i + 1, by omega, ?_, ?_⟩
    · show (jshl y1 1).toBitVec.toNat = _
      rw [jshl_nat (k := 1) rfl (by decide), g2, Nat.pow_one, Nat.pow_succ, ← Nat.mul_assoc]
      exact Nat.mod_eq_of_lt (by omega)
    · show (y3 + -1).toInt = _
      have e1 : (-1 : Int32).toInt = -1 := by decide
      rw [ia (by omega) (by omega), g3, e1]; omega
theorem smI_comm {m : MS} {i j : Nat} {v w : Int32} (h : i ≠ j) : smI (smI m i v) j w = smI (smI m j w) i v := by
  unfold smI; simp only
  congr 2
  funext k; unfold fup
  by_cases h1 : k = j
  · rw [if_pos h1, if_neg (by omega), if_pos h1]
  · rw [if_neg h1]
    by_cases h2 : k = i
    · rw [if_pos h2, if_pos h2]
    · rw [if_neg h2, if_neg h2, if_neg h1]
theorem ps_out {m : MS} {v : Nat → Int32} {L : List Int32} : smI (smI (ps m v L) 3 0) 4 0 = ps (smI (smI m 3 0) 4 0) v L := by
  unfold ps
  rw [smI_comm (i := 2) (j := 3) (by decide), smI_comm (i := 2) (j := 4) (by decide)]
  rfl
def hxt (y : Int64) (e : Int) : List Int32 := (((dl (sxW 14) 0 (sxN 14) ++ (if y = 0 then [] else [46])) ++ hl 16 y) ++ [112]) ++ nl e
theorem ag_hex (x1 : Int32) (x2 : Int64) : Agr Iv (cl_hex x1 x2) (mo_hex x1 x2) := by
  intro c m h
  rcases a_own x1 x2 with ⟨h1, h2⟩ | ⟨f, neg, s, hf, rfl, hs, rfl, h1, h2⟩
  · refine ag_no (v := 0) h ?_ ?_
    · unfold mo_hex f_X7_hex; rw [h2]; rfl
    · unfold cl_hex f_X6_hex; rw [h1]; rfl
  · obtain ⟨v, c', m', hC, hM, hI2, h0⟩ : ∃ v c' m', f_X6_hex (Int32.ofNat f) (sgn f neg s) c = some (.inr (v, c')) ∧ f_X7_hex (Int32.ofNat f) (sgn f neg s) m = some (v, m') ∧ Iv c' m' ∧ mI m' 0 = 0 := by
      unfold f_X6_hex f_X7_hex
      rw [h1, tbd_r, h2, refuse1]
      simp only [lt, if_true]
      rw [s_fin hf hs]
      by_cases z1 : inf f ≤ s
      · obtain ⟨v, c', m', e1, e2, e3, e4, e5, e6, e7⟩ := name_agree (neg := neg) hf hs z1 (h.thr (v := 0))
        rw [if_pos z1, if_pos rfl, e1, e2]
        simp only [Option.bind]
        rw [if_neg n10]
        unfold f_X7_hex_J77
        simp only [lt]
        have ee : smI (smI m' 3 0) 4 0 = m' := by
          have a1 : smI m' 3 0 = m' := by rw [← e6, smI_self]
          have a2 : smI m' 4 0 = m' := by rw [← e7, smI_self]
          rw [a1, a2]
        rw [ee, e3]
        exact ⟨v, c', m', rfl, rfl, e4, by rw [e5]; exact mI_smI⟩
      · have hsi : s < inf f := by omega
        rw [if_neg z1, if_neg n10, nonum_fin hf hsi, sgn_minus hf hs]
        simp only [Option.bind, if_true]
        have hno : f_X1_takeNone (nb neg) c = some (sdc c (dcD c) (nb neg) 0 0) := by
          unfold f_X1_takeNone
          rw [if_pos (show nb neg = 0 ∨ nb neg = 1 by cases neg <;> decide)]
          rfl
        rw [hno]
        simp only
        obtain ⟨y0, st1, st2⟩ := start_o (c := sdc c (dcD c) (nb neg) 0 0) (neg := neg)
        have hl0 : (if neg then [(45 : Int32)] else []).length ≤ 1 := by split <;> simp
        rw [st1, mI_smI_ne (show (5 : Nat) ≠ 2 by decide), mI_smI, ps_nil]
        obtain ⟨u0, pu1, pu2⟩ : ∃ u, (if nb neg = 1 then (Option.bind (f_X7_put 45 (ps (smI (smI m 0 0) 5 (nb neg)) (mA (smI (smI m 0 0) 5 (nb neg)) 1) [])) fun v_11 => f_X7_hex_J42 (Int32.ofNat f) (sgn f neg s) v_11) else f_X7_hex_J42 (Int32.ofNat f) (sgn f neg s) (ps (smI (smI m 0 0) 5 (nb neg)) (mA (smI (smI m 0 0) 5 (nb neg)) 1) [])) = f_X7_hex_J42 (Int32.ofNat f) (sgn f neg s) (ps (smI (smI m 0 0) 5 (nb neg)) u (if neg then [45] else [])) ∧ PW u (if neg then [45] else []) := by
          cases neg
          · rw [if_neg (show ¬ nb false = 1 by decide)]
            exact ⟨_, rfl, pw_nil _⟩
          · rw [if_pos (show nb true = 1 from rfl)]
            obtain ⟨v1, a1, b1⟩ := put_o (m := smI (smI m 0 0) 5 (nb true)) (x := 45) (pw_nil (mA (smI (smI m 0 0) 5 (nb true)) 1)) (by simp)
            rw [a1]
            exact ⟨v1, rfl, b1⟩
        simp only [Option.bind] at pu1
        rw [pu1]
        unfold f_X7_hex_J42 f_X7_hex_J77
        simp only [lt]
        rw [x_size hf, sgn_size hf hs]
        simp only [L64_z hf hs]
        -- the end of both
        have fin : ∀ (b : MS) (y : (Nat → Int32) × Int32) (v : Nat → Int32) (M : List Int32), Fr [] [0, 5, 7] [1] m b → mI b 5 = nb neg → mI b 0 = 0 → OW y M → PW v M → M.length ≤ 1500 → ∃ v' c' m', some (Sum.inr (brN (sb2 (sdc c (dcD c) (nb neg) 0 0) 1 y) 1, sb2 (sdc c (dcD c) (nb neg) 0 0) 1 y)) = (some (.inr (v', c')) : Option (Unit ⊕ (Int32 × CS))) ∧ some (mI (smI (smI (ps b v M) 3 0) 4 0) 2, smI (smI (ps b v M) 3 0) 4 0) = some (v', m') ∧ Iv c' m' ∧ mI m' 0 = 0 := by
          intro b y v M hF h5 h0' hy hv hl
          rw [ps_out, sb2_N, hy.1, ps_I2]
          obtain ⟨⟨n1, t1, t2, t3, t4⟩, -, -, ⟨r1, r2⟩, w⟩ := h
          obtain ⟨fa, fi, fj⟩ := hF
          refine ⟨_, _, _, rfl, rfl, ?_, ?_⟩
          · refine Iv.outp ⟨n1, t1, t2, ?_, ?_⟩ ⟨0, by decide, rfl, ?_, ?_, ?_, ?_, fun i hi => by omega⟩ ⟨?_, ?_⟩ w hy hv hl
            · rw [mI_smI_ne (by decide), mI_smI_ne (by decide), fi 1 (by decide)]; exact t3
            · intro i hi
              rw [mA_smI, mA_smI, fa 0 (by decide)]; exact t4 i hi
            · rw [mI_smI_ne (by decide), mI_smI]; rfl
            · rw [mI_smI]; rfl
            · rw [mI_smI_ne (by decide), mI_smI_ne (by decide), h5]; rfl
            · show nb neg = 0 ∨ nb neg = 1; cases neg <;> decide
            · rw [mJ_smI, mJ_smI, fj 0 (by decide)]; exact r1
            · rw [mI_smI_ne (by decide), mI_smI_ne (by decide), fi 6 (by decide)]; exact r2
          · rw [ps_I (by decide), mI_smI_ne (by decide), mI_smI_ne (by decide)]; exact h0'
        by_cases z2 : s = 0
        · rw [if_pos z2]
          have hw0 : f_X2_wholeOf f (sgn f neg s) = 0 := by rw [leq, c_whole hf hs, wh_0.mpr z2]; rfl
          have w13 : sxN 13 = 5 := words.2.2.2.1
          have w25 : sxN 25 = 5 := words.2.2.2.2.2.2.2.2.1
          unfold f_X0_addHexadecimal
          rw [if_pos hw0]
          obtain ⟨y1, a1, b1⟩ := addWord_o (c := sdc c (dcD c) (nb neg) 0 0) (j := 13) (by rw [w13]; decide) st2 (by rw [w13]; omega)
          obtain ⟨v1, e1, e2⟩ := putWord_o (m := smI (smI m 0 0) 5 (nb neg)) (j := 25) (by rw [w25]; decide) pu2 (by rw [w25]; omega)
          rw [← words2.2.2.2.1] at e1 e2
          rw [a1, e1]
          simp only [Option.bind]
          exact fin (smI (smI m 0 0) 5 (nb neg)) y1 v1 _ ((Fr.sI (by decide)).trans (Fr.sI (by decide))) mI_smI (by rw [mI_smI_ne (by decide), mI_smI]) b1 e2 (by rw [List.length_append, dl_len, w13]; omega)
        · rw [if_neg z2]
          have hw0 : f_X2_wholeOf f (sgn f neg s) ≠ 0 := fun q => z2 (wh_0 (f := f) |>.mp (by rw [leq, c_whole hf hs, l0] at q; omega))
          have hwn : (f_X2_wholeOf f (sgn f neg s)).toBitVec.toNat = wh f s := whole_n (c_whole hf hs)
          have hwb := wh_b f s
          have hub := un_b hf hsi
          have hfm := fm_b f
          have hll : lst f = 2 - (gr f : Int) - (pr f : Int) := rfl
          have w14 : sxN 14 = 3 := words.2.2.2.2.1
          have w26 : sxN 26 = 3 := words.2.2.2.2.2.2.2.2.2
          obtain ⟨b, L, g1, g2, g3, g4⟩ := bits_spec (f_X2_wholeOf f (sgn f neg s))
          rw [hwn] at g4
          have hL0 : 0 < L := g4.pos (Nat.pos_of_ne_zero (fun q => z2 (wh_0.mp q)))
          have hL53 : L ≤ 53 := by
            have h1 := g4.2.resolve_left (by omega)
            have h2 : 2 ^ (L - 1) < 2 ^ 53 := Nat.lt_of_le_of_lt h1 (by rw [show (2 : Nat) ^ 53 = 9007199254740992 by decide]; omega)
            have := (Nat.pow_lt_pow_iff_right (a := 2) (by decide)).mp h2
            omega
          have e64 : (64 : Int32).toInt = 64 := by decide
          have one : (1 : Int32).toInt = 1 := by decide
          have e63 : (63 : Int32).toInt = 63 := by decide
          have hsh : (64 - b).toInt = ((64 - L : Nat) : Int) := by rw [is_ (by omega) (by omega), e64, g2]; omega
          have hun := c_unit (neg := neg) hf hs
          have he : ((f_X2_unitOf f (sgn f neg s) + b) - 1).toInt = un f s + L - 1 := by
            have e1 : (f_X2_unitOf f (sgn f neg s) + b).toInt = un f s + L := by rw [ia (by omega) (by omega), hun, g2]
            rw [is_ (by omega) (by omega), e1, one]
          obtain ⟨W, U, e1, e2, e3⟩ := split_spec hf hs (ps (smI (smI m 0 0) 5 (nb neg)) u0 (if neg then [45] else []))
          have hps : smI (smJ (ps (smI (smI m 0 0) 5 (nb neg)) u0 (if neg then [45] else [])) 1 W) 7 U = ps (smI (smJ (smI (smI m 0 0) 5 (nb neg)) 1 W) 7 U) u0 (if neg then [45] else []) := by
            unfold ps
            have : smJ (smI (smA (smI (smI m 0 0) 5 (nb neg)) 1 u0) 2 (nI (if neg then [(45 : Int32)] else []).length)) 1 W = smI (smA (smJ (smI (smI m 0 0) 5 (nb neg)) 1 W) 1 u0) 2 (nI (if neg then [(45 : Int32)] else []).length) := rfl
            rw [this, smI_comm (i := 2) (j := 7) (by decide)]
            rfl
          rw [e1, hps]
          generalize hB : smI (smJ (smI (smI m 0 0) 5 (nb neg)) 1 W) 7 U = B
          have hBJ : mJ B 1 = W := by rw [← hB, mJ_smI, mJ_smJ]
          have hBI : mI B 7 = U := by rw [← hB, mI_smI]
          have hWn : W.toBitVec.toNat = wh f s := whole_n e2
          have hU63 : (mI (ps B u0 (if neg then [45] else [])) 7 + 63).toInt = un f s + 63 := by rw [ps_I (by decide), hBI, ia (by omega) (by omega), e3, e63]
          obtain ⟨⟨zt, ze⟩, t1, t2, t3⟩ := mtop (m := ps B u0 (if neg then [45] else [])) (W := wh f s) (L := L) (x1 := mJ (ps B u0 (if neg then [45] else [])) 1) (E := un f s + 63) (by rw [ps_J, hBJ]; exact hWn) g4 hL0 (by omega) hU63 (by omega)
          change zt.toBitVec.toNat = _ at t2
          change ze.toInt = _ at t3
          have hzt : zt = jshl (f_X2_wholeOf f (sgn f neg s)) (64 - b) := by
            apply eq_n
            rw [t2, jshl_nat hsh (by omega), hwn]
            have : wh f s * 2 ^ (64 - L) < 2 ^ L * 2 ^ (64 - L) := Nat.mul_lt_mul_of_pos_right g4.1 (pp2 _)
            rw [← Nat.pow_add, show L + (64 - L) = 64 by omega] at this
            exact (Nat.mod_eq_of_lt this).symm
          obtain ⟨y1, a1, b1⟩ := addWord_o (c := sdc c (dcD c) (nb neg) 0 0) (j := 14) (by rw [w14]; decide) st2 (by rw [w14]; omega)
          obtain ⟨v1, c1, c2⟩ := putWord_o (m := B) (j := 26) (by rw [w26]; decide) pu2 (by rw [w26]; omega)
          rw [← words2.2.2.2.2] at c1 c2
          have hl1 : ((if neg then [(45 : Int32)] else []) ++ dl (sxW 14) 0 (sxN 14)).length ≤ 4 := by rw [List.length_append, dl_len, w14]; omega
          unfold f_X0_addHexadecimal f_X7_putHex
          rw [if_neg hw0, g1]
          simp only [Option.bind, lt]
          rw [a1, t1]
          simp only
          rw [c1]
          simp only
          rw [hzt]
          generalize hY : jshl (jshl (f_X2_wholeOf f (sgn f neg s)) (64 - b)) 1 = Y
          obtain ⟨v2, d1, d2⟩ := mhx (m := B) (x3 := ze) (x := Y) c2 (by omega)
          rw [d1]
          simp only
          generalize hS : ((if neg then [(45 : Int32)] else []) ++ dl (sxW 14) 0 (sxN 14)) = S at *
          have hl16 := hl_len 16 Y
          -- the class's digits
          obtain ⟨y2, f1, f2⟩ : ∃ y2, (if Y = 0 then Lp (fun a => f_X0_addHexadecimal_L52 1 (f_X2_unitOf f (sgn f neg s)) b a.1 a.2.1 a.2.2) (Y, 0, sb2 (sdc c (dcD c) (nb neg) 0 0) 1 y1) else Lp (fun a => f_X0_addHexadecimal_L52 1 (f_X2_unitOf f (sgn f neg s)) b a.1 a.2.1 a.2.2) (Y, 0, f_X0_add 1 46 (sb2 (sdc c (dcD c) (nb neg) 0 0) 1 y1))) = some (sb2 (sdc c (dcD c) (nb neg) 0 0) 1 y2) ∧ OW y2 ((S ++ (if Y = 0 then [] else [46])) ++ hl 16 Y) := by
            by_cases hY0 : Y = 0
            · rw [if_pos hY0, if_pos hY0, List.append_nil]
              exact chx_l (c := sdc c (dcD c) (nb neg) 0 0) (x3 := f_X2_unitOf f (sgn f neg s)) (x4 := b) 16 Y y1 S (by decide) b1 (by omega)
            · rw [if_neg hY0, if_neg hY0]
              obtain ⟨y3, k1, k2⟩ := add_o (c := sdc c (dcD c) (nb neg) 0 0) (x := 46) b1 (by omega) b46
              rw [k1]
              exact chx_l (c := sdc c (dcD c) (nb neg) 0 0) (x3 := f_X2_unitOf f (sgn f neg s)) (x4 := b) 16 Y y3 (S ++ [46]) (by decide) k2 (by rw [len1]; omega)
          have hlT : ((S ++ (if Y = 0 then [] else [46])) ++ hl 16 Y).length ≤ 30 := by
            rw [List.length_append, List.length_append]
            have : (if Y = 0 then ([] : List Int32) else [46]).length ≤ 1 := by split <;> simp
            omega
          generalize hT : ((S ++ (if Y = 0 then [] else [46])) ++ hl 16 Y) = T at *
          obtain ⟨y4, k1, k2⟩ := add_o (c := sdc c (dcD c) (nb neg) 0 0) (x := 112) f2 (by omega) b112
          obtain ⟨y5, k3, k4⟩ := addNumber_o (c := sdc c (dcD c) (nb neg) 0 0) he (by omega) k2 (by rw [len1]; omega)
          obtain ⟨v3, o1, o2⟩ := put_o (m := B) (x := 112) d2 (by omega)
          obtain ⟨v4, o3, o4⟩ := putNumber_o (m := B) (x := ze) (v := un f s + L - 1) (by rw [t3]; omega) (by omega) o2 (by rw [len1]; omega)
          rw [o1]
          simp only
          rw [o3]
          simp only
          have hfin := fin B y5 v4 _ (by rw [← hB]; exact (Fr.sI (by decide)).trans ((Fr.sI (by decide)).trans ((Fr.sJ (by decide)).trans (Fr.sI (by decide))))) (by rw [← hB, mI_smI_ne (by decide), mI_smJ, mI_smI]) (by rw [← hB, mI_smI_ne (by decide), mI_smJ, mI_smI_ne (by decide), mI_smI]) k4 o4 (by
            have hn5 : (nl (un f s + L - 1)).length ≤ 5 := by
              unfold nl
              have := nd4_len (un f s + L - 1).natAbs
              rw [List.length_append]
              split <;> simp <;> omega
            rw [List.length_append, len1]; omega)
          by_cases hY0 : Y = 0
          · rw [if_pos hY0] at f1 ⊢
            rw [f1]
            simp only
            rw [k1, k3]
            exact hfin
          · rw [if_neg hY0] at f1 ⊢
            rw [f1]
            simp only
            rw [k1, k3]
            exact hfin
    refine ag_yes (v := v.toInt64) (m' := m') (c' := c') ?_ ?_ h0 hI2
    · unfold mo_hex; rw [hM]; rfl
    · unfold cl_hex; rw [hC]; rfl
