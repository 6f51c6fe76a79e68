/-! bytes -/
def sb2 (c : CS) (t : Nat) (x : (Nat → Int32) × Int32) : CS := (fup c.1 t x, c.2)
theorem sb2_B {c : CS} {t : Nat} {x : (Nat → Int32) × Int32} : brB (sb2 c t x) t = x.1 := by unfold brB sb2 fup; simp
theorem sb2_N {c : CS} {t : Nat} {x : (Nat → Int32) × Int32} : brN (sb2 c t x) t = x.2 := by unfold brN sb2 fup; simp
theorem sb2_Bne {c : CS} {t q : Nat} {x : (Nat → Int32) × Int32} (h : q ≠ t) : brB (sb2 c t x) q = brB c q := by unfold brB sb2 fup; simp [h]
theorem sb2_Nne {c : CS} {t q : Nat} {x : (Nat → Int32) × Int32} (h : q ≠ t) : brN (sb2 c t x) q = brN c q := by unfold brN sb2 fup; simp [h]
theorem sb2_sb2 {c : CS} {t : Nat} {x y : (Nat → Int32) × Int32} : sb2 (sb2 c t x) t y = sb2 c t y := by
  unfold sb2; congr 1; funext k; unfold fup; by_cases h : k = t <;> simp [h]
theorem sb2_self (c : CS) (t : Nat) : sb2 c t (brB c t, brN c t) = c := by
  unfold sb2 brB brN
  have : fup c.1 t ((c.1 t).1, (c.1 t).2) = c.1 := by
    funext k; unfold fup
    by_cases h : k = t
    · rw [if_pos h, h]
    · rw [if_neg h]
  rw [this]
theorem sbrN_sb2 {c : CS} {t : Nat} {v : Int32} : sbrN c t v = sb2 c t (brB c t, v) := rfl
def nby (x : Int32) : Int32 := vp_nar .byte (i2by x)
theorem i2by_m (x : Int32) : (i2by x).toInt % 256 = x.toInt % 256 := by
  unfold i2by
  rw [Int8.toInt_toInt32, Int32.toInt_toInt8, Int.bmod_def]
  split <;> omega
theorem nby_eq (x : Int32) : nby x = i2by (i2by x) := rfl
theorem nby_255 (x : Int32) : nby x &&& 255 = x &&& 255 := by
  rw [ieq, am8i, am8i, nby_eq, i2by_m, i2by_m]
theorem and255 {x : Int32} (h0 : 0 ≤ x.toInt) (h1 : x.toInt < 256) : x &&& 255 = x := by
  rw [ieq, am8i]; omega
theorem add_eq {c : CS} {t n : Nat} (hn : brN c t = nI n) (hl : n < brLen t) (x : Int32) : f_X0_add t x c = sb2 c t (upd (brB c t) n (nby x), nI (n + 1)) := by
  have hb : brLen t ≤ 1600 := by unfold brLen; split <;> omega
  have hi : (nI n).toInt = n := nI_toInt (by omega)
  have hL : (Int32.ofNat (brLen t)).toInt = brLen t := Int32.toInt_ofNat_of_lt (by omega)
  unfold f_X0_add
  rw [hn, if_neg (by rw [ilt, hi, k0]; omega), if_neg (by rw [ile, hi, hL]; omega)]
  simp only [lt]
  rw [nI_clamp (show n < 2 ^ 31 by omega)]
  have e1 : sbrB c t (upd (brB c t) n (vp_nar .byte (i2by x))) = sb2 c t (upd (brB c t) n (nby x), brN c t) := rfl
  rw [e1, sbrN_sb2, sb2_N, sb2_B, sb2_sb2, hn, nI_inc (by omega)]
/-- the bytes that a row holds -/
def Bt (x : (Nat → Int32) × Int32) (L : Nat → Int32) (n : Nat) : Prop := x.2 = nI n ∧ ∀ i, i < n → x.1 i &&& 255 = L i
theorem at_in {c : CS} {t n i : Nat} (hn : brN c t = nI n) (hl : n ≤ brLen t) (hi : i < n) {x : Int32} (hx : x.toInt = i) : f_X0_at t x c = brB c t i &&& 255 := by
  have hb : brLen t ≤ 1600 := by unfold brLen; split <;> omega
  have hni : (nI n).toInt = n := nI_toInt (by omega)
  have hL : (Int32.ofNat (brLen t)).toInt = brLen t := Int32.toInt_ofNat_of_lt (by omega)
  have hc : x.toNatClampNeg = i := by rw [cl]; omega
  unfold f_X0_at
  rw [hn, if_neg (by rw [ilt, hx, k0]; omega), if_neg (by rw [ile, hx, hni]; omega), if_pos (by rw [ilt, hx, hL]; omega), hc]
theorem at_out {c : CS} {t n i : Nat} (hn : brN c t = nI n) (hl : n ≤ 1600) (hi : n ≤ i) {x : Int32} (hx : x.toInt = i) : f_X0_at t x c = -1 := by
  have hni : (nI n).toInt = n := nI_toInt (by omega)
  unfold f_X0_at
  rw [hn, if_neg (by rw [ilt, hx, k0]; omega), if_pos (by rw [ile, hx, hni]; omega)]
theorem Iv.text {c : CS} {m : MS} {x : (Nat → Int32) × Int32} {v : Nat → Int32} {n : Nat} (h : Iv c m) (hn : n ≤ 1600) (hx : x.2 = nI n) (hb : ∀ i, i < n → x.1 i &&& 255 = v i) : Iv (sb2 c 0 x) (smI (smA m 0 v) 1 (nI n)) := by
  obtain ⟨a1, ⟨n2, o1, o2, o3, o4⟩, a3, a4, a5⟩ := h
  refine ⟨⟨n, hn, by rw [sb2_N]; exact hx, mI_smI, fun i hi => ?_⟩, ⟨n2, o1, by rw [sb2_Nne (by decide)]; exact o2, o3, fun i hi => ?_⟩, a3, a4, a5⟩
  · rw [sb2_B, mA_smI, smA_same]; exact hb i hi
  · rw [sb2_Bne (by decide), mA_smI, smA_ne (by decide)]; exact o4 i hi
theorem smI_smI {m : MS} {i : Nat} {v w : Int32} : smI (smI m i v) i w = smI m i w := by
  unfold smI; simp only; congr 2; funext k; unfold fup; split <;> rfl
theorem smI_self (m : MS) (i : Nat) : smI m i (mI m i) = m := by
  unfold smI mI
  have : fup m.2.1 i (m.2.1 i) = m.2.1 := by
    funext k; unfold fup
    by_cases h : k = i
    · rw [if_pos h, h]
    · rw [if_neg h]
  rw [this]
theorem smA_smI {m : MS} {i j : Nat} {v : Int32} {w : Nat → Int32} : smA (smI m i v) j w = smI (smA m j w) i v := rfl
theorem byte_sh (x : Int64) {k : Nat} (hk : k < 8) {y : Int32} (hy : y.toInt = ((8 * k : Nat) : Int)) : ((jushr x y) &&& 255).toInt32 = ((jshr x y) &&& 255).toInt32 ∧ 0 ≤ ((jshr x y) &&& 255).toInt32.toInt ∧ ((jshr x y) &&& 255).toInt32.toInt < 256 := by
  have h1 := jushr_nat (x := x) (y := y) (k := 8 * k) hy (by omega)
  have h2 := jshr_eq (x := x) (y := y) (k := 8 * k) hy (by omega)
  have a1 := am8 (jushr x y)
  have a2 := am8 (jshr x y)
  have b1 : ((jushr x y) &&& 255).toInt32.toInt = (jushr x y).toInt % 256 := by rw [li (by omega) (by omega), a1]
  have b2 : ((jshr x y) &&& 255).toInt32.toInt = (jshr x y).toInt % 256 := by rw [li (by omega) (by omega), a2]
  refine ⟨?_, by omega, by omega⟩
  rw [ieq, b1, b2, h2]
  have u1 := u64 (jushr x y)
  have u2 := u64 x
  have hk' : k = 0 ∨ k = 1 ∨ k = 2 ∨ k = 3 ∨ k = 4 ∨ k = 5 ∨ k = 6 ∨ k = 7 := by omega
  rcases hk' with rfl | rfl | rfl | rfl | rfl | rfl | rfl | rfl <;> simp only [Nat.reduceMul, Nat.reducePow, Int.reducePow] at h1 ⊢ <;> omega
theorem ag_type (x1 : Int64) (x3 : Int32) : Agr Iv (cl_type x1 x3) (mo_type x1 x3) := by
  intro c m h
  have e8 : (8 : Int32).toInt = 8 := by decide
  have e8' : (8 : Int64).toInt = 8 := by decide
  have one : (1 : Int32).toInt = 1 := by decide
  have hin := in_i (x := x3) (a := 0) (b := 8)
  rw [l0, e8'] at hin
  unfold Agr at *
  by_cases hr : 0 ≤ x3.toInt ∧ x3.toInt ≤ 8
  · rw [if_pos hr] at hin
    obtain ⟨k, hk⟩ : ∃ k : Nat, x3.toInt = k := ⟨x3.toInt.toNat, by omega⟩
    have h' := h
    obtain ⟨⟨n, t1, t2, t3, t4⟩, a2, a3, a4, a5⟩ := h'
    have hni : (nI n).toInt = n := nI_toInt (by omega)
    have hroom : (f_X0_room 0 c).toInt = 1600 - (n : Int) := by
      have e : (Int32.ofNat (brLen 0)).toInt = 1600 := by decide
      unfold f_X0_room
      rw [t2, is_ (by rw [e, hni]; omega) (by rw [e, hni]; omega), e, hni]
    have hsum : (mI (smI m 0 0) 1 + x3).toInt = (n : Int) + k := by
      rw [mI_smI_ne (by decide), t3, ia (by omega) (by omega), hni, hk]
    have e1600 : (1600 : Int32).toInt = 1600 := by decide
    by_cases hfit : n + k ≤ 1600
    · have key : ∀ (r i : Nat) (c' : CS) (m' : MS), i + r = k → Iv c' m' → brN c' 0 = nI (n + i) → mI m' 1 = nI (n + i) → mI m' 0 = 0 → ∃ c'' m'', Lp (fun a => f_X6_type_L36 x1 x3 a.1 a.2) (nI i, c') = some c'' ∧ Lp (fun a => f_X7_type_L35 x1 x3 a.1 a.2) (nI i, m') = some m'' ∧ Iv c'' m'' ∧ brN c'' 0 = nI (n + k) ∧ mI m'' 1 = nI (n + k) ∧ mI m'' 0 = 0 := by
        intro r
        induction r with
        | zero =>
          intro i c' m' hi hI hc hm hz
          have hii : (nI i).toInt = i := nI_toInt (by omega)
          obtain rfl : i = k := by omega
          refine ⟨c', m', Lp_r ?_, Lp_r ?_, hI, hc, hm, hz⟩
          · show f_X6_type_L36 x1 x3 (nI i) c' = _
            unfold f_X6_type_L36
            rw [if_pos (by rw [ile, hk, hii]; omega)]
          · show f_X7_type_L35 x1 x3 (nI i) m' = _
            unfold f_X7_type_L35
            rw [if_pos (by rw [ile, hk, hii]; omega)]
        | succ r ih =>
          intro i c' m' hi hI hc hm hz
          have hii : (nI i).toInt = i := nI_toInt (by omega)
          have hy : (8 * nI i).toInt = ((8 * i : Nat) : Int) := by rw [im (by rw [e8, hii]; omega) (by rw [e8, hii]; omega), e8, hii]; omega
          obtain ⟨b1, b2, b3⟩ := byte_sh x1 (k := i) (by omega) hy
          have s1 : f_X6_type_L36 x1 x3 (nI i) c' = some (.inl (nI (i + 1), sb2 c' 0 (upd (brB c' 0) (n + i) (nby ((jshr x1 (8 * nI i)) &&& 255).toInt32), nI (n + i + 1)))) := by
            unfold f_X6_type_L36
            rw [if_neg (by rw [ile, hk, hii]; omega)]
            simp only [lt]
            rw [add_eq hc (by show n + i < 1600; omega), b1, nI_inc (by omega)]
          have s2 : f_X7_type_L35 x1 x3 (nI i) m' = some (.inl (nI (i + 1), smI (smA m' 0 (upd (mA m' 0) (n + i) ((jshr x1 (8 * nI i)) &&& 255).toInt32)) 1 (nI (n + i + 1)))) := by
            unfold f_X7_type_L35
            rw [if_neg (by rw [ile, hk, hii]; omega), hm, if_pos ((vIn (by omega)).mpr (by show n + i < 1600; omega))]
            simp only [lt]
            rw [mI_smA, hm, nI_clamp (show n + i < 2 ^ 31 by omega), nI_inc (by omega), nI_inc (by omega)]
          have hI2 : Iv (sb2 c' 0 (upd (brB c' 0) (n + i) (nby ((jshr x1 (8 * nI i)) &&& 255).toInt32), nI (n + i + 1))) (smI (smA m' 0 (upd (mA m' 0) (n + i) ((jshr x1 (8 * nI i)) &&& 255).toInt32)) 1 (nI (n + i + 1))) := by
            have hI' := hI
            obtain ⟨⟨n', p1, p2, p3, p4⟩, -⟩ := hI'
            have hn' : n' = n + i := by
              rw [hc, nI_inj (by omega) (by omega)] at p2; omega
            refine hI.text (by omega) rfl (fun q hq => ?_)
            show upd (brB c' 0) (n + i) _ q &&& 255 = _
            by_cases hqe : q = n + i
            · rw [hqe, upd_eq, upd_eq, nby_255, and255 b2 b3]
            · rw [upd_ne hqe, upd_ne hqe]; exact p4 q (by omega)
          obtain ⟨c'', m'', k1, k2, k3⟩ := ih (i + 1) _ _ (by omega) hI2 (by rw [sb2_N]; rfl) (by rw [mI_smI]; rfl) (by rw [mI_smI_ne (by decide), mI_smA]; exact hz)
          exact ⟨c'', m'', (Lp_l (F := fun a => f_X6_type_L36 x1 x3 a.1 a.2) (a := (nI i, c')) s1).trans k1, (Lp_l (F := fun a => f_X7_type_L35 x1 x3 a.1 a.2) (a := (nI i, m')) s2).trans k2, k3⟩
      obtain ⟨c'', m'', k1, k2, k3, k4, k5, k6⟩ := key k 0 c (smI m 0 0) (by omega) h.thr t2 (by rw [mI_smI_ne (by decide)]; exact t3) mI_smI
      refine ag_yes (v := (nI (n + k)).toInt64) (m' := m'') (c' := c'') ?_ ?_ k6 k3
      · unfold mo_type f_X7_type
        rw [hin, refuse1]
        simp only [lt, if_true]
        rw [if_pos (by rw [ile, hsum, e1600]; omega), show ((0 : Int32), smI m 0 0) = (nI 0, smI m 0 0) from rfl, k2]
        simp only [Option.bind, Option.map, k5]
      · unfold cl_type f_X6_type
        rw [if_neg (by rw [ilt, k0]; omega), if_pos (by rw [ile, e8]; omega), if_pos (by rw [ile, hroom]; omega), show ((0 : Int32), c) = (nI 0, c) from rfl, k1]
        simp only [Option.bind, Option.map, k4]
        rfl
    · refine ag_yes (v := (-1 : Int32).toInt64) (m' := smI m 0 0) (c' := c) ?_ ?_ mI_smI h.thr
      · unfold mo_type f_X7_type
        rw [hin, refuse1]
        simp only [lt, if_true]
        rw [if_neg (by rw [ile, hsum, e1600]; omega)]
        rfl
      · unfold cl_type f_X6_type
        rw [if_neg (by rw [ilt, k0]; omega), if_pos (by rw [ile, e8]; omega), if_neg (by rw [ile, hroom]; omega)]
        rfl
  · rw [if_neg hr] at hin
    refine ag_no (v := 0) h ?_ ?_
    · unfold mo_type f_X7_type; rw [hin]; rfl
    · unfold cl_type f_X6_type
      by_cases h1 : x3 < 0
      · rw [if_pos h1]; rfl
      · rw [if_neg h1, if_neg (by rw [ile, e8]; rw [ilt, k0] at h1; omega)]; rfl
theorem ag_pass : ∀ c m, Iv c m → ∃ v c' m', f_X6_pass c = some (v, c') ∧ f_X7_pass m = some (v, m') ∧ Iv c' m' := by
  intro c m h
  have e1600 : (1600 : Int32).toInt = 1600 := by decide
  have h' := h
  obtain ⟨⟨n, t1, t2, t3, t4⟩, ⟨k, o1, o2, o3, o4⟩, -⟩ := h'
  have hni : (nI n).toInt = n := nI_toInt (by omega)
  have hki : (nI k).toInt = k := nI_toInt (by omega)
  have hroom : (f_X0_room 0 c).toInt = 1600 - (n : Int) := by
    have e : (Int32.ofNat (brLen 0)).toInt = 1600 := by decide
    unfold f_X0_room
    rw [t2, is_ (by rw [e, hni]; omega) (by rw [e, hni]; omega), e, hni]
  have hsum : (mI (smI m 0 0) 1 + mI (smI m 0 0) 2).toInt = (n : Int) + k := by
    rw [mI_smI_ne (by decide), mI_smI_ne (by decide), t3, o3, ia (by omega) (by omega), hni, hki]
  unfold f_X6_pass f_X7_pass
  simp only [lt]
  by_cases hfit : n + k ≤ 1600
  · rw [if_pos (by rw [ile, o2, hki, hroom]; omega), if_pos (by rw [ile, hsum, e1600]; omega)]
    have key : ∀ (r i : Nat) (c' : CS) (m' : MS), i + r = k → Iv c' m' → brN c' 0 = nI (n + i) → mI m' 1 = nI (n + i) → brN c' 1 = nI k → ∃ c'' m'', Lp (fun a => f_X6_pass_L21 a.1 a.2) (nI i, c') = some c'' ∧ Lp (fun a => f_X7_pass_L24 a.1 a.2) (nI i, m') = some m'' ∧ Iv c'' m'' ∧ brN c'' 0 = nI (n + k) ∧ mI m'' 1 = nI (n + k) := by
      intro r
      induction r with
      | zero =>
        intro i c' m' hi hI hc hm hc1
        obtain rfl : i = k := by omega
        have hI' := hI
        obtain ⟨-, ⟨k', q1, q2, q3, q4⟩, -⟩ := hI'
        rw [hc1] at q2
        refine ⟨c', m', Lp_r ?_, Lp_r ?_, hI, hc, hm⟩
        · show f_X6_pass_L21 (nI i) c' = _
          unfold f_X6_pass_L21
          rw [hc1, if_pos (by rw [ile]; omega)]
        · show f_X7_pass_L24 (nI i) m' = _
          unfold f_X7_pass_L24
          rw [q3, ← q2, if_pos (by rw [ile]; omega)]
      | succ r ih =>
        intro i c' m' hi hI hc hm hc1
        have hii : (nI i).toInt = i := nI_toInt (by omega)
        have hI' := hI
        obtain ⟨⟨n', p1, p2, p3, p4⟩, ⟨k', q1, q2, q3, q4⟩, -⟩ := hI'
        have hn' : n' = n + i := by rw [hc, nI_inj (by omega) (by omega)] at p2; omega
        have hk' : k' = k := by rw [hc1, nI_inj (by omega) (by omega)] at q2; omega
        have hv := q4 i (by omega)
        have s1 : f_X6_pass_L21 (nI i) c' = some (.inl (nI (i + 1), sb2 c' 0 (upd (brB c' 0) (n + i) (nby (mA m' 1 i)), nI (n + i + 1)))) := by
          unfold f_X6_pass_L21
          rw [hc1, if_neg (by rw [ile, hki, hii]; omega)]
          simp only [lt]
          rw [at_in hc1 (by show k ≤ 1500; omega) (show i < k by omega) hii, hv, add_eq hc (by show n + i < 1600; omega), nI_inc (by omega)]
        have s2 : f_X7_pass_L24 (nI i) m' = some (.inl (nI (i + 1), smI (smA m' 0 (upd (mA m' 0) (n + i) (mA m' 1 i))) 1 (nI (n + i + 1)))) := by
          unfold f_X7_pass_L24
          rw [q3, hk', if_neg (by rw [ile, hki, hii]; omega), if_pos ((vIn (by omega)).mpr (by show i < 1600; omega)), hm, if_pos ((vIn (by omega)).mpr (by show n + i < 1600; omega))]
          simp only [lt]
          rw [mI_smA, hm, nI_clamp (show n + i < 2 ^ 31 by omega), nI_clamp (show i < 2 ^ 31 by omega), nI_inc (by omega), nI_inc (by omega)]
        have hI2 : Iv (sb2 c' 0 (upd (brB c' 0) (n + i) (nby (mA m' 1 i)), nI (n + i + 1))) (smI (smA m' 0 (upd (mA m' 0) (n + i) (mA m' 1 i))) 1 (nI (n + i + 1))) := by
          refine hI.text (by omega) rfl (fun q hq => ?_)
          show upd (brB c' 0) (n + i) _ q &&& 255 = _
          by_cases hqe : q = n + i
          · have b1 := am8i (brB c' 1 i)
            rw [hv] at b1
            rw [hqe, upd_eq, upd_eq, nby_255, and255 (by omega) (by omega)]
          · rw [upd_ne hqe, upd_ne hqe]; exact p4 q (by omega)
        obtain ⟨c'', m'', k1, k2, k3⟩ := ih (i + 1) _ _ (by omega) hI2 (by rw [sb2_N]; rfl) (by rw [mI_smI]; rfl) (by rw [sb2_Nne (by decide)]; exact hc1)
        exact ⟨c'', m'', (Lp_l (F := fun a => f_X6_pass_L21 a.1 a.2) (a := (nI i, c')) s1).trans k1, (Lp_l (F := fun a => f_X7_pass_L24 a.1 a.2) (a := (nI i, m')) s2).trans k2, k3⟩
    obtain ⟨c'', m'', k1, k2, k3, k4, k5⟩ := key k 0 c (smI m 0 0) (by omega) h.thr t2 (by rw [mI_smI_ne (by decide)]; exact t3) o2
    rw [show ((0 : Int32), c) = (nI 0, c) from rfl, show ((0 : Int32), smI m 0 0) = (nI 0, smI m 0 0) from rfl, k1, k2]
    refine ⟨nI (n + k), c'', m'', ?_, ?_, k3⟩
    · simp only [Option.bind, k4]
    · simp only [Option.bind, k5]
  · rw [if_neg (by rw [ile, o2, hki, hroom]; omega), if_neg (by rw [ile, hsum, e1600]; omega)]
    exact ⟨-1, c, smI m 0 0, rfl, rfl, h.thr⟩
theorem ag_clear : ∀ c m, Iv c m → ∃ v c' m', f_X6_clear c = (v, c') ∧ f_X7_clear m = (v, m') ∧ Iv c' m' := by
  intro c m h
  have h' := h
  obtain ⟨⟨n, t1, t2, t3, t4⟩, -⟩ := h'
  refine ⟨nI n, sb2 c 0 (brB c 0, nI 0), smI (smA (smI m 0 0) 0 (mA m 0)) 1 (nI 0), ?_, ?_, h.thr.text (by omega) rfl (fun i hi => by omega)⟩
  · unfold f_X6_clear; simp only [lt]; rw [t2]; rfl
  · unfold f_X7_clear; simp only [lt]
    rw [mI_smI_ne (by decide), t3, show mA m 0 = mA (smI m 0 0) 0 from rfl, smA_self]; rfl
theorem ag_result : ∀ c m, Iv c m → ∃ m', f_X7_result m = (f_X6_result c, m') ∧ Iv c m' := by
  intro c m h
  refine ⟨smI m 0 0, ?_, h.thr⟩
  unfold f_X7_result f_X6_result
  simp only [lt]
  rw [h.2.2.2.1.1]; rfl
theorem ag_flags : ∀ c m, Iv c m → ∃ m', f_X7_flags m = (f_X6_flags c, m') ∧ Iv c m' := by
  intro c m h
  refine ⟨smI m 0 0, ?_, h.thr⟩
  unfold f_X7_flags f_X6_flags
  simp only [lt]
  rw [h.2.2.2.1.2, mI_smI_ne (by decide)]
theorem ag_decimal (x1 : Int32) : Agr Iv (cl_decimal x1) (mo_decimal x1) := by
  intro c m h
  have h' := h
  obtain ⟨-, -, ⟨n, d1, d2, d3, d4, d5, d6, d7⟩, -⟩ := h'
  have hin := in_i (x := x1) (a := 0) (b := 2)
  rw [l0, l2] at hin
  have e0 : (x1 = 0) = (x1.toInt = 0) := by rw [ieq, k0]; rfl
  have e1 : (x1 = 1) = (x1.toInt = 1) := by rw [ieq]; rfl
  have e2 : (x1 = 2) = (x1.toInt = 2) := by rw [ieq]; rfl
  by_cases hr : 0 ≤ x1.toInt ∧ x1.toInt ≤ 2
  · rw [if_pos hr] at hin
    obtain ⟨v, hc, hm⟩ : ∃ v, f_X6_decimal x1 c = some (.inr v) ∧ f_X7_decimal x1 m = (v, smI m 0 0) := by
      unfold f_X6_decimal f_X7_decimal
      rw [hin, refuse1]
      simp only [lt, if_true]
      by_cases q0 : x1 = 0
      · rw [if_pos q0, if_pos q0, mI_smI_ne (by decide), d2, d3]; exact ⟨_, rfl, rfl⟩
      · rw [if_neg q0, if_neg q0]
        by_cases q1 : x1 = 1
        · rw [if_pos q1, if_pos q1, mI_smI_ne (by decide), d4]; exact ⟨_, rfl, rfl⟩
        · rw [if_neg q1, if_neg q1, if_pos (by rw [e2]; rw [e0] at q0; rw [e1] at q1; omega), mI_smI_ne (by decide), ← d5]
          rcases d6 with q | q
          · rw [q, if_pos rfl]; exact ⟨_, rfl, rfl⟩
          · rw [q, if_neg (by decide)]; exact ⟨_, rfl, rfl⟩
    refine ag_yes (v := v.toInt64) (m' := smI m 0 0) (c' := c) ?_ ?_ mI_smI h.thr
    · unfold mo_decimal; rw [hm]; rfl
    · unfold cl_decimal; rw [hc]; rfl
  · rw [if_neg hr] at hin
    refine ag_no (v := 0) h ?_ ?_
    · unfold mo_decimal f_X7_decimal; rw [hin]; rfl
    · unfold cl_decimal f_X6_decimal
      rw [if_neg (by rw [e0]; omega), if_neg (by rw [e1]; omega), if_neg (by rw [e2]; omega)]; rfl
theorem ag_out (x1 : Int32) : Agr Iv (cl_out x1) (mo_out x1) := by
  intro c m h
  have h' := h
  obtain ⟨-, ⟨n, o1, o2, o3, o4⟩, -⟩ := h'
  have hni : (nI n).toInt = n := nI_toInt (by omega)
  have one : (1 : Int32).toInt = 1 := by decide
  have hs : (mI m 2 - 1).toInt64.toInt = (n : Int) - 1 := by rw [il, o3, is_ (by rw [hni, one]; omega) (by rw [hni, one]; omega), hni, one]
  have hin := in_i (x := x1) (a := 0) (b := (mI m 2 - 1).toInt64)
  rw [l0, hs] at hin
  by_cases hr : 0 ≤ x1.toInt ∧ x1.toInt ≤ (n : Int) - 1
  · rw [if_pos hr] at hin
    have hcl : x1.toNatClampNeg = x1.toInt.toNat := rfl
    have hb := o4 x1.toInt.toNat (by omega)
    refine ag_yes (v := (mA m 1 x1.toInt.toNat).toInt64) (m' := smI m 0 0) (c' := c) ?_ ?_ mI_smI h.thr
    · unfold mo_out f_X7_out
      rw [hin, refuse1]
      simp only [lt, if_true]
      rw [if_pos (show vI x1 (mLen 1) from ⟨by omega, by show x1.toInt < 1600; omega⟩)]
      rfl
    · unfold cl_out f_X6_out
      rw [if_neg (by rw [ilt, k0]; omega), if_pos (by rw [ilt, o2, hni]; omega), at_in o2 (by show n ≤ 1500; omega) (show x1.toInt.toNat < n by omega) (by omega), hb]
      rfl
  · rw [if_neg hr] at hin
    refine ag_no (v := 0) h ?_ ?_
    · unfold mo_out f_X7_out; rw [hin]; rfl
    · unfold cl_out f_X6_out
      by_cases h1 : x1 < 0
      · rw [if_pos h1]; rfl
      · rw [if_neg h1, if_neg (by rw [ilt, o2, hni]; rw [ilt, k0] at h1; omega)]; rfl
theorem ag_digit (x1 : Int32) : Agr Iv (cl_digit x1) (mo_digit x1) := by
  intro c m h
  have h' := h
  obtain ⟨-, -, ⟨n, d1, d2, d3, d4, d5, d6, d7⟩, -⟩ := h'
  have hni : (nI n).toInt = n := nI_toInt (by omega)
  have one : (1 : Int32).toInt = 1 := by decide
  have e1420 : (1420 : Int32).toInt = 1420 := by decide
  have hs : (mI m 3 - 1).toInt64.toInt = (n : Int) - 1 := by rw [il, d3, is_ (by rw [hni, one]; omega) (by rw [hni, one]; omega), hni, one]
  have hin := in_i (x := x1) (a := 0) (b := (mI m 3 - 1).toInt64)
  rw [l0, hs] at hin
  by_cases hr : 0 ≤ x1.toInt ∧ x1.toInt ≤ (n : Int) - 1
  · rw [if_pos hr] at hin
    have hcl : x1.toNatClampNeg = x1.toInt.toNat := rfl
    have hb := d7 x1.toInt.toNat (by omega)
    refine ag_yes (v := (mA m 2 x1.toInt.toNat).toInt64) (m' := smI m 0 0) (c' := c) ?_ ?_ mI_smI h.thr
    · unfold mo_digit f_X7_digit
      rw [hin, refuse1]
      simp only [lt, if_true]
      rw [if_pos (show vI x1 (mLen 2) from ⟨by omega, by show x1.toInt < 1600; omega⟩)]
      rfl
    · unfold cl_digit f_X6_digit f_X1_digitAt
      rw [if_neg (by rw [ilt, k0]; omega), if_pos (by rw [ilt, d2, hni]; omega), if_neg (by rw [ilt, k0]; omega), if_neg (by rw [ile, d2, hni]; omega), if_pos (by rw [ilt, e1420]; omega), hcl, hb]
      rfl
  · rw [if_neg hr] at hin
    refine ag_no (v := 0) h ?_ ?_
    · unfold mo_digit f_X7_digit; rw [hin]; rfl
    · unfold cl_digit f_X6_digit
      by_cases h1 : x1 < 0
      · rw [if_pos h1]; rfl
      · rw [if_neg h1, if_neg (by rw [ilt, d2, hni]; rw [ilt, k0] at h1; omega)]; rfl
