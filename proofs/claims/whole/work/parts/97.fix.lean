theorem rst_one {V k : Nat} (h0 : V ≠ 0) (h : 2 * V < 10 ^ k) : rst V k = 1 := by
  unfold rst hb eb
  rw [Nat.mod_eq_of_lt (by omega), if_neg (by omega)]
  have : decide (V ≠ 0 ∧ 2 * V ≠ 10 ^ k) = true := by rw [decide_eq_true_iff]; omega
  rw [this]; rfl
theorem ag_fixed (x1 : Int32) (x2 : Int64) (x4 x5 : Int32) : Agr Iv (cl_fixed x1 x2 x4 x5) (mo_fixed x1 x2 x4 x5) := by
  intro c m h
  have one : (1 : Int32).toInt = 1 := by decide
  have e1100 : (1100 : Int32).toInt = 1100 := by decide
  have hin := in_i (x := x4) (a := 0) (b := 1100)
  rw [l0, show (1100 : Int64).toInt = 1100 by decide] at hin
  rcases a_own x1 x2 with ⟨h1, h2⟩ | ⟨f, neg, s, hf, rfl, hs, rfl, h1, h2⟩
  · refine ag_no (v := 0) h ?_ ?_
    · unfold mo_fixed f_X7_fixed f_X7_fixed_J40; rw [h2, if_pos rfl]; rfl
    · unfold cl_fixed f_X6_fixed; rw [h1]; rfl
  · by_cases hr : 0 ≤ x4.toInt ∧ x4.toInt ≤ 1100
    · rw [if_pos hr] at hin
      rcases a_way x5 with ⟨k1, k2⟩ | ⟨way, hw, rfl, k1, k2⟩
      · refine ag_no (v := 0) h ?_ ?_
        · unfold mo_fixed f_X7_fixed f_X7_fixed_J40; rw [h2, if_neg n10, hin, if_neg n10, k2, if_pos rfl]; rfl
        · unfold cl_fixed f_X6_fixed; rw [h1, tbd_r, k1]; rfl
      · obtain ⟨d, hd⟩ : ∃ d : Nat, x4.toInt = d := ⟨x4.toInt.toNat, by omega⟩
        have hx4 : x4 = nI d := nIeq hd (by omega)
        subst hx4
        have hneg : (-(nI d)).toInt = -(d : Int) := by rw [ineg (by omega), hd]
        have hinc : nI d + 1 = nI (d + 1) := nI_inc (by omega)
        obtain ⟨v, c', m', hC, hM, hI2, h0⟩ : ∃ v c' m', f_X6_fixed (Int32.ofNat f) (sgn f neg s) (nI d) (Int32.ofNat way) c = some (.inr (v, c')) ∧ f_X7_fixed (Int32.ofNat f) (sgn f neg s) (nI d) (Int32.ofNat way) m = some (v, m') ∧ Iv c' m' ∧ mI m' 0 = 0 := by
          unfold f_X6_fixed f_X7_fixed f_X7_fixed_J40
          rw [h1, tbd_r, k1, tbd_r, h2, if_neg n10, hin, if_neg n10, k2, if_neg n10, refuse1, if_neg (by rw [ilt, hd, k0]; omega), if_pos (by rw [ile, hd, e1100]; omega)]
          simp only [lt, if_true]
          rw [s_fin hf hs]
          by_cases z1 : inf f ≤ s
          · obtain ⟨v, c', m', e1, e2, e3, e4, e5, -⟩ := name_agree (neg := neg) hf hs z1 (h.thr (v := 0))
            rw [if_pos z1, if_pos rfl, e1, e2]
            simp only [Option.bind]
            rw [if_neg n10, e3]
            exact ⟨v, c', m', rfl, rfl, e4, by rw [e5]; exact mI_smI⟩
          · have hsi : s < inf f := by omega
            rw [if_neg z1, if_neg n10, nonum_fin hf hsi]
            simp only [Option.bind, if_true]
            rw [x_size hf, sgn_size hf hs, sgn_minus hf hs]
            simp only [L64_z hf hs]
            obtain ⟨w, V, p1, p2', p3, p4⟩ := setSize_o (c := c) (r := 0) (neg := neg) hf hsi (h.2.2.2.2 0 (by decide))
            rw [p1]
            simp only
            have hrw : RIs (rws (srws c 0 w) 0) V false := by rw [rws_same]; exact p2'
            have hrow3 := rw3 (w := w) (h.2.2.2.2 3 (by decide))
            -- what becomes 0
            have zer : ∀ (w3 : RWs) (m2 : MS), RIs w3 0 false → Fr [3, 6] [0, 5, 7, 8, 9] [1] m m2 → mI m2 5 = nb neg → mI m2 0 = 0 → ∃ v c' m' m3, (Option.bind (f_X4_point 3 (srws (srws c 0 w) 3 w3)) fun v_5 => Option.bind (f_X6_tellRow 3 (nb neg) (v_5 + nI d) 1 (srws (srws c 0 w) 3 w3)) fun v_6 => some (Sum.inr (v_6.1, v_6.2)) : Option (Unit ⊕ (Int32 × CS))) = some (.inr (v, c')) ∧ f_X7_zeros (nI (d + 1)) m2 = some m3 ∧ f_X7_write 1 m3 = some (v, m') ∧ Iv c' m' ∧ mI m' 0 = 0 := by
              intro w3 m2 a2 hF h5 h0'
              obtain ⟨m3, q1, q2, q3⟩ := zeros_o (m := m2) (k := d + 1) (by omega)
              obtain ⟨v, c', m', y1, y2, y3, y4⟩ := tell_agree (c0 := c) (c := srws (srws c 0 w) 3 w3) (m0 := m) (m := m3) (r := 3) (V := 0) (N := 1081) (n := d + 1) (form := 1) (neg := neg) (p := 1) h rfl rfl (rows_srws (rows_srws h.2.2.2.2 ⟨V, false, p2'⟩) ⟨0, false, a2⟩) ((hF.mono (by decide) (by decide) (by decide)).trans (q2.mono (by decide) (by decide) (by decide))) (by rw [rws_same]; exact a2) (.inr ⟨rfl, rfl⟩) (by omega) (by omega) (by decide) (by decide) (by decide) (by omega) q3 (by rw [q2.2.1 5 (by decide)]; exact h5)
              have y1' : f_X6_tellRow 3 (nb neg) (nI (d + 1)) 1 (srws (srws c 0 w) 3 w3) = some (v, c') := y1
              have y2' : f_X7_write 1 m3 = some (v, m') := y2
              refine ⟨v, c', m', m3, ?_, q1, y2', y3, by rw [y4, q2.2.1 0 (by decide)]; exact h0'⟩
              rw [point_zero (by rw [rws_same]; exact a2)]
              simp only [Option.bind]
              have hc1 : 1 + nI d = nI (d + 1) := by rw [ieq, ia (by rw [one, hd]; omega) (by rw [one, hd]; omega), one, hd, nI_toInt (by omega)]; omega
              rw [hc1, y1']
            by_cases z2 : s = 0
            · rw [if_pos z2]
              have hV0 : V = 0 := v_zero p3 (wh_0.mpr z2)
              subst hV0
              obtain ⟨V03, s03, h3'⟩ := hrow3
              obtain ⟨w3, a1, a2⟩ := roundAt_o (c := srws c 0 w) (neg := neg) hrw h3' (Nat.pow_pos (by decide)) hw (x := -(nI d)) (by omega) (by omega)
              have hz : rst 0 (kp (-(nI d)).toInt) = 0 := by
                unfold rst hb eb
                rw [Nat.zero_mod, if_neg (by have := Nat.pow_pos (n := kp (-(nI d)).toInt) (show 0 < 10 by decide); omega)]
                simp [ubi]
              rw [upV_0 hz, Nat.zero_div, show (0 + ubi false) * 10 ^ kp (-(nI d)).toInt = 0 by rw [show 0 + ubi false = 0 from rfl, Nat.zero_mul]] at a2
              rw [a1]
              simp only
              obtain ⟨v, c', m', m3, y1, y2, y3, y4, y5⟩ := zer w3 (smI (smI m 0 0) 5 (nb neg)) a2 ((Fr.sI (by decide)).trans (Fr.sI (by decide))) mI_smI (by rw [mI_smI_ne (by decide), mI_smI])
              refine ⟨v, c', m', y1, ?_, y4, y5⟩
              rw [hinc, y2]; simp only
              rw [y3]
            · rw [if_neg z2]
              obtain ⟨m2, n, z, q1, q2, q3⟩ := spell_num (m := smI (smI m 0 0) 5 (nb neg)) hf hsi z2
              rw [q1]
              simp only
              have hub := un_b hf hsi
              have hfm := fm_b f
              have hll : lst f = 2 - (gr f : Int) - (pr f : Int) := rfl
              have q3' := q3
              obtain ⟨s1, s2, s3, s4, s5, s6, s7⟩ := q3'
              obtain ⟨N, Z, r1, r2, r3, r4, r5, r6, r7, r8, r9⟩ := row_sp p3 (by omega) (Nat.pos_of_ne_zero (fun q => z2 (wh_0.mp q))) p4 s1 s2 s3
              have hm5 : mI m2 5 = nb neg := by rw [q2.2.1 5 (by decide), mI_smI]
              have hm0 : mI m2 0 = 0 := by rw [q2.2.1 0 (by decide), mI_smI_ne (by decide), mI_smI]
              have hF2 : Fr [3, 6] [0, 5, 7, 8, 9] [1] m m2 := (Fr.sI (by decide)).trans ((Fr.sI (by decide)).trans (q2.mono (by decide) (by decide) (by decide)))
              have hx8 : (mI m2 9 + nI d).toInt = (N : Int) - 1080 + d := by rw [ia (by omega) (by omega), s6, hd]; omega
              by_cases hk : (N : Int) - 1080 + d ≤ 0
              · -- no digit before the place
                rw [if_pos (by rw [ile, hx8, k0]; exact hk)]
                obtain ⟨V03, s03, h3'⟩ := hrow3
                have hV14 : V < 10 ^ 1400 := Nat.lt_of_lt_of_le r1.2.2 (Nat.pow_le_pow_right (by decide) (by omega))
                obtain ⟨w3, a1, a2⟩ := roundAt_o (c := srws c 0 w) (neg := neg) hrw h3' hV14 hw (x := -(nI d)) (by omega) (by omega)
                clear hV14
                have hkk : kp (-(nI d)).toInt = 1080 - d := by unfold kp; omega
                rw [hkk] at a2
                have hVk : V < 10 ^ (1080 - d) := Nat.lt_of_lt_of_le r1.2.2 (Nat.pow_le_pow_right (by decide) (by omega))
                have hupe : upV way neg V (1080 - d) = upw way neg (2 * 0 + rst V (1080 - d) / 2) (decide (rst V (1080 - d) % 2 = 1)) := by
                  unfold upV; rw [Nat.div_eq_of_lt hVk]
                rw [Nat.div_eq_of_lt hVk, Nat.zero_add] at a2
                have hr4 := rst_lt V (1080 - d)
                have hg := m_goes (neg := neg) (v := 0) (s1 := 0) hw hr4 (.inr rfl)
                rw [← hupe] at hg
                rw [a1]
                simp only
                have h234 : (if 0 ≤ mI m2 9 + nI d then Option.bind (f_X7_behindHalf 0 m2) fun v_7 => f_X7_fixed_J234 (nI d) (Int32.ofNat way) v_7 m2 else f_X7_fixed_J234 (nI d) (Int32.ofNat way) (-1) m2) = f_X7_fixed_J234 (nI d) (Int32.ofNat way) (hcode (rst V (1080 - d))) m2 := by
                  by_cases hk0 : (N : Int) - 1080 + d = 0
                  · rw [if_pos (by rw [ile, hx8, k0]; omega)]
                    have hbh := bh_spec (j := 0) q3 r1 r2 r3 r6 r8 (by omega)
                    have hbh' : f_X7_behindHalf 0 m2 = some (hcode (rst V (N - 0))) := hbh
                    rw [hbh', show N - 0 = 1080 - d by omega]; rfl
                  · rw [if_neg (by rw [ile, hx8, k0]; omega)]
                    have hr1 : rst V (1080 - d) = 1 := rst_one (dn_pos r1) (by
                      have a3 : 10 ^ N * 10 ≤ 10 ^ (1080 - d) := by rw [← Nat.pow_succ]; exact Nat.pow_le_pow_right (by decide) (by omega)
                      have a4 := r1.2.2
                      generalize 10 ^ N = X at *
                      generalize 10 ^ (1080 - d) = Y at *
                      omega)
                    rw [hr1]; rfl
                have h234b : f_X7_fixed_J234 (nI d) (Int32.ofNat way) (hcode (rst V (1080 - d))) m2 = f_X7_fixed_J252 (nI d) (Int32.ofNat way) (nb neg) 0 (hcode (rst V (1080 - d))) m2 := by
                  unfold f_X7_fixed_J234
                  rw [hm5]
                  cases neg
                  · rw [if_neg (show ¬ nb false = 1 by decide)]; rfl
                  · rw [if_pos (show nb true = 1 from rfl)]; rfl
                simp only [Option.bind] at h234
                rw [h234, h234b]
                unfold f_X7_fixed_J252 f_X7_fixed_J291
                rw [hg]
                cases hu : upV way neg V (1080 - d)
                · rw [hu, show ubi false * 10 ^ (1080 - d) = 0 by rw [show ubi false = 0 from rfl, Nat.zero_mul]] at a2
                  rw [if_pos (show nb false = 0 from rfl), hinc]
                  obtain ⟨v, c', m', m3, y1, y2, y3, y4, y5⟩ := zer w3 m2 a2 hF2 hm5 hm0
                  refine ⟨v, c', m', y1, ?_, y4, y5⟩
                  rw [y2]; simp only [Option.bind]
                  rw [y3]
                · rw [hu, show ubi true * 10 ^ (1080 - d) = 10 ^ (1080 - d) by rw [show ubi true = 1 from rfl, Nat.one_mul]] at a2
                  rw [if_neg (show ¬ nb true = 0 by decide)]
                  simp only [lt]
                  rw [if_pos (show vI 0 (mLen 2) from ⟨by decide, by decide⟩)]
                  have hDn3 : Dn (10 ^ (1080 - d)) (1080 - d + 1) := ⟨by omega, by rw [Nat.add_sub_cancel]; exact Nat.le_refl _, Nat.pow_lt_pow_right (by decide) (by omega)⟩
                  have hrw3 : RIs (rws (srws (srws c 0 w) 3 w3) 3) (10 ^ (1080 - d)) false := by rw [rws_same]; exact a2
                  obtain ⟨xp, pp1', pp2', -, -⟩ := point_q hrw3 (.inl hDn3)
                  rw [pp1']
                  simp only
                  have hcnt : xp + nI d = nI 1 := by rw [ieq, ia (by omega) (by omega), pp2', hd, nI_toInt (by omega)]; omega
                  have hd1 : (1 - nI d).toInt = 1 - (d : Int) := by rw [is_ (by rw [one, hd]; omega) (by rw [one, hd]; omega), one, hd]
                  obtain ⟨v, c', m', y1, y2, y3, y4⟩ := tell_agree (c0 := c) (c := srws (srws c 0 w) 3 w3) (m0 := m) (m := smI (smA (smI m2 3 1) 2 (upd (mA (smI m2 3 1) 2) (0 : Int32).toNatClampNeg 1)) 4 (1 - nI d)) (r := 3) (V := 10 ^ (1080 - d)) (N := 1080 - d + 1) (n := 1) (form := 1) (neg := neg) (p := 1 - (d : Int)) h rfl rfl (rows_srws (rows_srws h.2.2.2.2 ⟨V, false, p2'⟩) ⟨_, false, a2⟩) ((hF2.mono (by decide) (by decide) (by decide)).trans ((Fr.sI (by decide)).trans ((Fr.sA (by decide)).trans (Fr.sI (by decide))))) hrw3 (.inl hDn3) (by omega) (by omega) (by decide) (by omega) (by omega) (by omega) ⟨by rw [mI_smI_ne (by decide), mI_smA, mI_smI]; rfl, by rw [mI_smI]; exact hd1, fun i hi => by
                    have hi0 : i = 0 := by omega
                    rw [mA_smI, smA_same, hi0]
                    show (upd _ 0 1 0).toInt = _
                    rw [upd_eq]
                    unfold dgt
                    rw [Nat.add_sub_cancel, Nat.pow_zero, Nat.mul_one, Nat.div_self (Nat.pow_pos (by decide))]
                    rfl⟩ (by rw [mI_smI_ne (by decide), mI_smA, mI_smI_ne (by decide)]; exact hm5)
                  have y1' : f_X6_tellRow 3 (nb neg) (nI 1) 1 (srws (srws c 0 w) 3 w3) = some (v, c') := y1
                  have y2' : f_X7_write 1 (smI (smA (smI m2 3 1) 2 (upd (mA (smI m2 3 1) 2) (0 : Int32).toNatClampNeg 1)) 4 (1 - nI d)) = some (v, m') := y2
                  refine ⟨v, c', m', ?_, ?_, y3, by rw [y4, mI_smI_ne (by decide), mI_smA, mI_smI_ne (by decide)]; exact hm0⟩
                  · rw [hcnt, y1']
                  · rw [y2']; rfl
              · -- digits before the place
                rw [if_neg (by rw [ile, hx8, k0]; exact hk)]
                obtain ⟨j, hj⟩ : ∃ j : Nat, (N : Int) - 1080 + d = j := ⟨((N : Int) - 1080 + d).toNat, by omega⟩
                have hx8' : mI m2 9 + nI d = nI j := nIeq (by rw [hx8, hj]) (by omega)
                rw [hx8']
                obtain ⟨w3, V3, N3, m3, b1, b2, b3, b4, b5, b6, b7, b8, b9, b10⟩ := rnd_both (c1 := srws c 0 w) (m2 := m2) (neg := neg) q3 r1 r2 r3 r5 r4 r7 r8 r9 hrw hrow3 hw (show 0 < j by omega) (by omega) (x := -(nI d)) (by omega)
                have hbh := bh_spec (j := j) q3 r1 r2 r3 r6 r8 (by omega)
                have hr4 := rst_lt V (N - j)
                rw [b1]
                simp only
                have hrw3 : RIs (rws (srws (srws c 0 w) 3 w3) 3) V3 false := by rw [rws_same]; exact b2
                obtain ⟨xp, pp1', pp2', -, -⟩ := point_q hrw3 (.inl b3)
                rw [pp1']
                simp only
                have hcnt : xp + nI d = nI (j + (N3 - N)) := by rw [ieq, ia (by omega) (by omega), pp2', hd, nI_toInt (by omega)]; omega
                rw [hcnt]
                -- the reference's last digit
                obtain ⟨m4, c1, c2, c3, c4, c5⟩ : ∃ m4, (if mI m3 4 ≤ mI m2 9 then f_X7_fixed_J291 m3 else if vI (mI m3 3) (mLen 2) then f_X7_fixed_J291 (smI (smA m3 2 (upd (mA m3 2) (mI m3 3).toNatClampNeg 0)) 3 ((mI (smA m3 2 (upd (mA m3 2) (mI m3 3).toNatClampNeg 0)) 3) + 1)) else none) = f_X7_fixed_J291 m4 ∧ Fr [2] [3, 4] [] m2 m4 ∧ mI m4 3 = nI (j + (N3 - N)) ∧ (mI m4 4).toInt = (N3 : Int) - 1080 ∧ ∀ i, i < j + (N3 - N) → (mA m4 2 i).toInt = ((dgt V3 N3 i : Nat) : Int) := by
                  rcases b4 with b4 | b4
                  · rw [if_pos (by rw [ile, b8, s6]; omega)]
                    refine ⟨m3, rfl, b6, ?_, b8, fun i hi => b9 i (by omega)⟩
                    rw [b7]; congr 1; omega
                  · rw [if_neg (by rw [ile, b8, s6]; omega), b7, if_pos ((vIn (by omega)).mpr (by show j < 1600; omega)), nI_clamp (show j < 2 ^ 31 by omega), mI_smA, b7, nI_inc (by omega)]
                    refine ⟨_, rfl, b6.trans ((Fr.sA (by decide)).trans (Fr.sI (by decide))), ?_, ?_, fun i hi => ?_⟩
                    · rw [mI_smI]; congr 1; omega
                    · rw [mI_smI_ne (by decide), mI_smA]; exact b8
                    · rw [mA_smI, smA_same]
                      by_cases hij : i = j
                      · rw [hij, upd_eq, (b10 b4).1]; rfl
                      · rw [upd_ne hij]; exact b9 i (by omega)
                obtain ⟨v, c', m', y1, y2, y3, y4⟩ := tell_agree (c0 := c) (c := srws (srws c 0 w) 3 w3) (m0 := m) (m := m4) (r := 3) (V := V3) (N := N3) (n := j + (N3 - N)) (form := 1) (neg := neg) (p := (N3 : Int) - 1080) h rfl rfl (rows_srws (rows_srws h.2.2.2.2 ⟨V, false, p2'⟩) ⟨V3, false, b2⟩) ((hF2.mono (by decide) (by decide) (by decide)).trans (c2.mono (by decide) (by decide) (by decide))) hrw3 (.inl b3) (by omega) (by omega) (by decide) rfl (by omega) (by omega) ⟨c3, c4, c5⟩ (by rw [c2.2.1 5 (by decide)]; exact hm5)
                have y1' : f_X6_tellRow 3 (nb neg) (nI (j + (N3 - N))) 1 (srws (srws c 0 w) 3 w3) = some (v, c') := y1
                have y2' : f_X7_write 1 m4 = some (v, m') := y2
                rw [y1']
                have h144 : ∀ s0, (rst V (N - j) = 0 ∨ s0 = Int32.ofNat (V / 10 ^ (N - j) % 2)) → f_X7_fixed_J144 (Int32.ofNat way) (nI j) s0 m2 = some (v, m') := by
                  intro s0 hs0
                  unfold f_X7_fixed_J144
                  rw [hbh, hm5]
                  simp only [Option.bind]
                  have hg := m_goes (neg := neg) (v := V / 10 ^ (N - j)) hw hr4 hs0
                  have h167 : f_X7_fixed_J167 (Int32.ofNat way) (nI j) (nb neg) s0 (hcode (rst V (N - j))) m2 = some (v, m') := by
                    unfold f_X7_fixed_J167
                    rw [hg]
                    have b5' : f_X7_takeDigits (nI j) (nb (upw way neg (2 * (V / 10 ^ (N - j)) + rst V (N - j) / 2) (decide (rst V (N - j) % 2 = 1)))) m2 = some m3 := b5
                    simp only [lt]
                    rw [b5']
                    simp only [Option.bind]
                    rw [c1]
                    unfold f_X7_fixed_J291
                    rw [y2']; rfl
                  cases neg
                  · rw [if_neg (show ¬ nb false = 1 by decide)]; exact h167
                  · rw [if_pos (show nb true = 1 from rfl)]; exact h167
                refine ⟨v, c', m', rfl, ?_, y3, by rw [y4, c2.2.1 0 (by decide)]; exact hm0⟩
                rw [s5]
                by_cases hjm : j ≤ n - z
                · obtain ⟨o1, o2⟩ := odd_both q3 r1 r6 r3 r8 (show 0 < j by omega) hjm
                  rw [if_neg (fun q => by have := (clt2 (by omega) (by omega)).mp q; omega), if_pos o1]
                  by_cases ho : V / 10 ^ (N - j) % 2 = 1
                  · rw [if_pos (o2.mpr ho)]
                    exact h144 1 (.inr (by rw [ho]; rfl))
                  · rw [if_neg (fun q => ho (o2.mp q))]
                    exact h144 0 (.inr (by rw [show V / 10 ^ (N - j) % 2 = 0 by omega]; rfl))
                · rw [if_pos ((clt2 (by omega) (by omega)).mpr (by omega))]
                  exact h144 0 (.inl (rst_le r2 (by omega)))
        refine ag_yes (v := v.toInt64) (m' := m') (c' := c') ?_ ?_ h0 hI2
        · unfold mo_fixed; rw [hM]; rfl
        · unfold cl_fixed; rw [hC]; rfl
    · rw [if_neg hr] at hin
      refine ag_no (v := 0) h ?_ ?_
      · unfold mo_fixed f_X7_fixed f_X7_fixed_J40; rw [h2, if_neg n10, hin, if_pos rfl]; rfl
      · unfold cl_fixed f_X6_fixed
        rw [h1, tbd_r]
        rcases a_way x5 with ⟨k1, k2⟩ | ⟨way, hw, rfl, k1, k2⟩
        · rw [k1]; rfl
        · rw [k1, tbd_r]
          by_cases h9 : x4 < 0
          · rw [if_pos h9]; rfl
          · rw [if_neg h9, if_neg (by rw [ile, e1100]; rw [ilt, k0] at h9; omega)]; rfl
