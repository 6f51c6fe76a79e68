/-! digits, fixed -/
theorem rst_le {V Z k : Nat} (hZ : Zn V Z) (h : k ≤ Z) : rst V k = 0 := by
  have hz0 : V % 10 ^ k = 0 := by
    rcases Nat.eq_zero_or_pos (V % 10 ^ k) with q | q
    · exact q
    · have := (zn_lt (k := k) hZ).mpr (by omega); omega
  unfold rst hb eb
  rw [hz0]
  have hp : 0 < 10 ^ k := Nat.pow_pos (by decide)
  rw [if_neg (by omega)]
  simp [ubi]
theorem odd_both {m : MS} {A n z V N Z j : Nat} {P : Int} (hS : Sp m A n z P) (hN : Dn V N) (hNZ : N - Z = n - z) (hZN : Z < N) (hd : ∀ i, dgt V N i = dgt A n i) (hj0 : 0 < j) (hj : j ≤ n - z) : vI (nI j - 1) (mLen 6) ∧ (irm (mA m 6 (nI j - 1).toNatClampNeg) 2 = 1) = (V / 10 ^ (N - j) % 2 = 1) := by
  obtain ⟨s1, s2, s3, s4, s5, s6, s7⟩ := hS
  have two : (2 : Int32).toInt = ((2 : Nat) : Int) := by decide
  have one : (1 : Int32).toInt = 1 := by decide
  rw [show (1 : Int32) = nI 1 from rfl, nI_sub (by omega) (by omega)]
  refine ⟨(vIn (by omega)).mpr (by show j - 1 < 1600; omega), ?_⟩
  rw [nI_clamp (show j - 1 < 2 ^ 31 by omega)]
  have h1 := s7 (j - 1) (by omega)
  rw [← hd, dgt_lo (by omega), show N - 1 - (j - 1) = N - j by omega] at h1
  have h2 := irm_n h1 two
  rw [par10] at h2
  rw [ieq, h2, show nI 1 = (1 : Int32) from rfl, one]
  simp only [eq_iff_iff]
  omega
theorem rnd_both {c1 : CS} {m2 : MS} {V N Z A n z j way : Nat} {P : Int} {s neg : Bool} (hS : Sp m2 A n z P) (hN : Dn V N) (hZ : Zn V Z) (hZN : Z < N) (hN2 : N ≤ 1389) (hN1 : 755 ≤ N) (hP : (N : Int) - 1080 = P) (hd : ∀ i, dgt V N i = dgt A n i) (hT : ∀ j, j ≤ N → V / 10 ^ (N - j) = Tj A n j) (h0 : RIs (rws c1 0) V s) (h3 : Rw (rws c1 3)) (hw : way < 5) (hj0 : 0 < j) (hj : j ≤ 1500) {x : Int32} (hx : x.toInt = (N : Int) - 1080 - j) : ∃ w3 V3 N3 m3, f_X6_roundAt x (nb neg) (Int32.ofNat way) c1 = some (srws c1 3 w3) ∧ RIs w3 V3 false ∧ Dn V3 N3 ∧ (N3 = N ∨ N3 = N + 1) ∧ f_X7_takeDigits (nI j) (nb (upV way neg V (N - j))) m2 = some m3 ∧ Fr [2] [3, 4] [] m2 m3 ∧ mI m3 3 = nI j ∧ (mI m3 4).toInt = (N3 : Int) - 1080 ∧ (∀ i, i < j → (mA m3 2 i).toInt = ((dgt V3 N3 i : Nat) : Int)) ∧ (N3 = N + 1 → dgt V3 N3 j = 0 ∧ j ≤ N) := by
  obtain ⟨V03, s03, h3'⟩ := h3
  have hV14 : V < 10 ^ 1400 := Nat.lt_of_lt_of_le hN.2.2 (Nat.pow_le_pow_right (by decide) (by omega))
  obtain ⟨w3, a1, a2⟩ := roundAt_o (c := c1) (neg := neg) h0 h3' hV14 hw (x := x) (by omega) (by omega)
  clear hV14
  have hkp : kp x.toInt = N - j := by unfold kp; omega
  rw [hkp] at a2
  obtain ⟨m3, N', t1, t2, t3, t4, t5, t6, t7⟩ := takeDigits_spec (m := m2) (j := j) (up := upV way neg V (N - j)) hS hj0 hj (by omega)
  have hn0 := hS.1.1
  by_cases hjN : j ≤ N
  · have hTj := hT j hjN
    rw [hTj] at a2
    have hN3 := dn_mul (K := N - j) t3
    refine ⟨w3, _, N' + (N - j), m3, a1, a2, hN3, ?_, t1, t2, t5, ?_, fun i hi => ?_, fun hh => ?_⟩
    · rcases t4 with q | ⟨q, -⟩ <;> omega
    · rw [t6]; omega
    · rw [t7 i hi, dgt_mul t3.1]
    · have hq := t4.resolve_left (by omega)
      rw [dgt_mul t3.1, hq.2, hq.1]
      refine ⟨?_, hjN⟩
      unfold dgt
      rw [Nat.add_sub_cancel, Nat.mul_div_cancel _ (Nat.pow_pos (by decide)), show j = (j - 1) + 1 by omega, Nat.pow_succ, Nat.mul_mod_left]
  · have hk0 : N - j = 0 := by omega
    have hup : upV way neg V (N - j) = false := upV_0 (by rw [hk0]; exact rst0)
    rw [hup, hk0, Nat.pow_zero, Nat.mul_one, Nat.div_one] at a2
    rw [hup] at t1 t3 t4 t7
    have hN' : N' = j := dn_uniq t3 (dn_T hS.1 hj0)
    refine ⟨w3, V, N, m3, a1, a2, hN, .inl rfl, by rw [hup]; exact t1, t2, t5, ?_, fun i hi => ?_, fun hh => by omega⟩
    · rw [t6, hN']; omega
    · rw [t7 i hi, hN', hd]
      exact congrArg _ (dgt_T hn0 hi).symm
theorem rw3 {c : CS} {w : RWs} (h : Rw (rws c 3)) : Rw (rws (srws c 0 w) 3) := by rw [rws_ne (by decide)]; exact h
theorem bindw {m : MS} {form : Int32} : (Option.bind (f_X7_write form m) fun v_8 => some (v_8.1, v_8.2)) = f_X7_write form m := by
  cases f_X7_write form m with
  | none => rfl
  | some b => rfl
theorem ag_digits (x1 : Int32) (x2 : Int64) (x4 x5 x6 : Int32) : Agr Iv (cl_digits x1 x2 x4 x5 x6) (mo_digits x1 x2 x4 x5 x6) := by
  intro c m h
  have one : (1 : Int32).toInt = 1 := by decide
  have e800 : (800 : Int32).toInt = 800 := by decide
  have hin := in_i (x := x4) (a := 1) (b := 800)
  rw [show (1 : Int64).toInt = 1 by decide, show (800 : Int64).toInt = 800 by decide] at hin
  rcases a_own x1 x2 with ⟨h1, h2⟩ | ⟨f, neg, s, hf, rfl, hs, rfl, h1, h2⟩
  · refine ag_no (v := 0) h ?_ ?_
    · unfold mo_digits f_X7_digits f_X7_digits_J48; rw [h2, if_pos rfl]; rfl
    · unfold cl_digits f_X6_digits; rw [h1]; rfl
  · by_cases hr : 1 ≤ x4.toInt ∧ x4.toInt ≤ 800
    · rw [if_pos hr] at hin
      rcases a_way x5 with ⟨k1, k2⟩ | ⟨way, hw, rfl, k1, k2⟩
      · refine ag_no (v := 0) h ?_ ?_
        · unfold mo_digits f_X7_digits f_X7_digits_J48; rw [h2, if_neg n10, hin, if_neg n10, k2, if_pos rfl]; rfl
        · unfold cl_digits f_X6_digits; rw [h1, tbd_r, k1]; rfl
      · rcases a_form x6 with ⟨g1, g2⟩ | ⟨form, hform, rfl, g1, g2⟩
        · refine ag_no (v := 0) h ?_ ?_
          · unfold mo_digits f_X7_digits f_X7_digits_J48; rw [h2, if_neg n10, hin, if_neg n10, k2, if_neg n10, g2, if_pos rfl]; rfl
          · unfold cl_digits f_X6_digits; rw [h1, tbd_r, k1, tbd_r, g1]; rfl
        · obtain ⟨j, hj⟩ : ∃ j : Nat, x4.toInt = j := ⟨x4.toInt.toNat, by omega⟩
          have hx4 : x4 = nI j := nIeq hj (by omega)
          subst hx4
          obtain ⟨v, c', m', hC, hM, hI2, h0⟩ : ∃ v c' m', f_X6_digits (Int32.ofNat f) (sgn f neg s) (nI j) (Int32.ofNat way) (Int32.ofNat form) c = some (.inr (v, c')) ∧ f_X7_digits (Int32.ofNat f) (sgn f neg s) (nI j) (Int32.ofNat way) (Int32.ofNat form) m = some (v, m') ∧ Iv c' m' ∧ mI m' 0 = 0 := by
            unfold f_X6_digits f_X7_digits f_X7_digits_J48 f_X7_digits_J167
            rw [h1, tbd_r, k1, tbd_r, g1, tbd_r, h2, if_neg n10, hin, if_neg n10, k2, if_neg n10, g2, if_neg n10, refuse1, if_neg (by rw [ilt, hj, one]; omega), if_pos (by rw [ile, hj, e800]; omega)]
            simp only [lt, if_true]
            rw [s_fin hf hs]
            by_cases z1 : inf f ≤ s
            · obtain ⟨v, c', m', e1, e2, e3, e4, e5, -⟩ := name_agree (neg := neg) hf hs z1 (h.thr (v := 0))
              rw [if_pos z1, if_pos rfl, e1, e2]
              simp only [Option.bind]
              rw [if_neg n10, e3]
              exact ⟨v, c', m', rfl, rfl, e4, by rw [e5]; exact mI_smI⟩
            · have hsi : s < inf f := by omega
              rw [if_neg z1, if_neg n10, nonum_fin hf hsi]
              simp only [Option.bind, if_true]
              rw [x_size hf, sgn_size hf hs, sgn_minus hf hs]
              simp only [L64_z hf hs]
              obtain ⟨w, V, p1, p2', p3, p4⟩ := setSize_o (c := c) (r := 0) (neg := neg) hf hsi (h.2.2.2.2 0 (by decide))
              rw [p1]
              simp only
              have hrw : RIs (rws (srws c 0 w) 0) V false := by rw [rws_same]; exact p2'
              have hrow3 := rw3 (w := w) (h.2.2.2.2 3 (by decide))
              by_cases z2 : s = 0
              · rw [if_pos z2]
                have hV0 : V = 0 := v_zero p3 (wh_0.mpr z2)
                subst hV0
                obtain ⟨m3, q1, q2, q3⟩ := zeros_o (m := smI (smI m 0 0) 5 (nb neg)) (k := j) (by omega)
                rw [point_zero hrw, q1]
                simp only
                obtain ⟨V03, s03, h3'⟩ := hrow3
                obtain ⟨w3, a1, a2⟩ := roundAt_o (c := srws c 0 w) (neg := neg) hrw h3' (Nat.pow_pos (by decide)) hw (x := 1 - nI j) (by rw [is_ (by omega) (by omega), one]; omega) (by rw [is_ (by omega) (by omega), one]; omega)
                have hz : rst 0 (kp (1 - nI j).toInt) = 0 := by
                  unfold rst hb eb
                  rw [Nat.zero_mod, if_neg (by have := Nat.pow_pos (n := kp (1 - nI j).toInt) (show 0 < 10 by decide); omega)]
                  simp [ubi]
                rw [upV_0 hz, Nat.zero_div, show (0 + ubi false) * 10 ^ kp (1 - nI j).toInt = 0 by rw [show 0 + ubi false = 0 from rfl, Nat.zero_mul]] at a2
                rw [a1]
                simp only
                obtain ⟨v, c', m', y1, y2, y3, y4⟩ := tell_agree (c0 := c) (c := srws (srws c 0 w) 3 w3) (m0 := m) (m := m3) (r := 3) (V := 0) (N := 1081) (n := j) (form := form) (neg := neg) (p := 1) h rfl rfl (rows_srws (rows_srws h.2.2.2.2 ⟨0, false, p2'⟩) ⟨0, false, a2⟩) ((Fr.sI (by decide)).trans ((Fr.sI (by decide)).trans (q2.mono (by decide) (by decide) (by decide)))) (by rw [rws_same]; exact a2) (.inr ⟨rfl, rfl⟩) (by omega) (by omega) hform (by decide) (by decide) (by omega) q3 (by rw [q2.2.1 5 (by decide), mI_smI])
                rw [y1, y2]
                exact ⟨v, c', m', rfl, rfl, y3, by rw [y4, q2.2.1 0 (by decide), mI_smI_ne (by decide), mI_smI]⟩
              · rw [if_neg z2]
                obtain ⟨m2, n, z, q1, q2, q3⟩ := spell_num (m := smI (smI m 0 0) 5 (nb neg)) hf hsi z2
                rw [q1]
                simp only
                have hub := un_b hf hsi
                have hfm := fm_b f
                have hll : lst f = 2 - (gr f : Int) - (pr f : Int) := rfl
                have q3' := q3
                obtain ⟨s1, s2, s3, s4, s5, s6, s7⟩ := q3'
                obtain ⟨N, Z, r1, r2, r3, r4, r5, r6, r7, r8, r9⟩ := row_sp p3 (by omega) (Nat.pos_of_ne_zero (fun q => z2 (wh_0.mp q))) p4 s1 s2 s3
                obtain ⟨xp, pp1', pp2', pp3, -⟩ := point_q hrw (.inl r1)
                rw [pp1']
                simp only
                have hxx : (xp - nI j).toInt = (N : Int) - 1080 - j := by rw [is_ (by omega) (by omega), pp2', hj]
                obtain ⟨w3, V3, N3, m3, b1, b2, b3, b4, b5, b6, b7, b8, b9, b10⟩ := rnd_both (c1 := srws c 0 w) (m2 := m2) (neg := neg) q3 r1 r2 r3 r5 r4 r7 r8 r9 hrw hrow3 hw (show 0 < j by omega) (by omega) hxx
                have hm5 : mI m2 5 = nb neg := by rw [q2.2.1 5 (by decide), mI_smI]
                have hbh := bh_spec (j := j) q3 r1 r2 r3 r6 r8 (by omega)
                have hr4 := rst_lt V (N - j)
                rw [b1]
                simp only
                obtain ⟨v, c', m', y1, y2, y3, y4⟩ := tell_agree (c0 := c) (c := srws (srws c 0 w) 3 w3) (m0 := m) (m := m3) (r := 3) (V := V3) (N := N3) (n := j) (form := form) (neg := neg) (p := (N3 : Int) - 1080) h rfl rfl (rows_srws (rows_srws h.2.2.2.2 ⟨V, false, p2'⟩) ⟨V3, false, b2⟩) ((Fr.sI (by decide)).trans ((Fr.sI (by decide)).trans ((q2.mono (by decide) (by decide) (by decide)).trans (b6.mono (by decide) (by decide) (by decide))))) (by rw [rws_same]; exact b2) (.inl b3) (by omega) (by omega) hform rfl (by omega) (by omega) ⟨b7, b8, b9⟩ (by rw [b6.2.1 5 (by decide)]; exact hm5)
                rw [y1]
                have h133 : ∀ s0, (rst V (N - j) = 0 ∨ s0 = Int32.ofNat (V / 10 ^ (N - j) % 2)) → f_X7_digits_J133 (nI j) (Int32.ofNat way) (Int32.ofNat form) s0 m2 = some (v, m') := by
                  intro s0 hs0
                  unfold f_X7_digits_J133 f_X7_digits_J159 f_X7_digits_J167
                  rw [hbh, hm5]
                  simp only [Option.bind]
                  have hg := m_goes (neg := neg) (v := V / 10 ^ (N - j)) hw hr4 hs0
                  have key : (if nb neg = 1 then f_X7_goesUp (hcode (rst V (N - j))) s0 1 (Int32.ofNat way) else f_X7_goesUp (hcode (rst V (N - j))) s0 0 (Int32.ofNat way)) = nb (upV way neg V (N - j)) := by
                    unfold upV
                    rw [← hg]
                    cases neg
                    · rw [if_neg (show ¬ nb false = 1 by decide)]; rfl
                    · rw [if_pos (show nb true = 1 from rfl)]; rfl
                  by_cases hnn : nb neg = 1
                  · rw [if_pos hnn] at key ⊢
                    rw [key, b5]; simp only
                    rw [y2]
                  · rw [if_neg hnn] at key ⊢
                    rw [key, b5]; simp only
                    rw [y2]
                refine ⟨v, c', m', rfl, ?_, y3, by rw [y4, b6.2.1 0 (by decide), q2.2.1 0 (by decide), mI_smI_ne (by decide), mI_smI]⟩
                rw [s5]
                by_cases hjm : j ≤ n - z
                · obtain ⟨o1, o2⟩ := odd_both q3 r1 r6 r3 r8 (show 0 < j by omega) hjm
                  rw [if_neg (fun q => by have := (clt2 (by omega) (by omega)).mp q; omega), if_pos o1]
                  by_cases ho : V / 10 ^ (N - j) % 2 = 1
                  · rw [if_pos (o2.mpr ho)]
                    exact h133 1 (.inr (by rw [ho]; rfl))
                  · rw [if_neg (fun q => ho (o2.mp q))]
                    exact h133 0 (.inr (by rw [show V / 10 ^ (N - j) % 2 = 0 by omega]; rfl))
                · rw [if_pos ((clt2 (by omega) (by omega)).mpr (by omega))]
                  exact h133 0 (.inl (rst_le r2 (by omega)))
          refine ag_yes (v := v.toInt64) (m' := m') (c' := c') ?_ ?_ h0 hI2
          · unfold mo_digits; rw [hM]; rfl
          · unfold cl_digits; rw [hC]; rfl
    · rw [if_neg hr] at hin
      refine ag_no (v := 0) h ?_ ?_
      · unfold mo_digits f_X7_digits f_X7_digits_J48; rw [h2, if_neg n10, hin, if_pos rfl]; rfl
      · unfold cl_digits f_X6_digits
        rw [h1, tbd_r]
        rcases a_way x5 with ⟨k1, k2⟩ | ⟨way, hw, rfl, k1, k2⟩
        · rw [k1]; rfl
        · rw [k1, tbd_r]
          rcases a_form x6 with ⟨g1, g2⟩ | ⟨form, hform, rfl, g1, g2⟩
          · rw [g1]; rfl
          · rw [g1, tbd_r]
            by_cases h9 : x4 < 1
            · rw [if_pos h9]; rfl
            · rw [if_neg h9, if_neg (by rw [ile, e800]; rw [ilt, one] at h9; omega)]; rfl
