/-! exact, middle, digits, fixed -/
theorem fm_c (f : Nat) : gr f ≤ pr f + 970 := by
  unfold gr pr
  by_cases h0 : f = 0
  · simp [h0]
  · by_cases h1 : f = 1
    · simp [h1]
    · by_cases h2 : f = 2
      · simp [h2]
      · simp [h0, h1, h2]
theorem fit_g {W a : Nat} {v : Int} (hW : W < 2 ^ a) (hv : (a : Int) + v ≤ 1024) (ha : a ≤ 1024) : W * p2 v < 10 ^ 309 := by
  have h1 : W * p2 v < 2 ^ a * p2 v := Nat.mul_lt_mul_of_pos_right hW (p2_pos _)
  refine Nat.lt_of_lt_of_le h1 ?_
  unfold p2
  rw [← Nat.pow_add]
  exact Nat.le_trans (pw_le (by omega)) c1024
theorem f309 {x : Nat} (h : x < 10 ^ 309) : x < 10 ^ 324 := Nat.lt_of_lt_of_le h (Nat.pow_le_pow_right (by decide) (by decide))
theorem setSize_o {c : CS} {r f s : Nat} {neg : Bool} (hf : f < 4) (hs : s < inf f) (hr : Rw (rws c r)) : ∃ w V, f_X6_setSize r f (sgn f neg s) c = some (srws c r w) ∧ RIs w V false ∧ V * p2 (-(un f s)) = wh f s * GG * p2 (un f s) ∧ wh f s * p2 (un f s) < 10 ^ 309 := by
  obtain ⟨V0, s0, h0⟩ := hr
  have hsb := fin_sb hf hs
  have hub := un_b hf hs
  have hfm := fm_b f
  have hll : lst f = 2 - (gr f : Int) - (pr f : Int) := rfl
  have hfit := fit_g (v := un f s) (wh_lt f s) (by omega) (by omega)
  obtain ⟨w, V, g1, g2, g3⟩ := srow_spec (c := c) (r := r) h0 (c_whole (neg := neg) hf hsb) (c_unit (neg := neg) hf hsb) (by omega) (by omega) (f309 hfit)
  exact ⟨w, V, g1, g2, g3, hfit⟩
theorem two_w {f s : Nat} {neg : Bool} (hf : f < 4) (hs : s < sb f) : (2 * f_X2_wholeOf f (sgn f neg s)).toInt = 2 * (wh f s : Int) := by
  have hw := c_whole (neg := neg) hf hs
  have hb := wh_b f s
  have two : (2 : Int64).toInt = 2 := by decide
  rw [lm (by rw [two, hw]; omega) (by rw [two, hw]; omega), two, hw]
theorem setMiddle_o {c : CS} {r f s : Nat} {neg : Bool} (hf : f < 4) (hs : s < inf f) (hr : Rw (rws c r)) : ∃ w V, f_X6_setMiddle r f (sgn f neg s) c = some (srws c r w) ∧ RIs w V false ∧ V * p2 (-(un f s - 1)) = (2 * wh f s + 1) * GG * p2 (un f s - 1) ∧ (2 * wh f s + 1) * p2 (un f s - 1) < 10 ^ 309 := by
  obtain ⟨V0, s0, h0⟩ := hr
  have hsb := fin_sb hf hs
  have hub := un_b hf hs
  have hfm := fm_b f
  have hll : lst f = 2 - (gr f : Int) - (pr f : Int) := rfl
  have hwl := wh_lt f s
  have hwb := wh_b f s
  have h2 := two_w (neg := neg) hf hsb
  have hu := c_unit (neg := neg) hf hsb
  have one : (1 : Int64).toInt = 1 := by decide
  have one' : (1 : Int32).toInt = 1 := by decide
  have hfit := fit_g (W := 2 * wh f s + 1) (a := pr f + 1) (v := un f s - 1) (by rw [pow2s]; omega) (by omega) (by omega)
  obtain ⟨w, V, g1, g2, g3⟩ := srow_spec (c := c) (r := r) (W := 2 * wh f s + 1) (u := un f s - 1) (x := 2 * f_X2_wholeOf f (sgn f neg s) + 1) (y := f_X2_unitOf f (sgn f neg s) - 1) h0 (by rw [la (by omega) (by omega), h2, one]; omega) (by rw [is_ (by omega) (by omega), hu, one']) (by omega) (by omega) (f309 hfit)
  exact ⟨w, V, g1, g2, g3, hfit⟩
theorem nonum_fin {m : MS} {f s : Nat} {neg : Bool} (hf : f < 4) (hs : s < inf f) : f_X7_isNoNumber (Int32.ofNat f) (sgn f neg s) m = some (0, smI m 5 (nb neg)) := by
  have hsb := fin_sb hf hs
  unfold f_X7_isNoNumber
  have key : (if f_X7_isMinus (Int32.ofNat f) (sgn f neg s) = 0 then f_X7_isNoNumber_J14 (Int32.ofNat f) (sgn f neg s) 0 m else f_X7_isNoNumber_J14 (Int32.ofNat f) (sgn f neg s) 1 m) = f_X7_isNoNumber_J14 (Int32.ofNat f) (sgn f neg s) (nb neg) m := by
    rw [x_minus hf, sgn_minus hf hsb]
    cases neg
    · rw [if_pos (show nb false = 0 from rfl)]; rfl
    · rw [if_neg (show ¬ nb true = 0 by decide)]; rfl
  rw [key]
  unfold f_X7_isNoNumber_J14
  rw [x_fin hf, s_fin hf hsb, if_neg (show ¬ inf f ≤ s by omega)]
  simp only [lt]
  rw [if_neg n10]
theorem zeros_o {m : MS} {k : Nat} (hk : k ≤ 1600) : ∃ m', f_X7_zeros (nI k) m = some m' ∧ Fr [2] [3, 4] [] m m' ∧ Mdig m' k 1 0 1081 := by
  obtain ⟨_, g1, v, rfl, g2⟩ := Lp_inv (F := fun a => f_X7_zeros_L12 (nI k) a.1 a.2) (fun q a => ∃ (i : Nat) (v : Nat → Int32), a = (nI i, smA (smI (smI m 3 (nI k)) 4 1) 2 v) ∧ i + q = k ∧ ∀ l, l < i → v l = 0) (fun b => ∃ v, b = smA (smI (smI m 3 (nI k)) 4 1) 2 v ∧ ∀ l, l < k → v l = 0) (by
    rintro q _ ⟨i, v, rfl, h1, h2⟩
    show (∃ b, f_X7_zeros_L12 (nI k) (nI i) (smA (smI (smI m 3 (nI k)) 4 1) 2 v) = _ ∧ _) ∨ ∃ a' n', f_X7_zeros_L12 (nI k) (nI i) (smA (smI (smI m 3 (nI k)) 4 1) 2 v) = _ ∧ _
    unfold f_X7_zeros_L12
    by_cases hi : i = k
    · rw [if_pos ((cle2 (by omega) (by omega)).mpr (by omega))]
      exact .inl ⟨_, rfl, v, rfl, fun l hl => h2 l (by omega)⟩
    · rw [if_neg (fun h => by have := (cle2 (by omega) (by omega)).mp h; omega), if_pos ((vIn (by omega)).mpr (by show i < 1600; omega)), nI_clamp (show i < 2 ^ 31 by omega)]
      simp only [lt, smA_same, smA_smA]
      rw [nI_inc (by omega)]
      refine .inr ⟨_, q - 1, rfl, by omega, i + 1, upd v i 0, rfl, by omega, fun l hl => ?_⟩
      by_cases hli : l = i
      · rw [hli, upd_eq]
      · rw [upd_ne hli]; exact h2 l (by omega)) k (0, smI (smI m 3 (nI k)) 4 1) ⟨0, mA (smI (smI m 3 (nI k)) 4 1) 2, by rw [smA_self]; rfl, by omega, fun l hl => by omega⟩
  refine ⟨smA (smI (smI m 3 (nI k)) 4 1) 2 v, ?_, (Fr.sI (by decide)).trans ((Fr.sI (by decide)).trans (Fr.sA (by decide))), ?_, ?_, fun i hi => ?_⟩
  · unfold f_X7_zeros
    simp only [lt]
    rw [g1]; rfl
  · rw [mI_smA, mI_smI_ne (by decide), mI_smI]
  · rw [mI_smA, mI_smI]; decide
  · rw [smA_same, g2 i hi, dgt_0]; rfl
theorem spell_num {m : MS} {f s : Nat} (hf : f < 4) (hs : s < inf f) (h0 : s ≠ 0) : ∃ m2 n z, f_X7_spell (f_X7_split (Int32.ofNat f) (L64 s) m) = some m2 ∧ Fr [3, 6] [7, 8, 9] [1] m m2 ∧ Sp m2 (spA (wh f s) (un f s)) n z ((n : Int) - ((-(un f s)).toNat : Int)) := by
  have hsb := fin_sb hf hs
  have hub := un_b hf hs
  have hfm := fm_b f
  have hll : lst f = 2 - (gr f : Int) - (pr f : Int) := rfl
  have hwb := wh_b f s
  have hfc := fm_c f
  have hw0 : wh f s ≠ 0 := fun q => h0 (wh_0.mp q)
  obtain ⟨W, U, e1, e2, e3⟩ := split_spec hf hsb m
  rw [e1]
  obtain ⟨m2, n, z, g1, g2, g3⟩ := spell_spec (m := smI (smJ m 1 W) 7 U) (w := wh f s) (u := un f s) (by rw [mJ_smI, mJ_smJ]; exact e2) (by rw [mI_smI]; exact e3) (by omega) (by rw [show (2 : Nat) ^ 55 = 36028797018963968 by decide]; omega) (by omega) (by omega)
  exact ⟨m2, n, z, g1, (Fr.sJ (by decide)).trans ((Fr.sI (by decide)).trans (g2.mono (by decide) (by decide) (by decide))), g3⟩
theorem v_zero {V w : Nat} {u : Int} (h : V * p2 (-u) = w * GG * p2 u) (hw : w = 0) : V = 0 := by
  rw [hw, Nat.zero_mul, Nat.zero_mul] at h
  rcases Nat.mul_eq_zero.mp h with q | q
  · exact q
  · exact absurd q (Nat.ne_of_gt (p2_pos _))
theorem Tj_z {A n z : Nat} : ∀ i, i < n - z → 0 < n → dgt (Tj A n (n - z)) (n - z) i = dgt A n i := fun i hi hn => (dgt_T hn hi).symm
/-- all digits: both -/
theorem exact_tail {c c1 : CS} {m m2 : MS} {w : RWs} {V W n z form : Nat} {u : Int} {neg : Bool} (hI : Iv c m) (hF : Fr [3, 6] [0, 5, 7, 8, 9] [1] m m2) (hm5 : mI m2 5 = nb neg) (hm0 : mI m2 0 = 0) (hc : c1 = srws c 0 w) (hr : RIs w V false) (hV : V * p2 (-u) = W * GG * p2 u) (hfit : W * p2 u < 10 ^ 309) (hW : 0 < W) (hu : -1080 ≤ u) (hS : Sp m2 (spA W u) n z ((n : Int) - ((-u).toNat : Int))) (hform : form < 3) : ∃ v c' m', (Option.bind (f_X4_significant 0 c1) fun v_4 => Option.bind (f_X6_tellRow 0 (nb neg) v_4 (Int32.ofNat form) c1) fun v_5 => some (Sum.inr (v_5.1, v_5.2)) : Option (Unit ⊕ (Int32 × CS))) = some (.inr (v, c')) ∧ (Option.bind (f_X7_takeDigits (mI m2 8) 0 m2) fun v_6 => f_X7_write (Int32.ofNat form) v_6) = some (v, m') ∧ Iv c' m' ∧ mI m' 0 = 0 := by
  subst hc
  have hS' := hS
  obtain ⟨s1, s2, s3, s4, s5, s6, s7⟩ := hS'
  obtain ⟨N, Z, r1, r2, r3, r4, r5, r6, r7, r8, r9⟩ := row_sp hV hu hW hfit s1 s2 s3
  have hrw : RIs (rws (srws c 0 w) 0) V false := by rw [rws_same]; exact hr
  obtain ⟨m3, N', t1, t2, t3, t4, t5, t6, t7⟩ := takeDigits_spec (m := m2) (j := n - z) (up := false) hS (by omega) (by omega) (by omega)
  rw [show Tj (spA W u) n (n - z) + ubi false = Tj (spA W u) n (n - z) from rfl] at t3 t4 t7
  have hN' : N' = n - z := dn_uniq t3 (dn_T s1 (by omega))
  rw [hN'] at t6 t7
  have hM : Mdig m3 (n - z) ((N : Int) - 1080) V N := ⟨t5, by rw [t6]; omega, fun i hi => by rw [t7 i hi, Tj_z i hi s1.1, r8]⟩
  have hFr : Fr [2, 3, 4, 5, 6, 7] [0, 3, 4, 5, 7, 8, 9, 10, 11, 12, 13] [1, 2] m m3 := (hF.mono (by decide) (by decide) (by decide)).trans (t2.mono (by decide) (by decide) (by decide))
  obtain ⟨v, c', m', g1, g2, g3, g4⟩ := tell_agree (c0 := c) (c := srws c 0 w) (m0 := m) (m := m3) (r := 0) (n := n - z) (form := form) (neg := neg) hI rfl rfl (rows_srws hI.2.2.2.2 ⟨V, false, hr⟩) hFr hrw (.inl r1) (by omega) (by omega) hform rfl (by omega) (by omega) hM (by rw [t2.2.1 5 (by decide)]; exact hm5)
  refine ⟨v, c', m', ?_, ?_, g3, ?_⟩
  · rw [sig_o hrw r1 r2 r3]; simp only [Option.bind]
    rw [r6, g1]
  · have h00 : (0 : Int32) = nb false := rfl
    rw [s5, h00, t1]; simp only [Option.bind]
    exact g2
  · rw [g4, t2.2.1 0 (by decide)]; exact hm0
theorem ag_exact (x1 : Int32) (x2 : Int64) (x4 : Int32) : Agr Iv (cl_exact x1 x2 x4) (mo_exact x1 x2 x4) := by
  intro c m h
  rcases a_own x1 x2 with ⟨h1, h2⟩ | ⟨f, neg, s, hf, rfl, hs, rfl, h1, h2⟩
  · refine ag_no (v := 0) h ?_ ?_
    · unfold mo_exact f_X7_exact f_X7_exact_J22; rw [h2, if_pos rfl]; rfl
    · unfold cl_exact f_X6_exact; rw [h1]; rfl
  · rcases a_form x4 with ⟨g1, g2⟩ | ⟨form, hform, rfl, g1, g2⟩
    · refine ag_no (v := 0) h ?_ ?_
      · unfold mo_exact f_X7_exact f_X7_exact_J22; rw [h2, if_neg n10, g2, if_pos rfl]; rfl
      · unfold cl_exact f_X6_exact; rw [h1, tbd_r, g1]; rfl
    · obtain ⟨v, c', m', hC, hM, hI2, h0⟩ : ∃ v c' m', f_X6_exact (Int32.ofNat f) (sgn f neg s) (Int32.ofNat form) c = some (.inr (v, c')) ∧ f_X7_exact (Int32.ofNat f) (sgn f neg s) (Int32.ofNat form) m = some (v, m') ∧ Iv c' m' ∧ mI m' 0 = 0 := by
        unfold f_X6_exact f_X7_exact f_X7_exact_J22 f_X7_exact_J86
        rw [h1, tbd_r, g1, tbd_r, h2, if_neg n10, g2, if_neg n10, refuse1]
        simp only [lt, if_true]
        rw [s_fin hf hs]
        by_cases z1 : inf f ≤ s
        · obtain ⟨v, c', m', e1, e2, e3, e4, e5, -⟩ := name_agree (neg := neg) hf hs z1 (h.thr (v := 0))
          rw [if_pos z1, if_pos rfl, e1, e2]
          simp only [Option.bind]
          rw [if_neg n10, e3]
          exact ⟨v, c', m', rfl, rfl, e4, by rw [e5]; exact mI_smI⟩
        · have hsi : s < inf f := by omega
          rw [if_neg z1, if_neg n10, nonum_fin hf hsi]
          simp only [Option.bind, if_true]
          rw [x_size hf, sgn_size hf hs, sgn_minus hf hs]
          simp only [L64_z hf hs]
          obtain ⟨w, V, p1, p2', p3, p4⟩ := setSize_o (c := c) (r := 0) (neg := neg) hf hsi (h.2.2.2.2 0 (by decide))
          rw [p1]
          simp only
          by_cases z2 : s = 0
          · rw [if_pos z2]
            have hV0 : V = 0 := v_zero p3 (wh_0.mpr z2)
            subst hV0
            have hrw : RIs (rws (srws c 0 w) 0) 0 false := by rw [rws_same]; exact p2'
            obtain ⟨m3, q1, q2, q3⟩ := zeros_o (m := smI (smI m 0 0) 5 (nb neg)) (k := 1) (by decide)
            have q1' : f_X7_zeros 1 (smI (smI m 0 0) 5 (nb neg)) = some m3 := q1
            rw [sig_0 hrw, q1']
            simp only
            obtain ⟨v, c', m', k1, k2, k3, k4⟩ := tell_agree (c0 := c) (c := srws c 0 w) (m0 := m) (m := m3) (r := 0) (V := 0) (N := 1081) (n := 1) (form := form) (neg := neg) (p := 1) h rfl rfl (rows_srws h.2.2.2.2 ⟨0, false, p2'⟩) ((Fr.sI (by decide)).trans ((Fr.sI (by decide)).trans (q2.mono (by decide) (by decide) (by decide)))) hrw (.inr ⟨rfl, rfl⟩) (by decide) (by decide) hform (by decide) (by decide) (by decide) q3 (by rw [q2.2.1 5 (by decide), mI_smI])
            have k1' : f_X6_tellRow 0 (nb neg) 1 (Int32.ofNat form) (srws c 0 w) = some (v, c') := k1
            rw [k1', k2]
            exact ⟨v, c', m', rfl, rfl, k3, by rw [k4, q2.2.1 0 (by decide), mI_smI_ne (by decide), mI_smI]⟩
          · rw [if_neg z2]
            obtain ⟨m2, n, z, q1, q2, q3⟩ := spell_num (m := smI (smI m 0 0) 5 (nb neg)) hf hsi z2
            rw [q1]
            simp only
            have hub := un_b hf hsi
            have hfm := fm_b f
            have hll : lst f = 2 - (gr f : Int) - (pr f : Int) := rfl
            obtain ⟨v, c', m', k1, k2, k3, k4⟩ := exact_tail (c := c) (m := m) (m2 := m2) (form := form) (neg := neg) h ((Fr.sI (by decide)).trans ((Fr.sI (by decide)).trans (q2.mono (by decide) (by decide) (by decide)))) (by rw [q2.2.1 5 (by decide), mI_smI]) (by rw [q2.2.1 0 (by decide), mI_smI_ne (by decide), mI_smI]) rfl p2' p3 p4 (Nat.pos_of_ne_zero (fun q => z2 (wh_0.mp q))) (by omega) q3 hform
            refine ⟨v, c', m', k1, ?_, k3, k4⟩
            rw [← k2]
            cases f_X7_takeDigits (mI m2 8) 0 m2 with
            | none => rfl
            | some a =>
              simp only [Option.bind]
              cases f_X7_write (Int32.ofNat form) a with
              | none => rfl
              | some b => rfl
      refine ag_yes (v := v.toInt64) (m' := m') (c' := c') ?_ ?_ h0 hI2
      · unfold mo_exact; rw [hM]; rfl
      · unfold cl_exact; rw [hC]; rfl
theorem ag_middle (x1 : Int32) (x2 : Int64) (x4 : Int32) : Agr Iv (cl_middle x1 x2 x4) (mo_middle x1 x2 x4) := by
  intro c m h
  rcases a_own x1 x2 with ⟨h1, h2⟩ | ⟨f, neg, s, hf, rfl, hs, rfl, h1, h2⟩
  · refine ag_no (v := 0) h ?_ ?_
    · unfold mo_middle f_X7_middle f_X7_middle_J30; rw [h2, if_pos rfl]; rfl
    · unfold cl_middle f_X6_middle; rw [h1]; rfl
  · rcases a_form x4 with ⟨g1, g2⟩ | ⟨form, hform, rfl, g1, g2⟩
    · refine ag_no (v := 0) h ?_ ?_
      · unfold mo_middle f_X7_middle f_X7_middle_J30; rw [h2, if_neg n10, g2, if_pos rfl]; rfl
      · unfold cl_middle f_X6_middle; rw [h1, tbd_r, g1]; rfl
    · by_cases z1 : inf f ≤ s
      · refine ag_no (v := 0) h ?_ ?_
        · unfold mo_middle f_X7_middle f_X7_middle_J30; rw [h2, if_neg n10, g2, if_neg n10, x_fin hf, s_fin hf hs, if_pos z1, if_pos rfl]; rfl
        · unfold cl_middle f_X6_middle f_X6_needFinite; rw [h1, tbd_r, g1, tbd_r, s_fin hf hs, if_pos z1, if_pos rfl]; rfl
      · have hsi : s < inf f := by omega
        obtain ⟨v, c', m', hC, hM, hI2, h0⟩ : ∃ v c' m', f_X6_middle (Int32.ofNat f) (sgn f neg s) (Int32.ofNat form) c = some (.inr (v, c')) ∧ f_X7_middle (Int32.ofNat f) (sgn f neg s) (Int32.ofNat form) m = some (v, m') ∧ Iv c' m' ∧ mI m' 0 = 0 := by
          unfold f_X6_middle f_X6_needFinite f_X7_middle f_X7_middle_J30
          rw [h1, tbd_r, g1, tbd_r, s_fin hf hs, if_neg z1, if_neg n10, tbd_r, h2, if_neg n10, g2, if_neg n10, x_fin hf, s_fin hf hs, if_neg z1, if_neg n10, refuse1]
          simp only [lt, if_true]
          obtain ⟨w, V, p1, p2', p3, p4⟩ := setMiddle_o (c := c) (r := 0) (neg := neg) hf hsi (h.2.2.2.2 0 (by decide))
          rw [p1, sgn_minus hf hs]
          have key : (if f_X7_isMinus (Int32.ofNat f) (sgn f neg s) = 0 then f_X7_middle_J52 (Int32.ofNat f) (sgn f neg s) (Int32.ofNat form) 0 (smI m 0 0) else f_X7_middle_J52 (Int32.ofNat f) (sgn f neg s) (Int32.ofNat form) 1 (smI m 0 0)) = f_X7_middle_J52 (Int32.ofNat f) (sgn f neg s) (Int32.ofNat form) (nb neg) (smI m 0 0) := by
            rw [x_minus hf, sgn_minus hf hs]
            cases neg
            · rw [if_pos (show nb false = 0 from rfl)]; rfl
            · rw [if_neg (show ¬ nb true = 0 by decide)]; rfl
          rw [key]
          unfold f_X7_middle_J52
          simp only [Option.bind, lt]
          rw [x_size hf, sgn_size hf hs]
          obtain ⟨W, U, e1, e2, e3⟩ := split_spec hf hs (smI (smI m 0 0) 5 (nb neg))
          rw [e1]
          have hub := un_b hf hsi
          have hfm := fm_b f
          have hll : lst f = 2 - (gr f : Int) - (pr f : Int) := rfl
          have hwb := wh_b f s
          have hfc := fm_c f
          have two : (2 : Int64).toInt = 2 := by decide
          have one : (1 : Int64).toInt = 1 := by decide
          have one' : (1 : Int32).toInt = 1 := by decide
          have e4 : (2 * W + 1).toInt = ((2 * wh f s + 1 : Nat) : Int) := by
            have e5 : (2 * W).toInt = 2 * (wh f s : Int) := by rw [lm (by rw [two, e2]; omega) (by rw [two, e2]; omega), two, e2]
            rw [la (by omega) (by omega), e5, one]; omega
          have e6 : (U - 1).toInt = un f s - 1 := by rw [is_ (by omega) (by omega), e3, one']
          simp only [mJ_smI, mJ_smJ, mI_smJ, mI_smI]
          obtain ⟨m2, n, z, q1, q2, q3⟩ := spell_spec (m := smI (smJ (smI (smJ (smI (smI m 0 0) 5 (nb neg)) 1 W) 7 U) 1 (2 * W + 1)) 7 (U - 1)) (w := 2 * wh f s + 1) (u := un f s - 1) (by rw [mJ_smI, mJ_smJ]; exact e4) (by rw [mI_smI]; exact e6) (by omega) (by rw [show (2 : Nat) ^ 55 = 36028797018963968 by decide]; omega) (by omega) (by omega)
          rw [q1]
          simp only
          obtain ⟨v, c', m', k1, k2, k3, k4⟩ := exact_tail (c := c) (m := m) (m2 := m2) (form := form) (neg := neg) h ((Fr.sI (by decide)).trans ((Fr.sI (by decide)).trans ((Fr.sJ (by decide)).trans ((Fr.sI (by decide)).trans ((Fr.sJ (by decide)).trans ((Fr.sI (by decide)).trans (q2.mono (by decide) (by decide) (by decide)))))))) (by rw [q2.2.1 5 (by decide), mI_smI_ne (by decide), mI_smJ, mI_smI_ne (by decide), mI_smJ, mI_smI]) (by rw [q2.2.1 0 (by decide), mI_smI_ne (by decide), mI_smJ, mI_smI_ne (by decide), mI_smJ, mI_smI_ne (by decide), mI_smI]) rfl p2' p3 p4 (by omega) (by omega) q3 hform
          refine ⟨v, c', m', k1, ?_, k3, k4⟩
          rw [← k2]
          cases f_X7_takeDigits (mI m2 8) 0 m2 with
          | none => rfl
          | some a =>
            simp only [Option.bind]
            cases f_X7_write (Int32.ofNat form) a with
            | none => rfl
            | some b => rfl
        refine ag_yes (v := v.toInt64) (m' := m') (c' := c') ?_ ?_ h0 hI2
        · unfold mo_middle; rw [hM]; rfl
        · unfold cl_middle; rw [hC]; rfl
