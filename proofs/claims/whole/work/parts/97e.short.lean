/-! shortest, holds -/
theorem par_s {f s : Nat} : s % 2 = wh f s % 2 := by
  obtain ⟨c1, -, -, -⟩ := wu_s (f := f) (s := s)
  have hfm := fm_b f
  have hH : 2 ^ (pr f - 1) = 2 * 2 ^ (pr f - 2) := by rw [← pow2s]; congr 1; omega
  have e : (un f s - lst f).toNat * 2 ^ (pr f - 1) = 2 * ((un f s - lst f).toNat * 2 ^ (pr f - 2)) := by rw [hH, Nat.mul_left_comm]
  rw [e] at c1
  omega
theorem ev_c {f s : Nat} {neg : Bool} (hf : f < 4) (hs : s < sb f) : (sgn f neg s &&& 1 = 0) = (evn f s = true) := by
  have h1 := and64 (sgn f neg s) 1
  have hx := expo_b f hf
  have hfm := fm_b f
  have hsb : sb f % 2 = 0 := by
    rw [hx.2, show pr f - 1 = (pr f - 2) + 1 by omega, Nat.pow_succ, Nat.mul_assoc, Nat.mul_left_comm]
    exact Nat.mul_mod_right _ _
  rw [one_n, sgn_n hf hs, show (1 : Nat) = 2 ^ 1 - 1 from rfl, and_pow, Nat.pow_one] at h1
  have h2 : (s + (if neg then sb f else 0)) % 2 = s % 2 := by cases neg <;> simp; omega
  rw [h2, par_s (f := f)] at h1
  unfold evn
  rw [decide_eq_true_iff]
  simp only [eq_iff_iff]
  constructor
  · intro h
    rw [h] at h1
    have : (0 : Int64).toBitVec.toNat = 0 := rfl
    omega
  · intro h
    apply eq_n
    rw [h1, h]; rfl
theorem cfs_o {c : CS} {f s : Nat} {neg : Bool} (hf : f < 4) (hs : s < inf f) (hs0 : s ≠ 0) (hr : ∀ q, q < 4 → Rw (rws c q)) : ∃ w0 w1 w2 V VL VH N, f_X6_findShortest f (sgn f neg s) c = f_X6_findShortest_J40 (nb (evn f s)) (srws (srws (srws c 0 w0) 2 w2) 1 w1) ∧ RIs w0 V false ∧ RIs w1 VL false ∧ RIs w2 VH false ∧ V * p2 (-(un f s)) = wh f s * GG * p2 (un f s) ∧ wh f s * p2 (un f s) < 10 ^ 309 ∧ SH f s V VL VH N := by
  have hsb := fin_sb hf hs
  have hub := un_b hf hs
  have hfm := fm_b f
  have hll : lst f = 2 - (gr f : Int) - (pr f : Int) := rfl
  have hw0 : 0 < wh f s := Nat.pos_of_ne_zero (fun q => hs0 (wh_0.mp q))
  have hwb := wh_b f s
  obtain ⟨w0, V, a1, a2, a3, a4⟩ := setSize_o (c := c) (r := 0) (neg := neg) hf hs (hr 0 (by decide))
  obtain ⟨w2, VH, b1, b2, b3, b4⟩ := setMiddle_o (c := srws c 0 w0) (r := 2) (neg := neg) hf hs (by rw [rws_ne (by decide)]; exact hr 2 (by decide))
  obtain ⟨w1, VL, d1, d2, d3⟩ := setLower_o (c := srws (srws c 0 w0) 2 w2) (r := 1) (neg := neg) hf hs hs0 (by rw [rws_ne (by decide), rws_ne (by decide)]; exact hr 1 (by decide))
  have hge := v_ge a3 (by omega) hw0
  have hlt := v_lt a3 a4
  have hV0 : V ≠ 0 := fun q => by rw [q] at hge; exact absurd hge (Nat.not_le_of_lt (Nat.pow_pos (by decide)))
  obtain ⟨N, hN⟩ := dn_ex hV0
  have n1 : 754 < N := (Nat.pow_lt_pow_iff_right (a := 10) (by decide)).mp (Nat.lt_of_le_of_lt hge hN.2.2)
  have n2 : N - 1 < 1389 := (Nat.pow_lt_pow_iff_right (a := 10) (by decide)).mp (Nat.lt_of_le_of_lt hN.2.1 hlt)
  clear hge hlt
  obtain ⟨M, m1, m2, m3⟩ := lo_gap a3 d3 hw0
  refine ⟨w0, w1, w2, V, VL, VH, N, ?_, a2, d2, b2, a3, a4, by omega, hs, hN, by omega, by omega, d3, b3, lo_lt (Nat.pos_of_ne_zero hV0) m2 m3, hi_gap a3 b3, M, by omega, m2, m3⟩
  unfold f_X6_findShortest
  rw [a1]; simp only [Option.bind]
  rw [b1]; simp only
  rw [d1]; simp only
  have he := ev_c (neg := neg) hf hsb
  by_cases hev : evn f s = true
  · rw [if_pos (he.mpr hev), hev]; rfl
  · rw [if_neg (fun q => hev (he.mp q))]
    have : evn f s = false := by cases h : evn f s; rfl; exact absurd h hev
    rw [this]; rfl
/-- the least number of digits -/
theorem i0_ex {f s V VL VH N Z : Nat} (h : SH f s V VL VH N) (hZ : Zn V Z) (hZN : Z < N) : ∃ i0, 1 ≤ i0 ∧ i0 ≤ 19 ∧ i0 ≤ N - Z ∧ fnd f s V VL VH N i0 = true ∧ (∀ j, 1 ≤ j → j < i0 → fnd f s V VL VH N j = false) ∧ (i0 = N - Z → lR V VL (evn f s) (N - i0) = true) := by
  obtain ⟨h1, h2, h3, h4, h5, h6, h7, h8, h9, M, m1, m2, m3⟩ := h
  have lz : lR V VL (evn f s) (N - (N - Z)) = true := by
    have hz0 : V % 10 ^ Z = 0 := hZ.1
    have hVe : V / 10 ^ Z * 10 ^ Z = V := Nat.div_mul_cancel (Nat.dvd_of_mod_eq_zero hz0)
    unfold lR
    rw [show N - (N - Z) = Z by omega, hVe, decide_eq_true h8]; rfl
  have l19 : lR V VL (evn f s) (N - 19) = true := by
    unfold lR
    rw [decide_eq_true (found19 h3 (by omega) m1 m2 m3)]; rfl
  obtain ⟨n0, a1, a2, a3, a4⟩ : ∃ n0, 1 ≤ n0 ∧ n0 ≤ 19 ∧ n0 ≤ N - Z ∧ fnd f s V VL VH N n0 = true := by
    by_cases hq : 19 ≤ N - Z
    · exact ⟨19, by decide, by decide, hq, by unfold fnd; rw [l19]; rfl⟩
    · exact ⟨N - Z, by omega, by omega, Nat.le_refl _, by unfold fnd; rw [lz]; rfl⟩
  obtain ⟨i0, b1, b2, b3, b4⟩ := least_ex (P := fnd f s V VL VH N) a1 a4
  exact ⟨i0, b1, by omega, by omega, b3, b4, fun q => by rw [q]; exact lz⟩
theorem upV0_goes {V k : Nat} {s0 : Int32} (hs : rst V k = 0 ∨ s0 = Int32.ofNat (V / 10 ^ k % 2)) (i : Int32) (m : MS) : (if 0 < hcode (rst V k) then f_X7_findShortest_J137 1 i m else if hcode (rst V k) = 0 then if s0 = 0 then f_X7_findShortest_J137 0 i m else f_X7_findShortest_J137 1 i m else f_X7_findShortest_J137 0 i m) = f_X7_findShortest_J137 (nb (upV 0 false V k)) i m := by
  have hg := m_goes (way := 0) (neg := false) (v := V / 10 ^ k) (by decide) (rst_lt V k) hs
  have hg' : f_X7_goesUp (hcode (rst V k)) s0 0 0 = nb (upV 0 false V k) := hg
  rw [← hg']
  have hr := rst_lt V k
  generalize rst V k = r at *
  have hr' : r = 0 ∨ r = 1 ∨ r = 2 ∨ r = 3 := by omega
  unfold f_X7_goesUp
  rcases hr' with rfl | rfl | rfl | rfl
  · rfl
  · rfl
  · show (if s0 = 0 then _ else _) = f_X7_findShortest_J137 (if s0 = 0 then 0 else 1) i m
    split <;> rfl
  · rfl
theorem mfs_o {m : MS} {f s V VL VH N : Nat} (hf : f < 4) (h : SH f s V VL VH N) (hs : s < inf f) (hs0 : s ≠ 0) (hV : V * p2 (-(un f s)) = wh f s * GG * p2 (un f s)) (hfit : wh f s * p2 (un f s) < 10 ^ 309) : ∃ i0 m' Nc Z, 1 ≤ i0 ∧ i0 ≤ 19 ∧ fnd f s V VL VH N i0 = true ∧ (∀ j, 1 ≤ j → j < i0 → fnd f s V VL VH N j = false) ∧ f_X7_findShortest (Int32.ofNat f) (L64 s) m = some m' ∧ Fr [2, 3, 4, 5, 6, 7] [3, 4, 7, 8, 9, 10, 11] [1, 2] m m' ∧ Dn ((V / 10 ^ (N - i0) + ubi (bC V VL VH (evn f s) (N - i0))) * 10 ^ (N - i0)) Nc ∧ (Nc = N ∨ Nc = N + 1) ∧ Zn V Z ∧ Mdig m' i0 ((Nc : Int) - 1080) ((V / 10 ^ (N - i0) + ubi (bC V VL VH (evn f s) (N - i0))) * 10 ^ (N - i0)) Nc := by
  have hub := un_b hf hs
  have hfm := fm_b f
  have hll : lst f = 2 - (gr f : Int) - (pr f : Int) := rfl
  have hw0 : 0 < wh f s := Nat.pos_of_ne_zero (fun q => hs0 (wh_0.mp q))
  obtain ⟨m2, n, z, q1, q2, q3⟩ := spell_num (m := m) hf hs hs0
  have q3' := q3
  obtain ⟨s1, s2, s3, s4, s5, s6, s7⟩ := q3'
  obtain ⟨N', Z, r1, r2, r3, r4, r5, r6, r7, r8, r9⟩ := row_sp hV (by omega) hw0 hfit s1 s2 s3
  have hNN : N' = N := dn_uniq r1 h.2.2.1
  subst hNN
  obtain ⟨i0, a1, a2, a3, a4, a5, a6⟩ := i0_ex h r2 r3
  obtain ⟨m3, b1, b2⟩ := mfs_loop (m := m2) (Z := Z) (i0 := i0) hf h q3 r7 r9 a1 a2 (by omega) a4 a5 (fun q => a6 (by omega))
  have hS3 := q3.fr b2
  have hbh := bh_spec (j := i0) hS3 r1 r2 r3 r6 r8 (by omega)
  obtain ⟨o1, o2⟩ := odd_both (j := i0) hS3 r1 r6 r3 r8 (by omega) (by omega)
  generalize hk0 : N' - i0 = k0 at *
  generalize hl : lR V VL (evn f s) k0 = l at *
  generalize hg : gR V VH (evn f s) k0 = g at *
  have hb : bC V VL VH (evn f s) k0 = (if l && g then upV 0 false V k0 else !l) := by unfold bC; rw [hl, hg]
  have hfo : (l || g) = true := by have := a4; unfold fnd at this; rw [hk0, hl, hg] at this; exact this
  -- the choice
  have hch : ∀ s0 : Int32, (rst V k0 = 0 ∨ s0 = Int32.ofNat (V / 10 ^ k0 % 2)) → f_X7_findShortest_J102 (nI i0) (nb l) (nb (decide (i0 < n - z) && g)) (hcode (rst V k0)) s0 m3 = f_X7_findShortest_J137 (nb (bC V VL VH (evn f s) k0)) (nI i0) m3 := by
    intro s0 hs0'
    rw [hb]
    unfold f_X7_findShortest_J102
    by_cases hlt : i0 < n - z
    · rw [decide_eq_true hlt, Bool.true_and]
      cases g
      · rw [if_pos (show nb false = 0 from rfl)]
        cases l
        · cases hfo
        · rfl
      · rw [if_neg (show ¬ nb true = 0 by decide)]
        cases l
        · rw [if_pos (show nb false = 0 from rfl)]; rfl
        · rw [if_neg (show ¬ nb true = 0 by decide)]
          exact upV0_goes hs0' (nI i0) m3
    · rw [decide_eq_false hlt, Bool.false_and, if_pos (show nb false = 0 from rfl)]
      have hl1 : l = true := a6 (by omega)
      subst hl1
      have hu0 : upV 0 false V k0 = false := upV_0 (rst_le r2 (by omega))
      cases g
      · rfl
      · rw [hu0]; rfl
  obtain ⟨m4, Nt, t1, t2, t3, t4, t5, t6, t7⟩ := takeDigits_spec (m := m3) (j := i0) (up := bC V VL VH (evn f s) k0) hS3 (by omega) (by omega) (by omega)
  rw [← r9 i0 (by omega), hk0] at t3 t4 t7
  -- no digit 0 at the end
  have hend : 1 < i0 → mA m4 2 (i0 - 1) ≠ 0 := by
    intro hi1 hz
    have hd := t7 (i0 - 1) (by omega)
    rw [hz, show (0 : Int32).toInt = ((0 : Nat) : Int) by decide] at hd
    have hm : (V / 10 ^ k0 + ubi (bC V VL VH (evn f s) k0)) % 10 = 0 := by
      rcases t4 with q | ⟨q, qq⟩
      · rw [dgt_lo (by omega), show Nt - 1 - (i0 - 1) = 0 by omega, Nat.pow_zero, Nat.div_one] at hd
        omega
      · rw [qq, show i0 = (i0 - 1) + 1 by omega, Nat.pow_succ]; exact Nat.mul_mod_left _ _
    have hno := a5 (i0 - 1) (by omega) (by omega)
    unfold fnd at hno
    rw [show N' - (i0 - 1) = k0 + 1 by omega, Bool.or_eq_false_iff] at hno
    have hT : V / 10 ^ (k0 + 1) = V / 10 ^ k0 / 10 := by rw [Nat.pow_succ, Nat.div_div_eq_div_mul]
    have hp10 : ∀ x, x * 10 ^ (k0 + 1) = x * 10 * 10 ^ k0 := fun x => by rw [Nat.pow_succ, Nat.mul_comm (10 ^ k0) 10, Nat.mul_assoc]
    cases hbb : bC V VL VH (evn f s) k0
    · rw [hbb] at hm
      have hm' : V / 10 ^ k0 % 10 = 0 := hm
      have hl1 : l = true := by
        rw [hbb] at hb
        cases l
        · cases g
          · cases hfo
          · cases hb
        · rfl
      have : lR V VL (evn f s) (k0 + 1) = lR V VL (evn f s) k0 := by
        unfold lR
        rw [hT, hp10, show V / 10 ^ k0 / 10 * 10 = V / 10 ^ k0 by omega]
      rw [this, hl, hl1] at hno
      cases hno.1
    · rw [hbb] at hm
      have hm' : (V / 10 ^ k0 + 1) % 10 = 0 := hm
      have hg1 : g = true := by
        rw [hbb] at hb
        cases g
        · cases l
          · cases hfo
          · cases hb
        · rfl
      have : gR V VH (evn f s) (k0 + 1) = gR V VH (evn f s) k0 := by
        unfold gR
        rw [hT, hp10, show (V / 10 ^ k0 / 10 + 1) * 10 = V / 10 ^ k0 + 1 by omega]
      rw [this, hg, hg1] at hno
      cases hno.2
  have hstrip : Lp (fun a => f_X7_findShortest_L140 a) m4 = some m4 := by
    refine Lp_r ?_
    show f_X7_findShortest_L140 m4 = _
    unfold f_X7_findShortest_L140
    rw [t5]
    have one : (1 : Int32).toInt = 1 := by decide
    by_cases hi1 : i0 = 1
    · rw [if_pos (by rw [ile, nI_toInt (by omega), one]; omega)]
    · rw [if_neg (by rw [ile, nI_toInt (by omega), one]; omega), show (1 : Int32) = nI 1 from rfl, nI_sub (by omega) (by omega), if_pos ((vIn (by omega)).mpr (by show i0 - 1 < 1600; omega)), nI_clamp (show i0 - 1 < 2 ^ 31 by omega), if_neg (hend (by omega))]
  have hj137 : f_X7_findShortest_J137 (nb (bC V VL VH (evn f s) k0)) (nI i0) m3 = some m4 := by
    unfold f_X7_findShortest_J137
    rw [t1]; simp only [Option.bind]
    rw [hstrip]
  refine ⟨i0, m4, Nt + k0, Z, a1, a2, a4, a5, ?_, ?_, ?_, ?_, r2, ?_⟩
  · unfold f_X7_findShortest
    simp only [lt]
    rw [q1]; simp only [Option.bind]
    rw [b1]; simp only [Sum.elim]
    rw [hbh]; simp only
    rw [if_pos o1]
    by_cases ho : V / 10 ^ k0 % 2 = 1
    · rw [if_pos (o2.mpr ho), hch 1 (.inr (by rw [ho]; rfl))]
      exact hj137
    · rw [if_neg (fun q => ho (o2.mp q)), hch 0 (.inr (by rw [show V / 10 ^ k0 % 2 = 0 by omega]; rfl))]
      exact hj137
  · exact (q2.mono (by decide) (by decide) (by decide)).trans ((b2.mono (by decide) (by decide) (by decide)).trans (t2.mono (by decide) (by decide) (by decide)))
  · rw [hk0]; exact dn_mul t3
  · rcases t4 with q | ⟨q, -⟩ <;> omega
  · rw [hk0]
    exact ⟨t5, by rw [t6]; omega, fun i hi => by rw [t7 i hi, dgt_mul t3.1]⟩
/-- the class's search, from its rows -/
theorem cfs_run {c : CS} {f s V VL VH N i0 : Nat} {w0 w1 w2 : RWs} (h : SH f s V VL VH N) (hr3 : Rw (rws c 3)) (a0 : RIs w0 V false) (a1 : RIs w1 VL false) (a2 : RIs w2 VH false) (hi0 : 1 ≤ i0) (hi1 : i0 ≤ 19) (hf : fnd f s V VL VH N i0 = true) (hn : ∀ j, 1 ≤ j → j < i0 → fnd f s V VL VH N j = false) : ∃ w3, f_X6_findShortest_J40 (nb (evn f s)) (srws (srws (srws c 0 w0) 2 w2) 1 w1) = some (nI i0, srws (srws (srws (srws c 0 w0) 2 w2) 1 w1) 3 w3) ∧ RIs w3 ((V / 10 ^ (N - i0) + ubi (bC V VL VH (evn f s) (N - i0))) * 10 ^ (N - i0)) false := by
  obtain ⟨h1, h2, h3, h4, h5, h6, h7, h8, h9, -⟩ := h
  have q0 : RIs (rws (srws (srws (srws c 0 w0) 2 w2) 1 w1) 0) V false := by rw [rws_ne (by decide), rws_ne (by decide), rws_same]; exact a0
  have q1 : RIs (rws (srws (srws (srws c 0 w0) 2 w2) 1 w1) 1) VL false := by rw [rws_same]; exact a1
  have q2 : RIs (rws (srws (srws (srws c 0 w0) 2 w2) 1 w1) 2) VH false := by rw [rws_ne (by decide), rws_same]; exact a2
  have q3 : Rw (rws (srws (srws (srws c 0 w0) 2 w2) 1 w1) 3) := by rw [rws_ne (by decide), rws_ne (by decide), rws_ne (by decide)]; exact hr3
  obtain ⟨x, p1, p2, -, -⟩ := point_q q0 (.inl h3)
  obtain ⟨w3, g1, g2⟩ := cfs_loop q0 q1 q2 q3 (Nat.lt_of_lt_of_le h3.2.2 (Nat.pow_le_pow_right (by decide) (by omega))) h4 h5 hi0 hi1 hf hn p2
  refine ⟨w3, ?_, g2⟩
  unfold f_X6_findShortest_J40
  rw [p1]; simp only [Option.bind]
  rw [g1]; rfl
theorem ag_shortest (x1 : Int32) (x2 : Int64) (x4 : Int32) : Agr Iv (cl_shortest x1 x2 x4) (mo_shortest x1 x2 x4) := by
  intro c m h
  rcases a_own x1 x2 with ⟨h1, h2⟩ | ⟨f, neg, s, hf, rfl, hs, rfl, h1, h2⟩
  · refine ag_no (v := 0) h ?_ ?_
    · unfold mo_shortest f_X7_shortest f_X7_shortest_J22; rw [h2, if_pos rfl]; rfl
    · unfold cl_shortest f_X6_shortest; rw [h1]; rfl
  · rcases a_form x4 with ⟨g1, g2⟩ | ⟨form, hform, rfl, g1, g2⟩
    · refine ag_no (v := 0) h ?_ ?_
      · unfold mo_shortest f_X7_shortest f_X7_shortest_J22; rw [h2, if_neg n10, g2, if_pos rfl]; rfl
      · unfold cl_shortest f_X6_shortest; rw [h1, tbd_r, g1]; rfl
    · obtain ⟨v, c', m', hC, hM, hI2, h0⟩ : ∃ v c' m', f_X6_shortest (Int32.ofNat f) (sgn f neg s) (Int32.ofNat form) c = some (.inr (v, c')) ∧ f_X7_shortest (Int32.ofNat f) (sgn f neg s) (Int32.ofNat form) m = some (v, m') ∧ Iv c' m' ∧ mI m' 0 = 0 := by
        unfold f_X6_shortest f_X7_shortest f_X7_shortest_J22 f_X7_shortest_J73 f_X6_shortest_J57
        rw [h1, tbd_r, g1, tbd_r, h2, if_neg n10, g2, if_neg n10, refuse1]
        simp only [lt, if_true]
        rw [s_fin hf hs]
        by_cases z1 : inf f ≤ s
        · obtain ⟨v, c', m', e1, e2, e3, e4, e5, -⟩ := name_agree (neg := neg) hf hs z1 (h.thr (v := 0))
          rw [if_pos z1, if_pos rfl, e1, e2]
          simp only [Option.bind]
          rw [if_neg n10, e3]
          exact ⟨v, c', m', rfl, rfl, e4, by rw [e5]; exact mI_smI⟩
        · have hsi : s < inf f := by omega
          rw [if_neg z1, if_neg n10, nonum_fin hf hsi]
          simp only [Option.bind, if_true]
          rw [x_size hf, sgn_size hf hs, sgn_minus hf hs, s_zero hf hs]
          simp only [L64_z hf hs]
          obtain ⟨V3, s3, hr3⟩ := h.2.2.2.2 3 (by decide)
          obtain ⟨l, e1, e2⟩ := empty_spec hr3
          rw [e1]
          simp only
          have hz3 := zero_ris e2
          by_cases z2 : s = 0
          · rw [if_pos z2, if_pos z2, if_neg n10]
            obtain ⟨m3, q1, q2, q3⟩ := zeros_o (m := smI (smI m 0 0) 5 (nb neg)) (k := 1) (by decide)
            have q1' : f_X7_zeros 1 (smI (smI m 0 0) 5 (nb neg)) = some m3 := q1
            rw [q1']
            simp only
            obtain ⟨v, c', m', k1, k2, k3, k4⟩ := tell_agree (c0 := c) (c := srws c 3 (l, 156, -1, 0)) (m0 := m) (m := m3) (r := 3) (V := 0) (N := 1081) (n := 1) (form := form) (neg := neg) (p := 1) h rfl rfl (rows_srws h.2.2.2.2 ⟨0, false, hz3⟩) ((Fr.sI (by decide)).trans ((Fr.sI (by decide)).trans (q2.mono (by decide) (by decide) (by decide)))) (by rw [rws_same]; exact hz3) (.inr ⟨rfl, rfl⟩) (by decide) (by decide) hform (by decide) (by decide) (by decide) q3 (by rw [q2.2.1 5 (by decide), mI_smI])
            have k1' : f_X6_tellRow 3 (nb neg) 1 (Int32.ofNat form) (srws c 3 (l, 156, -1, 0)) = some (v, c') := k1
            rw [k1', k2]
            exact ⟨v, c', m', rfl, rfl, k3, by rw [k4, q2.2.1 0 (by decide), mI_smI_ne (by decide), mI_smI]⟩
          · rw [if_neg z2, if_neg z2, if_pos rfl]
            have hrows : ∀ q, q < 4 → Rw (rws (srws c 3 (l, 156, -1, 0)) q) := rows_srws h.2.2.2.2 ⟨0, false, hz3⟩
            obtain ⟨w0, w1, w2, V, VL, VH, N, y1, y2, y3, y4, y5, y6, y7⟩ := cfs_o (c := srws c 3 (l, 156, -1, 0)) (neg := neg) hf hsi z2 hrows
            obtain ⟨i0, m3, Nc, Z, b1, b2, b3, b4, b5, b6, b7, b8, b9, b10⟩ := mfs_o (m := smI (smI m 0 0) 5 (nb neg)) hf y7 hsi z2 y5 y6
            obtain ⟨w3, d1, d2⟩ := cfs_run (c := srws c 3 (l, 156, -1, 0)) y7 (hrows 3 (by decide)) y2 y3 y4 b1 b2 b3 b4
            have hNb := y7.2.2.2.1
            have hNb2 := y7.2.2.2.2.1
            rw [y1, d1, b5]
            simp only
            obtain ⟨v, c', m', k1, k2, k3, k4⟩ := tell_agree (c0 := c) (c := srws (srws (srws (srws (srws c 3 (l, 156, -1, 0)) 0 w0) 2 w2) 1 w1) 3 w3) (m0 := m) (m := m3) (r := 3) (n := i0) (form := form) (neg := neg) (p := (Nc : Int) - 1080) h rfl rfl (rows_srws (rows_srws (rows_srws (rows_srws hrows ⟨V, false, y2⟩) ⟨VH, false, y4⟩) ⟨VL, false, y3⟩) ⟨_, false, d2⟩) ((Fr.sI (by decide)).trans ((Fr.sI (by decide)).trans (b6.mono (by decide) (by decide) (by decide)))) (by rw [rws_same]; exact d2) (.inl b7) (by omega) (by omega) hform rfl (by omega) (by omega) b10 (by rw [b6.2.1 5 (by decide), mI_smI])
            rw [k1, k2]
            exact ⟨v, c', m', rfl, rfl, k3, by rw [k4, b6.2.1 0 (by decide), mI_smI_ne (by decide), mI_smI]⟩
      refine ag_yes (v := v.toInt64) (m' := m') (c' := c') ?_ ?_ h0 hI2
      · unfold mo_shortest; rw [hM]; rfl
      · unfold cl_shortest; rw [hC]; rfl
