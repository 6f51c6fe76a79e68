/-! a text read -/
def RdOk (c : CS) (m : MS) (f way : Nat) (F : Int32) (S : Int32 × Int32 × Int32 × Int32 × Int32 × Int32 × Int32 × Int32) (o : Option (Int32 × MS)) : Prop := ∃ m', Fr [3, 4, 5, 6, 7] [0, 7, 8, 9, 10, 11, 12, 13] [1, 2] m m' ∧ mI m' 0 = 0 ∧ ((F ≠ -1 ∧ o = some (-1 - F, m')) ∨ (F = -1 ∧ o = some (0, f_X7_keep m') ∧ ∃ w r neg, f_X6_roundScanned f (Int32.ofNat way) (scs c S) = some (Cs (srws (scs c S) 0 w) f neg r) ∧ Rw w ∧ mJ m' 2 = sgn f neg r.1 ∧ mI m' 11 = Int32.ofNat r.2))
theorem j276_n {m' : MS} {F : Int32} (h : mI m' 13 = F) (hF : F ≠ -1) : f_X7_read_J276 m' = some (-1 - F, m') := by
  unfold f_X7_read_J276
  rw [h, if_neg hF]
theorem j276_y {m' : MS} (h : mI m' 13 = -1) : f_X7_read_J276 m' = some (0, f_X7_keep m') := by
  unfold f_X7_read_J276
  rw [h, if_pos rfl]; rfl
theorem rd_dec {c : CS} {m m0 : MS} {t : Nat → Int32} {n p f way : Nat} {neg : Bool} (hT : Tx c m t n) (hr : Rw (rws c 0)) (hf : f < 4) (hw : way < 5) (hp : p ≤ n) {a2 a3 a4 a5 a6 a7 : Int32} (hA : mA m0 0 = mA m 0) (h1 : mI m0 1 = mI m 1) (h12 : mI m0 12 = nI p) (h13 : mI m0 13 = -1) (h0 : mI m0 0 = 0) (hF0 : Fr [3, 4, 5, 6, 7] [0, 7, 8, 9, 10, 11, 12, 13] [1, 2] m m0) : ∃ F S, f_X5_faultOfNumber 0 (nI p) 10 101 (scs c (0, nb neg, a2, a3, a4, a5, a6, a7)) = some (F, scs c S) ∧ RdOk c m f way F S (f_X7_read_J230 (Int32.ofNat f) (Int32.ofNat way) (nb neg) m0) := by
  obtain ⟨F, S, xb, xr, m', s1, s2, s3, s4, s5⟩ := num_same (neg := neg) (k := 0) (ll := 101) (a2 := a2) (a3 := a3) (a4 := a4) (a5 := a5) (a6 := a6) (a7 := a7) hT (.inl rfl) hp (show (10 : Int32).toInt = ((10 : Nat) : Int) by decide) (by decide) hA h1 h12 h13
  have hF1 := hF0.trans (s4.mono (by decide) (by decide) (by decide))
  have h0' : mI m' 0 = 0 := by rw [s4.2.1 0 (by decide)]; exact h0
  refine ⟨F, S, s1, ?_⟩
  have e := s2 (fun xb xr m' => f_X7_read_J254 (Int32.ofNat f) (Int32.ofNat way) (nb neg) xb xr m')
  have e2 : f_X7_read_J230 (Int32.ofNat f) (Int32.ofNat way) (nb neg) m0 = f_X7_read_J254 (Int32.ofNat f) (Int32.ofNat way) (nb neg) xb xr m' := e
  rw [e2]
  unfold f_X7_read_J254
  rw [s3]
  by_cases hF : F = -1
  · rw [if_pos hF]
    obtain ⟨w, r, m'', d1, d2, d3, d4⟩ := dec_fin hT hr hf hw (s5 hF)
    rw [d3]
    have i13 : mI m'' 13 = -1 := by rw [d4.1.2.1 13 (by decide), s3]; exact hF
    refine ⟨m'', hF1.trans (d4.1.mono (by decide) (by decide) (by decide)), by rw [d4.1.2.1 0 (by decide)]; exact h0', .inr ⟨hF, ?_, w, r, neg, d1, d2, d4.2.1, d4.2.2⟩⟩
    exact j276_y i13
  · rw [if_neg hF]
    exact ⟨m', hF1, h0', .inl ⟨hF, j276_n s3 hF⟩⟩
theorem rd_hex {c : CS} {m m0 : MS} {t : Nat → Int32} {n p f way : Nat} {neg : Bool} (hT : Tx c m t n) (hr : Rw (rws c 0)) (hf : f < 4) (hw : way < 5) (hp : p ≤ n) {a2 a3 a4 a5 a6 a7 : Int32} (hA : mA m0 0 = mA m 0) (h1 : mI m0 1 = mI m 1) (h12 : mI m0 12 = nI p) (h13 : mI m0 13 = -1) (h0 : mI m0 0 = 0) (hF0 : Fr [3, 4, 5, 6, 7] [0, 7, 8, 9, 10, 11, 12, 13] [1, 2] m m0) : ∃ F S, f_X5_faultOfNumber 0 (nI p) 16 112 (scs c (1, nb neg, a2, a3, a4, a5, a6, a7)) = some (F, scs c S) ∧ RdOk c m f way F S (Option.bind (f_X7_takeFigures 16 m0) fun v_17 => if v_17.1 = (-1) then f_X7_read_J158 (Int32.ofNat f) (Int32.ofNat way) (nb neg) v_17.1 0 v_17.2 else Option.bind (f_X7_takeExponent 112 v_17.2) fun v_18 => f_X7_read_J158 (Int32.ofNat f) (Int32.ofNat way) (nb neg) v_17.1 v_18.1 v_18.2) := by
  obtain ⟨F, S, xb, xr, m', s1, s2, s3, s4, s5⟩ := num_same (neg := neg) (k := 1) (ll := 112) (a2 := a2) (a3 := a3) (a4 := a4) (a5 := a5) (a6 := a6) (a7 := a7) hT (.inr rfl) hp (show (16 : Int32).toInt = ((16 : Nat) : Int) by decide) (by decide) hA h1 h12 h13
  have hF1 := hF0.trans (s4.mono (by decide) (by decide) (by decide))
  have h0' : mI m' 0 = 0 := by rw [s4.2.1 0 (by decide)]; exact h0
  refine ⟨F, S, s1, ?_⟩
  have e := s2 (fun xb xr m' => f_X7_read_J158 (Int32.ofNat f) (Int32.ofNat way) (nb neg) xb xr m')
  rw [e]
  show RdOk c m f way F S (f_X7_read_J158 (Int32.ofNat f) (Int32.ofNat way) (nb neg) xb xr m')
  unfold f_X7_read_J158
  rw [s3]
  by_cases hF : F = -1
  · rw [if_pos hF]
    obtain ⟨r, v0, m1, m'', d1, d2, d3, d4, d5⟩ := hex_fin (x1 := Int32.ofNat f) (x2 := Int32.ofNat way) (x3 := nb neg) (x5 := xb) (x6 := xr) hT hf hw (s5 hF)
    rw [d2]
    show RdOk c m f way F S (Option.bind (Lp (fun a => f_X7_read_L178 (Int32.ofNat f) (Int32.ofNat way) (nb neg) xb xr a.1 a.2) (0, smA m' 3 v0)) _)
    rw [d3]
    show RdOk c m f way F S (Option.bind (f_X7_roundBinary (Int32.ofNat f) (nb neg) (xr.toInt64 - 4 * xb.toInt64) (Int32.ofNat way) m1) _)
    rw [d4]
    have i13 : mI m'' 13 = -1 := by rw [d5.1.2.1 13 (by decide), s3]; exact hF
    refine ⟨m'', hF1.trans (d5.1.mono (by decide) (by decide) (by decide)), by rw [d5.1.2.1 0 (by decide)]; exact h0', .inr ⟨hF, ?_, rws (scs c S) 0, r, neg, by rw [srws_self]; exact d1, hr, d5.2.1, d5.2.2⟩⟩
    exact j276_y i13
  · rw [if_neg hF]
    exact ⟨m', hF1, h0', .inl ⟨hF, j276_n s3 hF⟩⟩
theorem rd_wd {c : CS} {m m0 m' : MS} {f way v : Nat} {neg : Bool} {F : Int32} {S : Int32 × Int32 × Int32 × Int32 × Int32 × Int32 × Int32 × Int32} (hr : Rw (rws c 0)) (h0 : mI m0 0 = 0) (hF0 : Fr [3, 4, 5, 6, 7] [0, 7, 8, 9, 10, 11, 12, 13] [1, 2] m m0) (hW : WdR f neg v F m0 m') (hm : f_X7_readWord (Int32.ofNat f) (nb neg) m0 = some m') (hc : f_X6_roundScanned f (Int32.ofNat way) (scs c S) = some (Cs (scs c S) f neg (v, 0))) : RdOk c m f way F S (f_X7_read_J76 (Int32.ofNat f) (nb neg) m0) := by
  obtain ⟨w1, w2, w3⟩ := hW
  have hF1 := hF0.trans (w2.mono (by decide) (by decide) (by decide))
  have h0' : mI m' 0 = 0 := by rw [w2.2.1 0 (by decide)]; exact h0
  unfold f_X7_read_J76
  rw [hm]
  show RdOk c m f way F S (f_X7_read_J276 m')
  by_cases hF : F = -1
  · obtain ⟨y1, y2⟩ := w3 hF
    refine ⟨m', hF1, h0', .inr ⟨hF, j276_y (by rw [w1]; exact hF), rws (scs c S) 0, (v, 0), neg, by rw [srws_self]; exact hc, hr, y1, y2⟩⟩
  · exact ⟨m', hF1, h0', .inl ⟨hF, j276_n w1 hF⟩⟩
theorem rs_inf {c : CS} {f : Nat} (hf : f < 4) {neg : Bool} {x a2 a3 a4 a5 a6 a7 : Int32} : f_X6_roundScanned f x (scs c (2, nb neg, a2, a3, a4, a5, a6, a7)) = some (Cs (scs c (2, nb neg, a2, a3, a4, a5, a6, a7)) f neg (inf f, 0)) := by
  have s0 : sc0 (scs c (2, nb neg, a2, a3, a4, a5, a6, a7)) = 2 := rfl
  have s1 : sc1 (scs c (2, nb neg, a2, a3, a4, a5, a6, a7)) = nb neg := rfl
  unfold f_X6_roundScanned
  rw [s0, if_pos rfl, s1, inf64 hf, signed_eq]; rfl
theorem rs_nan {c : CS} {f : Nat} (hf : f < 4) {neg : Bool} {x a2 a3 a4 a5 a6 a7 : Int32} : f_X6_roundScanned f x (scs c (3, nb neg, a2, a3, a4, a5, a6, a7)) = some (Cs (scs c (3, nb neg, a2, a3, a4, a5, a6, a7)) f neg (inf f + 2 ^ (pr f - 2), 0)) := by
  have s0 : sc0 (scs c (3, nb neg, a2, a3, a4, a5, a6, a7)) = 3 := rfl
  have s1 : sc1 (scs c (3, nb neg, a2, a3, a4, a5, a6, a7)) = nb neg := rfl
  unfold f_X6_roundScanned
  rw [s0, if_neg (show ¬ (3 : Int32) = 2 by decide), if_pos rfl, s1, nan64 f hf, signed_eq]; rfl
theorem fault_c {c : CS} {m : MS} {t : Nat → Int32} {n : Nat} (hT : Tx c m t n) {b0 b1 b2 b3 b4 b5 b6 b7 : Int32} (hb : c.2.2.1 = (b0, b1, b2, b3, b4, b5, b6, b7)) : f_X5_faultOf 0 c = f_X5_faultOf_J22 0 (nI (sg t 0)) (nb (decide (t 0 = 45))) (scs c (b0, b1, b2, b3, b4, b5, b6, b7)) := by
  have hc : scs c (b0, b1, b2, b3, b4, b5, b6, b7) = c := by rw [← hb]; rfl
  have hs := c_sign (i := 0) (S := (b0, b1, b2, b3, b4, b5, b6, b7)) hT (by decide)
  rw [hc, Nat.zero_add] at hs
  have hat : f_X0_at 0 0 c = t 0 := hT.atc (i := 0) (by decide)
  rw [hc]
  change f_X5_behindSign 0 0 c = _ at hs
  unfold f_X5_faultOf
  simp only [lt]
  rw [hs, hat]
  by_cases h : t 0 = 45
  · rw [if_pos h, decide_eq_true h]; rfl
  · rw [if_neg h, decide_eq_false h]; rfl
theorem read_all {c : CS} {m : MS} {f way : Nat} (h : Iv c m) (hf : f < 4) (hw : way < 5) : ∃ F S, f_X5_faultOf 0 c = some (F, scs c S) ∧ RdOk c m f way F S (f_X7_read_J30 (Int32.ofNat f) (Int32.ofNat way) 1 m) := by
  obtain ⟨t, n, hT⟩ := tx_ex h.1
  have hr : Rw (rws c 0) := h.2.2.2.2 0 (by decide)
  have hT' := hT
  obtain ⟨g1, g2, g3, g4, g5, g6⟩ := hT'
  obtain ⟨⟨b0, b1, b2, b3, b4, b5, b6, b7⟩, hb⟩ : ∃ S, c.2.2.1 = S := ⟨_, rfl⟩
  rw [fault_c hT hb]
  have hp : sg t 0 ≤ n := by
    unfold sg
    rcases Nat.eq_zero_or_pos n with x | x
    · rw [g5 0 (by omega), if_neg (by decide)]; omega
    · split <;> omega
  have hms := m_sign (m0 := smI (smI (smI m 0 0) 12 0) 13 (-1)) (i := 0) hT rfl (by rw [mI_smI_ne (by decide), mI_smI_ne (by decide), mI_smI_ne (by decide)]) (by rw [mI_smI_ne (by decide), mI_smI]; rfl) (by decide)
  rw [Nat.zero_add] at hms
  unfold f_X7_read_J30
  rw [refuse1]
  simp only [lt, if_true]
  rw [hms]
  generalize hneg : decide (t 0 = 45) = neg
  generalize hpp : sg t 0 = p at *
  generalize hm4 : smI (smI (smI (smI m 0 0) 12 0) 13 (-1)) 12 (nI p) = m4
  have iA : mA m4 0 = mA m 0 := by rw [← hm4]; rfl
  have i1 : mI m4 1 = mI m 1 := by rw [← hm4, mI_smI_ne (by decide), mI_smI_ne (by decide), mI_smI_ne (by decide), mI_smI_ne (by decide)]
  have i12 : mI m4 12 = nI p := by rw [← hm4, mI_smI]
  have i13 : mI m4 13 = -1 := by rw [← hm4, mI_smI_ne (by decide), mI_smI]
  have i0 : mI m4 0 = 0 := by rw [← hm4, mI_smI_ne (by decide), mI_smI_ne (by decide), mI_smI_ne (by decide), mI_smI]
  have hF4 : Fr [3, 4, 5, 6, 7] [0, 7, 8, 9, 10, 11, 12, 13] [1, 2] m m4 := by rw [← hm4]; exact (Fr.sI (by decide)).trans ((Fr.sI (by decide)).trans ((Fr.sI (by decide)).trans (Fr.sI (by decide))))
  have hpk := hT.pk iA i1 i12 (by omega)
  have hat : f_X0_at 0 (nI p) c = t p := hT.atc (nI_toInt (by omega))
  have hat1 : f_X0_at 0 (nI (p + 1)) c = t (p + 1) := hT.atc (nI_toInt (by omega))
  have e1 : nI p + 1 = nI (p + 1) := nI_inc (by omega)
  have e2 : nI p + 2 = nI (p + 2) := nIeq (by
    have two : (2 : Int32).toInt = 2 := by decide
    rw [ia (by rw [nI_toInt (by omega), two]; omega) (by rw [nI_toInt (by omega), two]; omega), nI_toInt (by omega), two]; omega) (by omega)
  show ∃ F S, _ ∧ RdOk c m f way F S (Option.bind (f_X7_peek m4) _)
  rw [hpk]
  unfold f_X5_faultOf_J22
  rw [if_pos (show nb neg = 0 ∨ nb neg = 1 by cases neg; exact .inl rfl; exact .inr rfl)]
  have ec1 : ssc1 (scs c (b0, b1, b2, b3, b4, b5, b6, b7)) (nb neg) = scs c (b0, nb neg, b2, b3, b4, b5, b6, b7) := rfl
  simp only [lt]
  rw [ec1, scs_at, scs_at, hat, sm_eq (g6 p).1 (g6 p).2, e1, hat1, sm_eq (g6 (p + 1)).1 (g6 (p + 1)).2, e2]
  have ec0 : ∀ k : Int32, ssc0 (scs c (b0, nb neg, b2, b3, b4, b5, b6, b7)) k = scs c (k, nb neg, b2, b3, b4, b5, b6, b7) := fun k => rfl
  rw [ec0 3, ec0 2, ec0 1]
  show ∃ F S, _ ∧ RdOk c m f way F S (if f_X7_small (t p) = 105 then f_X7_read_J76 (Int32.ofNat f) (nb neg) m4 else if f_X7_small (t p) = 110 then f_X7_read_J76 (Int32.ofNat f) (nb neg) m4 else if f_X7_small (t p) = 48 then if mI m4 1 ≤ mI m4 12 + 1 then f_X7_read_J230 (Int32.ofNat f) (Int32.ofNat way) (nb neg) m4 else if vI (mI m4 12 + 1) (mLen 0) then if f_X7_small (mA m4 0 (mI m4 12 + 1).toNatClampNeg) = 120 then (Option.bind (f_X7_takeFigures 16 (smI m4 12 (mI m4 12 + 2))) fun v_17 => if v_17.1 = (-1) then f_X7_read_J158 (Int32.ofNat f) (Int32.ofNat way) (nb neg) v_17.1 0 v_17.2 else Option.bind (f_X7_takeExponent 112 v_17.2) fun v_18 => f_X7_read_J158 (Int32.ofNat f) (Int32.ofNat way) (nb neg) v_17.1 v_18.1 v_18.2) else f_X7_read_J230 (Int32.ofNat f) (Int32.ofNat way) (nb neg) m4 else none else f_X7_read_J230 (Int32.ofNat f) (Int32.ofNat way) (nb neg) m4)
  have dec : ∃ F S, f_X5_faultOf_J113 0 (nI p) (scs c (b0, nb neg, b2, b3, b4, b5, b6, b7)) = some (F, scs c S) ∧ RdOk c m f way F S (f_X7_read_J230 (Int32.ofNat f) (Int32.ofNat way) (nb neg) m4) := by
    obtain ⟨F, S, y1, y2⟩ := rd_dec (neg := neg) (m0 := m4) (a2 := b2) (a3 := b3) (a4 := b4) (a5 := b5) (a6 := b6) (a7 := b7) hT hr hf hw hp iA i1 i12 i13 i0 hF4
    refine ⟨F, S, ?_, y2⟩
    unfold f_X5_faultOf_J113
    simp only [lt]
    rw [ec0 0, y1]; rfl
  by_cases x1 : f_X7_small (t p) = 110
  · rw [if_pos x1, if_neg (show ¬ f_X7_small (t p) = 105 by rw [x1]; decide), if_pos x1]
    obtain ⟨m', y1, y2⟩ := mw_nan (neg := neg) hf hT iA i1 hp i12 i13 x1
    have hcw := cwd (j := 3) (S := (3, nb neg, b2, b3, b4, b5, b6, b7)) hT hp (by decide)
    rw [hcw]
    exact ⟨wF t n p 3 3, _, rfl, rd_wd hr i0 hF4 y2 y1 (rs_nan hf)⟩
  · rw [if_neg x1]
    by_cases x2 : f_X7_small (t p) = 105
    · rw [if_pos x2, if_pos x2]
      obtain ⟨m', y1, y2⟩ := mw_inf (neg := neg) hf hT iA i1 hp i12 i13 x1
      have hcw := cwd (j := 4) (S := (2, nb neg, b2, b3, b4, b5, b6, b7)) hT hp (by decide)
      rw [hcw]
      exact ⟨wF t n p 2 4, _, rfl, rd_wd hr i0 hF4 y2 y1 (rs_inf hf)⟩
    · rw [if_neg x2, if_neg x2, if_neg x1]
      by_cases x3 : f_X7_small (t p) = 48
      · rw [if_pos x3, if_pos x3, i1, i12, g3, e1, e2]
        by_cases x4 : n ≤ p + 1
        · rw [if_pos ((cle2 (by omega) (by omega)).mpr x4), if_neg (by rw [g5 (p + 1) x4]; decide)]
          exact dec
        · rw [if_neg (fun x => x4 ((cle2 (by omega) (by omega)).mp x)), if_pos ((vIn (by omega)).mpr (by show p + 1 < 1600; omega)), nI_clamp (show p + 1 < 2 ^ 31 by omega), iA, (g4 (p + 1) (by omega)).2]
          by_cases x5 : f_X7_small (t (p + 1)) = 120
          · rw [if_pos x5, if_pos x5]
            obtain ⟨F, S, y1, y2⟩ := rd_hex (neg := neg) (m := m) (m0 := smI m4 12 (nI (p + 2))) (p := p + 2) (a2 := b2) (a3 := b3) (a4 := b4) (a5 := b5) (a6 := b6) (a7 := b7) hT hr hf hw (by omega) iA (by rw [mI_smI_ne (by decide)]; exact i1) mI_smI (by rw [mI_smI_ne (by decide)]; exact i13) (by rw [mI_smI_ne (by decide)]; exact i0) (hF4.trans (Fr.sI (by decide)))
            rw [y1]
            exact ⟨F, S, rfl, y2⟩
          · rw [if_neg x5, if_neg x5]
            exact dec
      · rw [if_neg x3, if_neg x3]
        exact dec
theorem ag_read (x1 x2 : Int32) : Agr Iv (cl_read x1 x2) (mo_read x1 x2) := by
  intro c m h
  rcases a_shape x1 with ⟨h1, h2⟩ | ⟨f, hf, rfl, h1, h2⟩
  · refine ag_no (v := 0) h ?_ ?_
    · unfold mo_read f_X7_read f_X7_read_J30; rw [h2, if_pos rfl]; rfl
    · unfold cl_read f_X6_read; rw [h1]; rfl
  · rcases a_way x2 with ⟨k1, k2⟩ | ⟨way, hw, rfl, k1, k2⟩
    · refine ag_no (v := 0) h ?_ ?_
      · unfold mo_read f_X7_read f_X7_read_J30; rw [h2, if_neg (by decide), k2, if_pos rfl]; rfl
      · unfold cl_read f_X6_read; rw [h1, tbd_r, k1]; rfl
    · obtain ⟨F, S, r1, m', r2, r3, r4⟩ := read_all h hf hw
      have hIv : Iv (scs c S) m := h.co rfl rfl rfl h.2.2.2.2
      have eC : f_X6_read (Int32.ofNat f) (Int32.ofNat way) c = if F = -1 then (Option.bind (f_X6_roundScanned f (Int32.ofNat way) (scs c S)) fun v_4 => some (.inr ((0 : Int32), (f_X6_keepResult v_4).2))) else some (.inr (-1 - F, scs c S)) := by
        unfold f_X6_read
        rw [h1, tbd_r, k1, tbd_r, r1]; rfl
      have eM : f_X7_read (Int32.ofNat f) (Int32.ofNat way) m = f_X7_read_J30 (Int32.ofNat f) (Int32.ofNat way) 1 m := by
        unfold f_X7_read
        rw [h2, if_neg (by decide), k2, if_neg (by decide)]
      rcases r4 with ⟨hF, ho⟩ | ⟨hF, ho, w, r, neg, s1, s2, s3, s4⟩
      · refine ag_yes (v := (-1 - F).toInt64) (m' := m') (c' := scs c S) ?_ ?_ r3 (hIv.mo r2)
        · unfold mo_read; rw [eM, ho]; rfl
        · unfold cl_read; rw [eC, if_neg hF]; rfl
      · have hIv2 : Iv (srws (scs c S) 0 w) m := hIv.row s2
        obtain ⟨z1, z2, z3⟩ := hIv2.keep r2 s3 s4
        refine ag_yes (v := (0 : Int32).toInt64) (m' := f_X7_keep m') (c' := (f_X6_keepResult (Cs (srws (scs c S) 0 w) f neg r)).2) ?_ ?_ (by rw [z3]; exact r3) z2
        · unfold mo_read; rw [eM, ho]; rfl
        · unfold cl_read; rw [eC, if_pos hF, s1]; rfl
