theorem cand_o {c : CS} {f s U NU : Nat} {neg : Bool} (hf : f < 4) (hs0 : 0 < s) (hs : s < inf f) (h : RIs (rws c 3) U false) (hU : Dn U NU) (h1 : 720 ≤ NU) (h2 : NU < 1400) : ∃ w r b, f_X6_candidateReads f (sgn f neg s) c = some (nb b, Cs (srws c 3 w) f neg r) ∧ Rw w ∧ (b = true ↔ LoOk U GG (wh f s) (un f s) (nrb f s) ∧ HiOk U GG (wh f s) (un f s)) := by
  have hsb := fin_sb hf hs
  have hb := sb_eq f hf
  have fl : Fl (U * GG) GG U false := ⟨Nat.le_refl _, by rw [Nat.add_mul]; have := GG_pos; omega, by simp⟩
  obtain ⟨w, V', s', q, hh, e, g1, g2, g3⟩ := rrow_spec (c := c) (r := 3) (neg := neg) (way := 0) (A := U) (B := GG) hf (by decide) h (dn_pos hU) hU h1 h2 fl
  have g1' : f_X6_roundRow 3 f (nb neg) 0 c = some (Cs (srws c 3 w) f neg (RO f neg 0 q hh e)) := g1
  have hit := near_iff (neg := neg) hf hs0 hs GG_pos g3
  have hlt := ro_lt (f := f) (neg := neg) (way := 0) (q := q) (h := hh) (e := e)
  refine ⟨w, RO f neg 0 q hh e, decide ((RO f neg 0 q hh e).1 = s), ?_, ⟨V', s', g2⟩, by rw [decide_eq_true_iff]; exact hit⟩
  unfold f_X6_candidateReads
  rw [sgn_minus hf hsb, g1']; simp only [Option.bind]
  have e1 : rdP (Cs (srws c 3 w) f neg (RO f neg 0 q hh e)) = sgn f neg (RO f neg 0 q hh e).1 := rfl
  rw [e1]
  by_cases hr : (RO f neg 0 q hh e).1 = s
  · rw [if_pos (by rw [hr]), decide_eq_true hr]; rfl
  · rw [if_neg (fun x => hr (sgn_inj hf (by omega) hsb x).2), decide_eq_false hr]; rfl
theorem dn_lo {V N k : Nat} (hN : Dn V N) (hk : k < N) : Dn (V / 10 ^ k * 10 ^ k) N := by
  have hp : 0 < 10 ^ k := Nat.pow_pos (by decide)
  refine ⟨hN.1, ?_, Nat.lt_of_le_of_lt (Nat.div_mul_le_self _ _) hN.2.2⟩
  have e : 10 ^ (N - 1) = 10 ^ (N - 1 - k) * 10 ^ k := by rw [← Nat.pow_add, show N - 1 - k + k = N - 1 by omega]
  rw [e]
  refine Nat.mul_le_mul_right _ ?_
  rw [Nat.le_div_iff_mul_le hp, ← e]
  exact hN.2.1
theorem dn_hi2 {V N k : Nat} (hN : Dn V N) (hk : k < N) : ∃ N', Dn ((V / 10 ^ k + 1) * 10 ^ k) N' ∧ N ≤ N' ∧ N' ≤ N + 1 := by
  have hp : 0 < 10 ^ k := Nat.pow_pos (by decide)
  have h1 := dn_lo hN hk
  have hle : (V / 10 ^ k + 1) * 10 ^ k ≤ 10 ^ N := by
    have e : 10 ^ N = 10 ^ (N - k) * 10 ^ k := by rw [← Nat.pow_add, show N - k + k = N by omega]
    rw [e]
    refine Nat.mul_le_mul_right _ ?_
    have : V / 10 ^ k < 10 ^ (N - k) := by rw [Nat.div_lt_iff_lt_mul hp, ← e]; exact hN.2.2
    exact this
  have hge : 10 ^ (N - 1) ≤ (V / 10 ^ k + 1) * 10 ^ k := by
    rw [Nat.add_mul]; exact Nat.le_trans h1.2.1 (Nat.le_add_right _ _)
  rcases Nat.lt_or_ge ((V / 10 ^ k + 1) * 10 ^ k) (10 ^ N) with q | q
  · exact ⟨N, ⟨hN.1, hge, q⟩, Nat.le_refl _, by omega⟩
  · refine ⟨N + 1, ⟨by omega, by rw [Nat.add_sub_cancel]; exact q, Nat.lt_of_le_of_lt hle (Nat.pow_lt_pow_right (by decide) (by omega))⟩, by omega, Nat.le_refl _⟩
theorem bC_reads {f s V VL VH N k : Nat} (h : SH f s V VL VH N) (hf : (lR V VL (evn f s) k || gR V VH (evn f s) k) = true) : LoOk ((V / 10 ^ k + ubi (bC V VL VH (evn f s) k)) * 10 ^ k) GG (wh f s) (un f s) (nrb f s) ∧ HiOk ((V / 10 ^ k + ubi (bC V VL VH (evn f s) k)) * 10 ^ k) GG (wh f s) (un f s) := by
  cases hb : bC V VL VH (evn f s) k
  · rw [show V / 10 ^ k + ubi false = V / 10 ^ k from rfl]
    refine (lR_iff h).mp ?_
    unfold bC at hb
    cases hl : lR V VL (evn f s) k
    · rw [hl] at hb hf
      cases hg : gR V VH (evn f s) k
      · rw [hg] at hf; cases hf
      · rw [hg] at hb; cases hb
    · rfl
  · rw [show V / 10 ^ k + ubi true = V / 10 ^ k + 1 from rfl]
    refine (gR_iff h).mp ?_
    unfold bC at hb
    cases hg : gR V VH (evn f s) k
    · rw [hg] at hb hf
      cases hl : lR V VL (evn f s) k
      · rw [hl] at hf; cases hf
      · rw [hl] at hb; cases hb
    · rfl
theorem dn_b {V N k : Nat} {b : Bool} (hN : Dn V N) (hk : k < N) : ∃ N', Dn ((V / 10 ^ k + ubi b) * 10 ^ k) N' ∧ N ≤ N' ∧ N' ≤ N + 1 := by
  cases b
  · exact ⟨N, dn_lo hN hk, Nat.le_refl _, by omega⟩
  · exact dn_hi2 hN hk
theorem rws_Cs {c : CS} {f r : Nat} {neg : Bool} {v : Nat × Nat} : rws (Cs c f neg v) r = rws c r := rfl
theorem Cs_Cs {c : CS} {f : Nat} {neg : Bool} {v w : Nat × Nat} : Cs (Cs c f neg v) f neg w = Cs c f neg w := rfl
theorem ag_holds (x1 : Int32) (x2 : Int64) : Agr Iv (cl_holds x1 x2) (mo_holds x1 x2) := by
  intro c m h
  rcases a_own x1 x2 with ⟨h1, h2⟩ | ⟨f, neg, s, hf, rfl, hs, rfl, h1, h2⟩
  · refine ag_no (v := 0) h ?_ ?_
    · unfold mo_holds f_X7_holds; rw [h2, if_pos rfl]; rfl
    · unfold cl_holds f_X6_holds; rw [h1]; rfl
  · by_cases z1 : inf f ≤ s
    · refine ag_no (v := 0) h ?_ ?_
      · unfold mo_holds f_X7_holds; rw [h2, if_neg n10, x_fin hf, s_fin hf hs, if_pos z1, if_pos rfl]; rfl
      · unfold cl_holds f_X6_holds f_X6_needFinite; rw [h1, tbd_r, s_fin hf hs, if_pos z1, if_pos rfl]; rfl
    · have hsi : s < inf f := by omega
      by_cases z2 : s = 0
      · refine ag_no (v := 0) h ?_ ?_
        · unfold mo_holds f_X7_holds
          rw [h2, if_neg n10, x_fin hf, s_fin hf hs, if_neg z1, if_neg n10, x_size hf, sgn_size hf hs, if_pos (by rw [z2]; rfl)]; rfl
        · unfold cl_holds f_X6_holds f_X6_needFinite
          rw [h1, tbd_r, s_fin hf hs, if_neg z1, if_neg n10, tbd_r, s_zero hf hs, if_pos z2, if_neg n10]; rfl
      · have hz : ¬ (L64 s = 0) := fun q => z2 ((L64_z hf hs).mp q)
        obtain ⟨c', hC, hI2⟩ : ∃ c', f_X6_holds (Int32.ofNat f) (sgn f neg s) c = some (.inr (1, c')) ∧ Iv c' (smI m 0 0) := by
          unfold f_X6_holds f_X6_needFinite
          rw [h1, tbd_r, s_fin hf hs, if_neg z1, if_neg n10, tbd_r, s_zero hf hs, if_neg z2, if_pos rfl]
          have hI := h.thr (v := 0)
          obtain ⟨w0, w1, w2, V, VL, VH, N, y1, y2, y3, y4, y5, y6, y7⟩ := cfs_o (c := c) (neg := neg) hf hsi z2 h.2.2.2.2
          obtain ⟨i0, m3, Nc, Z, b1, b2, b3, b4, -, -, b7, b8, b9, -⟩ := mfs_o (m := m) hf y7 hsi z2 y5 y6
          obtain ⟨w3, d1, d2⟩ := cfs_run (c := c) y7 (h.2.2.2.2 3 (by decide)) y2 y3 y4 b1 b2 b3 b4
          have y7' := y7
          obtain ⟨k1, -, k3, k4, k5, -⟩ := y7'
          rw [y1, d1]
          simp only [Option.bind]
          generalize hc1 : srws (srws (srws c 0 w0) 2 w2) 1 w1 = c1 at *
          have hI1 : Iv c1 (smI m 0 0) := by rw [← hc1]; exact ((hI.row ⟨V, false, y2⟩).row ⟨VH, false, y4⟩).row ⟨VL, false, y3⟩
          have hr0 : RIs (rws c1 0) V false := by rw [← hc1, rws_ne (by decide), rws_ne (by decide), rws_same]; exact y2
          obtain ⟨N', n1, n2, n3⟩ := dn_b (b := bC V VL VH (evn f s) (N - i0)) k3 (show N - i0 < N by omega)
          obtain ⟨w4, r4, t4, e1, e2, e3⟩ := cand_o (c := srws c1 3 w3) (neg := neg) hf k1 hsi (by rw [rws_same]; exact d2) n1 (by omega) (by omega)
          have ht4 : t4 = true := e3.mpr (bC_reads y7 b3)
          rw [ht4, srws_srws] at e1
          rw [e1]
          simp only
          rw [if_neg (show ¬ nb true = 0 by decide)]
          have one : (1 : Int32).toInt = 1 := by decide
          by_cases hi1 : i0 = 1
          · rw [if_pos (show nI i0 = 1 by rw [hi1]; rfl)]
            exact ⟨_, rfl, (hI1.row e2).cs⟩
          · rw [if_neg (fun q => hi1 (by rw [show (1 : Int32) = nI 1 from rfl, nI_inj (by omega) (by omega)] at q; exact q))]
            have hno := b4 (i0 - 1) (by omega) (by omega)
            unfold fnd at hno
            rw [Bool.or_eq_false_iff] at hno
            have hr0' : RIs (rws (Cs (srws c1 3 w4) f neg r4) 0) V false := by rw [rws_Cs, rws_ne (by decide)]; exact hr0
            obtain ⟨xp, p1, p2', -, -⟩ := point_q hr0' (.inl k3)
            rw [p1]
            simp only [lt]
            have hi : (nI i0).toInt = i0 := nI_toInt (by omega)
            have hx : (xp - nI i0 + 1).toInt = ((N - (i0 - 1) : Nat) : Int) - 1080 := by
              have e1 : (xp - nI i0).toInt = (N : Int) - 1080 - i0 := by rw [is_ (by omega) (by omega), p2', hi]
              rw [ia (by omega) (by omega), e1, one]; omega
            generalize xp - nI i0 + 1 = x6 at hx ⊢
            have hkp : kp x6.toInt = N - (i0 - 1) := by unfold kp; omega
            obtain ⟨V4, s4, hr4⟩ := e2
            obtain ⟨w5, f1, f2⟩ := take_spec (c := Cs (srws c1 3 w4) f neg r4) (r0 := 3) (r1 := 0) (by decide) hr0' (V0 := V4) (s0 := s4) (by rw [rws_Cs, rws_same]; exact hr4) (x := x6) (by omega) (by omega)
            rw [hkp] at f2
            rw [f1]
            simp only
            have hst5 : srws (Cs (srws c1 3 w4) f neg r4) 3 w5 = Cs (srws c1 3 w5) f neg r4 := by
              have : srws (Cs (srws c1 3 w4) f neg r4) 3 w5 = Cs (srws (srws c1 3 w4) 3 w5) f neg r4 := rfl
              rw [this, srws_srws]
            rw [hst5]
            obtain ⟨w6, r6, t6, u1, u2, u3⟩ := cand_o (c := Cs (srws c1 3 w5) f neg r4) (neg := neg) hf k1 hsi (by rw [rws_Cs, rws_same]; exact f2) (dn_lo k3 (show N - (i0 - 1) < N by omega)) (by omega) (by omega)
            have ht6 : t6 = false := by
              cases hq : t6
              · rfl
              · have := (lR_iff y7).mpr (u3.mp hq)
                rw [hno.1] at this; cases this
            have hst6 : Cs (srws (Cs (srws c1 3 w5) f neg r4) 3 w6) f neg r6 = Cs (srws c1 3 w6) f neg r6 := by
              have : Cs (srws (Cs (srws c1 3 w5) f neg r4) 3 w6) f neg r6 = Cs (srws (srws c1 3 w5) 3 w6) f neg r6 := rfl
              rw [this, srws_srws]
            rw [ht6, hst6] at u1
            rw [u1]
            simp only
            rw [if_pos (show nb false = 0 from rfl)]
            obtain ⟨V6, s6, hr6⟩ := u2
            have hr0'' : RIs (rws (Cs (srws c1 3 w6) f neg r6) 0) V false := by rw [rws_Cs, rws_ne (by decide)]; exact hr0
            obtain ⟨w7, f3, f4⟩ := take_spec (c := Cs (srws c1 3 w6) f neg r6) (r0 := 3) (r1 := 0) (by decide) hr0'' (V0 := V6) (s0 := s6) (by rw [rws_Cs, rws_same]; exact hr6) (x := x6) (by omega) (by omega)
            rw [hkp] at f4
            rw [f3]
            simp only
            have hst7 : srws (Cs (srws c1 3 w6) f neg r6) 3 w7 = Cs (srws c1 3 w7) f neg r6 := by
              have : srws (Cs (srws c1 3 w6) f neg r6) 3 w7 = Cs (srws (srws c1 3 w6) 3 w7) f neg r6 := rfl
              rw [this, srws_srws]
            rw [hst7]
            have hfit : V / 10 ^ (N - (i0 - 1)) * 10 ^ (N - (i0 - 1)) + 10 ^ (N - (i0 - 1)) < 1000000000 ^ 156 := by
              have a1 : V / 10 ^ (N - (i0 - 1)) * 10 ^ (N - (i0 - 1)) ≤ V := Nat.div_mul_le_self _ _
              have a2 : 10 ^ (N - (i0 - 1)) ≤ 10 ^ 1400 := Nat.pow_le_pow_right (by decide) (by omega)
              have a3 : 10 ^ 1400 + 10 ^ 1400 ≤ 1000000000 ^ 156 := by decide +kernel
              have a4 : V < 10 ^ 1400 := Nat.lt_of_lt_of_le k3.2.2 (Nat.pow_le_pow_right (by decide) (by omega))
              exact Nat.lt_of_lt_of_le (Nat.add_lt_add_of_lt_of_le (Nat.lt_of_le_of_lt a1 a4) a2) a3
            obtain ⟨w8, f5, f6⟩ := add_spec (c := Cs (srws c1 3 w7) f neg r6) (r := 3) (by rw [rws_Cs, rws_same]; exact f4) hx (by omega) hfit
            clear hfit
            rw [f5]
            simp only
            have hst8 : srws (Cs (srws c1 3 w7) f neg r6) 3 w8 = Cs (srws c1 3 w8) f neg r6 := by
              have : srws (Cs (srws c1 3 w7) f neg r6) 3 w8 = Cs (srws (srws c1 3 w7) 3 w8) f neg r6 := rfl
              rw [this, srws_srws]
            rw [hst8]
            have eU : V / 10 ^ (N - (i0 - 1)) * 10 ^ (N - (i0 - 1)) + 10 ^ (N - (i0 - 1)) = (V / 10 ^ (N - (i0 - 1)) + 1) * 10 ^ (N - (i0 - 1)) := by rw [Nat.add_mul, Nat.one_mul]
            rw [eU] at f6
            obtain ⟨N'', n4, n5, n6⟩ := dn_hi2 k3 (show N - (i0 - 1) < N by omega)
            obtain ⟨w9, r9, t9, v1, v2, v3⟩ := cand_o (c := Cs (srws c1 3 w8) f neg r6) (neg := neg) hf k1 hsi (by rw [rws_Cs, rws_same]; exact f6) n4 (by omega) (by omega)
            have ht9 : t9 = false := by
              cases hq : t9
              · rfl
              · have := (gR_iff y7).mpr (v3.mp hq)
                rw [hno.2] at this; cases this
            have hst9 : Cs (srws (Cs (srws c1 3 w8) f neg r6) 3 w9) f neg r9 = Cs (srws c1 3 w9) f neg r9 := by
              have : Cs (srws (Cs (srws c1 3 w8) f neg r6) 3 w9) f neg r9 = Cs (srws (srws c1 3 w8) 3 w9) f neg r9 := rfl
              rw [this, srws_srws]
            rw [ht9, hst9] at v1
            rw [v1]
            simp only
            rw [if_pos (show nb false = 0 from rfl)]
            exact ⟨_, rfl, (hI1.row v2).cs⟩
        refine ag_yes (v := 1) (m' := smI m 0 0) (c' := c') ?_ ?_ mI_smI hI2
        · unfold mo_holds f_X7_holds
          rw [h2, if_neg n10, x_fin hf, s_fin hf hs, if_neg z1, if_neg n10, x_size hf, sgn_size hf hs, if_neg hz]; rfl
        · unfold cl_holds; rw [hC]; rfl
