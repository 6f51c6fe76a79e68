/-! nearest, reads, power, convert -/
theorem rt_same {f way A B : Nat} {neg : Bool} {N : Nat} {r r' : Nat × Nat} (hA : N ≠ 0 → 0 < A) (a : (N = 0 ∧ r = (0, 0)) ∨ (N ≠ 0 ∧ RT f neg way A B r)) (b : (N = 0 ∧ r' = (0, 0)) ∨ (N ≠ 0 ∧ RT f neg way A B r')) : r = r' := by
  rcases a with ⟨a1, a2⟩ | ⟨a1, a2⟩
  · rcases b with ⟨b1, b2⟩ | ⟨b1, b2⟩
    · rw [a2, b2]
    · exact absurd a1 b1
  · rcases b with ⟨b1, b2⟩ | ⟨b1, b2⟩
    · exact absurd b1 a1
    · exact a2.uniq (hA a1) b2
theorem ag_nearest (x1 : Int32) (x2 : Int64) (x4 x5 : Int32) : Agr Iv (cl_nearest x1 x2 x4 x5) (mo_nearest x1 x2 x4 x5) := by
  intro c m h
  rcases a_shape x1 with ⟨h1, h2⟩ | ⟨f, hf, rfl, h1, h2⟩
  · refine ag_no (v := 0) h ?_ ?_
    · unfold mo_nearest f_X7_nearest f_X7_nearest_J46; rw [h2, if_pos rfl]; rfl
    · unfold cl_nearest f_X6_nearest; rw [h1]; rfl
  · rcases a_way x5 with ⟨g1, g2⟩ | ⟨way, hw, rfl, g1, g2⟩
    · refine ag_no (v := 0) h ?_ ?_
      · unfold mo_nearest f_X7_nearest f_X7_nearest_J46; rw [h2, if_neg (by decide), g2, if_pos rfl]; rfl
      · unfold cl_nearest f_X6_nearest; rw [h1, tbd_r, g1]; rfl
    · rcases a_tens x4 with ⟨k1, k2⟩ | ⟨k1, k2, k3, k4⟩
      · refine ag_no (v := 0) h ?_ ?_
        · unfold mo_nearest f_X7_nearest f_X7_nearest_J46; rw [h2, if_neg (by decide), g2, if_neg (by decide), k2, if_pos rfl]; rfl
        · unfold cl_nearest f_X6_nearest; rw [h1, tbd_r, g1, tbd_r, k1]; rfl
      · obtain ⟨w, r, p1, p2, p3⟩ := ctens_spec (c := c) (way := way) (x2 := x2) (x4 := x4) hf hw (h.2.2.2.2 0 (by decide)) rfl k1 k2
        obtain ⟨m', r', q1, q2, q3⟩ := mtens_spec (m := smI m 0 0) (way := way) (x2 := x2) (x4 := x4) hf hw rfl k1 k2
        have hr := rt_same (fun hN => Nat.mul_pos (Nat.pos_of_ne_zero hN) (tp_pos _)) p3 q3
        subst hr
        obtain ⟨z1, z2, z3⟩ := (h.thr (v := 0)).row p2 |>.keep (r := r) (f := f) (neg := decide (x2.toInt < 0)) (q2.1.mono (by decide) (by decide) (by decide)) q2.2.1 q2.2.2
        refine ag_yes (v := mJ (f_X7_keep m') 0) (m' := f_X7_keep m') (c' := (f_X6_keepResult (Cs (srws c 0 w) f (decide (x2.toInt < 0)) r)).2) ?_ ?_ ?_ z2
        · unfold mo_nearest f_X7_nearest f_X7_nearest_J46
          rw [h2, if_neg (by decide), g2, if_neg (by decide), k4, if_neg (by decide), refuse1]
          simp only [lt, if_true]
          rw [q1]; rfl
        · unfold cl_nearest f_X6_nearest
          rw [h1, tbd_r, g1, tbd_r, k3, tbd_r, p1, ← z1]; rfl
        · rw [z3, q2.1.2.1 0 (by decide)]; exact mI_smI
theorem ag_reads (x1 : Int32) (x2 : Int64) (x4 : Int64) (x6 : Int32) : Agr Iv (cl_reads x1 x2 x4 x6) (mo_reads x1 x2 x4 x6) := by
  intro c m h
  rcases a_own x1 x2 with ⟨h1, h2⟩ | ⟨f, neg, s, hf, rfl, hs, hx, h1, h2⟩
  · refine ag_no (v := 0) h ?_ ?_
    · unfold mo_reads f_X7_reads f_X7_reads_J29; rw [h2, if_pos rfl]; rfl
    · unfold cl_reads f_X6_reads; rw [h1]; rfl
  · rcases a_tens x6 with ⟨k1, k2⟩ | ⟨k1, k2, k3, k4⟩
    · refine ag_no (v := 0) h ?_ ?_
      · unfold mo_reads f_X7_reads f_X7_reads_J29; rw [h2, if_neg (by decide), k2, if_pos rfl]; rfl
      · unfold cl_reads f_X6_reads; rw [h1, tbd_r, k1]; rfl
    · obtain ⟨w, r, p1, p2, p3⟩ := ctens_spec (c := c) (way := 0) (x2 := x4) (x4 := x6) hf (by decide) (h.2.2.2.2 0 (by decide)) rfl k1 k2
      obtain ⟨m', r', q1, q2, q3⟩ := mtens_spec (m := smI m 0 0) (way := 0) (x2 := x4) (x4 := x6) hf (by decide) rfl k1 k2
      have hr := rt_same (fun hN => Nat.mul_pos (Nat.pos_of_ne_zero hN) (tp_pos _)) p3 q3
      subst hr
      have hI : Iv (Cs (srws c 0 w) f (decide (x4.toInt < 0)) r) m' := ((h.thr (v := 0)).row p2).cs.mo (q2.1.mono (by decide) (by decide) (by decide))
      have h00 : Int32.ofNat 0 = 0 := rfl
      rw [h00] at p1 q1
      refine ag_yes (v := if sgn f (decide (x4.toInt < 0)) r.1 = x2 then 1 else 0) (m' := m') (c' := Cs (srws c 0 w) f (decide (x4.toInt < 0)) r) ?_ ?_ ?_ hI
      · unfold mo_reads f_X7_reads f_X7_reads_J29
        rw [h2, if_neg (by decide), k4, if_neg (by decide), refuse1]
        simp only [lt, if_true]
        rw [q1]
        simp only [Option.bind, q2.2.1]
        by_cases e : sgn f (decide (x4.toInt < 0)) r.1 = x2
        · rw [if_pos e, if_pos e]; rfl
        · rw [if_neg e, if_neg e]; rfl
      · unfold cl_reads f_X6_reads
        rw [h1, tbd_r, k3, tbd_r, p1]
        simp only [Option.bind]
        have e0 : rdP (Cs (srws c 0 w) f (decide (x4.toInt < 0)) r) = sgn f (decide (x4.toInt < 0)) r.1 := rfl
        rw [e0]
        by_cases e : sgn f (decide (x4.toInt < 0)) r.1 = x2
        · rw [if_pos e, if_pos e]; rfl
        · rw [if_neg e, if_neg e]; rfl
      · rw [q2.1.2.1 0 (by decide)]; exact mI_smI
theorem bl_any {W : Nat} (h : W ≠ 0) : ∃ L, Bl W (L + 1) := ⟨W.log2, Nat.lt_log2_self, .inr (by rw [Nat.add_sub_cancel]; exact Nat.log2_self_le h)⟩
theorem fl_two {N : Nat} {E : Int} : Fl (N * p2 E * p2 (-E)) (p2 (-E) * p2 E) N false := by
  have e : N * (p2 (-E) * p2 E) = N * p2 E * p2 (-E) := by rw [Nat.mul_comm (p2 (-E)), Nat.mul_assoc]
  have hp : 0 < p2 (-E) * p2 E := Nat.mul_pos (p2_pos _) (p2_pos _)
  refine ⟨by rw [e]; exact Nat.le_refl _, by rw [Nat.add_mul, e]; omega, by simp [e]⟩
/-- the class rounds N * 2^E -/
theorem cbin {f way N : Nat} {neg : Bool} {E : Int} (hf : f < 4) (hw : way < 5) {x3 x5 : Int64} (hW : x3.toBitVec.toNat = N) (hu : x5.toInt = E) (hN : N ≠ 0) (hu1 : -10000000000 ≤ E) (hu2 : E ≤ 10000000000) (c : CS) : ∃ r, f_X3_round f (nb neg) x3 x5 0 (Int32.ofNat way) c = some (Cs c f neg r) ∧ RT f neg way (N * p2 E) (p2 (-E)) r := by
  obtain ⟨L, hL⟩ := bl_any hN
  obtain ⟨q, h, e, g1, g2⟩ := crnd_spec (neg := neg) (s := false) hf hw hW hu hu1 hu2 hL (fl_two (N := N) (E := E)) (fun hh => by simp at hh) c
  exact ⟨_, g1, .inr (.inr ⟨q, h, e, g2, rfl⟩)⟩
theorem p63_6400 {n : Nat} (h : n ≤ 18446744073709551616) : n < 2 ^ 6400 := Nat.lt_of_le_of_lt h (Nat.lt_of_le_of_lt (show 18446744073709551616 ≤ 2 ^ 64 by decide) (pw_lt (by decide)))
theorem ag_power (x1 : Int32) (x2 : Int64) (x4 x5 : Int32) : Agr Iv (cl_power x1 x2 x4 x5) (mo_power x1 x2 x4 x5) := by
  intro c m h
  rcases a_shape x1 with ⟨h1, h2⟩ | ⟨f, hf, rfl, h1, h2⟩
  · refine ag_no (v := 0) h ?_ ?_
    · unfold mo_power f_X7_power f_X7_power_J31; rw [h2, if_pos rfl]; rfl
    · unfold cl_power f_X6_power; rw [h1]; rfl
  · rcases a_way x5 with ⟨g1, g2⟩ | ⟨way, hw, rfl, g1, g2⟩
    · refine ag_no (v := 0) h ?_ ?_
      · unfold mo_power f_X7_power f_X7_power_J31; rw [h2, if_neg (by decide), g2, if_pos rfl]; rfl
      · unfold cl_power f_X6_power; rw [h1, tbd_r, g1]; rfl
    · have hneg : (0 ≤ x2) = (decide (x2.toInt < 0) = false) := by rw [lle, l0]; simp
      have hr4 := r32 x4
      obtain ⟨s0, hs0, hgo, hgoc⟩ : ∃ s0 : Int64, s0.toBitVec.toNat = x2.toInt.natAbs ∧ (if 0 ≤ x2 then x2 else -x2) = s0 ∧ True := by
        by_cases hp : 0 ≤ x2
        · refine ⟨x2, abs_n.2 ?_, if_pos hp, trivial⟩
          rw [lle, l0] at hp; exact hp
        · refine ⟨-x2, abs_n.1 ?_, if_neg hp, trivial⟩
          rw [lle, l0] at hp; omega
      have hb := nabs (x := x2)
      have e4 : x4.toInt64.toInt = x4.toInt := il x4
      -- the class
      have hC : ∃ r, f_X6_power (Int32.ofNat f) x2 x4 (Int32.ofNat way) c = f_X6_power_J66 (Cs c f (decide (x2.toInt < 0)) r) ∧ ((x2.toInt.natAbs = 0 ∧ r = (0, 0)) ∨ (x2.toInt.natAbs ≠ 0 ∧ RT f (decide (x2.toInt < 0)) way (x2.toInt.natAbs * p2 x4.toInt) (p2 (-x4.toInt)) r)) := by
        unfold f_X6_power
        rw [h1, tbd_r, g1, tbd_r]
        by_cases z : x2 = 0
        · rw [if_pos z]
          have hx : x2.toInt = 0 := by rw [z]; exact l0
          refine ⟨(0, 0), ?_, .inl ⟨by omega, rfl⟩⟩
          rw [hx]; rfl
        · rw [if_neg z]
          have hx0 : x2.toInt ≠ 0 := fun q => z (by rw [leq, q, l0])
          obtain ⟨r, p1, p2⟩ := cbin (neg := decide (x2.toInt < 0)) (N := x2.toInt.natAbs) (E := x4.toInt) hf hw hs0 e4 (by omega) (by omega) (by omega) c
          refine ⟨r, ?_, .inr ⟨by omega, p2⟩⟩
          have key : (if 0 ≤ x2 then f_X6_power_J45 x2 x4 (Int32.ofNat way) 0 f c else f_X6_power_J45 x2 x4 (Int32.ofNat way) 1 f c) = f_X6_power_J57 x4 (Int32.ofNat way) s0 (nb (decide (x2.toInt < 0))) f c := by
            unfold f_X6_power_J45
            simp only [hneg] at hgo ⊢
            cases hd : decide (x2.toInt < 0) <;> simp [hd] at hgo ⊢ <;> rw [hgo] <;> rfl
          rw [key]
          unfold f_X6_power_J57
          rw [p1]; rfl
      -- the reference
      have hM : ∃ m' r, f_X7_power (Int32.ofNat f) x2 x4 (Int32.ofNat way) m = some (mJ (f_X7_keep m') 0, f_X7_keep m') ∧ Rd (smI m 0 0) m' f (decide (x2.toInt < 0)) r ∧ ((x2.toInt.natAbs = 0 ∧ r = (0, 0)) ∨ (x2.toInt.natAbs ≠ 0 ∧ RT f (decide (x2.toInt < 0)) way (x2.toInt.natAbs * p2 x4.toInt) (p2 (-x4.toInt)) r)) := by
        unfold f_X7_power
        rw [h2, if_neg (by decide), g2, if_neg (by decide)]
        unfold f_X7_power_J31
        rw [refuse1]
        simp only [lt, if_true]
        obtain ⟨v, s1, s2, s3⟩ := set_spec (j := 3) rfl s0 (smI m 0 0)
        rw [hs0, vl_eq] at s3
        obtain ⟨m', r, q1, q2, q3⟩ := rbin_spec (m := smA (smI m 0 0) 3 v) (neg := decide (x2.toInt < 0)) (N := x2.toInt.natAbs) (x3 := x4.toInt64) (E := x4.toInt) hf hw (by rw [smA_same]; exact s2) (by rw [smA_same]; exact s3) (p63_6400 (by omega)) e4 (by omega) (by omega)
        have key : (if 0 ≤ x2 then f_X7_power_J55 (Int32.ofNat f) x2 x4 (Int32.ofNat way) x2 3 (smI m 0 0) else f_X7_power_J55 (Int32.ofNat f) x2 x4 (Int32.ofNat way) (-x2) 3 (smI m 0 0)) = some (mJ (f_X7_keep m') 0, f_X7_keep m') := by
          have : (if 0 ≤ x2 then f_X7_power_J55 (Int32.ofNat f) x2 x4 (Int32.ofNat way) x2 3 (smI m 0 0) else f_X7_power_J55 (Int32.ofNat f) x2 x4 (Int32.ofNat way) (-x2) 3 (smI m 0 0)) = f_X7_power_J55 (Int32.ofNat f) x2 x4 (Int32.ofNat way) s0 3 (smI m 0 0) := by
            by_cases hp : 0 ≤ x2
            · rw [if_pos hp] at hgo ⊢; rw [hgo]
            · rw [if_neg hp] at hgo ⊢; rw [hgo]
          rw [this]
          unfold f_X7_power_J55
          rw [s1]
          simp only [Option.bind]
          have : (if 0 ≤ x2 then f_X7_power_J71 x4 (Int32.ofNat way) 0 (Int32.ofNat f) (smA (smI m 0 0) 3 v) else f_X7_power_J71 x4 (Int32.ofNat way) 1 (Int32.ofNat f) (smA (smI m 0 0) 3 v)) = f_X7_power_J71 x4 (Int32.ofNat way) (nb (decide (x2.toInt < 0))) (Int32.ofNat f) (smA (smI m 0 0) 3 v) := by
            simp only [hneg]
            cases decide (x2.toInt < 0) <;> simp [nb]
          rw [this]
          unfold f_X7_power_J71
          rw [q1]; rfl
        exact ⟨m', r, key, ⟨(Fr.sA (by decide)).trans q2.1, q2.2⟩, q3⟩
      obtain ⟨r, p1, p3⟩ := hC
      obtain ⟨m', r', q1, q2, q3⟩ := hM
      have hr := rt_same (fun hN => Nat.mul_pos (Nat.pos_of_ne_zero hN) (p2_pos _)) p3 q3
      subst hr
      obtain ⟨z1, z2, z3⟩ := (h.thr (v := 0)).keep (r := r) (f := f) (neg := decide (x2.toInt < 0)) (q2.1.mono (by decide) (by decide) (by decide)) q2.2.1 q2.2.2
      refine ag_yes (v := mJ (f_X7_keep m') 0) (m' := f_X7_keep m') (c' := (f_X6_keepResult (Cs c f (decide (x2.toInt < 0)) r)).2) ?_ ?_ ?_ z2
      · unfold mo_power; rw [q1]; rfl
      · unfold cl_power; rw [p1, ← z1]; rfl
      · rw [z3, q2.1.2.1 0 (by decide)]; exact mI_smI
/-! a size as a whole number of units -/
def wh (f s : Nat) : Nat := if s < 2 ^ (pr f - 1) then s else 2 ^ (pr f - 1) + s % 2 ^ (pr f - 1)
def un (f s : Nat) : Int := lst f + ((s / 2 ^ (pr f - 1) - 1 : Nat) : Int)
theorem frac_i {f s : Nat} {neg : Bool} (hf : f < 4) (hs : s < sb f) : (f_X2_fractionOf f (sgn f neg s)).toInt = ((s % 2 ^ (pr f - 1) : Nat) : Int) := by
  have h := hid_n f hf
  have hx := expo_b f hf
  have hp := hid_b f
  have hm : s % 2 ^ (pr f - 1) < 2 ^ (pr f - 1) := Nat.mod_lt _ (pp2 _)
  have e1 : (f_X2_fractionOf f (sgn f neg s)).toBitVec.toNat = s % 2 ^ (pr f - 1) := by
    unfold f_X2_fractionOf
    rw [and64, h.2, and_pow, sgn_n hf hs]
    cases neg
    · simp
    · simp only [if_true]; rw [hx.2, Nat.add_mul_mod_self_left]
  have := u64 (f_X2_fractionOf f (sgn f neg s))
  omega
theorem c_whole {f s : Nat} {neg : Bool} (hf : f < 4) (hs : s < sb f) : (f_X2_wholeOf f (sgn f neg s)).toInt = ((wh f s : Nat) : Int) := by
  have hh := hid_f hf
  have hp := hid_b f
  have hfm := fm_b f
  have h60 : 2 ^ (pr f - 1) ≤ 2 ^ 52 := pw_le (by omega)
  rw [show (2 : Nat) ^ 52 = 4503599627370496 by decide] at h60
  have hm : s % 2 ^ (pr f - 1) < 2 ^ (pr f - 1) := Nat.mod_lt _ (pp2 _)
  have hfr := frac_i (neg := neg) hf hs
  unfold f_X2_wholeOf wh
  simp only [expo0 hf hs]
  by_cases h : s < 2 ^ (pr f - 1)
  · rw [if_pos h, if_pos h, hfr, Nat.mod_eq_of_lt h]
  · rw [if_neg h, if_neg h, la (by omega) (by omega), hh, hfr]; omega
theorem c_unit {f s : Nat} {neg : Bool} (hf : f < 4) (hs : s < sb f) : (f_X2_unitOf f (sgn f neg s)).toInt = un f s := by
  have he := sgn_expo (neg := neg) hf hs
  have hx := expo_b f hf
  have h1 : s / 2 ^ (pr f - 1) ≤ 4096 := Nat.le_trans (Nat.div_le_div_right (Nat.le_of_lt hs)) hx.1
  have hl := c_lst f hf
  have hfm := fm_b f
  have hll : lst f = 2 - (gr f : Int) - (pr f : Int) := rfl
  have one : (1 : Int32).toInt = 1 := by decide
  unfold f_X2_unitOf un
  generalize s / 2 ^ (pr f - 1) = k at *
  have e1 : (f_X2_exponentOf f (sgn f neg s) - 1).toInt = (k : Int) - 1 := by rw [is_ (by omega) (by omega), he, one]
  have e2 : (f_JM_max (f_X2_exponentOf f (sgn f neg s) - 1) 0).toInt = ((k - 1 : Nat) : Int) := by rw [max_i, e1, k0]; split <;> omega
  rw [ia (by omega) (by omega), hl, e2]
theorem split_spec {f s : Nat} (hf : f < 4) (hs : s < sb f) (m : MS) : ∃ W U, f_X7_split (Int32.ofNat f) (L64 s) m = smI (smJ m 1 W) 7 U ∧ W.toInt = ((wh f s : Nat) : Int) ∧ U.toInt = un f s := by
  have hb := sb_eq f hf
  have hfm := fm_b f
  have hx := expo_b f hf
  have hp := hid_b f
  have hh := m_hid hf
  have hll : lst f = 2 - (gr f : Int) - (pr f : Int) := rfl
  have hl := m_lst f hf
  have one : (1 : Int32).toInt = 1 := by decide
  have h60 : 2 ^ (pr f - 1) ≤ 2 ^ 52 := pw_le (by omega)
  rw [show (2 : Nat) ^ 52 = 4503599627370496 by decide] at h60
  have h1 : s / 2 ^ (pr f - 1) ≤ 4096 := Nat.le_trans (Nat.div_le_div_right (Nat.le_of_lt hs)) hx.1
  have hm : s % 2 ^ (pr f - 1) < 2 ^ (pr f - 1) := Nat.mod_lt _ (pp2 _)
  have n1 := jushr_nat (x := L64 s) (pred_pr (m_pr f hf)) (show pr f - 1 < 64 by omega)
  rw [L64_n (by omega)] at n1
  have u1 := u64 (jushr (L64 s) (f_X7_precision (Int32.ofNat f) - 1))
  have i1 : (jushr (L64 s) (f_X7_precision (Int32.ofNat f) - 1)).toInt = ((s / 2 ^ (pr f - 1) : Nat) : Int) := by omega
  have hn : (jshl 1 (f_X7_precision (Int32.ofNat f) - 1)).toBitVec.toNat = 2 ^ (pr f - 1) := whole_n hh
  have n2 : (L64 s &&& (jshl 1 (f_X7_precision (Int32.ofNat f) - 1) - 1)).toBitVec.toNat = s % 2 ^ (pr f - 1) := by
    rw [and64, sub1_n (by omega) hn, and_pow, L64_n (by omega)]
  have z : (jushr (L64 s) (f_X7_precision (Int32.ofNat f) - 1) = 0) = (s < 2 ^ (pr f - 1)) := by
    rw [leq, i1, l0, ← Nat.div_eq_zero_iff_lt (pp2 _)]; simp only [eq_iff_iff]; omega
  have z' : (s / 2 ^ (pr f - 1) = 0) = (s < 2 ^ (pr f - 1)) := by rw [← Nat.div_eq_zero_iff_lt (pp2 _)]
  have i2 := u64 (L64 s &&& (jshl 1 (f_X7_precision (Int32.ofNat f) - 1) - 1))
  unfold f_X7_split f_X7_split_J44
  simp only [lt, z]
  by_cases h : s < 2 ^ (pr f - 1)
  · simp only [if_pos h]
    refine ⟨_, _, rfl, ?_, ?_⟩
    · unfold wh; rw [if_pos h]
      rw [Nat.mod_eq_of_lt h] at n2
      omega
    · unfold un
      rw [ia (by rw [hl, k0]; omega) (by rw [hl, k0]; omega), hl, k0, z'.mpr h]
  · simp only [if_neg h]
    refine ⟨_, _, rfl, ?_, ?_⟩
    · unfold wh; rw [if_neg h]
      have e := or64 (L64 s &&& (jshl 1 (f_X7_precision (Int32.ofNat f) - 1) - 1)) (jshl 1 (f_X7_precision (Int32.ofNat f) - 1))
      rw [n2, hn, Nat.or_comm, or_add hm (Nat.mod_self _)] at e
      have i3 := u64 ((L64 s &&& (jshl 1 (f_X7_precision (Int32.ofNat f) - 1) - 1)) ||| (jshl 1 (f_X7_precision (Int32.ofNat f) - 1)))
      omega
    · unfold un
      have hk : s / 2 ^ (pr f - 1) ≠ 0 := fun q => h (z'.mp q)
      generalize s / 2 ^ (pr f - 1) = k at *
      have e1 : ((jushr (L64 s) (f_X7_precision (Int32.ofNat f) - 1)).toInt32 - 1).toInt = (k : Int) - 1 := by
        have e0 : (jushr (L64 s) (f_X7_precision (Int32.ofNat f) - 1)).toInt32.toInt = (k : Int) := by rw [li (by omega) (by omega), i1]
        rw [is_ (by omega) (by omega), e0, one]
      rw [ia (by omega) (by omega), hl, e1]; omega
