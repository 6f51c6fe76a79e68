theorem bt_i {x : Int32} {n : Nat} (hx : x.toInt = (n : Int) - 1080) (hn : n < 2000) : (f_X4_bitsOfTens x).toInt = bt n := by
  have e1 : (217706 : Int32).toInt = 217706 := by decide +kernel
  have e2 : (65536 : Int32).toInt = ((65536 : Nat) : Int) := by decide +kernel
  have one : (1 : Int32).toInt = 1 := by decide
  have m1 : (x * 217706).toInt = ((n : Int) - 1080) * 217706 := by rw [im (by rw [hx, e1]; omega) (by rw [hx, e1]; omega), hx, e1]
  have f1 := floorDiv_i (x := x * 217706) e2 (by decide) (by rw [m1]; omega) (by rw [m1]; omega)
  rw [m1] at f1
  have f2 : (f_JM_floorDiv (x * 217706) 65536).toInt = ((n : Int) - 1080) * 217706 / 65536 := f1
  unfold f_X4_bitsOfTens bt
  rw [ia (by rw [f2, one]; omega) (by rw [f2, one]; omega), f2, one]
theorem whole_n {x : Int64} {W : Nat} (h : x.toInt = W) : x.toBitVec.toNat = W := by have := u64 x; omega
theorem p63 : (2 : Nat) ^ 63 = 9223372036854775808 := by decide
theorem big_fit {V G K : Nat} (hG : 0 < G) (h : V / G < K) : V < G * K := by
  rw [Nat.mul_comm]
  exact (Nat.div_lt_iff_lt_mul hG).mp h
theorem rrow_fit : GG * 9223372036854775808 ≤ 1000000000 ^ 156 := by
  rw [← B120, show 156 = 120 + 36 from rfl, Nat.pow_add]
  exact Nat.mul_le_mul_left _ (by decide +kernel)
theorem rrow_scale {c : CS} {r V n : Nat} {s : Bool} {b : Int} (h : RIs (rws c r) V s) (hn : Dn V n) (hc : Ck n b) {x5 : Int32} (hx5 : x5.toInt = 61 - b) (hb : -4000 ≤ b ∧ b ≤ 4000) : ∃ w V' e1, f_X4_scale r x5 c = some (srws c r w) ∧ RIs w V' (s || e1) ∧ Fl (V * p2 (61 - b)) (GG * p2 (b - 61)) (V' / GG) (e1 || decide (V' % GG ≠ 0)) := by
  by_cases hp : 0 ≤ 61 - b
  · obtain ⟨d, hd⟩ : ∃ d : Nat, 61 - b = d := ⟨(61 - b).toNat, by omega⟩
    have e1 : p2 (61 - b) = 2 ^ d := by unfold p2; rw [hd]; rfl
    have e2 : p2 (b - 61) = 1 := p2_neg (by omega)
    have fl := fl_of (X := V * 2 ^ d) GG_pos
    have fl' : Fl (V * p2 (61 - b)) (GG * p2 (b - 61)) (V * 2 ^ d / GG) (decide (V * 2 ^ d % GG ≠ 0)) := by rw [e1, e2, Nat.mul_one]; exact fl
    have hW := w_lt hn.2.2 hc.2 fl'
    rw [p63] at hW
    have hfit : V * 2 ^ d < 1000000000 ^ 156 := Nat.lt_of_lt_of_le (big_fit GG_pos hW) rrow_fit
    obtain ⟨w, g1, g2⟩ := scale_up h (hx5.trans hd) hfit
    refine ⟨w, V * 2 ^ d, false, g1, ?_, ?_⟩
    · rw [Bool.or_false]; exact g2
    · rw [Bool.false_or]; exact fl'
  · obtain ⟨d, hd, hd2⟩ : ∃ d : Nat, 61 - b = -(d : Int) ∧ d < 100000 := ⟨(b - 61).toNat, by omega, by omega⟩
    have e1 : p2 (61 - b) = 1 := p2_neg (by omega)
    have e2 : p2 (b - 61) = 2 ^ d := by unfold p2; rw [show b - 61 = d by omega]; rfl
    obtain ⟨w, g1, g2⟩ := scale_dn h (hx5.trans hd) hd2
    refine ⟨w, _, _, g1, g2, ?_⟩
    have fl := fl_coarse GG_pos (fl_of (X := V) (Y := 2 ^ d) (Nat.pow_pos (by decide)))
    rw [e1, e2, Nat.mul_one, Nat.mul_comm GG]
    exact fl
theorem dn_uniq {V n m : Nat} (h : Dn V n) (h' : Dn V m) : n = m := by
  obtain ⟨q1, q2, q3⟩ := h
  obtain ⟨q4, q5, q6⟩ := h'
  have h1 : m - 1 < n := (Nat.pow_lt_pow_iff_right (a := 10) (by decide)).mp (Nat.lt_of_le_of_lt q5 q3)
  have h2 : n - 1 < m := (Nat.pow_lt_pow_iff_right (a := 10) (by decide)).mp (Nat.lt_of_le_of_lt q2 q6)
  clear q2 q3 q5 q6
  omega
theorem bt_b {n : Nat} (h : n < 2000) : -4000 ≤ bt n ∧ bt n ≤ 4000 := by unfold bt; omega
theorem sub61 {x : Int32} {b : Int} (hb : -4000 ≤ b ∧ b ≤ 4000) (h : x.toInt = b) : (61 - x).toInt = 61 - b ∧ (-(61 - x)).toInt64.toInt = b - 61 := by
  have e61 : (61 : Int32).toInt = 61 := by decide
  have h1 : (61 - x).toInt = 61 - b := by rw [is_ (by rw [h, e61]; omega) (by rw [h, e61]; omega), h, e61]
  exact ⟨h1, by rw [il, ineg (by omega), h1]; omega⟩
/-- a row is rounded as the value that it stands for -/
theorem rrow_spec {c : CS} {r V n f way A B : Nat} {s neg : Bool} (hf : f < 4) (hw : way < 5) (h : RIs (rws c r) V s) (hV : V ≠ 0) (hn : Dn V n) (hn1 : 720 ≤ n) (hn2 : n < 1400) (a : Fl (A * GG) B V s) : ∃ w V' s' q h e, f_X6_roundRow r f (nb neg) (Int32.ofNat way) c = some (Cs (srws c r w) f neg (RO f neg way q h e)) ∧ RIs w V' s' ∧ Rq f A B q h e := by
  obtain ⟨x, n', p1, p3, p4, p5⟩ := point_spec h hV
  have hnn : n' = n := dn_uniq p4 hn
  subst hnn
  have hck := ck_n (n := n') hn1 (by omega)
  have hb := bt_i p3 (by omega)
  have hbr := bt_b (n := n') (by omega)
  obtain ⟨hx5, hu⟩ := sub61 hbr hb
  obtain ⟨w, V', e1, g1, g2, g3⟩ := rrow_scale h hn hck hx5 hbr
  generalize bt n' = b at *
  have hu1 : -10000000000 ≤ b - 61 ∧ b - 61 ≤ 10000000000 := by omega
  have hW := w_lt hn.2.2 hck.2 g3
  have hW2 := w_ge hn.2.1 hck.1 g3
  obtain ⟨L, hL1, hL2, hL3⟩ := bl_ex hW2 hW
  rw [p63] at hW
  have wh := whole_spec (c := srws c r w) (r := r) (by rw [rws_same]; exact g2) (by rw [B120]; exact hW)
  have mo := more_spec (c := srws c r w) (r := r) (by rw [rws_same]; exact g2)
  rw [B120] at wh mo
  rw [show 61 - b = -(b - 61) from (Int.neg_sub b 61).symm] at g3
  obtain ⟨q, hh, e', k1, k2⟩ := crnd_row (neg := neg) hf hw (whole_n wh) hu hu1.1 hu1.2 hL1 hL2 a g3 (srws c r w)
  refine ⟨w, V', _, q, hh, e', ?_, g2, k2⟩
  unfold f_X6_roundRow
  rw [p1]; simp only [Option.bind, lt]
  rw [g1]; simp only
  rw [mo, Bool.or_assoc, k1]
