theorem bt_i {x : Int32} {n : Nat} (hx : x.toInt = (n : Int) - 1080) (hn : n < 2000) : (f_X4_bitsOfTens x).toInt = bt n := by
  have e1 : (217706 : Int32).toInt = 217706 := by decide +kernel
  have e2 : (65536 : Int32).toInt = ((65536 : Nat) : Int) := by decide +kernel
  have one : (1 : Int32).toInt = 1 := by decide
  have m1 : (x * 217706).toInt = ((n : Int) - 1080) * 217706 := by rw [im (by rw [hx, e1]; omega) (by rw [hx, e1]; omega), hx, e1]
  have f1 := floorDiv_i (x := x * 217706) e2 (by decide) (by rw [m1]; omega) (by rw [m1]; omega)
  rw [m1] at f1
  have f2 : (f_JM_floorDiv (x * 217706) 65536).toInt = ((n : Int) - 1080) * 217706 / 65536 := f1
  unfold f_X4_bitsOfTens bt
  rw [ia (by rw [f2, one]; omega) (by rw [f2, one]; omega), f2, one]
theorem whole_n {x : Int64} {W : Nat} (h : x.toInt = W) : x.toBitVec.toNat = W := by have := u64 x; omega
theorem p63 : (2 : Nat) ^ 63 = 9223372036854775808 := by decide
theorem big_fit {V X : Nat} (h : V / GG < 9223372036854775808) (hX : X = GG * 9223372036854775808) : V < X := by
  subst hX
  exact (Nat.div_lt_iff_lt_mul GG_pos).mp h |>.trans_le (Nat.le_of_eq (Nat.mul_comm _ _))
theorem rrow_fit : GG * 9223372036854775808 ≤ 1000000000 ^ 156 := by
  rw [← B120, show 156 = 120 + 36 from rfl, Nat.pow_add]
  exact Nat.mul_le_mul_left _ (by decide +kernel)
/-- a row is rounded as the value that it stands for -/
theorem rrow_spec {c : CS} {r V n f way A B : Nat} {s neg : Bool} (hf : f < 4) (hw : way < 5) (h : RIs (rws c r) V s) (hV : V ≠ 0) (hn : Dn V n) (hn1 : 720 ≤ n) (hn2 : n < 1400) (a : Fl (A * GG) B V s) : ∃ w V' s' q h e, f_X6_roundRow r f (nb neg) (Int32.ofNat way) c = some (Cs (srws c r w) f neg (RO f neg way q h e)) ∧ RIs w V' s' ∧ Rq f A B q h e := by
  obtain ⟨x, n', p1, p3, p4, p5⟩ := point_spec h hV
  have hnn : n' = n := by
    obtain ⟨q1, q2, q3⟩ := hn
    obtain ⟨q4, q5, q6⟩ := p4
    have h1 : n' - 1 < n := (Nat.pow_lt_pow_iff_right (a := 10) (by decide)).mp (Nat.lt_of_le_of_lt q5 q3)
    have h2 : n - 1 < n' := (Nat.pow_lt_pow_iff_right (a := 10) (by decide)).mp (Nat.lt_of_le_of_lt q2 q6)
    omega
  subst hnn
  obtain ⟨c1, c2⟩ := chk_n hn1 (by omega)
  have hb := bt_i p3 (by omega)
  have hbr : -4000 ≤ bt n' ∧ bt n' ≤ 4000 := by unfold bt; omega
  have e61 : (61 : Int32).toInt = 61 := by decide
  have hx5 : (61 - f_X4_bitsOfTens x).toInt = 61 - bt n' := by rw [is_ (by rw [hb, e61]; omega) (by rw [hb, e61]; omega), hb, e61]
  have hu : (-(61 - f_X4_bitsOfTens x)).toInt64.toInt = bt n' - 61 := by rw [il, ineg (by omega), hx5]; omega
  have go : ∃ w V' e1, f_X4_scale r (61 - f_X4_bitsOfTens x) c = some (srws c r w) ∧ RIs w V' (s || e1) ∧ Fl (V * p2 (61 - bt n')) (GG * p2 (bt n' - 61)) (V' / GG) (e1 || decide (V' % GG ≠ 0)) := by
    by_cases hp : 0 ≤ 61 - bt n'
    · obtain ⟨d, hd⟩ : ∃ d : Nat, 61 - bt n' = d := ⟨(61 - bt n').toNat, by omega⟩
      have e1 : p2 (61 - bt n') = 2 ^ d := by unfold p2; rw [hd]; rfl
      have e2 : p2 (bt n' - 61) = 1 := p2_neg (by omega)
      have fl := fl_of (X := V * 2 ^ d) GG_pos
      have fl' : Fl (V * p2 (61 - bt n')) (GG * p2 (bt n' - 61)) (V * 2 ^ d / GG) (decide (V * 2 ^ d % GG ≠ 0)) := by rw [e1, e2, Nat.mul_one]; exact fl
      have hW := w_lt hn.2.2 c2 fl'
      rw [p63] at hW
      have hfit : V * 2 ^ d < 1000000000 ^ 156 := Nat.lt_of_lt_of_le (big_fit hW rfl) rrow_fit
      obtain ⟨w, g1, g2⟩ := scale_up h (by rw [hx5, hd]) hfit
      exact ⟨w, V * 2 ^ d, false, g1, by simpa using g2, by simpa using fl'⟩
    · obtain ⟨d, hd⟩ : ∃ d : Nat, 61 - bt n' = -(d : Int) := ⟨(bt n' - 61).toNat, by omega⟩
      have e1 : p2 (61 - bt n') = 1 := p2_neg (by omega)
      have e2 : p2 (bt n' - 61) = 2 ^ d := by unfold p2; rw [show bt n' - 61 = d by omega]; rfl
      obtain ⟨w, g1, g2⟩ := scale_dn h (by rw [hx5, hd]) (by omega)
      refine ⟨w, _, _, g1, g2, ?_⟩
      have fl := fl_coarse GG_pos (fl_of (X := V) (Y := 2 ^ d) (Nat.pow_pos (by decide)))
      rw [e1, e2, Nat.mul_one, Nat.mul_comm GG]
      exact fl
  obtain ⟨w, V', e1, g1, g2, g3⟩ := go
  have hW := w_lt hn.2.2 c2 g3
  have hW2 := w_ge hn.2.1 c1 g3
  obtain ⟨L, hL1, hL2, hL3⟩ := bl_ex hW2 hW
  rw [p63] at hW
  have wh := whole_spec (c := srws c r w) (r := r) (by rw [rws_same]; exact g2) (by rw [B120]; exact hW)
  have mo := more_spec (c := srws c r w) (r := r) (by rw [rws_same]; exact g2)
  rw [B120] at wh mo
  rw [show 61 - bt n' = -(bt n' - 61) by omega] at g3
  obtain ⟨q, hh, e', k1, k2⟩ := crnd_row (neg := neg) hf hw (whole_n wh) hu (by omega) (by omega) hL1 hL2 a g3 (srws c r w)
  refine ⟨w, V', _, q, hh, e', ?_, g2, k2⟩
  unfold f_X6_roundRow
  rw [p1]; simp only [Option.bind, lt]
  rw [g1]; simp only
  rw [mo, Bool.or_assoc, k1]
/-! setWhole -/
def SW (W : Nat) (c : CS) (r : Nat) (n : Nat) (a : Int64 × Int32 × CS) : Prop := ∃ (Lf j U : Nat) (w : RWs), a.1.toInt = Lf ∧ Lf < 1000000000 ^ n ∧ a.2.1.toInt = 35 - (j : Int) ∧ j + n = 3 ∧ a.2.2 = srws c r w ∧ RIs w U false ∧ U < 1000000000 ^ (120 + j) ∧ U + Lf * 1000000000 ^ (120 + j) = W * 1000000000 ^ 120
theorem sw_step {W : Nat} {c : CS} {r : Nat} (n : Nat) (a : Int64 × Int32 × CS) (hI : SW W c r n a) : (∃ z, f_X4_setWhole_L10 r a.1 a.2.1 a.2.2 = some (.inr z) ∧ ∃ w, z = srws c r w ∧ RIs w (W * 1000000000 ^ 120) false) ∨ ∃ a' n', f_X4_setWhole_L10 r a.1 a.2.1 a.2.2 = some (.inl a') ∧ n' < n ∧ SW W c r n' a' := by
  obtain ⟨Lf, j, U, w, h1, h2, h3, h4, h5, h6, h7, h8⟩ := hI
  obtain ⟨x3, x5, cc⟩ := a
  change x3.toInt = _ at h1
  change x5.toInt = _ at h3
  change cc = _ at h5
  subst h5
  show (∃ z, f_X4_setWhole_L10 r x3 x5 (srws c r w) = _ ∧ _) ∨ ∃ a' n', f_X4_setWhole_L10 r x3 x5 (srws c r w) = _ ∧ _
  unfold f_X4_setWhole_L10
  have e0 : (0 : Int64).toInt = 0 := by decide
  rw [if_neg (by rw [ilt, h3, k0]; omega)]
  by_cases hz : Lf = 0
  · rw [if_pos (by rw [lle, h1, e0]; omega)]
    rw [hz, Nat.zero_mul, Nat.add_zero] at h8
    exact .inl ⟨_, rfl, w, rfl, by rw [← h8]; exact h6⟩
  · rw [if_neg (by rw [lle, h1, e0]; omega)]
    obtain ⟨m, rfl⟩ : ∃ m, n = m + 1 := by
      cases n with
      | zero => simp at h2; omega
      | succ m => exact ⟨m, rfl⟩
    simp only [lt]
    have eB : (1000000000 : Int64).toInt = 1000000000 := by decide +kernel
    have r1 : (lrm x3 1000000000).toInt = ((Lf % 1000000000 : Nat) : Int) := by rw [lrm_eq, h1, eB, Int.tmod_eq_emod_of_nonneg (by omega)]; rfl
    have hm := Nat.mod_lt Lf (show 0 < 1000000000 by decide)
    have r2 : (lrm x3 1000000000).toInt32.toInt = ((Lf % 1000000000 : Nat) : Int) := by rw [li (by rw [r1]; omega) (by rw [r1]; omega), r1]
    have r3 : (x3 / 1000000000).toInt = ((Lf / 1000000000 : Nat) : Int) := by rw [ldv (by omega), h1, eB, Int.tdiv_eq_ediv_of_nonneg (by omega)]; rfl
    have hz0 : gd U (120 + j) = 0 := by unfold gd; rw [Nat.div_eq_of_lt h7]
    have hw0 : w.1 (35 - j) = 0 := by
      have := h6.limb (i := 35 - j) (by omega)
      rw [show 155 - (35 - j) = 120 + j by omega, hz0] at this
      exact ieq.mpr (by rw [this]; rfl)
    obtain ⟨w2, j1, j2, j3, j4⟩ := setLimb_ris (c := srws c r w) (r := r) (V := U) (s := false) (x := x5) (y := (lrm x3 1000000000).toInt32) (i := 35 - j) (by rw [rws_same]; exact h6) (by omega) (by omega) (by rw [r2]; omega) (by rw [r2]; omega) (fun _ => by rw [rws_same]; exact hw0)
    rw [j1, srws_srws]
    rw [show 155 - (35 - j) = 120 + j by omega, hz0, Nat.zero_mul, Nat.add_zero, r2, Int.toNat_natCast] at j4
    have e1 : (-1 : Int32).toInt = -1 := by decide
    refine .inr ⟨_, m, rfl, by omega, Lf / 1000000000, j + 1, rv w2.1, w2, r3, ?_, ?_, by omega, rfl, j2, ?_, ?_⟩
    · exact Nat.div_lt_of_lt_mul (by rw [Nat.mul_comm, ← Nat.pow_succ]; exact h2)
    · show (x5 + -1).toInt = _
      rw [ia (by omega) (by omega), h3, e1]; omega
    · rw [j4, show 120 + (j + 1) = (120 + j) + 1 by omega, Nat.pow_succ]
      generalize 1000000000 ^ (120 + j) = P at *
      have : (Lf % 1000000000 + 1) * P ≤ 1000000000 * P := Nat.mul_le_mul_right _ hm
      rw [Nat.add_mul, Nat.one_mul] at this
      omega
    · rw [j4, show 120 + (j + 1) = (120 + j) + 1 by omega, Nat.pow_succ, ← h8, Nat.add_assoc]
      congr 1
      generalize 1000000000 ^ (120 + j) = P at *
      rw [Nat.mul_comm P, ← Nat.mul_assoc, ← Nat.add_mul]
      congr 1
      omega
theorem sw_spec {c : CS} {r V W : Nat} {s : Bool} (h : RIs (rws c r) V s) {x : Int64} (hx : x.toInt = W) : ∃ w, f_X4_setWhole r x c = some (srws c r w) ∧ RIs w (W * GG) false := by
  obtain ⟨l, e1, e2⟩ := empty_spec h
  have hr := r64 x
  obtain ⟨z, g1, w, rfl, g2⟩ := Lp_inv (F := fun a => f_X4_setWhole_L10 r a.1 a.2.1 a.2.2) (SW W c r) (fun z => ∃ w, z = srws c r w ∧ RIs w (W * 1000000000 ^ 120) false) (fun n a hh => sw_step n a hh) 3 (x, 35, srws c r (l, 156, -1, 0)) ⟨W, 0, 0, _, hx, by rw [show 1000000000 ^ 3 = 1000000000000000000000000000 by decide]; omega, (show (35 : Int32).toInt = _ by decide), by omega, rfl, zero_ris e2, Nat.pow_pos (by decide), by rw [Nat.zero_add, Nat.add_zero]⟩
  rw [B120] at g2
  refine ⟨w, ?_, g2⟩
  unfold f_X4_setWhole
  rw [e1]; simp only [Option.bind]
  rw [g1]
