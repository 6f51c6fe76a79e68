/-! the class: far decimals, rows of whole numbers -/
theorem far_x : ∀ f, f < 4 → (f_JM_maxL ((2000 : Int64) + (1 : Int32).toInt64 - (fP f).toInt64) (f_X2_leastUnit f).toInt64).toInt = 2001 - (pr f : Int) ∧ (f_X3_keptOf 1 (f_JM_maxL ((2000 : Int64) + (1 : Int32).toInt64 - (fP f).toInt64) (f_X2_leastUnit f).toInt64 - 2000)).toInt = ((2 ^ (pr f - 1) : Nat) : Int) ∧ f_X3_restOf 1 (f_JM_maxL ((2000 : Int64) + (1 : Int32).toInt64 - (fP f).toInt64) (f_X2_leastUnit f).toInt64 - 2000) 1 = 1 ∧ f_X3_keptOf 1 (f_JM_maxL ((2000 : Int64) + (1 : Int32).toInt64 - (fP f).toInt64) (f_X2_leastUnit f).toInt64 - 2000) &&& 1 = 0 := f4 (by decide +kernel) (by decide +kernel) (by decide +kernel) (by decide +kernel)
theorem bits_one : f_X3_bitsOf 1 = some 1 := by
  obtain ⟨b, L, g1, g2, g3, g4⟩ := bits_spec 1
  rw [one_n] at g4
  have hL : L = 1 := by
    obtain ⟨h1, h2⟩ := g4
    have h0 : L ≠ 0 := fun h => by rw [h, Nat.pow_zero] at h1; omega
    have h3 := h2.resolve_left h0
    by_cases h4 : L = 1
    · exact h4
    · exfalso
      have : 2 ^ 1 ≤ 2 ^ (L - 1) := pw_le (by omega)
      omega
  rw [g1]
  congr 1
  rw [ieq, g2, hL]; decide
theorem far_big {f way : Nat} {neg : Bool} (hf : f < 4) (hw : way < 5) (c : CS) : f_X3_round f (nb neg) 1 2000 1 (Int32.ofNat way) c = some (Cs c f neg (ovr f way neg)) := by
  obtain ⟨h1, h2, h3, h4⟩ := far_x f hf
  have hfm := fm_b f
  have hl : lst f = 2 - (gr f : Int) - (pr f : Int) := rfl
  unfold f_X3_round
  rw [bits_one]; simp only [Option.bind, lt]
  rw [if_pos h4, h3]
  have hc := cj70 (r := 1) (s0 := 0) (neg := neg) hf hw h2 h1 (by rw [pp1]; have := pp2 (pr f - 1); omega) (by omega) (by omega) (.inr (Nat.le_refl _)) (by decide) (by
    have : 2 ^ (pr f - 1) % 2 = 0 := by rw [show pr f - 1 = (pr f - 2) + 1 by omega, Nat.pow_succ]; omega
    rw [this]; rfl) c
  rw [show (Int32.ofNat 1) = 1 from rfl] at hc
  rw [hc]
  have hr : RO f neg way (2001 - (pr f : Int)) (2 * 2 ^ (pr f - 1) + 1 / 2) (decide (1 % 2 = 1)) = ovr f way neg := by
    unfold RO
    rw [if_pos]
    unfold inf szf
    have h9 : (2 * gr f + 1) * 2 ^ (pr f - 1) ≤ (2001 - (pr f : Int) - lst f).toNat * 2 ^ (pr f - 1) := Nat.mul_le_mul_right _ (by omega)
    omega
  rw [hr]
theorem far_sm {f way : Nat} {neg : Bool} (hf : f < 4) (hw : way < 5) (c : CS) : f_X3_round f (nb neg) 1 (-2000) 1 (Int32.ofNat way) c = some (Cs c f neg (RO f neg way (lst f) 0 true)) := by
  have hfm := fm_b f
  have hl : lst f = 2 - (gr f : Int) - (pr f : Int) := rfl
  obtain ⟨q, h, e, g1, g2⟩ := crnd_spec (f := f) (way := way) (W := 1) (L := 0) (neg := neg) (s := true) (x3 := 1) (x5 := -2000) (u := -2000) hf hw one_n (by decide) (by omega) (by omega) ⟨by decide, .inr (by decide)⟩ (fl_stick (W := 1) (s := true) (u := -2000)) (fun _ => by unfold qOf; split <;> omega) c
  have e1 : nb true = 1 := rfl
  rw [e1] at g1
  rw [g1]
  have hA : 0 < (2 * 1 + ubi true) * p2 (-2000) := Nat.mul_pos (by decide) (p2_pos _)
  obtain ⟨rfl, rfl, rfl⟩ := rq_unique g2 (rq_tiny hA (by
    rw [p2_neg (show (-2000 : Int) ≤ 0 by omega), show (2 * 1 + ubi true) * 1 = 3 from rfl]
    unfold p2
    rw [show (- -2000 : Int).toNat = 2000 from rfl]
    decide +kernel))
  rfl
theorem far_spec {f way : Nat} {neg : Bool} (hf : f < 4) (hw : way < 5) {x3 : Int32} {P : Int} (hx : x3.toInt = P) (c : CS) : f_X6_roundedFar f (nb neg) x3 (Int32.ofNat way) c = some (if P ≤ 310 then if -330 ≤ P then (0, c) else (1, Cs c f neg (RO f neg way (lst f) 0 true)) else (1, Cs c f neg (ovr f way neg))) := by
  have e1 : (310 : Int32).toInt = 310 := by decide
  have e2 : (-330 : Int32).toInt = -330 := by decide
  unfold f_X6_roundedFar
  by_cases h1 : P ≤ 310
  · rw [if_pos (by rw [ile, hx, e1]; exact h1), if_pos h1]
    by_cases h2 : -330 ≤ P
    · rw [if_pos (by rw [ile, hx, e2]; exact h2), if_pos h2]
    · rw [if_neg (by rw [ile, hx, e2]; exact h2), if_neg h2, far_sm hf hw]; rfl
  · rw [if_neg (by rw [ile, hx, e1]; exact h1), if_neg h1, far_big hf hw]; rfl
/-! setWhole -/
theorem gd_zero {V k : Nat} (h : V < 1000000000 ^ k) : gd V k = 0 := by
  unfold gd; rw [Nat.div_eq_of_lt h]
theorem k9l : (1000000000 : Int64).toInt = 1000000000 := by decide
theorem ldv_n {x y : Int64} {a b : Nat} (hx : x.toInt = a) (hy : y.toInt = b) : (x / y).toInt = ((a / b : Nat) : Int) := by
  have := r64 x
  rw [ldv (by omega), hx, hy, Int.tdiv_eq_ediv_of_nonneg (by omega)]; rfl
theorem lrm_n {x y : Int64} {a b : Nat} (hx : x.toInt = a) (hy : y.toInt = b) : (lrm x y).toInt = ((a % b : Nat) : Int) := by
  rw [lrm_eq, hx, hy, Int.tmod_eq_emod_of_nonneg (by omega)]; rfl
theorem k9ln : (1000000000 : Int64).toInt = ((1000000000 : Nat) : Int) := by decide
theorem li_n {x : Int64} {n : Nat} (h : x.toInt = (n : Int)) (hn : n < 2147483648) : x.toInt32.toInt = (n : Int) := by
  rw [li (by omega) (by omega), h]
theorem lle0 {x : Int64} {n : Nat} (h : x.toInt = (n : Int)) : (x ≤ 0) = (n = 0) := by
  have e0 : (0 : Int64).toInt = 0 := by decide
  rw [lle, h, e0]; simp only [eq_iff_iff]; omega
theorem nn_i {x : Int32} {n : Nat} (h : x.toInt = (n : Int)) : 0 ≤ x.toInt := by omega
theorem lt_i {x : Int32} {n N : Nat} (h : x.toInt = (n : Int)) (hn : n < N) : x.toInt < (N : Int) := by omega
def WI (W : Nat) (c : CS) (r : Nat) (n : Nat) (a : Int64 × Int32 × CS) : Prop := ∃ (i : Nat) (w : RWs) (V Q R : Nat), a.1.toInt = (Q : Int) ∧ a.2.1.toInt = 35 - (i : Int) ∧ i + n = 36 ∧ a.2.2 = srws c r w ∧ RIs w V false ∧ V = R * GG ∧ Q = W / 1000000000 ^ i ∧ R = W % 1000000000 ^ i
theorem w36 {W : Nat} (h : W < 9223372036854775808) : W < 1000000000 ^ 36 := Nat.lt_trans h (by decide +kernel)
theorem w_mod {W i Q R : Nat} (hQ : Q = W / 1000000000 ^ i) (hR : R = W % 1000000000 ^ i) (hz : Q = 0) : R = W := by
  rw [hR, Nat.mod_eq_of_lt (dz (Nat.pow_pos (by decide)) (hQ.symm.trans hz))]
theorem w_sum {W i Q R V V' : Nat} (hQ : Q = W / 1000000000 ^ i) (hR : R = W % 1000000000 ^ i) (hV : V = R * GG) (h : V' = V + Q % 1000000000 * 1000000000 ^ (120 + i)) : V' = W % 1000000000 ^ (i + 1) * GG := by
  rw [h, hV, hR, hQ, Nat.mod_pow_succ, Nat.add_mul, Nat.pow_add, B120, Nat.mul_comm (1000000000 ^ i) (W / 1000000000 ^ i % 1000000000), Nat.mul_assoc (W / 1000000000 ^ i % 1000000000), Nat.mul_comm (1000000000 ^ i)]
theorem w_lt2 {W i R V : Nat} (hR : R = W % 1000000000 ^ i) (hV : V = R * GG) : V < 1000000000 ^ (120 + i) := by
  rw [hV, hR, Nat.add_comm, Nat.pow_add, B120]
  exact Nat.mul_lt_mul_of_pos_right (Nat.mod_lt _ (Nat.pow_pos (by decide))) GG_pos
theorem whole_step {W : Nat} (hW : W < 9223372036854775808) {c : CS} {r : Nat} (n : Nat) (a : Int64 × Int32 × CS) (hI : WI W c r n a) : (∃ z, f_X4_setWhole_L10 r a.1 a.2.1 a.2.2 = some (.inr z) ∧ ∃ w, z = srws c r w ∧ RIs w (W * GG) false) ∨ ∃ a' n', f_X4_setWhole_L10 r a.1 a.2.1 a.2.2 = some (.inl a') ∧ n' < n ∧ WI W c r n' a' := by
  obtain ⟨x3, x5, c'⟩ := a
  obtain ⟨i, w, V, Q, R, h1, h2, h3, h4, h5, h6, hQ, hR⟩ := hI
  change x3.toInt = _ at h1
  change x5.toInt = _ at h2
  change c' = _ at h4
  subst h4
  have hVl := w_lt2 hR h6
  have hg := gd_zero hVl
  have hsum := fun (V' : Nat) => w_sum (V' := V') hQ hR h6
  have hmod := w_mod hQ hR
  have hdiv : Q / 1000000000 = W / 1000000000 ^ (i + 1) := by rw [hQ, Nat.div_div_eq_div_mul, Nat.pow_succ]
  have h36 : i = 36 → Q = 0 := fun h => by rw [hQ, h]; exact Nat.div_eq_of_lt (w36 hW)
  clear hQ hR hVl hW
  show (∃ z, f_X4_setWhole_L10 r x3 x5 (srws c r w) = some (.inr z) ∧ _) ∨ ∃ a' n', f_X4_setWhole_L10 r x3 x5 (srws c r w) = some (.inl a') ∧ _
  unfold f_X4_setWhole_L10
  by_cases hz : Q = 0
  · have hend : RIs w (W * GG) false := by rw [← hmod hz, ← h6]; exact h5
    by_cases hn : x5 < 0
    · rw [if_pos hn]
      exact .inl ⟨_, rfl, w, rfl, hend⟩
    · rw [if_neg hn, if_pos ((lle0 h1).mpr hz)]
      exact .inl ⟨_, rfl, w, rfl, hend⟩
  · have hn : i ≠ 36 := fun h => hz (h36 h)
    clear h36 hmod
    rw [if_neg (by rw [ilt, h2, k0]; omega), if_neg (fun q => hz ((lle0 h1).mp q))]
    have hq9 : Q % 1000000000 < 1000000000 := Nat.mod_lt _ (by decide)
    have hy : (lrm x3 1000000000).toInt32.toInt = ((Q % 1000000000 : Nat) : Int) := li_n (lrm_n h1 k9ln) (Nat.lt_trans hq9 (by decide))
    obtain ⟨j, hj, hj2, hj3⟩ : ∃ j : Nat, x5.toInt = (j : Int) ∧ j < 156 ∧ 155 - j = 120 + i := ⟨35 - i, by omega, by omega, by omega⟩
    obtain ⟨w', s1, s2, s3, s4⟩ := setLimb_ris (c := srws c r w) (r := r) (V := V) (i := j) (s := false) (x := x5) (y := (lrm x3 1000000000).toInt32) (by rw [rws_same]; exact h5) hj hj2 (nn_i hy) (lt_i hy hq9) (fun _ => by
      rw [rws_same, ieq, h5.limb hj2, hj3, hg]; rfl)
    rw [srws_srws] at s1
    rw [hj3, hg, Nat.zero_mul, Nat.add_zero, hy, Int.toNat_natCast] at s4
    simp only [lt]
    rw [s1]
    refine .inr ⟨_, n - 1, rfl, by omega, i + 1, w', rv w'.1, Q / 1000000000, W % 1000000000 ^ (i + 1), ldv_n h1 k9ln, ?_, by omega, rfl, s2, hsum _ s4, hdiv, rfl⟩
    show (x5 + -1).toInt = _
    have e1 : (-1 : Int32).toInt = -1 := by decide
    rw [ia (by rw [h2, e1]; omega) (by rw [h2, e1]; omega), h2, e1]; omega
theorem setWhole_spec {c : CS} {r W V0 : Nat} {s0 : Bool} (h : RIs (rws c r) V0 s0) {x : Int64} (hx : x.toInt = W) : ∃ w, f_X4_setWhole r x c = some (srws c r w) ∧ RIs w (W * GG) false := by
  have hW := r64 x
  obtain ⟨l, g1, g2⟩ := empty_spec h
  have e35 : (35 : Int32).toInt = 35 := by decide
  obtain ⟨b, k1, w, rfl, k2⟩ := Lp_inv (F := fun a => f_X4_setWhole_L10 r a.1 a.2.1 a.2.2) (WI W c r) (fun z => ∃ w, z = srws c r w ∧ RIs w (W * GG) false) (fun n a h => whole_step (by omega) n a h) 36 (x, 35, srws c r (l, 156, -1, 0)) ⟨0, (l, 156, -1, 0), 0, W, 0, hx, by show (35 : Int32).toInt = _; rw [e35]; rfl, rfl, rfl, zero_ris g2, by rw [Nat.zero_mul], by rw [Nat.pow_zero, Nat.div_one], by rw [Nat.pow_zero, Nat.mod_one]⟩
  refine ⟨w, ?_, k2⟩
  unfold f_X4_setWhole
  rw [g1]; simp only [Option.bind]
  rw [k1]
theorem c156 : 1000000000 ^ 156 = GG * 10 ^ 324 := by
  rw [← B120]; decide +kernel
/-- a row that is W * 2^u -/
theorem srow_spec {c : CS} {r W V0 : Nat} {s0 : Bool} {u : Int} (h : RIs (rws c r) V0 s0) {x : Int64} (hx : x.toInt = W) {y : Int32} (hy : y.toInt = u) (hu : -1080 ≤ u) (hu2 : u ≤ 2000) (hfit : W * p2 u < 10 ^ 324) : ∃ w V, (Option.bind (f_X4_setWhole r x c) fun v_1 => Option.bind (f_X4_scale r y v_1) fun v_2 => some v_2) = some (srws c r w) ∧ RIs w V false ∧ V * p2 (-u) = W * GG * p2 u := by
  obtain ⟨w, g1, g2⟩ := setWhole_spec h hx
  rw [g1]; simp only [Option.bind]
  by_cases hu0 : 0 ≤ u
  · obtain ⟨d, hd⟩ : ∃ d : Nat, u = d := ⟨u.toNat, by omega⟩
    rw [p2_nat hd] at hfit
    obtain ⟨w', k1, k2⟩ := scale_up (c := srws c r w) (r := r) (by rw [rws_same]; exact g2) (x := y) (d := d) (by rw [hy, hd]) (by
      rw [c156, Nat.mul_right_comm, Nat.mul_comm]
      exact Nat.mul_lt_mul_of_pos_left hfit GG_pos)
    rw [srws_srws] at k1
    rw [k1]
    refine ⟨w', _, rfl, k2, ?_⟩
    rw [p2_nat hd, p2_neg (show -u ≤ 0 by omega), Nat.mul_one]
  · obtain ⟨d, hd⟩ : ∃ d : Nat, u = -(d : Int) := ⟨(-u).toNat, by omega⟩
    obtain ⟨w', k1, k2⟩ := scale_dn (c := srws c r w) (r := r) (by rw [rws_same]; exact g2) (x := y) (d := d) (by rw [hy, hd]) (by omega)
    rw [srws_srws] at k1
    rw [k1]
    obtain ⟨M, hM⟩ := GG_div
    have e1 : W * GG = W * (2 ^ (1080 - d) * M) * 2 ^ d := by
      rw [hM, show (2 : Nat) ^ 1080 = 2 ^ (1080 - d) * 2 ^ d by rw [← Nat.pow_add, show 1080 - d + d = 1080 by omega]]
      simp only [Nat.mul_assoc, Nat.mul_left_comm, Nat.mul_comm]
    have e2 : W * GG % 2 ^ d = 0 := by rw [e1]; exact Nat.mul_mod_left _ _
    have e3 : W * GG / 2 ^ d * 2 ^ d = W * GG := Nat.div_mul_cancel (Nat.dvd_of_mod_eq_zero e2)
    refine ⟨w', W * GG / 2 ^ d, rfl, ?_, ?_⟩
    · rw [e2] at k2; simpa using k2
    · rw [p2_neg (show u ≤ 0 by omega), p2_nat (show -u = d by omega), Nat.mul_one]; exact e3
