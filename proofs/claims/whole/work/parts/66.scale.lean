theorem div_spec {c : CS} {r V b : Nat} {s : Bool} (h : RIs (rws c r) V s) (hb : b ≤ 29) {x1 : Int32} (hx1 : x1.toInt = b) : ∃ w, f_X4_divide r x1 c = some (srws c r w) ∧ RIs w (V / 2 ^ b) (s || decide (V % 2 ^ b ≠ 0)) := by
  obtain ⟨h1, h2, h3, h4, h5⟩ := h
  have e155 : (155 : Int32).toInt = 155 := by decide
  have one : (1 : Int32).toInt = 1 := by decide
  have hm := mask_n hb hx1
  -- the first loop
  have first : ∃ z i, Lp (fun a => f_X4_divide_L31 r x1 (jshl 1 x1 - 1) a.1 (f_JM_min (rwE c r) 155) a.2.1 a.2.2) (0, f_JM_max (rwF c r) 0, c) = some z ∧ f_JM_min (rwE c r) 155 + 1 = nI i ∧ D2 (rws c r) b c r (156 - i) (z.1, nI i, z.2) ∧ (rws c r).2.2.1.toInt < (i : Int) ∧ i ≤ 156 := by
    rcases h3 with ⟨a1, a2, a3, a4, a5⟩ | ⟨a1, a2⟩
    · have hmax : (f_JM_max (rwF c r) 0).toInt = (rws c r).2.1.toInt := by rw [max_i, k0]; unfold rwF; split <;> omega
      have hmin : (f_JM_min (rwE c r) 155).toInt = (rws c r).2.2.1.toInt := by rw [min_i, e155]; unfold rwE; split <;> omega
      have hp : 0 < 2 ^ b := Nat.pow_pos (by decide)
      obtain ⟨z, g1, i, g3⟩ := Lp_inv (F := fun a => f_X4_divide_L31 r x1 (jshl 1 x1 - 1) a.1 (f_JM_min (rwE c r) 155) a.2.1 a.2.2) (D1 (rws c r) b c r) (fun z => ∃ i, D1 (rws c r) b c r 0 (z.1, i, z.2)) (fun n a h => d1_step hb hx1 hm hmin a2 a3 n a h) ((rws c r).2.2.1.toInt + 1 - (rws c r).2.1.toInt).toNat (0, f_JM_max (rwF c r) 0, c) ⟨(rws c r).1, (rws c r).2.1.toInt.toNat, 0, by rw [srws_eta], nIeq (by show (f_JM_max (rwF c r) 0).toInt = _; omega) (by omega), by omega, by omega, h1, h2, fun k _ => rfl, rfl, hp, by
          have hz : hv (dg (rws c r).1) (rws c r).2.1.toInt.toNat = 0 := hv_zero (fun k hk => dg0 (h2 k (by omega) (by omega)))
          rw [hz]; unfold DEq; simp⟩
      obtain ⟨l, j, R, m1, m2, m3, m4, m5, m6, m7, m8, m9, m10⟩ := g3
      refine ⟨z, j, g1, ?_, ⟨l, (rws c r).2.1, (rws c r).2.2.1, j, R, m1, rfl, by omega, by omega, by omega, by omega, by omega, m5, m6, m8, m9, m10⟩, by omega, by omega⟩
      exact nIeq (by rw [ia (by omega) (by omega), hmin, one]; omega) (by omega)
    · have hmax : (f_JM_max (rwF c r) 0).toInt = 156 := by rw [max_i, k0]; unfold rwF; split <;> omega
      have hmin : (f_JM_min (rwE c r) 155).toInt = -1 := by rw [min_i, e155]; unfold rwE; split <;> omega
      have hp : 0 < 2 ^ b := Nat.pow_pos (by decide)
      have g1 : Lp (fun a => f_X4_divide_L31 r x1 (jshl 1 x1 - 1) a.1 (f_JM_min (rwE c r) 155) a.2.1 a.2.2) (0, f_JM_max (rwF c r) 0, c) = some (0, c) := by
        refine Lp_r ?_
        show f_X4_divide_L31 r x1 (jshl 1 x1 - 1) 0 (f_JM_min (rwE c r) 155) (f_JM_max (rwF c r) 0) c = _
        unfold f_X4_divide_L31
        rw [if_pos (by rw [ilt]; omega)]
      refine ⟨(0, c), 0, g1, nIeq (by rw [ia (by omega) (by omega), hmin, one]; rfl) (by omega), ⟨(rws c r).1, (rws c r).2.1, (rws c r).2.2.1, 0, 0, by rw [srws_eta], rfl, by omega, by omega, by omega, by omega, by omega, h1, h2, rfl, hp, ?_⟩, by omega, by omega⟩
      unfold DEq; simp [hv]
  obtain ⟨⟨z1, z2⟩, i, g1, g2, g3, g4, g5⟩ := first
  have hi : (nI i).toInt = i := nI_toInt (by omega)
  obtain ⟨⟨y1, y2⟩, k1, l, F, E, R, k2, k3, k4, k5, k6, k7, k8, k9, k10, k11⟩ := Lp_inv (F := fun a => f_X4_divide_L85 r x1 (jshl 1 x1 - 1) a.1 a.2.1 a.2.2) (fun n a => D2 (rws c r) b c r n a ∧ (rws c r).2.2.1.toInt < a.2.1.toInt) (D2q (rws c r) b V c r) (fun n a h => d2_step hb hx1 hm h4 (fun k hk hh => h2 k hk (.inr hh)) n a h) (156 - i) (z1, nI i, z2) ⟨g3, by show _ < (nI i).toInt; omega⟩
  change y2 = _ at k2
  change y1.toInt = _ at k9
  subst k2
  have hp : 0 < 2 ^ b := Nat.pow_pos (by decide)
  have hVq : V / 2 ^ b = rv l ∧ V % 2 ^ b = R := by
    unfold DEq at k11
    rw [k11]
    exact ⟨by rw [Nat.mul_comm, Nat.mul_add_div hp, Nat.div_eq_of_lt k10, Nat.add_zero], by rw [Nat.mul_comm, Nat.mul_add_mod, Nat.mod_eq_of_lt k10]⟩
  rw [hVq.1, hVq.2]
  unfold f_X4_divide
  simp only [lt]
  rw [g1]; simp only [Option.bind]
  rw [g2, k1]; simp only
  unfold f_X4_divide_J143
  have e0 : (0 : Int64).toInt = 0 := by decide
  by_cases hR : R = 0
  · rw [if_pos (by rw [leq, k9, hR, e0]; rfl)]
    obtain ⟨F', E', t1, t2, t3⟩ := trim_spec (c := c) (r := r) (l := l) (F := F) (E := E) (X := (rws c r).2.2.2) k3 k4 k5 k6 k8
    rw [t1]
    exact ⟨_, rfl, k7, t2, t3, rfl, by rw [h5]; simp [hR]⟩
  · rw [if_neg (by rw [leq, k9, e0]; omega)]
    obtain ⟨F', E', t1, t2, t3⟩ := trim_spec (c := c) (r := r) (l := l) (F := F) (E := E) (X := 1) k3 k4 k5 k6 k8
    have e1 : srwX (srws c r (l, F, E, (rws c r).2.2.2)) r 1 = srws c r (l, F, E, 1) := by unfold srwX; simp only [rws_same, srws_srws]
    rw [e1, t1]
    exact ⟨_, rfl, k7, t2, t3, rfl, by simp [hR, nb]⟩
/-! scale -/
def SL (c : CS) (r V : Nat) (s : Bool) (d : Nat) (n : Nat) (a : Int32 × CS) : Prop := ∃ (k : Nat) (w : RWs), a.1.toInt ≤ (n : Int) ∧ a.2 = srws c r w ∧ RIs w (V * 2 ^ k) s ∧ k ≤ d ∧ (0 < a.1.toInt → (k : Int) + a.1.toInt = d) ∧ (a.1.toInt ≤ 0 → k = d)
theorem min29 {x : Int32} : (f_JM_min x 29).toInt = if 29 < x.toInt then 29 else x.toInt := by
  rw [min_i, show (29 : Int32).toInt = 29 by decide]
theorem add29 {x : Int32} (h0 : 0 < x.toInt) : (x + (-29)).toInt = x.toInt - 29 := by
  have := r32 x
  rw [ia (by rw [show (-29 : Int32).toInt = -29 by decide]; omega) (by rw [show (-29 : Int32).toInt = -29 by decide]; omega), show (-29 : Int32).toInt = -29 by decide]; omega
theorem scale1 {c : CS} {r V d : Nat} {s : Bool} {x1 : Int32} (hfit : V * 2 ^ d < 1000000000 ^ 156) (n : Nat) (a : Int32 × CS) (hI : SL c r V s d n a) : (∃ z, f_X4_scale_L2 r x1 a.1 a.2 = some (.inr z) ∧ ∃ w, z = srws c r w ∧ RIs w (V * 2 ^ d) s) ∨ ∃ a' n', f_X4_scale_L2 r x1 a.1 a.2 = some (.inl a') ∧ n' < n ∧ SL c r V s d n' a' := by
  obtain ⟨k, w, h1, h2, h3, h4, h5, h6⟩ := hI
  obtain ⟨x, cc⟩ := a
  change x.toInt ≤ _ at h1
  change cc = _ at h2
  change 0 < x.toInt → (k : Int) + x.toInt = d at h5
  change x.toInt ≤ 0 → k = d at h6
  subst h2
  show (∃ z, f_X4_scale_L2 r x1 x (srws c r w) = _ ∧ _) ∨ ∃ a' n', f_X4_scale_L2 r x1 x (srws c r w) = _ ∧ _
  unfold f_X4_scale_L2
  by_cases hc : x ≤ 0
  · rw [if_pos hc]
    rw [ile, k0] at hc
    rw [← h6 hc]
    exact .inl ⟨_, rfl, w, rfl, h3⟩
  · rw [if_neg hc]
    rw [ile, k0] at hc
    have h7 := h5 (by omega)
    have hmn := min29 (x := x)
    obtain ⟨b, hb, hb2⟩ : ∃ b : Nat, (f_JM_min x 29).toInt = b ∧ b ≤ 29 := ⟨(f_JM_min x 29).toInt.toNat, by rw [hmn]; split <;> omega, by rw [hmn]; split <;> omega⟩
    have hkb : k + b ≤ d := by rw [hb] at hmn; revert hmn; split <;> omega
    have e1 : V * 2 ^ k * 2 ^ b = V * 2 ^ (k + b) := by rw [Nat.mul_assoc, Nat.pow_add]
    obtain ⟨w2, g1, g2⟩ := mul_spec (c := srws c r w) (r := r) (V := V * 2 ^ k) (s := s) (by rw [rws_same]; exact h3) hb2 hb (by rw [e1]; exact Nat.lt_of_le_of_lt (Nat.mul_le_mul_left _ (Nat.pow_le_pow_right (by decide) hkb)) hfit)
    rw [g1]; simp only [Option.bind, lt]
    rw [e1] at g2
    have h29 := add29 (x := x) (by omega)
    clear hfit
    clear e1 g1
    refine .inr ⟨_, (x.toInt - 29).toNat, rfl, by omega, k + b, w2, ?_, by rw [srws_srws], g2, hkb, ?_, ?_⟩
    · show (x + -29).toInt ≤ _
      omega
    · show 0 < (x + -29).toInt → ((k + b : Nat) : Int) + (x + -29).toInt = d
      rw [h29]; rw [hb] at hmn; revert hmn; split <;> omega
    · show (x + -29).toInt ≤ 0 → k + b = d
      rw [h29]; rw [hb] at hmn; revert hmn; split <;> omega
def SD (c : CS) (r V : Nat) (s : Bool) (d : Nat) (n : Nat) (a : Int32 × CS) : Prop := ∃ (k : Nat) (w : RWs), a.1.toInt ≤ (n : Int) ∧ a.2 = srws c r w ∧ RIs w (V / 2 ^ k) (s || decide (V % 2 ^ k ≠ 0)) ∧ k ≤ d ∧ (0 < a.1.toInt → (k : Int) + a.1.toInt = d) ∧ (a.1.toInt ≤ 0 → k = d)
theorem dd_ar {V k b : Nat} {s : Bool} : (s || decide (V % 2 ^ k ≠ 0) || decide (V / 2 ^ k % 2 ^ b ≠ 0)) = (s || decide (V % 2 ^ (k + b) ≠ 0)) := by
  have h1 : V % 2 ^ (k + b) = V % 2 ^ k + 2 ^ k * (V / 2 ^ k % 2 ^ b) := by rw [Nat.pow_add, Nat.mod_mul]
  have hp : 0 < 2 ^ k := Nat.pow_pos (by decide)
  rw [Bool.or_assoc]
  congr 1
  rw [h1]
  by_cases h2 : V % 2 ^ k = 0
  · by_cases h3 : V / 2 ^ k % 2 ^ b = 0
    · simp [h2, h3]
    · have : 2 ^ k * (V / 2 ^ k % 2 ^ b) ≠ 0 := Nat.mul_ne_zero (by omega) h3
      simp [h2, h3]
      exact this
  · simp [h2]
theorem scale2 {c : CS} {r V d : Nat} {s : Bool} (n : Nat) (a : Int32 × CS) (hI : SD c r V s d n a) : (∃ z, f_X4_scale_L25 r a.1 a.2 = some (.inr z) ∧ ∃ w, z = srws c r w ∧ RIs w (V / 2 ^ d) (s || decide (V % 2 ^ d ≠ 0))) ∨ ∃ a' n', f_X4_scale_L25 r a.1 a.2 = some (.inl a') ∧ n' < n ∧ SD c r V s d n' a' := by
  obtain ⟨k, w, h1, h2, h3, h4, h5, h6⟩ := hI
  obtain ⟨x, cc⟩ := a
  change x.toInt ≤ _ at h1
  change cc = _ at h2
  change 0 < x.toInt → (k : Int) + x.toInt = d at h5
  change x.toInt ≤ 0 → k = d at h6
  subst h2
  show (∃ z, f_X4_scale_L25 r x (srws c r w) = _ ∧ _) ∨ ∃ a' n', f_X4_scale_L25 r x (srws c r w) = _ ∧ _
  unfold f_X4_scale_L25
  by_cases hc : x ≤ 0
  · rw [if_pos hc]
    rw [ile, k0] at hc
    rw [← h6 hc]
    exact .inl ⟨_, rfl, w, rfl, h3⟩
  · rw [if_neg hc]
    rw [ile, k0] at hc
    have h7 := h5 (by omega)
    have hmn := min29 (x := x)
    obtain ⟨b, hb, hb2⟩ : ∃ b : Nat, (f_JM_min x 29).toInt = b ∧ b ≤ 29 := ⟨(f_JM_min x 29).toInt.toNat, by rw [hmn]; split <;> omega, by rw [hmn]; split <;> omega⟩
    have hkb : k + b ≤ d := by rw [hb] at hmn; revert hmn; split <;> omega
    have e1 : V / 2 ^ k / 2 ^ b = V / 2 ^ (k + b) := by rw [Nat.div_div_eq_div_mul, Nat.pow_add]
    obtain ⟨w2, g1, g2⟩ := div_spec (c := srws c r w) (r := r) (V := V / 2 ^ k) (s := (s || decide (V % 2 ^ k ≠ 0))) (by rw [rws_same]; exact h3) hb2 hb
    rw [g1]; simp only [Option.bind, lt]
    rw [e1, dd_ar] at g2
    have h29 := add29 (x := x) (by omega)
    clear e1 g1
    refine .inr ⟨_, (x.toInt - 29).toNat, rfl, by omega, k + b, w2, ?_, by rw [srws_srws], g2, hkb, ?_, ?_⟩
    · show (x + -29).toInt ≤ _
      omega
    · show 0 < (x + -29).toInt → ((k + b : Nat) : Int) + (x + -29).toInt = d
      rw [h29]; rw [hb] at hmn; revert hmn; split <;> omega
    · show (x + -29).toInt ≤ 0 → k + b = d
      rw [h29]; rw [hb] at hmn; revert hmn; split <;> omega
theorem scale_up {c : CS} {r V d : Nat} {s : Bool} (h : RIs (rws c r) V s) {x : Int32} (hx : x.toInt = d) (hfit : V * 2 ^ d < 1000000000 ^ 156) : ∃ w, f_X4_scale r x c = some (srws c r w) ∧ RIs w (V * 2 ^ d) s := by
  have hr := r32 x
  obtain ⟨z, g1, w, rfl, g2⟩ := Lp_inv (F := fun a => f_X4_scale_L2 r x a.1 a.2) (SL c r V s d) (fun z => ∃ w, z = srws c r w ∧ RIs w (V * 2 ^ d) s) (fun n a h => scale1 hfit n a h) d (x, c) ⟨0, rws c r, by show x.toInt ≤ _; omega, (srws_self c r).symm, by rw [Nat.pow_zero, Nat.mul_one]; exact h, by omega, fun _ => by show ((0 : Nat) : Int) + x.toInt = d; omega, fun hh => by change x.toInt ≤ 0 at hh; omega⟩
  have g3 : Lp (fun a => f_X4_scale_L25 r a.1 a.2) (-x, srws c r w) = some (srws c r w) := by
    refine Lp_r ?_
    show f_X4_scale_L25 r (-x) (srws c r w) = _
    unfold f_X4_scale_L25
    rw [if_pos (by rw [ile, k0, ineg (by omega)]; omega)]
  refine ⟨w, ?_, g2⟩
  unfold f_X4_scale
  rw [g1]; simp only [Option.bind, lt]
  rw [g3]
theorem scale_dn {c : CS} {r V d : Nat} {s : Bool} (h : RIs (rws c r) V s) {x : Int32} (hx : x.toInt = -(d : Int)) (hd : d < 100000) : ∃ w, f_X4_scale r x c = some (srws c r w) ∧ RIs w (V / 2 ^ d) (s || decide (V % 2 ^ d ≠ 0)) := by
  have hr := r32 x
  have hn : (-x).toInt = d := by rw [ineg (by omega)]; omega
  have g1 : Lp (fun a => f_X4_scale_L2 r x a.1 a.2) (x, c) = some c := by
    refine Lp_r ?_
    show f_X4_scale_L2 r x x c = _
    unfold f_X4_scale_L2
    rw [if_pos (by rw [ile, k0]; omega)]
  obtain ⟨z, g3, w, rfl, g2⟩ := Lp_inv (F := fun a => f_X4_scale_L25 r a.1 a.2) (SD c r V s d) (fun z => ∃ w, z = srws c r w ∧ RIs w (V / 2 ^ d) (s || decide (V % 2 ^ d ≠ 0))) (fun n a h => scale2 n a h) d (-x, c) ⟨0, rws c r, by show (-x).toInt ≤ _; omega, (srws_self c r).symm, by rw [Nat.pow_zero, Nat.div_one, Nat.mod_one]; simpa using h, by omega, fun _ => by show ((0 : Nat) : Int) + (-x).toInt = d; omega, fun hh => by change (-x).toInt ≤ 0 at hh; omega⟩
  refine ⟨w, ?_, g2⟩
  unfold f_X4_scale
  rw [g1]; simp only [Option.bind, lt]
  rw [g3]
