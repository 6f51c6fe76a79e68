theorem up_le {A B d : Nat} {u k : Int} (hk : k = u + d) (h : 2 ^ d * (B * p2 u) ≤ A * p2 (-u)) : B * p2 k ≤ A * p2 (-k) := by
  refine Nat.le_of_mul_le_mul_right (c := p2 (-u)) ?_ (p2_pos _)
  have h1 := p2_split hk
  have h2 := Nat.mul_le_mul_right (p2 (-k)) h
  have e1 : B * p2 k * p2 (-u) = 2 ^ d * (B * p2 u) * p2 (-k) := by
    rw [Nat.mul_assoc, h1]; simp only [Nat.mul_assoc, Nat.mul_left_comm, Nat.mul_comm]
  have e2 : A * p2 (-k) * p2 (-u) = A * p2 (-u) * p2 (-k) := by simp only [Nat.mul_assoc, Nat.mul_left_comm, Nat.mul_comm]
  rw [e1, e2]; exact h2
theorem up_lt {A B d : Nat} {u k : Int} (hk : k = u + d) (h : A * p2 (-u) < 2 ^ d * (B * p2 u)) : A * p2 (-k) < B * p2 k := by
  refine Nat.lt_of_mul_lt_mul_right (a := p2 (-u)) ?_
  have h1 := p2_split hk
  have h2 := Nat.mul_lt_mul_of_pos_right h (p2_pos (-k))
  have e1 : B * p2 k * p2 (-u) = 2 ^ d * (B * p2 u) * p2 (-k) := by
    rw [Nat.mul_assoc, h1]; simp only [Nat.mul_assoc, Nat.mul_left_comm, Nat.mul_comm]
  have e2 : A * p2 (-k) * p2 (-u) = A * p2 (-u) * p2 (-k) := by simp only [Nat.mul_assoc, Nat.mul_left_comm, Nat.mul_comm]
  rw [e1, e2]; exact h2
/-- where the floor at a unit has L + 1 bits -/
theorem pb_of {A B W L : Nat} {u : Int} {s : Bool} (hb : Bl W (L + 1)) (a : Fl (A * p2 (-u)) (B * p2 u) W s) : Pb A B (u + L) := by
  obtain ⟨b1, b2⟩ := hb
  have b2 := b2.resolve_left (by omega)
  rw [Nat.add_sub_cancel] at b2
  refine ⟨up_le (u := u) (d := L) rfl (Nat.le_trans (Nat.mul_le_mul_right _ b2) a.1), up_lt (u := u) (d := L + 1) (by omega) (Nat.lt_of_lt_of_le a.2.1 (Nat.mul_le_mul_right _ b1))⟩
theorem maxL_i {x y : Int64} : (f_JM_maxL x y).toInt = if x.toInt < y.toInt then y.toInt else x.toInt := by
  unfold f_JM_maxL
  by_cases h : x < y
  · rw [if_pos h, if_pos (llt.mp h)]
  · rw [if_neg h, if_neg (fun q => h (llt.mpr q))]
theorem q_max {f : Nat} {high : Int} : qOf f high = if high + 1 - pr f < lst f then lst f else high + 1 - pr f := by
  unfold qOf
  split <;> split <;> omega
theorem even1 {x : Int64} {v : Nat} (hx : x.toInt = v) : (x &&& 1 = 0) = (v % 2 = 0) := by
  have e0 : (0 : Int64).toInt = 0 := by decide
  rw [leq, am1, hx, e0]; simp only [eq_iff_iff]; omega
theorem crnd_spec {f way W L : Nat} {neg s : Bool} {x3 x5 : Int64} {u : Int} (hf : f < 4) (hw : way < 5) (hW : x3.toBitVec.toNat = W) (hu : x5.toInt = u) (hu1 : -10000000000 ≤ u) (hu2 : u ≤ 10000000000) (hbl : Bl W (L + 1)) {A B : Nat} (a : Fl (A * p2 (-u)) (B * p2 u) W s) (hs : s = true → u + 1 ≤ qOf f (u + L)) (c : CS) : ∃ q h e, f_X3_round f (nb neg) x3 x5 (nb s) (Int32.ofNat way) c = some (Cs c f neg (RO f neg way q h e)) ∧ Rq f A B q h e := by
  have hpb := pb_of hbl a
  have hfm := fm_b f
  have hl : lst f = 2 - (gr f : Int) - (pr f : Int) := rfl
  have hh := hid_b f
  have hp := pp1 f
  obtain ⟨b, L', g1, g2, g3, g4⟩ := bits_spec x3
  rw [hW] at g4
  have hLL : L' = L + 1 := by
    obtain ⟨p1, p3⟩ := hbl
    obtain ⟨q1, q2⟩ := g4
    have p3 := p3.resolve_left (by omega)
    rw [Nat.add_sub_cancel] at p3
    have h1 : L < L' := (Nat.pow_lt_pow_iff_right (by decide)).mp (Nat.lt_of_le_of_lt p3 q1)
    have h2 := q2.resolve_left (by omega)
    have h3 : L' - 1 < L + 1 := (Nat.pow_lt_pow_iff_right (a := 2) (by decide)).mp (Nat.lt_of_le_of_lt h2 p1)
    omega
  subst hLL
  have hW0 : W ≠ 0 := by
    intro h
    have := (bl0 g4).mpr h
    omega
  have e1 : (x5 + b.toInt64).toInt = u + L + 1 := by
    have e0 : b.toInt64.toInt = ((L + 1 : Nat) : Int) := by rw [il]; exact g2
    rw [la (by omega) (by omega), hu, e0]; omega
  have e2 : ((x5 + b.toInt64) - (fP f).toInt64).toInt = u + L + 1 - pr f := by
    have e0 : (fP f).toInt64.toInt = pr f := by rw [il]; exact c_pr f hf
    rw [ls_ (by omega) (by omega), e1, e0]
  have e3 : (f_X2_leastUnit f).toInt64.toInt = lst f := by rw [il]; exact c_lst f hf
  have e4 : (f_JM_maxL ((x5 + b.toInt64) - (fP f).toInt64) (f_X2_leastUnit f).toInt64).toInt = qOf f (u + L) := by
    rw [maxL_i, e2, e3, q_max]
  have hq0 : lst f ≤ qOf f (u + L) := by unfold qOf; split <;> omega
  have hq1 : qOf f (u + L) < 1000000000000 := by unfold qOf; split <;> omega
  have hq2 : u + L + 1 - pr f ≤ qOf f (u + L) := by unfold qOf; split <;> omega
  have hrq : ∀ h e, Fl (A * p2 (1 - qOf f (u + L))) (B * p2 (qOf f (u + L) - 1)) h e → Rq f A B (qOf f (u + L)) h e := fun h e ha => rq_pb hpb ha
  unfold f_X3_round
  rw [g1]; simp only [Option.bind, lt]
  generalize f_JM_maxL ((x5 + b.toInt64) - (fP f).toInt64) (f_X2_leastUnit f).toInt64 = x11 at e4 ⊢
  generalize qOf f (u + L) = q at *
  have e5 : (x11 - x5).toInt = q - u := by rw [ls_ (by omega) (by omega), e4, hu]
  generalize x11 - x5 = x13 at e5 ⊢
  by_cases hd : 1 ≤ q - u
  · obtain ⟨d, hd'⟩ : ∃ d : Nat, q - u = ((d + 1 : Nat) : Int) := ⟨(q - u).toNat - 1, by omega⟩
    have a2 := fl_unit (k := q - 1) (d := d) (by omega) a
    rw [show -(q - 1) = 1 - q by omega] at a2
    have a3 := hrq _ _ a2
    have k1 := kept_hi (x := x3) (n := d) (e5.trans hd')
    have k2 := rest_hi (x := x3) (n := d) (s := s) (by rw [hW]; exact hW0) (e5.trans hd')
    rw [hW] at k1 k2
    have k3 : W / 2 ^ (d + 1) = W / 2 ^ d / 2 := by rw [Nat.pow_succ, Nat.div_div_eq_div_mul]
    rw [k3] at k1
    generalize f_X3_keptOf x3 x13 = x15 at k1 ⊢
    rw [k2]
    generalize hr : 2 * (W / 2 ^ d % 2) + ubi (s || decide (W % 2 ^ d ≠ 0)) = r
    generalize (s || decide (W % 2 ^ d ≠ 0)) = e at *
    generalize W / 2 ^ d = h at *
    have hu : ubi e ≤ 1 := by unfold ubi; split <;> omega
    have hr4 : r < 4 := by omega
    have h1 : 2 * (h / 2) + r / 2 = h := by omega
    have h2 : decide (r % 2 = 1) = e := by
      rw [← hr]
      cases e
      · simp only [ubi, Bool.false_eq_true, if_false, decide_eq_false_iff_not]; omega
      · simp only [ubi, if_true, decide_eq_true_iff]; omega
    refine ⟨q, h, e, ?_, a3⟩
    obtain ⟨b1, b2, b3, b4⟩ := a3
    rw [Nat.pow_succ] at b3
    have fin : ∀ s0, s0 = Int32.ofNat (h / 2 % 2) → f_X3_round_J70 f (nb neg) (Int32.ofNat way) x11 x15 (Int32.ofNat r) s0 (nb neg) (Int32.ofNat way) c = some (Cs c f neg (RO f neg way q h e)) := by
      intro s0 hs0
      rw [cj70 hf hw k1 e4 (by omega) hq0 hq1 (by omega) hr4 hs0 c, h1, h2]
    by_cases hev : h / 2 % 2 = 0
    · rw [if_pos (by rw [even1 k1]; exact hev)]
      exact fin 0 (by rw [hev]; rfl)
    · rw [if_neg (by rw [even1 k1]; exact hev)]
      exact fin 1 (by rw [show h / 2 % 2 = 1 by omega]; rfl)
  · have hsf : s = false := by
      cases s
      · rfl
      · have := hs rfl; omega
    subst hsf
    obtain ⟨d, hd'⟩ : ∃ d : Nat, q - u = -(d : Int) := ⟨(u - q).toNat, by omega⟩
    have a2 := fl_fine (k := q - 1) (d := d + 1) (by omega) a
    rw [show -(q - 1) = 1 - q by omega] at a2
    have a3 := hrq _ _ a2
    have hWd : W * 2 ^ d < 2 ^ pr f := by
      have h1 := a3.2.2.1
      rw [Nat.pow_succ, ← Nat.mul_assoc, Nat.pow_succ] at h1
      omega
    have hd64 : d < 64 := by
      have h1 : 2 ^ d < 2 ^ pr f := Nat.lt_of_le_of_lt (by have := Nat.mul_le_mul_right (2 ^ d) (Nat.pos_of_ne_zero hW0); omega) hWd
      have := (Nat.pow_lt_pow_iff_right (a := 2) (by decide)).mp h1
      omega
    have h60 : 2 ^ pr f ≤ 2 ^ 60 := Nat.pow_le_pow_right (by decide) (by omega)
    rw [show (2 : Nat) ^ 60 = 1152921504606846976 by decide] at h60
    have k1 := kept_lo (x := x3) (n := d) (e5.trans hd') hd64 (by rw [hW]; omega)
    have k2 := rest_lo (x := x3) (n := d) (s := false) (e5.trans hd')
    rw [hW] at k1
    generalize f_X3_keptOf x3 x13 = x15 at k1 ⊢
    rw [k2]
    have h1 : W * 2 ^ (d + 1) = 2 * (W * 2 ^ d) + 0 / 2 := by rw [mul2s]; omega
    refine ⟨q, W * 2 ^ (d + 1), false, ?_, a3⟩
    obtain ⟨b1, b2, b3, b4⟩ := a3
    rw [h1] at b4 ⊢
    generalize W * 2 ^ d = v at *
    have fin : ∀ s0, s0 = Int32.ofNat (v % 2) → f_X3_round_J70 f (nb neg) (Int32.ofNat way) x11 x15 (Int32.ofNat (ubi false)) s0 (nb neg) (Int32.ofNat way) c = some (Cs c f neg (RO f neg way q (2 * v + 0 / 2) false)) := by
      intro s0 hs0
      exact cj70 (r := 0) hf hw k1 e4 hWd hq0 hq1 (by omega) (by decide) hs0 c
    by_cases hev : v % 2 = 0
    · rw [if_pos (by rw [even1 k1]; exact hev)]
      exact fin 0 (by rw [hev]; rfl)
    · rw [if_neg (by rw [even1 k1]; exact hev)]
      exact fin 1 (by rw [show v % 2 = 1 by omega]; rfl)
