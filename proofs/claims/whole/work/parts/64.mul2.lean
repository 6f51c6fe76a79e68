theorem mul_ov {T Y U : Nat} (h6 : 1 * T ≤ Y) (hfit : Y + U < T) : False := by omega
theorem srws_eta (c : CS) (r : Nat) : srws c r ((rws c r).1, (rws c r).2) = c := srws_self c r
theorem mul_spec {c : CS} {r V b : Nat} {s : Bool} (h : RIs (rws c r) V s) (hb : b ≤ 29) {x1 : Int32} (hx1 : x1.toInt = b) (hfit : V * 2 ^ b < 1000000000 ^ 156) : ∃ w, f_X4_multiply r x1 c = some (srws c r w) ∧ RIs w (V * 2 ^ b) s := by
  obtain ⟨h1, h2, h3, h4, h5⟩ := h
  have e155 : (155 : Int32).toInt = 155 := by decide
  have one : (1 : Int32).toInt = 1 := by decide
  have hpb : 2 ^ b ≤ 2 ^ 29 := Nat.pow_le_pow_right (by decide) hb
  rw [show (2 : Nat) ^ 29 = 536870912 by decide] at hpb
  rcases h3 with ⟨a1, a2, a3, a4, a5⟩ | ⟨a1, a2⟩
  · have hmax : (f_JM_max (rwF c r) 0).toInt = (rws c r).2.1.toInt := by rw [max_i, k0]; unfold rwF; split <;> omega
    have hmin : (f_JM_min (rwE c r) 155).toInt = (rws c r).2.2.1.toInt := by rw [min_i, e155]; unfold rwE; split <;> omega
    obtain ⟨z, g1, x, i, g2, g3⟩ := Lp_inv (F := fun a => f_X4_multiply_L24 r x1 a.1 (f_JM_max (rwF c r) 0) a.2.1 a.2.2) (MI (rws c r) b V c r) (fun z => ∃ x i, z.2 = x ∧ MI (rws c r) b V c r 0 (z.1, i, x)) (fun n a h => mul_step hb hx1 hmax a2 a3 n a h) ((rws c r).2.2.1.toInt + 1 - (rws c r).2.1.toInt).toNat (0, f_JM_min (rwE c r) 155, c) ⟨(rws c r).1, ((rws c r).2.2.1.toInt + 1).toNat, by rw [srws_eta], by rw [hmin]; omega, by omega, by omega, h1, h2, fun k _ => rfl, (show 0 ≤ (0 : Int64).toInt by decide), by
        show (0 : Int64).toInt < _
        have : 0 < 2 ^ b := Nat.pow_pos (by decide)
        rw [show (0 : Int64).toInt = 0 from rfl]; omega, by
        rw [← h4, rv_tl (rws c r).1 (i := ((rws c r).2.2.1.toInt + 1).toNat) (by omega)]
        have hz : tl (rws c r).1 ((rws c r).2.2.1.toInt + 1).toNat = 0 := by rw [tl_eq]; exact hv_zero (fun k hk => dg0 (h2 _ (by omega) (by omega)))
        show MEq _ _ _ (0 : Int64).toInt.toNat _ _
        unfold MEq
        rw [hz, Nat.add_zero, Nat.add_zero, show (0 : Int64).toInt.toNat = 0 from rfl, Nat.add_zero, Nat.mul_right_comm]⟩
    obtain ⟨z1, z2⟩ := z
    change z2 = x at g2
    subst g2
    obtain ⟨l, i, m1, m2, m3, m4, m5, m6, m7, m8, m9, m10⟩ := g3
    change z2 = _ at m1
    change 0 ≤ z1.toInt at m8
    change z1.toInt < _ at m9
    change MEq V b (hv (dg (rws c r).1) i) z1.toInt.toNat i (tl l i) at m10
    subst m1
    have hH : hv (dg (rws c r).1) i = 0 := hv_zero (fun k hk => dg0 (h2 k (by omega) (by omega)))
    rw [hH] at m10
    have ez : z1.toInt32.toInt = z1.toInt := li (by omega) (by omega)
    have eF : rwF (srws c r (l, (rws c r).2)) r = (rws c r).2.1 := by unfold rwF; rw [rws_same]
    unfold f_X4_multiply
    simp only [lt]
    rw [g1]; simp only [Option.bind]
    rw [eF]
    have e1 : ((rws c r).2.1 - 1).toInt = (i : Int) - 1 := by rw [is_ (by omega) (by omega), one]; omega
    by_cases hi0 : i = 0
    · rw [setLimb_out (by omega)]
      subst hi0
      have hC : z1.toInt.toNat = 0 := by
        rcases Nat.eq_zero_or_pos z1.toInt.toNat with h | h
        · exact h
        · exfalso
          have h6 : 1 * 1000000000 ^ 156 ≤ z1.toInt.toNat * 1000000000 ^ 156 := Nat.mul_le_mul_right _ h
          unfold MEq at m10
          rw [m10, Nat.zero_mul, Nat.zero_add, Nat.sub_zero] at hfit
          exact mul_ov h6 hfit
      rw [hC] at m10
      obtain ⟨F', E', t1, t2, t3⟩ := trim_spec (c := c) (r := r) (l := l) (F := (rws c r).2.1) (E := (rws c r).2.2.1) (X := (rws c r).2.2.2) (by omega) (by omega) (by omega) (by omega) m6
      rw [t1]
      refine ⟨_, rfl, m5, t2, t3, ?_, h5⟩
      show rv l = _
      unfold MEq at m10
      rw [m10, rv_tl l (i := 0) (by omega)]
      simp [hv]
    · obtain ⟨j, rfl⟩ : ∃ j, i = j + 1 := ⟨i - 1, by omega⟩
      obtain ⟨F1, E1, s1, s2, s3⟩ := setLimb_in (c := srws c r (l, (rws c r).2)) (r := r) (x := (rws c r).2.1 - 1) (y := z1.toInt32) (i := j) (by omega) (by omega)
      rw [rws_same] at s1 s2 s3
      rw [s1, srws_srws]
      change F1.toInt = (if z1.toInt32 = 0 then (rws c r).2.1.toInt else if (j : Int) < (rws c r).2.1.toInt then (j : Int) else (rws c r).2.1.toInt) at s2
      change E1.toInt = (if z1.toInt32 = 0 then (rws c r).2.2.1.toInt else if (rws c r).2.2.1.toInt < (j : Int) then (j : Int) else (rws c r).2.2.1.toInt) at s3
      have hF1 : 0 ≤ F1.toInt ∧ F1.toInt ≤ 156 := by rw [s2]; split <;> (try split) <;> omega
      have hE1 : E1.toInt = (rws c r).2.2.1.toInt := by rw [s3]; split <;> (try split) <;> omega
      have hz' : LZ (upd l j z1.toInt32) F1.toInt E1.toInt := by
        intro k hk hh
        rw [hE1] at hh
        by_cases q : k = j
        · subst q
          rw [upd_eq]
          by_cases h9 : z1.toInt32 = 0
          · exact h9
          · exfalso
            rw [if_neg h9] at s2
            revert s2; split <;> omega
        · rw [upd_ne q]
          refine m6 k hk ?_
          rw [s2] at hh
          revert hh; split <;> (try split) <;> omega
      obtain ⟨F', E', t1, t2, t3⟩ := trim_spec (c := c) (r := r) (l := upd l j z1.toInt32) (F := F1) (E := E1) (X := (rws c r).2.2.2) hF1.1 hF1.2 (by omega) (by omega) hz'
      rw [t1]
      refine ⟨_, rfl, m5.upd (by omega) (by omega), t2, t3, ?_, h5⟩
      show rv (upd l j z1.toInt32) = _
      have hz0 : hv (dg (upd l j z1.toInt32)) j = 0 := hv_zero (fun k hk => dg0 (by rw [upd_ne (by omega)]; exact m6 k (by omega) (by omega)))
      unfold MEq at m10
      rw [m10, Nat.zero_mul, Nat.zero_add, rv_tl _ (i := j) (by omega), tl_succ (by omega), dg_upd, tl_upd (by omega), ez, hz0, Nat.zero_mul, Nat.zero_add, show 155 - j = 156 - (j + 1) by omega]
  · have hall : ∀ k, k < 156 → (rws c r).1 k = 0 := fun k hk => h2 k hk (by omega)
    have hV : V = 0 := by rw [← h4]; exact rv_zero hall
    have hmax : (f_JM_max (rwF c r) 0).toInt = 156 := by rw [max_i, k0]; unfold rwF; split <;> omega
    have hmin : (f_JM_min (rwE c r) 155).toInt = -1 := by rw [min_i, e155]; unfold rwE; split <;> omega
    have g1 : Lp (fun a => f_X4_multiply_L24 r x1 a.1 (f_JM_max (rwF c r) 0) a.2.1 a.2.2) (0, f_JM_min (rwE c r) 155, c) = some (0, c) := by
      refine Lp_r ?_
      show f_X4_multiply_L24 r x1 0 (f_JM_max (rwF c r) 0) (f_JM_min (rwE c r) 155) c = _
      unfold f_X4_multiply_L24
      rw [if_pos (by rw [ilt]; omega)]
    unfold f_X4_multiply
    simp only [lt]
    rw [g1]; simp only [Option.bind]
    have e1 : (rwF c r - 1).toInt = ((155 : Nat) : Int) := by unfold rwF; rw [is_ (by omega) (by omega), one]; omega
    obtain ⟨F1, E1, s1, s2, s3⟩ := setLimb_in (c := c) (r := r) (x := rwF c r - 1) (y := (0 : Int64).toInt32) (i := 155) e1 (by omega)
    rw [if_pos (by decide)] at s2 s3
    rw [s1]
    have hz : ∀ k, k < 156 → upd (rws c r).1 155 (0 : Int64).toInt32 k = 0 := by
      intro k hk
      by_cases q : k = 155
      · rw [q, upd_eq]; rfl
      · rw [upd_ne q]; exact hall k hk
    obtain ⟨F', E', t1, t2, t3⟩ := trim_spec (c := c) (r := r) (l := upd (rws c r).1 155 (0 : Int64).toInt32) (F := F1) (E := E1) (X := (rws c r).2.2.2) (by omega) (by omega) (by omega) (by omega) (fun k hk _ => hz k hk)
    rw [t1]
    refine ⟨_, rfl, fun i hi => ?_, t2, t3, ?_, h5⟩
    · show 0 ≤ (upd (rws c r).1 155 (0 : Int64).toInt32 i).toInt ∧ (upd (rws c r).1 155 (0 : Int64).toInt32 i).toInt < 1000000000
      rw [hz i hi]; exact ⟨by decide, by decide⟩
    · show rv (upd (rws c r).1 155 (0 : Int64).toInt32) = _
      rw [rv_zero hz, hV, Nat.zero_mul]
