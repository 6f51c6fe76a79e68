theorem rv_upd {l : Nat → Int32} {i : Nat} {y : Int32} (hi : i < 156) : rv (upd l i y) + dg l i * 1000000000 ^ (155 - i) = rv l + y.toInt.toNat * 1000000000 ^ (155 - i) := by
  rw [rv_tl (upd l i y) (i := i) (by omega), rv_tl l (i := i) (by omega), tl_succ hi, tl_succ hi, dg_upd, tl_upd (by omega), hv_congr (d := dg (upd l i y)) (e := dg l) (fun k hk => dg_upd_ne (by omega))]
  omega
/-- a limb put where there was none, or for a nonzero one -/
theorem setLimb_ris {c : CS} {r V i : Nat} {s : Bool} (h : RIs (rws c r) V s) {x y : Int32} (hx : x.toInt = i) (hi : i < 156) (h0 : 0 ≤ y.toInt) (h1 : y.toInt < 1000000000) (hy : y = 0 → (rws c r).1 i = 0) : ∃ w, f_X4_setLimb r x y c = srws c r w ∧ RIs w (rv w.1) s ∧ w.1 = upd (rws c r).1 i y ∧ rv w.1 + gd V (155 - i) * 1000000000 ^ (155 - i) = V + y.toInt.toNat * 1000000000 ^ (155 - i) := by
  have hlimb := h.limb hi
  obtain ⟨a1, a2, a3, a4, a5⟩ := h
  obtain ⟨F, E, s1, s2, s3⟩ := setLimb_in (c := c) (r := r) (x := x) (y := y) hx hi
  refine ⟨_, s1, ⟨a1.upd h0 h1, ?_, ?_, rfl, a5⟩, rfl, ?_⟩
  · show LZ (upd (rws c r).1 i y) F.toInt E.toInt
    intro k hk hh
    by_cases q : k = i
    · subst q
      rw [upd_eq]
      by_cases h11 : y = 0
      · exact h11
      · exfalso
        rw [if_neg h11] at s2 s3
        revert s2 s3; split <;> (try split) <;> omega
    · rw [upd_ne q]
      refine a2 k hk ?_
      rw [s2, s3] at hh
      revert hh
      by_cases h11 : y = 0
      · rw [if_pos h11, if_pos h11]; exact id
      · rw [if_neg h11, if_neg h11]; split <;> split <;> omega
  · show RE (upd (rws c r).1 i y) F.toInt E.toInt
    by_cases h11 : y = 0
    · rw [if_pos h11] at s2 s3
      have e : upd (rws c r).1 i y = (rws c r).1 := by
        funext k
        by_cases q : k = i
        · rw [q, upd_eq, h11, hy h11]
        · rw [upd_ne q]
      rw [e, s2, s3]; exact a3
    · rw [if_neg h11] at s2 s3
      refine .inl ?_
      rcases a3 with ⟨b1, b2, b3, b4, b5⟩ | ⟨b1, b2⟩
      · have hF : F.toInt = i ∨ (F.toInt = (rws c r).2.1.toInt ∧ (rws c r).2.1.toInt ≤ i) := by revert s2; split <;> omega
        have hE : E.toInt = i ∨ (E.toInt = (rws c r).2.2.1.toInt ∧ (i : Int) ≤ (rws c r).2.2.1.toInt) := by revert s3; split <;> omega
        have hFi : F.toInt ≤ i := by omega
        have hEi : (i : Int) ≤ E.toInt := by omega
        refine ⟨by omega, by omega, by omega, ?_, ?_⟩
        · rcases hF with q | ⟨q, -⟩
          · rw [q, Int.toNat_natCast, upd_eq]; exact h11
          · rw [q]
            by_cases q2 : (rws c r).2.1.toInt.toNat = i
            · rw [q2, upd_eq]; exact h11
            · rw [upd_ne q2]; exact b4
        · rcases hE with q | ⟨q, -⟩
          · rw [q, Int.toNat_natCast, upd_eq]; exact h11
          · rw [q]
            by_cases q2 : (rws c r).2.2.1.toInt.toNat = i
            · rw [q2, upd_eq]; exact h11
            · rw [upd_ne q2]; exact b5
      · have hF : F.toInt = i := by revert s2; split <;> omega
        have hE : E.toInt = i := by revert s3; split <;> omega
        rw [hF, hE]
        exact ⟨by omega, by omega, by omega, by rw [Int.toNat_natCast, upd_eq]; exact h11, by rw [Int.toNat_natCast, upd_eq]; exact h11⟩
  · show rv (upd (rws c r).1 i y) + _ = _
    have e := rv_upd (l := (rws c r).1) (y := y) hi
    have e2 : dg (rws c r).1 i = gd V (155 - i) := by
      have := dg_int (a1 i hi).1
      omega
    rw [e2, a4] at e
    exact e
theorem j30 {x : Int32} {d : Nat} {b : Bool} {c : CS} (hx : x.toInt = d) : f_X4_restBelow_J30 x (nb b) c = some (Int32.ofNat (if 5 < d then 3 else if d = 5 then (if b = false then 2 else 3) else if 0 < d then 1 else if b = false then 0 else 1)) := by
  have e5 : (5 : Int32).toInt = 5 := by decide
  unfold f_X4_restBelow_J30 f_X4_restBelow_J47
  have c1 : (5 < x) = (5 < d) := by rw [ilt, hx, e5]; simp only [eq_iff_iff]; omega
  have c2 : (x = 5) = (d = 5) := by rw [ieq, hx, e5]; simp only [eq_iff_iff]; omega
  have c3 : (0 < x) = (0 < d) := by rw [ilt, hx, k0]; simp only [eq_iff_iff]; omega
  simp only [c1, c2, c3, nb0]
  by_cases h1 : 5 < d
  · simp [h1]
  · by_cases h2 : d = 5
    · cases b <;> simp [h2]
    · by_cases h3 : 0 < d
      · simp [h1, h2, h3]
      · cases b <;> simp [h1, h2, h3]
def kp (pos : Int) : Nat := (pos + 1080).toNat
theorem rest_spec {c : CS} {r V : Nat} {s : Bool} (h : RIs (rws c r) V s) {x : Int32} (h1 : -5000 ≤ x.toInt) (h2 : x.toInt ≤ 5000) : f_X4_restBelow r x c = some (Int32.ofNat (rst V (kp x.toInt))) := by
  have he := ris_emp h
  have one : (1 : Int32).toInt = 1 := by decide
  have hx1 : (x - 1).toInt = x.toInt - 1 := by rw [is_ (by omega) (by omega), one]
  have go : ∃ d : Nat, ∃ b : Bool, (f_X4_digitAt r (x - 1) c).toInt = d ∧ (b = true ↔ (V ≠ 0 ∧ ∃ z : Nat, Zn V z ∧ (z : Int) - 1080 < x.toInt - 1)) ∧ rst V (kp x.toInt) = (if 5 < d then 3 else if d = 5 then (if b = false then 2 else 3) else if 0 < d then 1 else if b = false then 0 else 1) := by
    by_cases hk : -1079 ≤ x.toInt
    · obtain ⟨k, hk'⟩ : ∃ k : Nat, x.toInt = (k : Int) - 1079 := ⟨(x.toInt + 1079).toNat, by omega⟩
      refine ⟨V / 10 ^ k % 10, decide (V % 10 ^ k ≠ 0), digit_spec h (by omega) (by omega), ?_, ?_⟩
      · rw [decide_eq_true_iff]
        constructor
        · intro h3
          have hV : V ≠ 0 := fun h0 => h3 (by rw [h0]; simp)
          obtain ⟨y, z, g1, g2, g3, g4⟩ := low_spec h hV
          refine ⟨hV, z, g3, ?_⟩
          have := zn_lt (k := k) g3
          rw [← this] at h3
          omega
        · rintro ⟨hV, z, hz, h4⟩
          rw [← zn_lt (k := k) hz]
          omega
      · rw [show kp x.toInt = k + 1 by unfold kp; omega, rst_succ]
        by_cases h3 : V % 10 ^ k = 0 <;> simp [h3]
    · refine ⟨0, false, ?_, ?_, ?_⟩
      · rw [digit_low (by omega) (by omega)]; rfl
      · refine ⟨fun h => absurd h (by decide), ?_⟩
        rintro ⟨hV, z, hz, h4⟩
        exfalso; omega
      · rw [show kp x.toInt = 0 by unfold kp; omega, rst0]; rfl
  obtain ⟨d, b, g1, g2, g3⟩ := go
  rw [g3]
  unfold f_X4_restBelow
  simp only [lt]
  by_cases hV : V = 0
  · rw [if_neg (by rw [he]; simp [hV])]
    have hb : b = false := by
      rw [← Bool.not_eq_true, g2]; simp [hV]
    have q := j30 (b := false) (c := c) g1
    rw [hb]; exact q
  · rw [if_pos (by rw [he]; exact hV)]
    obtain ⟨y, z, k1, k2, k3, k4⟩ := low_spec h hV
    rw [k1]; simp only [Option.bind]
    by_cases hc : x - 1 ≤ y
    · rw [if_pos hc]
      rw [ile, hx1, k2] at hc
      have hb : b = false := by
        rw [← Bool.not_eq_true, g2]
        rintro ⟨_, z', hz', h4⟩
        have e1 := zn_lt (k := z) hz'
        have e2 := zn_lt (k := z') k3
        have e3 : ¬ z' < z := by rw [e1]; simp [k3.1]
        omega
      have q := j30 (b := false) (c := c) g1
      rw [hb]; exact q
    · rw [if_neg hc]
      rw [ile, hx1, k2] at hc
      have hb : b = true := g2.mpr ⟨hV, z, k3, by omega⟩
      have q := j30 (b := true) (c := c) g1
      rw [hb]; exact q
theorem whole_spec {c : CS} {r V : Nat} {s : Bool} (h : RIs (rws c r) V s) (hV : V / 1000000000 ^ 120 < 9223372036854775808) : (f_X4_whole r c).toInt = ((V / 1000000000 ^ 120 : Nat) : Int) := by
  have l3 := limb_k (k := 122) h (x := 33) (by decide)
  have l2 := limb_k (k := 121) h (x := 34) (by decide)
  have l1 := limb_k (k := 120) h (x := 35) (by decide)
  have e1 : gd V 121 = V / 1000000000 ^ 120 / 1000000000 % 1000000000 := by unfold gd; rw [Nat.pow_succ 1000000000 120, Nat.div_div_eq_div_mul]
  have e2 : gd V 122 = V / 1000000000 ^ 120 / 1000000000 / 1000000000 % 1000000000 := by
    unfold gd
    rw [Nat.div_div_eq_div_mul, Nat.div_div_eq_div_mul, show 1000000000 ^ 122 = 1000000000 ^ 120 * 1000000000 * 1000000000 by rw [← Nat.pow_succ, ← Nat.pow_succ]]
  have e0 : gd V 120 = V / 1000000000 ^ 120 % 1000000000 := rfl
  rw [e0] at l1
  rw [e1] at l2
  rw [e2] at l3
  clear e0 e1 e2 h
  generalize V / 1000000000 ^ 120 = X at *
  have eB : (1000000000 : Int64).toInt = 1000000000 := by decide +kernel
  unfold f_X4_whole
  simp only [lt]
  generalize f_X4_limbAt r 33 c = a3 at *
  generalize f_X4_limbAt r 34 c = a2 at *
  generalize f_X4_limbAt r 35 c = a1 at *
  have q3 : a3.toInt64.toInt = ((X / 1000000000 / 1000000000 : Nat) : Int) := by rw [il, l3]; omega
  have q2 : a2.toInt64.toInt = ((X / 1000000000 % 1000000000 : Nat) : Int) := by rw [il, l2]
  have q1 : a1.toInt64.toInt = ((X % 1000000000 : Nat) : Int) := by rw [il, l1]
  clear l1 l2 l3
  have m1 : (a3.toInt64 * 1000000000).toInt = ((X / 1000000000 / 1000000000 * 1000000000 : Nat) : Int) := by
    rw [lm (by rw [q3, eB]; omega) (by rw [q3, eB]; omega), q3, eB]; rfl
  have m2 : (a3.toInt64 * 1000000000 + a2.toInt64).toInt = ((X / 1000000000 : Nat) : Int) := by
    rw [la (by rw [m1, q2]; omega) (by rw [m1, q2]; omega), m1, q2]; omega
  have m3 : ((a3.toInt64 * 1000000000 + a2.toInt64) * 1000000000).toInt = ((X / 1000000000 * 1000000000 : Nat) : Int) := by
    rw [lm (by rw [m2, eB]; omega) (by rw [m2, eB]; omega), m2, eB]; rfl
  clear m1 m2 q2 q3
  rw [la (by rw [m3, q1]; omega) (by rw [m3, q1]; omega), m3, q1]; omega
theorem pow9z {V z k : Nat} (h : Zn V z) : (z < 9 * k) = (V % 1000000000 ^ k ≠ 0) := by
  rw [zn_lt (k := 9 * k) h]
  have := p9 k 0
  rw [Nat.add_zero, Nat.pow_zero, Nat.mul_one] at this
  rw [this]
theorem more_spec {c : CS} {r V : Nat} {s : Bool} (h : RIs (rws c r) V s) : f_X4_hasMore r c = nb (s || decide (V % 1000000000 ^ 120 ≠ 0)) := by
  have h0 := h
  obtain ⟨a1, a2, a3, a4, a5⟩ := h
  have e36 : (36 : Int32).toInt = 36 := by decide
  have key : (rwE c r < 36) = (V % 1000000000 ^ 120 = 0) := by
    rw [ilt, e36]
    unfold rwE
    simp only [eq_iff_iff]
    constructor
    · intro hE
      have := h0.bot (i := 35) (by omega) (fun k hk hk2 => a2 k hk2 (by omega))
      exact this
    · intro hm
      rcases a3 with ⟨b1, b2, b3, b4, b5⟩ | ⟨b1, b2⟩
      · by_cases hE : (rws c r).2.2.1.toInt < 36
        · exact hE
        · exfalso
          have hl := h0.limb (i := (rws c r).2.2.1.toInt.toNat) (by omega)
          have hz : gd V (155 - (rws c r).2.2.1.toInt.toNat) = 0 := by
            obtain ⟨k, hk⟩ : ∃ k, 120 = (155 - (rws c r).2.2.1.toInt.toNat) + (k + 1) := ⟨120 - (155 - (rws c r).2.2.1.toInt.toNat) - 1, by omega⟩
            generalize 155 - (rws c r).2.2.1.toInt.toNat = a at *
            rw [hk, Nat.pow_add, Nat.mod_mul] at hm
            have h6 : 1000000000 ^ a * (V / 1000000000 ^ a % 1000000000 ^ (k + 1)) = 0 := by omega
            have h7 : V / 1000000000 ^ a % 1000000000 ^ (k + 1) = 0 := by
              rcases Nat.mul_eq_zero.mp h6 with h | h
              · exact absurd h (Nat.ne_of_gt (Nat.pow_pos (by decide)))
              · exact h
            unfold gd
            have h8 : V / 1000000000 ^ a % (1000000000 * 1000000000 ^ k) % 1000000000 = 0 := by rw [Nat.mul_comm, ← Nat.pow_succ, h7]
            rw [Nat.mod_mul_right_mod] at h8
            exact h8
          rw [hz] at hl
          exact b5 (ieq.mpr (by rw [hl]; rfl))
      · omega
  unfold f_X4_hasMore rwX
  rw [a5]
  by_cases hm : V % 1000000000 ^ 120 = 0
  · have : rwE c r < 36 := by rw [key]; exact hm
    cases s <;> simp [nb, this, hm]
  · have : ¬ rwE c r < 36 := by rw [key]; exact hm
    cases s <;> simp [nb, this, hm]
