/-! roundRow -/
def bt (n : Nat) : Int := ((n : Int) - 1080) * 217706 / 65536 + 1
def chk (n : Nat) : Bool := decide (p2 (bt n - 5) * 10 ^ 1080 ≤ 10 ^ (n - 1) * p2 (-(bt n - 5))) && decide (10 ^ n * p2 (-(bt n + 2)) ≤ p2 (bt n + 2) * 10 ^ 1080)
theorem chk_all : (List.range 700).all (fun i => chk (i + 720)) = true := by decide +kernel
theorem chk_n {n : Nat} (h1 : 720 ≤ n) (h2 : n < 1420) : p2 (bt n - 5) * 10 ^ 1080 ≤ 10 ^ (n - 1) * p2 (-(bt n - 5)) ∧ 10 ^ n * p2 (-(bt n + 2)) ≤ p2 (bt n + 2) * 10 ^ 1080 := by
  have h := List.all_eq_true.mp chk_all (n - 720) (List.mem_range.mpr (by omega))
  rw [show n - 720 + 720 = n by omega] at h
  unfold chk at h
  rw [Bool.and_eq_true, decide_eq_true_iff, decide_eq_true_iff] at h
  exact h
def GN (n : Nat) : Nat := if n = 0 then 10 ^ 1080 else GN (n - 1)
termination_by n
abbrev GG : Nat := GN 0
theorem GG_eq : GG = 10 ^ 1080 := by
  show GN 0 = _
  rw [GN]; simp
theorem B120 : 1000000000 ^ 120 = GG := by
  have := p9 120 0
  rw [Nat.pow_zero, Nat.mul_one] at this
  rw [GG_eq, ← this]
theorem GG_pos : 0 < GG := by rw [GG_eq]; exact Nat.pow_pos (by decide)
theorem GG_div : ∃ M, GG = 2 ^ 1080 * M := ⟨5 ^ 1080, by rw [GG_eq, ← Nat.mul_pow]⟩
def Ck (n : Nat) (b : Int) : Prop := p2 (b - 5) * GG ≤ 10 ^ (n - 1) * p2 (-(b - 5)) ∧ 10 ^ n * p2 (-(b + 2)) ≤ p2 (b + 2) * GG
theorem ck_n {n : Nat} (h1 : 720 ≤ n) (h2 : n < 1420) : Ck n (bt n) := by
  unfold Ck
  rw [GG_eq]
  exact chk_n h1 h2
/-- W below 2^63, at least 2^56 -/
theorem w_lt {V n : Nat} {b : Int} {W : Nat} {e : Bool} (hV : V < 10 ^ n) (h : 10 ^ n * p2 (-(b + 2)) ≤ p2 (b + 2) * GG) (a : Fl (V * p2 (61 - b)) (GG * p2 (b - 61)) W e) : W < 2 ^ 63 := by
  have h1 : V * p2 (-(b + 2)) < GG * p2 (b + 2) := by
    rw [Nat.mul_comm GG]
    exact Nat.lt_of_lt_of_le (Nat.mul_lt_mul_of_pos_right hV (p2_pos _)) h
  have h2 := lt_shift (k := b - 61) (d := 63) h1 (by omega)
  rw [show -(b - 61) = 61 - b by omega] at h2
  exact Nat.lt_of_mul_lt_mul_right (Nat.lt_of_le_of_lt a.1 h2)
theorem w_ge {V n : Nat} {b : Int} {W : Nat} {e : Bool} (hV : 10 ^ (n - 1) ≤ V) (h : p2 (b - 5) * GG ≤ 10 ^ (n - 1) * p2 (-(b - 5))) (a : Fl (V * p2 (61 - b)) (GG * p2 (b - 61)) W e) : 2 ^ 56 ≤ W := by
  have h1 : GG * p2 (b - 5) ≤ V * p2 (-(b - 5)) := by
    rw [Nat.mul_comm GG]
    exact Nat.le_trans h (Nat.mul_le_mul_right _ hV)
  have h2 := le_shift (k := b - 61) (d := 56) h1 (by omega)
  rw [show -(b - 61) = 61 - b by omega] at h2
  exact Nat.le_of_lt_succ (Nat.lt_of_mul_lt_mul_right (Nat.lt_of_le_of_lt h2 a.2.1))
theorem bl_ex {W : Nat} (h0 : 2 ^ 56 ≤ W) (h : W < 2 ^ 63) : ∃ L, Bl W (L + 1) ∧ 56 ≤ L ∧ L ≤ 62 := by
  refine ⟨W.log2, ⟨Nat.lt_log2_self, .inr ?_⟩, ?_, ?_⟩
  · rw [Nat.add_sub_cancel]
    exact Nat.log2_self_le (by intro q; rw [q] at h0; exact absurd h0 (by decide))
  · exact (Nat.le_log2 (by intro q; rw [q] at h0; exact absurd h0 (by decide))).mpr h0
  · have : W.log2 < 63 := (Nat.log2_lt (by intro q; rw [q] at h0; exact absurd h0 (by decide))).mpr h
    omega
/-- the floor of the value itself, out of the row's -/
theorem fl_row {A B V W d h : Nat} {s e : Bool} {u k : Int} (hk : k = u + d) (hk2 : -1080 ≤ k) (a : Fl (A * GG) B V s) (b : Fl (V * p2 (-u)) (GG * p2 u) W e) (hh : h = W / 2 ^ d) : Fl (A * p2 (-k)) (B * p2 k) h (s || e || decide (W % 2 ^ d ≠ 0)) := by
  subst hh
  have hB := a.pos
  have c := fl_unit hk b
  obtain ⟨M, hM⟩ : ∃ M, M * p2 (-k) = GG * p2 k ∧ 0 < M := by
    obtain ⟨N, hN⟩ := GG_div
    have hN0 : 0 < N := by
      rcases Nat.eq_zero_or_pos N with q | q
      · rw [q, Nat.mul_zero] at hN; exact absurd hN (Nat.ne_of_gt GG_pos)
      · exact q
    refine ⟨N * 2 ^ (1080 - (-k).toNat) * p2 k, ?_, Nat.mul_pos (Nat.mul_pos hN0 (Nat.pow_pos (by decide))) (p2_pos _)⟩
    have e1 : (2 : Nat) ^ 1080 = 2 ^ (1080 - (-k).toNat) * 2 ^ (-k).toNat := by rw [← Nat.pow_add, show 1080 - (-k).toNat + (-k).toNat = 1080 by omega]
    rw [hN, e1]
    unfold p2
    simp only [Nat.mul_assoc, Nat.mul_left_comm, Nat.mul_comm]
  have c2 : Fl V M (W / 2 ^ d) (e || decide (W % 2 ^ d ≠ 0)) := by
    refine fl_scale ?_ hM.2 c
    rw [Nat.mul_assoc, Nat.mul_comm (p2 (-k)), hM.1]
  have c3 := fl_grid a c2
  rw [Bool.or_assoc]
  refine fl_scale ?_ (Nat.mul_pos hB (p2_pos _)) c3
  have e1 : A * GG * (B * p2 k) = A * B * (GG * p2 k) := by simp only [Nat.mul_assoc, Nat.mul_left_comm, Nat.mul_comm]
  have e2 : A * p2 (-k) * (B * M) = A * B * (M * p2 (-k)) := by simp only [Nat.mul_assoc, Nat.mul_left_comm, Nat.mul_comm]
  rw [e1, e2, hM.1]
theorem fl_stick {W : Nat} {s : Bool} {u : Int} : Fl ((2 * W + ubi s) * p2 u * p2 (-u)) (2 * p2 (-u) * p2 u) W s := by
  have hp := p2_pos u
  have hp2 := p2_pos (-u)
  have e1 : (2 * W + ubi s) * p2 u * p2 (-u) = (2 * W + ubi s) * (p2 u * p2 (-u)) := by rw [Nat.mul_assoc]
  have e2 : 2 * p2 (-u) * p2 u = 2 * (p2 u * p2 (-u)) := by rw [Nat.mul_assoc, Nat.mul_comm (p2 (-u))]
  rw [e1, e2]
  have hP : 0 < p2 u * p2 (-u) := Nat.mul_pos hp hp2
  generalize p2 u * p2 (-u) = P at *
  have e3 : (2 * W + ubi s) * P = W * (2 * P) + ubi s * P := by rw [Nat.add_mul, Nat.mul_comm 2 W, Nat.mul_assoc]
  refine ⟨by rw [e3]; omega, ?_, ?_⟩
  · rw [e3, Nat.add_mul, Nat.one_mul]
    cases s <;> simp [ubi] <;> omega
  · rw [e3]
    cases s <;> simp [ubi] <;> omega
theorem crnd_row {f way W L V A B : Nat} {neg s e : Bool} {x3 x5 : Int64} {u : Int} (hf : f < 4) (hw : way < 5) (hW : x3.toBitVec.toNat = W) (hu : x5.toInt = u) (hu1 : -10000000000 ≤ u) (hu2 : u ≤ 10000000000) (hbl : Bl W (L + 1)) (hL : 56 ≤ L) (a : Fl (A * GG) B V s) (b : Fl (V * p2 (-u)) (GG * p2 u) W e) (c : CS) : ∃ q h e', f_X3_round f (nb neg) x3 x5 (nb (s || e)) (Int32.ofNat way) c = some (Cs c f neg (RO f neg way q h e')) ∧ Rq f A B q h e' := by
  have hfm := fm_b f
  have hl : lst f = 2 - (gr f : Int) - (pr f : Int) := rfl
  have st := fl_stick (W := W) (s := (s || e)) (u := u)
  have hq2 : u + L + 1 - pr f ≤ qOf f (u + L) ∧ lst f ≤ qOf f (u + L) := by unfold qOf; split <;> omega
  obtain ⟨q, h, e', g1, g2⟩ := crnd_spec (neg := neg) (s := (s || e)) hf hw hW hu hu1 hu2 hbl st (fun _ => by omega) c
  obtain ⟨d, hd⟩ : ∃ d : Nat, qOf f (u + L) - 1 = u + d := ⟨(qOf f (u + L) - 1 - u).toNat, by omega⟩
  have t1 := fl_unit hd st
  rw [show -(qOf f (u + L) - 1) = 1 - qOf f (u + L) by omega] at t1
  have t2 := rq_pb (f := f) (pb_of hbl st) t1
  obtain ⟨rfl, rfl, rfl⟩ := rq_unique g2 t2
  refine ⟨_, _, _, g1, ?_, g2.2⟩
  have t3 := fl_row hd (by omega) a b rfl
  rw [show -(qOf f (u + L) - 1) = 1 - qOf f (u + L) by omega] at t3
  exact t3
