theorem rj270 {f v way : Nat} {q : Int} {neg ine up : Bool} {x5 x6 : Int32} {x7 : Int64} (hf : f < 4) (hw : way < 5) (h5 : x5.toInt = pr f) (h6 : x6.toInt = q) (h7 : x7.toInt = v) (hv : v < 2 ^ pr f) (h1 : q ≤ (gr f : Int) - pr f + 1) (h0 : lst f ≤ q) (m : MS) : f_X7_round_J270 (Int32.ofNat f) (nb neg) (Int32.ofNat way) x5 x6 x7 (nb ine) (nb up) m = some (Rs m f neg (if inf f ≤ (q - lst f).toNat * 2 ^ (pr f - 1) + v + ubi up then ovr f way neg else ((q - lst f).toNat * 2 ^ (pr f - 1) + v + ubi up, if ine = false then 0 else if (q - lst f).toNat * 2 ^ (pr f - 1) + v + ubi up < 2 ^ (pr f - 1) then 5 else 1))) := by
  have hs := s_b h1 h0
  have hz := rsz hf h5 h6 h7 hv h1 h0
  rw [pp1] at hv
  unfold f_X7_round_J270
  cases up
  · rw [if_pos (show nb false = 0 from rfl)]
    exact rj298 (v := v) hf hw h5 hz (by decide) (by omega) m
  · rw [if_neg (show ¬ nb true = 0 by decide)]
    exact rj298 (v := v) hf hw h5 hz (by decide) (by omega) m
/-- the half and the rest of a remainder -/
def hb (R B : Nat) : Nat := if B ≤ 2 * R then 1 else 0
def eb (R B : Nat) : Bool := decide (R ≠ 0 ∧ 2 * R ≠ B)
theorem ro_eq {f v way R B : Nat} {q : Int} {neg : Bool} {up : Bool} (hR : R < B) (hup : up = upw way neg (2 * v + hb R B) (eb R B)) : (if inf f ≤ (q - lst f).toNat * 2 ^ (pr f - 1) + v + ubi up then ovr f way neg else ((q - lst f).toNat * 2 ^ (pr f - 1) + v + ubi up, if decide (R ≠ 0) = false then 0 else if (q - lst f).toNat * 2 ^ (pr f - 1) + v + ubi up < 2 ^ (pr f - 1) then 5 else 1)) = RO f neg way q (2 * v + hb R B) (eb R B) := by
  have e1 : (2 * v + hb R B) / 2 = v := by unfold hb; split <;> omega
  have e2 : szf f neg way q (2 * v + hb R B) (eb R B) = (q - lst f).toNat * 2 ^ (pr f - 1) + v + ubi up := by
    unfold szf ubi
    rw [e1, ← hup]
  have e3 : ((2 * v + hb R B) % 2 = 0 ∧ eb R B = false) = (decide (R ≠ 0) = false) := by
    unfold hb eb
    simp only [decide_eq_false_iff_not, eq_iff_iff]
    split <;> omega
  unfold RO
  rw [e2]
  simp only [e3]
theorem rj177 {f v way : Nat} {q : Int} {neg : Bool} {x5 x6 : Int32} {x7 : Int64} (hf : f < 4) (hw : way < 5) (h5 : x5.toInt = pr f) (h6 : x6.toInt = q) (h7 : x7.toInt = v) (hv : v < 2 ^ pr f) (h1 : q ≤ (gr f : Int) - pr f + 1) (h0 : lst f ≤ q) {m : MS} (ha : W30 (mA m 3)) (hb' : W30 (mA m 4)) {R B : Nat} (hR : vl (mA m 3) = R) (hB : vl (mA m 4) = B) (hlt : R < B) (hfit : R * 2 ^ 1 < B320) : ∃ u, f_X7_round_J177 (Int32.ofNat f) (nb neg) (Int32.ofNat way) x5 x6 x7 (nb (decide (R ≠ 0))) m = some (Rs (smA m 3 u) f neg (RO f neg way q (2 * v + hb R B) (eb R B))) := by
  obtain ⟨u, d1, d2, d3⟩ := left_spec (j := 3) rfl (n := 1) (by decide) ha (by rw [vl_eq, hR]; exact hfit)
  have d1' : f_X7_left 3 1 m = some (smA m 3 u) := d1
  obtain ⟨r, f1, f2⟩ := cmp_spec (i := 3) (j := 4) rfl rfl (m := smA m 3 u) (by rw [smA_same]; exact d2) (by rw [smA_ne (by decide)]; exact hb')
  rw [smA_same, smA_ne (by decide), d3, vl_eq, vl_eq, hR, hB] at f2
  clear d3 d2 d1 hfit
  refine ⟨u, ?_⟩
  unfold f_X7_round_J177
  rw [d1']; simp only [Option.bind]
  rw [f1]; simp only
  have fin : ∀ up, up = upw way neg (2 * v + hb R B) (eb R B) → f_X7_round_J270 (Int32.ofNat f) (nb neg) (Int32.ofNat way) x5 x6 x7 (nb (decide (R ≠ 0))) (nb up) (smA m 3 u) = some (Rs (smA m 3 u) f neg (RO f neg way q (2 * v + hb R B) (eb R B))) := by
    intro up hup
    rw [rj270 hf hw h5 h6 h7 hv h1 h0, ro_eq hlt hup]
  have fin0 := fin false
  have fin1 := fin true
  rw [show nb false = 0 from rfl] at fin0
  rw [show nb true = 1 from rfl] at fin1
  simp only [n_even h7]
  have e2 : (2 * v + 0) % 2 = 0 := by omega
  have e3 : (2 * v + 1) % 2 = 1 := by omega
  have e4 : (2 * v + 1) / 2 = v := by omega
  have hw' : way = 0 ∨ way = 1 ∨ way = 2 ∨ way = 3 ∨ way = 4 := by omega
  by_cases hR0 : R = 0
  · have q1 : hb R B = 0 := by unfold hb; rw [if_neg (by omega)]
    have q2 : eb R B = false := by unfold eb; rw [hR0]; simp
    rw [q1, q2] at fin0
    rw [q1, q2, if_pos (by rw [hR0]; decide)]
    refine fin0 ?_
    unfold upw
    rw [e2]
    simp
  · rw [if_neg (by simp [hR0, nb])]
    rw [Nat.pow_one] at f2
    rcases f2 with ⟨rfl, h⟩ | ⟨rfl, h⟩ | ⟨rfl, h⟩
    · have q1 : hb R B = 0 := by unfold hb; rw [if_neg (by omega)]
      have q2 : eb R B = true := by unfold eb; simp; omega
      rw [q1, q2] at fin0 fin1
      rw [q1, q2]
      unfold upw at fin0 fin1
      rw [e2] at fin0 fin1
      rcases hw' with rfl | rfl | rfl | rfl | rfl <;> cases neg <;> simp [nb] at fin0 fin1 ⊢ <;> assumption
    · have q1 : hb R B = 1 := by unfold hb; rw [if_pos (by omega)]
      have q2 : eb R B = false := by unfold eb; simp; omega
      rw [q1, q2] at fin0 fin1
      rw [q1, q2]
      unfold upw at fin0 fin1
      rw [e3, e4] at fin0 fin1
      by_cases hp : v % 2 = 1
      · rcases hw' with rfl | rfl | rfl | rfl | rfl <;> cases neg <;> simp [nb, hp] at fin0 fin1 ⊢ <;> assumption
      · rcases hw' with rfl | rfl | rfl | rfl | rfl <;> cases neg <;> simp [nb, hp] at fin0 fin1 ⊢ <;> assumption
    · have q1 : hb R B = 1 := by unfold hb; rw [if_pos (by omega)]
      have q2 : eb R B = true := by unfold eb; simp; omega
      rw [q1, q2] at fin0 fin1
      rw [q1, q2]
      unfold upw at fin0 fin1
      rw [e3, e4] at fin0 fin1
      rcases hw' with rfl | rfl | rfl | rfl | rfl <;> cases neg <;> simp [nb] at fin0 fin1 ⊢ <;> assumption
