/-! Pure: floors of quotients, and rounding to a format by them. -/
def Vl (f : Nat → Int32) (n : Nat) : Nat := if n = 0 then val f else Vl f (n - 1)
termination_by n
abbrev vl (f : Nat → Int32) : Nat := Vl f 0
theorem vl_eq (f : Nat → Int32) : val f = vl f := by
  show _ = Vl f 0
  rw [Vl]; simp
/-- h is the whole part of X / Y; e: it is less than X / Y -/
def Fl (X Y h : Nat) (e : Bool) : Prop := h * Y ≤ X ∧ X < (h + 1) * Y ∧ (e = true ↔ h * Y ≠ X)
theorem Fl.pos {X Y h : Nat} {e : Bool} (hf : Fl X Y h e) : 0 < Y := by
  rcases Nat.eq_zero_or_pos Y with h0 | h0
  · have := hf.2.1; rw [h0] at this; simp at this
  · exact h0
theorem fl_of {X Y : Nat} (hY : 0 < Y) : Fl X Y (X / Y) (decide (X % Y ≠ 0)) := by
  have h1 := Nat.div_add_mod X Y
  have h2 := Nat.mod_lt X hY
  rw [Nat.mul_comm] at h1
  refine ⟨by omega, by rw [Nat.add_mul]; omega, ?_⟩
  rw [decide_eq_true_iff]
  omega
theorem fl_unique {X Y h h' : Nat} {e e' : Bool} (a : Fl X Y h e) (b : Fl X Y h' e') : h = h' ∧ e = e' := by
  have h1 : h < h' + 1 := Nat.lt_of_mul_lt_mul_right (Nat.lt_of_le_of_lt a.1 b.2.1)
  have h2 : h' < h + 1 := Nat.lt_of_mul_lt_mul_right (Nat.lt_of_le_of_lt b.1 a.2.1)
  have h3 : h = h' := by omega
  subst h3
  refine ⟨rfl, ?_⟩
  rw [Bool.eq_iff_iff, a.2.2, b.2.2]
theorem fl_scale {X Y X' Y' h : Nat} {e : Bool} (hc : X * Y' = X' * Y) (hY' : 0 < Y') (a : Fl X Y h e) : Fl X' Y' h e := by
  have hY := a.pos
  obtain ⟨a1, a2, a3⟩ := a
  have e1 : h * Y' * Y = h * Y * Y' := by rw [Nat.mul_assoc, Nat.mul_assoc, Nat.mul_comm Y]
  have e2 : (h + 1) * Y' * Y = (h + 1) * Y * Y' := by rw [Nat.mul_assoc, Nat.mul_assoc, Nat.mul_comm Y]
  refine ⟨Nat.le_of_mul_le_mul_right (c := Y) ?_ hY, Nat.lt_of_mul_lt_mul_right (a := Y) ?_, a3.trans (not_congr ⟨fun q => ?_, fun q => ?_⟩)⟩
  · rw [e1, ← hc]; exact Nat.mul_le_mul_right _ a1
  · rw [e2, ← hc]; exact Nat.mul_lt_mul_of_pos_right a2 hY'
  · refine Nat.eq_of_mul_eq_mul_right hY ?_
    rw [e1, ← hc, q]
  · refine Nat.eq_of_mul_eq_mul_right hY' ?_
    rw [hc, ← e1, q]
theorem fl_coarse {X Y W c : Nat} {s : Bool} (hc : 0 < c) (a : Fl X Y W s) : Fl X (Y * c) (W / c) (s || decide (W % c ≠ 0)) := by
  obtain ⟨a1, a2, a3⟩ := a
  have h1 := Nat.div_add_mod W c
  have h2 := Nat.mod_lt W hc
  have e1 : W / c * (Y * c) = (W / c * c) * Y := by rw [Nat.mul_comm Y, Nat.mul_assoc]
  have e2 : (W / c + 1) * (Y * c) = ((W / c + 1) * c) * Y := by rw [Nat.mul_comm Y, Nat.mul_assoc]
  rw [Nat.mul_comm] at h1
  have h3 : W / c * c ≤ W := by omega
  have h4 : W + 1 ≤ (W / c + 1) * c := by rw [Nat.add_mul]; omega
  refine ⟨?_, ?_, ?_⟩
  · rw [e1]; exact Nat.le_trans (Nat.mul_le_mul_right _ h3) a1
  · rw [e2]; exact Nat.lt_of_lt_of_le a2 (Nat.mul_le_mul_right _ h4)
  · rw [Bool.or_eq_true, a3, decide_eq_true_iff, e1]
    by_cases h5 : W % c = 0
    · rw [show W / c * c = W by omega]
      simp [h5]
    · refine ⟨fun _ hq => ?_, fun _ => .inr h5⟩
      have h6 : W / c * c < W := by omega
      have h7 : (W / c * c + 1) * Y ≤ W * Y := Nat.mul_le_mul_right _ h6
      have hY : 0 < Y := by
        rcases Nat.eq_zero_or_pos Y with h0 | h0
        · rw [h0] at a2; simp at a2
        · exact h0
      rw [Nat.add_mul] at h7
      omega
theorem fl_exact {X Y W c : Nat} (hc : 0 < c) (a : Fl X Y W false) : Fl (X * c) Y (W * c) false := by
  have hY := a.pos
  obtain ⟨a1, a2, a3⟩ := a
  have h1 : W * Y = X := by
    rcases Nat.lt_or_ge (W * Y) X with h | h
    · have := a3.mpr (by omega); simp at this
    · omega
  have h2 : W * c * Y = X * c := by rw [← h1, Nat.mul_assoc, Nat.mul_comm c, Nat.mul_assoc]
  refine ⟨by omega, by rw [Nat.add_mul]; omega, by rw [h2]; simp⟩
/-- a value between two points of a grid is floored as the lower one, a little more -/
theorem fl_grid {A G B V M h : Nat} {s e : Bool} (a : Fl (A * G) B V s) (b : Fl V M h e) : Fl (A * G) (B * M) h (s || e) := by
  have hB := a.pos
  have hM := b.pos
  obtain ⟨a1, a2, a3⟩ := a
  obtain ⟨b1, b2, b3⟩ := b
  have e1 : h * (B * M) = h * M * B := by rw [Nat.mul_comm B, Nat.mul_assoc]
  have e2 : (h + 1) * (B * M) = (h + 1) * M * B := by rw [Nat.mul_comm B, Nat.mul_assoc]
  refine ⟨?_, ?_, ?_⟩
  · rw [e1]; exact Nat.le_trans (Nat.mul_le_mul_right _ b1) a1
  · rw [e2]; exact Nat.lt_of_lt_of_le a2 (Nat.mul_le_mul_right _ b2)
  · rw [Bool.or_eq_true, a3, b3, e1]
    by_cases h5 : h * M = V
    · rw [h5]; simp
    · refine ⟨fun _ hq => ?_, fun _ => .inr h5⟩
      have h6 : h * M < V := by omega
      have h7 : (h * M + 1) * B ≤ V * B := Nat.mul_le_mul_right _ h6
      rw [Nat.add_mul] at h7
      omega
/-! the formats -/
def pr (f : Nat) : Nat := if f = 0 then 53 else if f = 1 then 24 else if f = 2 then 11 else 8
def gr (f : Nat) : Nat := if f = 0 then 1023 else if f = 2 then 15 else 127
def lst (f : Nat) : Int := 2 - (gr f : Int) - (pr f : Int)
def wdt (f : Nat) : Nat := if f = 0 then 64 else if f = 1 then 32 else 16
theorem pr_b (f : Nat) : 8 ≤ pr f ∧ pr f ≤ 53 := by unfold pr; repeat' split <;> try omega
theorem gr_b (f : Nat) : 15 ≤ gr f ∧ gr f ≤ 1023 := by unfold gr; repeat' split <;> try omega
theorem fm_b (f : Nat) : (8 ≤ pr f ∧ pr f ≤ 53) ∧ (15 ≤ gr f ∧ gr f ≤ 1023) ∧ gr f + pr f ≤ 1076 ∧ pr f ≤ gr f + 1 := by
  unfold gr pr
  by_cases h0 : f = 0
  · simp [h0]
  · by_cases h1 : f = 1
    · simp [h1]
    · by_cases h2 : f = 2
      · simp [h2]
      · simp [h0, h1, h2]
def p2 (k : Int) : Nat := 2 ^ k.toNat
theorem p2_pos (k : Int) : 0 < p2 k := Nat.pow_pos (by decide)
def inf (f : Nat) : Nat := (2 * gr f + 1) * 2 ^ (pr f - 1)
def upw (way : Nat) (neg : Bool) (h : Nat) (e : Bool) : Bool :=
  if way = 0 then decide (h % 2 = 1) && (e || decide (h / 2 % 2 = 1))
  else if way = 1 then decide (h % 2 = 1)
  else if way = 3 then (decide (h % 2 = 1) || e) && !neg
  else if way = 4 then (decide (h % 2 = 1) || e) && neg
  else false
def farw (way : Nat) (neg : Bool) : Bool := decide (way < 2) || (decide (way = 3) && !neg) || (decide (way = 4) && neg)
def ovr (f way : Nat) (neg : Bool) : Nat × Nat := (if farw way neg then inf f else inf f - 1, 3)
def szf (f : Nat) (neg : Bool) (way : Nat) (q : Int) (h : Nat) (e : Bool) : Nat := (q - lst f).toNat * 2 ^ (pr f - 1) + h / 2 + (if upw way neg h e then 1 else 0)
def RO (f : Nat) (neg : Bool) (way : Nat) (q : Int) (h : Nat) (e : Bool) : Nat × Nat :=
  if inf f ≤ szf f neg way q h e then ovr f way neg
  else (szf f neg way q h e, if h % 2 = 0 ∧ e = false then 0 else if szf f neg way q h e < 2 ^ (pr f - 1) then 5 else 1)
def Rq (f A B : Nat) (q : Int) (h : Nat) (e : Bool) : Prop := Fl (A * p2 (1 - q)) (B * p2 (q - 1)) h e ∧ lst f ≤ q ∧ h < 2 ^ (pr f + 1) ∧ (q = lst f ∨ 2 ^ pr f ≤ h)
theorem p2_split {a b : Int} {d : Nat} (h : b = a + d) : p2 b * p2 (-a) = p2 a * p2 (-b) * 2 ^ d := by
  unfold p2
  rw [← Nat.pow_add, ← Nat.pow_add, ← Nat.pow_add]
  congr 1
  omega
/-- the same floor at a coarser unit -/
theorem fl_unit {A B W : Nat} {s : Bool} {u k : Int} {d : Nat} (hk : k = u + d) (a : Fl (A * p2 (-u)) (B * p2 u) W s) : Fl (A * p2 (-k)) (B * p2 k) (W / 2 ^ d) (s || decide (W % 2 ^ d ≠ 0)) := by
  have hB : 0 < B := by
    rcases Nat.eq_zero_or_pos B with h | h
    · have := a.pos; rw [h] at this; simp at this
    · exact h
  refine fl_scale ?_ (Nat.mul_pos hB (p2_pos k)) (fl_coarse (Nat.pow_pos (by decide)) a)
  have := p2_split hk
  generalize p2 k = P at *
  generalize p2 (-u) = Q at *
  generalize p2 u = R at *
  generalize p2 (-k) = S at *
  generalize 2 ^ d = T at *
  have e1 : A * Q * (B * P) = A * B * (P * Q) := by simp only [Nat.mul_assoc, Nat.mul_left_comm, Nat.mul_comm]
  have e2 : A * S * (B * R * T) = A * B * (R * S * T) := by simp only [Nat.mul_assoc, Nat.mul_left_comm, Nat.mul_comm]
  rw [e1, e2, this]
theorem fl_fine {A B W : Nat} {u k : Int} {d : Nat} (hk : u = k + d) (a : Fl (A * p2 (-u)) (B * p2 u) W false) : Fl (A * p2 (-k)) (B * p2 k) (W * 2 ^ d) false := by
  have hB : 0 < B := by
    rcases Nat.eq_zero_or_pos B with h | h
    · have := a.pos; rw [h] at this; simp at this
    · exact h
  refine fl_scale ?_ (Nat.mul_pos hB (p2_pos k)) (fl_exact (c := 2 ^ d) (Nat.pow_pos (by decide)) a)
  have := p2_split hk
  generalize p2 k = P at *
  generalize p2 (-u) = Q at *
  generalize p2 u = R at *
  generalize p2 (-k) = S at *
  generalize 2 ^ d = T at *
  have e1 : A * Q * T * (B * P) = A * B * (P * Q * T) := by simp only [Nat.mul_assoc, Nat.mul_left_comm, Nat.mul_comm]
  have e2 : A * S * (B * R) = A * B * (R * S) := by simp only [Nat.mul_assoc, Nat.mul_left_comm, Nat.mul_comm]
  rw [e1, e2, this]
theorem rq_unique {f A B : Nat} {q q' : Int} {h h' : Nat} {e e' : Bool} (a : Rq f A B q h e) (b : Rq f A B q' h' e') : q = q' ∧ h = h' ∧ e = e' := by
  have key : ∀ {q q' : Int} {h h' : Nat} {e e' : Bool}, Rq f A B q h e → Rq f A B q' h' e' → ¬ q < q' := by
    intro q q' h h' e e' a b hlt
    obtain ⟨a1, a2, a3, a4⟩ := a
    obtain ⟨b1, b2, b3, b4⟩ := b
    have b5 : 2 ^ pr f ≤ h' := b4.resolve_left (by omega)
    obtain ⟨d, hd⟩ : ∃ d : Nat, q' - 1 = (q - 1) + ((d + 1 : Nat) : Int) := ⟨(q' - q).toNat - 1, by omega⟩
    have c := fl_unit (A := A) (B := B) (W := h) (s := e) hd (by rw [show -(q - 1) = 1 - q by omega]; exact a1)
    rw [show -(q' - 1) = 1 - q' by omega] at c
    have h1 := (fl_unique b1 c).1
    have h2 : h / 2 ^ (d + 1) ≤ h / 2 := by
      rw [Nat.pow_succ, Nat.mul_comm, ← Nat.div_div_eq_div_mul]
      exact Nat.div_le_self _ _
    rw [Nat.pow_succ] at a3
    omega
  have h1 := key a b
  have h2 := key b a
  have h3 : q = q' := by omega
  subst h3
  exact ⟨rfl, fl_unique a.1 b.1⟩
theorem rq_scale {f A B A' B' : Nat} {q : Int} {h : Nat} {e : Bool} (hc : A * B' = A' * B) (hB' : 0 < B') (a : Rq f A B q h e) : Rq f A' B' q h e := by
  refine ⟨fl_scale ?_ (Nat.mul_pos hB' (p2_pos _)) a.1, a.2⟩
  generalize p2 (1 - q) = P
  generalize p2 (q - 1) = Q
  have e1 : A * P * (B' * Q) = A * B' * (P * Q) := by simp only [Nat.mul_assoc, Nat.mul_left_comm, Nat.mul_comm]
  have e2 : A' * P * (B * Q) = A' * B * (P * Q) := by simp only [Nat.mul_assoc, Nat.mul_left_comm, Nat.mul_comm]
  rw [e1, e2, hc]
/-- too large for every format -/
theorem ro_big {f A B way : Nat} {neg : Bool} {q : Int} {h : Nat} {e : Bool} (a : Rq f A B q h e) (hb : B * 2 ^ 1024 ≤ A) : RO f neg way q h e = ovr f way neg := by
  obtain ⟨⟨a1, a5, a6⟩, a2, a3, a4⟩ := a
  have hf := fm_b f
  have hl : lst f = 2 - (gr f : Int) - (pr f : Int) := rfl
  have hB : 0 < B := by
    rcases Nat.eq_zero_or_pos B with h | h
    · rw [h] at a5; simp at a5
    · exact h
  have hq : 1024 - (pr f : Int) < q := by
    by_cases h1 : 1024 - (pr f : Int) < q
    · exact h1
    · exfalso
      have h2 : (h + 1) * (B * p2 (q - 1)) ≤ 2 ^ (pr f + 1) * (B * p2 (q - 1)) := Nat.mul_le_mul_right _ a3
      have h3 : B * 2 ^ 1024 * p2 (1 - q) ≤ A * p2 (1 - q) := Nat.mul_le_mul_right _ hb
      have h4 : 2 ^ (pr f + 1) * (B * p2 (q - 1)) ≤ B * 2 ^ 1024 * p2 (1 - q) := by
        rw [Nat.mul_left_comm, Nat.mul_assoc]
        refine Nat.mul_le_mul_left _ ?_
        unfold p2
        rw [← Nat.pow_add, ← Nat.pow_add]
        exact Nat.pow_le_pow_right (by decide) (by omega)
      omega
  have h6 : 2 ^ pr f ≤ h := a4.resolve_left (by omega)
  have h7 : 2 ^ pr f = 2 * 2 ^ (pr f - 1) := by rw [← pow2s]; congr 1; omega
  have h8 : inf f ≤ szf f neg way q h e := by
    unfold inf szf
    have h9 : 2 * gr f * 2 ^ (pr f - 1) ≤ (q - lst f).toNat * 2 ^ (pr f - 1) := Nat.mul_le_mul_right _ (by omega)
    rw [Nat.add_mul]
    omega
  unfold RO
  rw [if_pos h8]
theorem rq_tiny {f A B : Nat} (hA : 0 < A) (hb : A * 2 ^ 1075 < B) : Rq f A B (lst f) 0 true := by
  have hf := fm_b f
  have hl : lst f = 2 - (gr f : Int) - (pr f : Int) := rfl
  have h1 : A * p2 (1 - lst f) < B * p2 (lst f - 1) := by
    have h2 : A * p2 (1 - lst f) ≤ A * 2 ^ 1075 := Nat.mul_le_mul_left _ (Nat.pow_le_pow_right (by decide) (by omega))
    have h3 : B * 1 ≤ B * p2 (lst f - 1) := Nat.mul_le_mul_left _ (p2_pos _)
    omega
  have h4 : 0 < A * p2 (1 - lst f) := Nat.mul_pos hA (p2_pos _)
  refine ⟨⟨by omega, by omega, by simp; omega⟩, by omega, Nat.pow_pos (by decide), .inl rfl⟩
