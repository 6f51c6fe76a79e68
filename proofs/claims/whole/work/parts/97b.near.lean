/-! which numbers are rounded to a size, to the nearest -/
theorem norm_uniq {a b x y H : Nat} (h : a * H + x = b * H + y) (hx : x < 2 * H) (hy : y < 2 * H) (ha : a = 0 ∨ H ≤ x) (hb : b = 0 ∨ H ≤ y) : a = b ∧ x = y := by
  rcases Nat.lt_trichotomy a b with q | q | q
  · exfalso
    have h1 : (a + 1) * H ≤ b * H := Nat.mul_le_mul_right _ q
    rw [Nat.add_mul, Nat.one_mul] at h1
    have := hb.resolve_left (by omega)
    omega
  · subst q; exact ⟨rfl, by omega⟩
  · exfalso
    have h1 : (b + 1) * H ≤ a * H := Nat.mul_le_mul_right _ q
    rw [Nat.add_mul, Nat.one_mul] at h1
    have := ha.resolve_left (by omega)
    omega
theorem wu_s {f s : Nat} : s = (un f s - lst f).toNat * 2 ^ (pr f - 1) + wh f s ∧ lst f ≤ un f s ∧ wh f s < 2 * 2 ^ (pr f - 1) ∧ ((un f s - lst f).toNat = 0 ∨ 2 ^ (pr f - 1) ≤ wh f s) := by
  have hp := pp2 (pr f - 1)
  have hd := Nat.div_add_mod s (2 ^ (pr f - 1))
  have hm := Nat.mod_lt s hp
  unfold wh un
  generalize 2 ^ (pr f - 1) = H at *
  by_cases h : s < H
  · rw [if_pos h, Nat.div_eq_of_lt h]
    refine ⟨?_, by omega, by omega, .inl (by omega)⟩
    rw [show (lst f + ((0 - 1 : Nat) : Int) - lst f).toNat = 0 by omega, Nat.zero_mul, Nat.zero_add]
  · rw [if_neg h]
    have h1 : 1 ≤ s / H := Nat.div_pos (by omega) hp
    obtain ⟨x, hx⟩ : ∃ x, s / H = x + 1 := ⟨s / H - 1, by omega⟩
    rw [hx] at hd ⊢
    refine ⟨?_, by omega, by omega, .inr (by omega)⟩
    rw [show (lst f + ((x + 1 - 1 : Nat) : Int) - lst f).toNat = x by omega]
    rw [Nat.mul_add, Nat.mul_one, Nat.mul_comm H x] at hd
    omega
def HiOk (A B w : Nat) (u : Int) : Prop := A * p2 (1 - u) < (2 * w + 1) * (B * p2 (u - 1)) ∨ (A * p2 (1 - u) = (2 * w + 1) * (B * p2 (u - 1)) ∧ w % 2 = 0)
def LoOk (A B w : Nat) (u : Int) (near : Bool) : Prop := if near then ((4 * w - 1) * (B * p2 (u - 2)) < A * p2 (2 - u) ∨ ((4 * w - 1) * (B * p2 (u - 2)) = A * p2 (2 - u) ∧ w % 2 = 0)) else ((2 * w - 1) * (B * p2 (u - 1)) < A * p2 (1 - u) ∨ ((2 * w - 1) * (B * p2 (u - 1)) = A * p2 (1 - u) ∧ w % 2 = 0))
def nrb (f s : Nat) : Bool := decide (wh f s = 2 ^ (pr f - 1) ∧ lst f < un f s)
theorem p2_hlf (A B : Nat) (u : Int) : A * p2 (2 - u) * (B * p2 (u - 1)) = 2 * (A * p2 (1 - u) * (B * p2 (u - 2))) := by
  have h := p2_split (a := u - 2) (b := u - 1) (d := 1) (by omega)
  rw [show -(u - 2) = 2 - u by omega, show -(u - 1) = 1 - u by omega, Nat.pow_one] at h
  have e1 : A * p2 (2 - u) * (B * p2 (u - 1)) = A * B * (p2 (u - 1) * p2 (2 - u)) := by simp only [Nat.mul_assoc, Nat.mul_left_comm, Nat.mul_comm]
  rw [e1, h]
  simp only [Nat.mul_assoc, Nat.mul_left_comm, Nat.mul_comm]
theorem hf_le {X' Y' X'' Y'' k : Nat} (h : X'' * Y' = 2 * (X' * Y'')) (hY' : 0 < Y') (h1 : k * Y' ≤ X') : 2 * k * Y'' ≤ X'' := by
  refine Nat.le_of_mul_le_mul_right (c := Y') ?_ hY'
  rw [h]
  have h2 := Nat.mul_le_mul_right (2 * Y'') h1
  have e1 : 2 * k * Y'' * Y' = k * Y' * (2 * Y'') := by simp only [Nat.mul_assoc, Nat.mul_left_comm, Nat.mul_comm]
  have e2 : X' * (2 * Y'') = 2 * (X' * Y'') := by simp only [Nat.mul_left_comm]
  rw [e1, ← e2]; exact h2
theorem hf_lt {X' Y' X'' Y'' k : Nat} (h : X'' * Y' = 2 * (X' * Y'')) (hY'' : 0 < Y'') (h1 : X'' < 2 * k * Y'') (hY' : 0 < Y') : X' < k * Y' := by
  refine Nat.lt_of_mul_lt_mul_right (a := 2 * Y'') ?_
  have h2 := Nat.mul_lt_mul_of_pos_right h1 hY'
  rw [h] at h2
  have e1 : k * Y' * (2 * Y'') = 2 * k * Y'' * Y' := by simp only [Nat.mul_assoc, Nat.mul_left_comm, Nat.mul_comm]
  have e2 : X' * (2 * Y'') = 2 * (X' * Y'') := by simp only [Nat.mul_left_comm]
  rw [e1, e2]; exact h2
theorem hf_gt {X' Y' X'' Y'' k : Nat} (h : X'' * Y' = 2 * (X' * Y'')) (hY'' : 0 < Y'') (hY' : 0 < Y') (h1 : X' < k * Y') : X'' < 2 * k * Y'' := by
  refine Nat.lt_of_mul_lt_mul_right (a := Y') ?_
  rw [h]
  have h2 := Nat.mul_lt_mul_of_pos_right h1 (show 0 < 2 * Y'' by omega)
  have e1 : 2 * k * Y'' * Y' = k * Y' * (2 * Y'') := by simp only [Nat.mul_assoc, Nat.mul_left_comm, Nat.mul_comm]
  have e2 : X' * (2 * Y'') = 2 * (X' * Y'') := by simp only [Nat.mul_left_comm]
  rw [e1, ← e2]; exact h2
theorem up_way0 {h : Nat} {neg e : Bool} : upw 0 neg h e = (decide (h % 2 = 1) && (e || decide (h / 2 % 2 = 1))) := rfl
theorem near_iff {f s A B : Nat} {neg : Bool} {q : Int} {h : Nat} {e : Bool} (hf : f < 4) (hs0 : 0 < s) (hs : s < inf f) (hB : 0 < B) (a : Rq f A B q h e) : (RO f neg 0 q h e).1 = s ↔ LoOk A B (wh f s) (un f s) (nrb f s) ∧ HiOk A B (wh f s) (un f s) := by
  obtain ⟨c1, c2, c3, c4⟩ := wu_s (f := f) (s := s)
  have hw0 : 0 < wh f s := Nat.pos_of_ne_zero (fun z => by have := wh_0.mp z; omega)
  have hfm := fm_b f
  have hpp := pp1 f
  have hH2 : 2 ^ (pr f - 1) % 2 = 0 := by rw [show pr f - 1 = (pr f - 2) + 1 by omega, Nat.pow_succ]; omega
  have hHp := pp2 (pr f - 1)
  have h4 : 2 ^ (pr f + 1) = 4 * 2 ^ (pr f - 1) := by rw [Nat.pow_succ, hpp]; omega
  have hY' : 0 < B * p2 (un f s - 1) := Nat.mul_pos hB (p2_pos _)
  have hY'' : 0 < B * p2 (un f s - 2) := Nat.mul_pos hB (p2_pos _)
  have hh := p2_hlf A B (un f s)
  have hnr : nrb f s = true ↔ (wh f s = 2 ^ (pr f - 1) ∧ lst f < un f s) := by unfold nrb; rw [decide_eq_true_iff]
  generalize nrb f s = nr at *
  generalize hw : wh f s = w at *
  generalize hu : un f s = u at *
  generalize hX' : A * p2 (1 - u) = X' at *
  generalize hYe : B * p2 (u - 1) = Y' at *
  generalize hX'' : A * p2 (2 - u) = X'' at *
  generalize hYe' : B * p2 (u - 2) = Y'' at *
  generalize hH : 2 ^ (pr f - 1) = H at *
  unfold LoOk HiOk
  rw [hX', hYe, hX'', hYe']
  constructor
  · intro hR
    have a' := a
    obtain ⟨⟨f1, f2, f3⟩, q1, q2, q3⟩ := a'
    have hsz : szf f neg 0 q h e = s := by
      unfold RO at hR
      by_cases ho : inf f ≤ szf f neg 0 q h e
      · rw [if_pos ho] at hR
        have : (ovr f 0 neg).1 = inf f := rfl
        rw [this] at hR
        omega
      · rw [if_neg ho] at hR
        exact hR
    unfold szf at hsz
    rw [hH] at hsz
    have q3' : (q - lst f).toNat = 0 ∨ H ≤ h / 2 := by
      rcases q3 with z | z
      · exact .inl (by omega)
      · exact .inr (by omega)
    by_cases hup : upw 0 neg h e = true
    · rw [if_pos hup] at hsz
      rw [up_way0, Bool.and_eq_true, Bool.or_eq_true, decide_eq_true_iff, decide_eq_true_iff] at hup
      obtain ⟨u1, u2⟩ := hup
      by_cases hv : h / 2 + 1 < 2 * H
      · obtain ⟨n1, n2⟩ := norm_uniq (a := (q - lst f).toNat) (x := h / 2 + 1) (b := (u - lst f).toNat) (y := w) (H := H) (by omega) hv c3 (by omega) c4
        have hqu : q = u := by omega
        subst hqu
        rw [hX', hYe] at f1 f2 f3
        have hh2 : h = 2 * w - 1 := by omega
        have hnear : nr = false := by
          cases hnn : nr
          · rfl
          · have := hnr.mp hnn
            rcases q3 with z | z
            · omega
            · omega
        rw [hnear]
        simp only [Bool.false_eq_true, if_false]
        rw [hh2] at f1 f2 f3
        refine ⟨?_, .inl ?_⟩
        · by_cases he : (2 * w - 1) * Y' = X'
          · refine .inr ⟨he, ?_⟩
            have : e = false := by
              cases hee : e
              · rfl
              · exact absurd he (f3.mp hee)
            rw [this] at u2
            simp only [Bool.false_eq_true, false_or] at u2
            omega
          · exact .inl (by omega)
        · have e5 : (2 * w - 1 + 1) * Y' + Y' = (2 * w + 1) * Y' := by rw [show 2 * w + 1 = (2 * w - 1 + 1) + 1 by omega, Nat.add_mul (2 * w - 1 + 1), Nat.one_mul]
          omega
      · obtain ⟨n1, n2⟩ := norm_uniq (a := (q - lst f).toNat + 1) (x := H) (b := (u - lst f).toNat) (y := w) (H := H) (by rw [Nat.add_mul, Nat.one_mul]; omega) (by omega) c3 (.inr (Nat.le_refl _)) c4
        have hqu : q = u - 1 := by omega
        subst hqu
        rw [show 1 - (u - 1) = 2 - u by omega, show u - 1 - 1 = u - 2 by omega, hX'', hYe'] at f1 f2 f3
        have hh2 : h = 4 * w - 1 := by omega
        have hnear : nr = true := hnr.mpr ⟨n2.symm, by omega⟩
        rw [hnear]
        simp only [if_true]
        rw [hh2] at f1 f2 f3
        refine ⟨?_, .inl ?_⟩
        · by_cases he : (4 * w - 1) * Y'' = X''
          · exact .inr ⟨he, by omega⟩
          · exact .inl (by omega)
        · have h5 : X' < 2 * w * Y' := hf_lt hh hY'' (k := 2 * w) (by rw [show 2 * (2 * w) = 4 * w - 1 + 1 by omega]; exact f2) hY'
          rw [Nat.add_mul]; omega
    · rw [if_neg hup] at hsz
      have hup' : upw 0 neg h e = false := by cases hx : upw 0 neg h e; rfl; exact absurd hx hup
      rw [up_way0] at hup'
      obtain ⟨n1, n2⟩ := norm_uniq (a := (q - lst f).toNat) (x := h / 2) (b := (u - lst f).toNat) (y := w) (H := H) (by omega) (by omega) c3 q3' c4
      have hqu : q = u := by omega
      subst hqu
      rw [hX', hYe] at f1 f2 f3
      have hlo : 2 * w * Y' ≤ X' := Nat.le_trans (Nat.mul_le_mul_right _ (by omega)) f1
      refine ⟨?_, ?_⟩
      · cases nr
        · simp only [Bool.false_eq_true, if_false]
          have e5 : (2 * w - 1) * Y' + Y' = 2 * w * Y' := by rw [show 2 * w = (2 * w - 1) + 1 by omega, Nat.add_mul (2 * w - 1), Nat.one_mul, show 2 * w - 1 + 1 - 1 = 2 * w - 1 by omega]
          exact .inl (by omega)
        · simp only [if_true]
          have h5 := hf_le hh hY' hlo
          have e5 : (4 * w - 1) * Y'' + Y'' = 2 * (2 * w) * Y'' := by rw [show 2 * (2 * w) = (4 * w - 1) + 1 by omega, Nat.add_mul (4 * w - 1), Nat.one_mul]
          exact .inl (by omega)
      · by_cases hod : h % 2 = 1
        · rw [decide_eq_true hod, Bool.true_and, Bool.or_eq_false_iff, decide_eq_false_iff_not] at hup'
          have hh2 : h = 2 * w + 1 := by omega
          rw [hh2] at f1 f2 f3
          have hx : (2 * w + 1) * Y' = X' := by
            rcases Nat.lt_or_ge ((2 * w + 1) * Y') X' with z | z
            · have := f3.mpr (by omega)
              rw [hup'.1] at this; cases this
            · omega
          exact .inr ⟨hx.symm, by omega⟩
        · have hh2 : h = 2 * w := by omega
          rw [hh2] at f2
          exact .inl f2
  · rintro ⟨hlo, hhi⟩
    have ro : ∀ (q' : Int) (h' : Nat) (e' : Bool), Rq f A B q' h' e' → (q' - lst f).toNat * H + h' / 2 + (if upw 0 neg h' e' then 1 else 0) = s → (RO f neg 0 q h e).1 = s := by
      intro q' h' e' hr hz
      obtain ⟨rfl, rfl, rfl⟩ := rq_unique a hr
      unfold RO
      have : szf f neg 0 q h e = s := by unfold szf; rw [hH]; exact hz
      rw [this, if_neg (by omega)]
    by_cases hge : 2 * w * Y' ≤ X'
    · rcases hhi with hhi | ⟨hhi, hev⟩
      · refine ro u (2 * w) (decide (2 * w * Y' ≠ X')) ⟨?_, c2, by omega, ?_⟩ ?_
        · rw [hX', hYe]
          exact ⟨hge, hhi, by rw [decide_eq_true_iff]⟩
        · rcases c4 with z | z
          · exact .inl (by omega)
          · exact .inr (by omega)
        · rw [up_way0, decide_eq_false (show ¬ 2 * w % 2 = 1 by omega), Bool.false_and, show 2 * w / 2 = w by omega]
          simp only [Bool.false_eq_true, if_false]
          omega
      · refine ro u (2 * w + 1) false ⟨?_, c2, by omega, ?_⟩ ?_
        · rw [hX', hYe]
          refine ⟨by omega, by rw [Nat.add_mul (2 * w + 1)]; omega, by simp [hhi]⟩
        · rcases c4 with z | z
          · exact .inl (by omega)
          · exact .inr (by omega)
        · rw [up_way0, show (2 * w + 1) / 2 = w by omega, decide_eq_false (show ¬ w % 2 = 1 by omega), Bool.or_false, Bool.and_false]
          simp only [Bool.false_eq_true, if_false]
          omega
    · have hlt : X' < 2 * w * Y' := by omega
      cases hnn : nr
      · rw [hnn] at hlo
        simp only [Bool.false_eq_true, if_false] at hlo
        have hnot : ¬ (w = H ∧ lst f < u) := fun z => by
          have := hnr.mpr z
          rw [hnn] at this; cases this
        have hle : (2 * w - 1) * Y' ≤ X' := by rcases hlo with z | ⟨z, -⟩ <;> omega
        refine ro u (2 * w - 1) (decide ((2 * w - 1) * Y' ≠ X')) ⟨?_, c2, by omega, ?_⟩ ?_
        · rw [hX', hYe]
          exact ⟨hle, by rw [show 2 * w - 1 + 1 = 2 * w by omega]; exact hlt, by rw [decide_eq_true_iff]⟩
        · rcases c4 with z | z
          · exact .inl (by omega)
          · by_cases hul : u = lst f
            · exact .inl hul
            · exact .inr (by omega)
        · have hupt : upw 0 neg (2 * w - 1) (decide ((2 * w - 1) * Y' ≠ X')) = true := by
            rw [up_way0, Bool.and_eq_true, Bool.or_eq_true, decide_eq_true_iff, decide_eq_true_iff, decide_eq_true_iff]
            refine ⟨by omega, ?_⟩
            rcases hlo with z | ⟨z, z2⟩
            · exact .inl (by omega)
            · exact .inr (by omega)
          rw [hupt]
          simp only [if_true]
          omega
      · rw [hnn] at hlo
        simp only [if_true] at hlo
        obtain ⟨n1, n2⟩ := hnr.mp hnn
        have hle : (4 * w - 1) * Y'' ≤ X'' := by rcases hlo with z | ⟨z, -⟩ <;> omega
        have hlt2 := hf_gt hh hY'' hY' hlt
        refine ro (u - 1) (4 * w - 1) (decide ((4 * w - 1) * Y'' ≠ X'')) ⟨?_, by omega, by omega, .inr (by omega)⟩ ?_
        · rw [show 1 - (u - 1) = 2 - u by omega, show u - 1 - 1 = u - 2 by omega, hX'', hYe']
          exact ⟨hle, by rw [show 4 * w - 1 + 1 = 2 * (2 * w) by omega]; exact hlt2, by rw [decide_eq_true_iff]⟩
        · have hupt : upw 0 neg (4 * w - 1) (decide ((4 * w - 1) * Y'' ≠ X'')) = true := by
            rw [up_way0, Bool.and_eq_true, Bool.or_eq_true, decide_eq_true_iff, decide_eq_true_iff, decide_eq_true_iff]
            exact ⟨by omega, .inr (by omega)⟩
          rw [hupt]
          simp only [if_true]
          obtain ⟨k, hk⟩ : ∃ k, (u - lst f).toNat = k + 1 := ⟨(u - lst f).toNat - 1, by omega⟩
          rw [hk, Nat.add_mul, Nat.one_mul] at c1
          rw [show (u - 1 - lst f).toNat = k by omega]
          omega
/-- every number is rounded to something -/
theorem rq_ex {f A B : Nat} (hA : 0 < A) (hB : 0 < B) : ∃ q h e, Rq f A B q h e := by
  have fl := fl_of (X := A * p2 (-(-(B : Int)))) (Y := B * p2 (-(B : Int))) (Nat.mul_pos hB (p2_pos _))
  have hW : A * p2 (-(-(B : Int))) / (B * p2 (-(B : Int))) ≠ 0 := by
    rw [p2_neg (show -(B : Int) ≤ 0 by omega), Nat.mul_one, p2_nat (show -(-(B : Int)) = (B : Int) by omega)]
    have h1 : B < 2 ^ B := Nat.lt_two_pow_self
    have h2 : 1 * 2 ^ B ≤ A * 2 ^ B := Nat.mul_le_mul_right _ hA
    exact Nat.ne_of_gt (Nat.div_pos (by omega) hB)
  obtain ⟨L, hL⟩ := bl_any hW
  exact ⟨_, _, _, rq_pb (f := f) (pb_of hL fl) (fl_of (Nat.mul_pos hB (p2_pos _)))⟩
theorem rt_near {f s A B : Nat} {neg : Bool} {r : Nat × Nat} (hf : f < 4) (hs0 : 0 < s) (hs : s < inf f) (hA : 0 < A) (hB : 0 < B) (h : RT f neg 0 A B r) : r.1 = s ↔ LoOk A B (wh f s) (un f s) (nrb f s) ∧ HiOk A B (wh f s) (un f s) := by
  obtain ⟨q, h', e, hq⟩ := rq_ex (f := f) hA hB
  have := h.uniq hA (.inr (.inr ⟨q, h', e, hq, rfl⟩))
  rw [this]
  exact near_iff hf hs0 hs hB hq
