theorem f_emp {c : CS} {r : Nat} {x : RWs} : (f_X4_isEmpty r (srws c r x) = 0) = (x.2.1.toInt ≤ x.2.2.1.toInt) := by
  unfold f_X4_isEmpty rwF rwE
  rw [rws_same]
  by_cases h : x.2.1 ≤ x.2.2.1
  · rw [if_pos h]; rw [ile] at h; simp [h]
  · rw [if_neg h]; rw [ile] at h; simp [h]
def T1 (l : Nat → Int32) (F : Int32) (X : Int32) (c : CS) (r : Nat) (n : Nat) (a : CS) : Prop := ∃ E : Int32, a = srws c r (l, F, E, X) ∧ E.toInt + 1 = n ∧ n ≤ 156 ∧ LZ l F.toInt E.toInt
def T1q (l : Nat → Int32) (F : Int32) (X : Int32) (c : CS) (r : Nat) (a : CS) : Prop := ∃ E : Int32, a = srws c r (l, F, E, X) ∧ -1 ≤ E.toInt ∧ E.toInt ≤ 155 ∧ LZ l F.toInt E.toInt ∧ (F.toInt ≤ E.toInt → l E.toInt.toNat ≠ 0)
theorem trim1 {l : Nat → Int32} {F X : Int32} {c : CS} {r : Nat} (hF : 0 ≤ F.toInt) (n : Nat) (a : CS) (hI : T1 l F X c r n a) : (∃ b, f_X4_trim_L0 r a = some (.inr b) ∧ T1q l F X c r b) ∨ ∃ a' n', f_X4_trim_L0 r a = some (.inl a') ∧ n' < n ∧ T1 l F X c r n' a' := by
  obtain ⟨E, rfl, h1, h2, h3⟩ := hI
  have one : (1 : Int32).toInt = 1 := by decide
  unfold f_X4_trim_L0
  have eF : rwF (srws c r (l, F, E, X)) r = F := by unfold rwF; rw [rws_same]
  have eE : rwE (srws c r (l, F, E, X)) r = E := by unfold rwE; rw [rws_same]
  rw [eF, eE]
  by_cases h4 : E < F
  · rw [if_pos h4]
    rw [ilt] at h4
    exact .inl ⟨_, rfl, E, rfl, by omega, by omega, h3, fun h => by omega⟩
  · rw [if_neg h4]
    rw [ilt] at h4
    have h5 : f_X4_limbAt r E (srws c r (l, F, E, X)) = l E.toInt.toNat := by
      rw [limbAt_in (i := E.toInt.toNat) (by omega) (by omega), rws_same]
    rw [h5]
    by_cases h6 : l E.toInt.toNat = 0
    · rw [if_pos h6]
      have e1 : (E - 1).toInt = E.toInt - 1 := by rw [is_ (by omega) (by omega), one]
      refine .inr ⟨_, n - 1, rfl, by omega, E - 1, ?_, by omega, by omega, ?_⟩
      · unfold srwE; rw [rws_same, srws_srws]
      · intro i hi hh
        by_cases h7 : i = E.toInt.toNat
        · rw [h7]; exact h6
        · exact h3 i hi (by omega)
    · rw [if_neg h6]
      exact .inl ⟨_, rfl, E, rfl, by omega, by omega, h3, fun h => h6⟩
def T2 (l : Nat → Int32) (E : Int32) (X : Int32) (c : CS) (r : Nat) (n : Nat) (a : CS) : Prop := ∃ F : Int32, a = srws c r (l, F, E, X) ∧ F.toInt + n = 157 ∧ 0 ≤ F.toInt ∧ LZ l F.toInt E.toInt ∧ (F.toInt ≤ E.toInt → l E.toInt.toNat ≠ 0)
def T2q (l : Nat → Int32) (E : Int32) (X : Int32) (c : CS) (r : Nat) (a : CS) : Prop := ∃ F : Int32, a = srws c r (l, F, E, X) ∧ 0 ≤ F.toInt ∧ LZ l F.toInt E.toInt ∧ (F.toInt ≤ E.toInt → l E.toInt.toNat ≠ 0 ∧ l F.toInt.toNat ≠ 0)
theorem trim2 {l : Nat → Int32} {E X : Int32} {c : CS} {r : Nat} (hE : E.toInt ≤ 155) (n : Nat) (a : CS) (hI : T2 l E X c r n a) : (∃ b, f_X4_trim_L35 r a = some (.inr b) ∧ T2q l E X c r b) ∨ ∃ a' n', f_X4_trim_L35 r a = some (.inl a') ∧ n' < n ∧ T2 l E X c r n' a' := by
  obtain ⟨F, rfl, h1, h2, h3, h3'⟩ := hI
  have one : (1 : Int32).toInt = 1 := by decide
  unfold f_X4_trim_L35
  have eF : rwF (srws c r (l, F, E, X)) r = F := by unfold rwF; rw [rws_same]
  have eE : rwE (srws c r (l, F, E, X)) r = E := by unfold rwE; rw [rws_same]
  rw [eF, eE]
  by_cases h4 : E < F
  · rw [if_pos h4]
    rw [ilt] at h4
    exact .inl ⟨_, rfl, F, rfl, h2, h3, fun h => by omega⟩
  · rw [if_neg h4]
    rw [ilt] at h4
    have h5 : f_X4_limbAt r F (srws c r (l, F, E, X)) = l F.toInt.toNat := by
      rw [limbAt_in (i := F.toInt.toNat) (by omega) (by omega), rws_same]
    rw [h5]
    by_cases h6 : l F.toInt.toNat = 0
    · rw [if_pos h6]
      have e1 : (F + 1).toInt = F.toInt + 1 := by rw [ia (by omega) (by omega), one]
      refine .inr ⟨_, n - 1, rfl, by omega, F + 1, ?_, by omega, by omega, ?_, fun h => h3' (by omega)⟩
      · unfold srwF; rw [rws_same, srws_srws]
      · intro i hi hh
        by_cases h7 : i = F.toInt.toNat
        · rw [h7]; exact h6
        · exact h3 i hi (by omega)
    · rw [if_neg h6]
      exact .inl ⟨_, rfl, F, rfl, h2, h3, fun h => ⟨h3' h, h6⟩⟩
theorem trim_spec {c : CS} {r : Nat} {l : Nat → Int32} {F E X : Int32} (h0 : 0 ≤ F.toInt) (h1 : F.toInt ≤ 156) (h2 : -1 ≤ E.toInt) (h3 : E.toInt ≤ 155) (hz : LZ l F.toInt E.toInt) : ∃ F' E' : Int32, f_X4_trim r (srws c r (l, F, E, X)) = some (srws c r (l, F', E', X)) ∧ LZ l F'.toInt E'.toInt ∧ RE l F'.toInt E'.toInt := by
  obtain ⟨b, g1, E1, rfl, g2, g3, g4, g5⟩ := Lp_inv (F := fun a => f_X4_trim_L0 r a) (T1 l F X c r) (T1q l F X c r) (fun n a h => trim1 h0 n a h) (E.toInt + 1).toNat (srws c r (l, F, E, X)) ⟨E, rfl, by omega, by omega, hz⟩
  obtain ⟨b, k1, F1, rfl, k2, k3, k4⟩ := Lp_inv (F := fun a => f_X4_trim_L35 r a) (T2 l E1 X c r) (T2q l E1 X c r) (fun n a h => trim2 g3 n a h) (157 - F.toInt).toNat (srws c r (l, F, E1, X)) ⟨F, rfl, by omega, h0, g4, g5⟩
  unfold f_X4_trim
  rw [g1]; simp only [Option.bind]
  rw [k1]; simp only
  by_cases h : F1.toInt ≤ E1.toInt
  · rw [if_pos (by rw [f_emp]; exact h)]
    exact ⟨F1, E1, rfl, k3, .inl ⟨h, k2, g3, (k4 h).2, (k4 h).1⟩⟩
  · rw [if_neg (by rw [f_emp]; exact h)]
    refine ⟨156, -1, ?_, ?_, .inr ⟨by decide, by decide⟩⟩
    · simp only [lt]; unfold srwE srwF; simp only [rws_same, srws_srws]
    · intro i hi _
      exact k3 i hi (by omega)
/-! empty -/
def EI (E : Int) (c : CS) (r : Nat) (n : Nat) (a : Int32 × CS) : Prop := ∃ (i : Nat) (l : Nat → Int32), a = (nI i, srws c r (l, (rws c r).2)) ∧ (i : Int) + n = 157 ∧ (∀ k : Nat, k < 156 → ((k : Int) < i ∨ E < k) → l k = 0)
theorem nI_inc {i : Nat} (h : i < 2147483647) : nI i + 1 = nI (i + 1) := by
  have one : (1 : Int32).toInt = 1 := by decide
  have h1 : (nI i).toInt = i := nI_toInt (by omega)
  rw [ieq, ia (by omega) (by omega), h1, one, nI_toInt (by omega)]; omega
theorem empty_step {E : Int32} {c : CS} {r : Nat} (hE : E.toInt ≤ 155) (n : Nat) (a : Int32 × CS) (hI : EI E.toInt c r n a) : (∃ b, f_X4_empty_L20 r E a.1 a.2 = some (.inr b) ∧ ∃ l, b = srws c r (l, (rws c r).2) ∧ ∀ k, k < 156 → l k = 0) ∨ ∃ a' n', f_X4_empty_L20 r E a.1 a.2 = some (.inl a') ∧ n' < n ∧ EI E.toInt c r n' a' := by
  obtain ⟨i, l, rfl, h1, h2⟩ := hI
  have hi : (nI i).toInt = i := nI_toInt (by omega)
  show (∃ b, f_X4_empty_L20 r E (nI i) (srws c r (l, (rws c r).2)) = _ ∧ _) ∨ ∃ a' n', f_X4_empty_L20 r E (nI i) (srws c r (l, (rws c r).2)) = _ ∧ _
  unfold f_X4_empty_L20
  by_cases h3 : E < nI i
  · rw [if_pos h3]
    rw [ilt] at h3
    exact .inl ⟨_, rfl, l, rfl, fun k hk => h2 k hk (by omega)⟩
  · rw [if_neg h3]
    rw [ilt] at h3
    rw [if_pos ((vIn (by omega)).mpr (by omega))]
    simp only [lt]
    rw [nI_clamp (show i < 2 ^ 31 by omega), nI_inc (by omega)]
    refine .inr ⟨_, n - 1, rfl, by omega, i + 1, upd l i 0, ?_, by omega, ?_⟩
    · unfold srwL rwL; simp only [rws_same, srws_srws]
    · intro k hk hh
      by_cases q : k = i
      · rw [q, upd_eq]
      · rw [upd_ne q]; exact h2 k hk (by omega)
theorem rv_zero {l : Nat → Int32} (h : ∀ k, k < 156 → l k = 0) : rv l = 0 := by
  rw [rv_eq]; exact hv_zero (fun k hk => dg0 (h k hk))
def R0 : RWs → Prop := fun w => RIs w 0 false
theorem zero_ris {l : Nat → Int32} (h : ∀ k, k < 156 → l k = 0) : RIs (l, 156, -1, 0) 0 false :=
  ⟨fun i hi => (show 0 ≤ (l i).toInt ∧ (l i).toInt < 1000000000 by rw [h i hi]; exact ⟨by decide, by decide⟩), fun i hi _ => h i hi, .inr ⟨(show (156 : Int32).toInt = 156 by decide), (show (-1 : Int32).toInt = -1 by decide)⟩, rv_zero h, rfl⟩
theorem empty_spec {c : CS} {r V : Nat} {s : Bool} (h : RIs (rws c r) V s) : ∃ l, f_X4_empty r c = some (srws c r (l, 156, -1, 0)) ∧ (∀ k, k < 156 → l k = 0) := by
  obtain ⟨h1, h2, h3, h4, h5⟩ := h
  have e155 : (155 : Int32).toInt = 155 := by decide
  obtain ⟨b, g1, l, rfl, g2⟩ := Lp_inv (F := fun a => f_X4_empty_L20 r (f_JM_min (rwE c r) 155) a.1 a.2) (EI (f_JM_min (rwE c r) 155).toInt c r) (fun b => ∃ l, b = srws c r (l, (rws c r).2) ∧ ∀ k, k < 156 → l k = 0) (fun n a h => empty_step (by rw [min_i, e155]; split <;> omega) n a h) (157 - (f_JM_max (rwF c r) 0).toInt).toNat (f_JM_max (rwF c r) 0, c) ⟨(f_JM_max (rwF c r) 0).toInt.toNat, (rws c r).1, by
      rw [srws_self, ← nIeq (x := f_JM_max (rwF c r) 0)]
      · rw [max_i, k0]; split <;> omega
      · rw [max_i, k0]; unfold rwF; rcases h3 with h | h <;> split <;> omega, by rw [max_i, k0]; unfold rwF; rcases h3 with h | h <;> split <;> omega, by
      intro k hk hh
      refine h2 k hk ?_
      rw [max_i, min_i, k0, e155] at hh
      unfold rwF rwE at hh
      rcases h3 with h | h
      · revert hh; split <;> split <;> omega
      · revert hh; split <;> split <;> omega⟩
  refine ⟨l, ?_, g2⟩
  unfold f_X4_empty
  simp only [lt]
  rw [g1]; simp only [Option.bind]
  unfold srwX srwE srwF
  simp only [rws_same, srws_srws]
