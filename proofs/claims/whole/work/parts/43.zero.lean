theorem k320 : (320 : Int32).toInt = ((320 : Nat) : Int) := by decide +kernel
/-! zero -/
theorem zero_loop {j : Nat} (hj : mLen j = 320) : ∀ (r k : Nat) (m : MS), k + r = 320 → (∀ i, i < k → mA m j i = 0) → ∃ v, Lp (fun a => f_X7_zero_L2 j a.1 a.2) (nI k, m) = some (smA m j v) ∧ ∀ i, i < 320 → v i = 0 := by
  intro r
  induction r with
  | zero =>
    intro k m hk h
    refine ⟨mA m j, ?_, fun i hi => h i (by omega)⟩
    rw [smA_self]
    refine Lp_r ?_
    show f_X7_zero_L2 j (nI k) m = _
    unfold f_X7_zero_L2
    rw [if_pos ((cle k320 (by omega)).mpr (by omega))]
  | succ r ih =>
    intro k m hk h
    have hs : f_X7_zero_L2 j (nI k) m = some (.inl (nI (k + 1), smA m j (upd (mA m j) k 0))) := by
      unfold f_X7_zero_L2
      rw [if_neg (fun h => by have := (cle k320 (by omega)).mp h; omega), if_pos ((vIn (by omega)).mpr (by omega))]
      simp only [lt, nI_1, nI_clamp (show k < 2 ^ 31 by omega)]
    obtain ⟨v, h1, h2⟩ := ih (k + 1) (smA m j (upd (mA m j) k 0)) (by omega) (fun i hi => by
      rw [smA_same]
      by_cases h9 : i = k
      · rw [h9, upd_eq]
      · rw [upd_ne h9]; exact h i (by omega))
    rw [smA_smA] at h1
    exact ⟨v, (Lp_l (F := fun a => f_X7_zero_L2 j a.1 a.2) (a := (nI k, m)) hs).trans h1, h2⟩
theorem zero_spec {j : Nat} (hj : mLen j = 320) (m : MS) : ∃ v, f_X7_zero j m = some (smA m j v) ∧ ∀ i, i < 320 → v i = 0 := by
  obtain ⟨v, h1, h2⟩ := zero_loop hj 320 0 m (by omega) (fun i hi => by omega)
  refine ⟨v, ?_, h2⟩
  unfold f_X7_zero
  rw [show ((0 : Int32), m) = (nI 0, m) from rfl, h1]
  rfl
