/-! A loop that ends: I n a holds at each turn, n falls. -/
theorem Lp_inv {α β : Type} {F : α → Option (α ⊕ β)} (I : Nat → α → Prop) (Q : β → Prop) (step : ∀ n a, I n a → (∃ b, F a = some (.inr b) ∧ Q b) ∨ (∃ a' n', F a = some (.inl a') ∧ n' < n ∧ I n' a')) : ∀ n a, I n a → ∃ b, Lp F a = some b ∧ Q b := by
  intro n
  induction n using Nat.strongRecOn with
  | ind n ih =>
    intro a ha
    rcases step n a ha with ⟨b, h1, h2⟩ | ⟨a', n', h1, h2, h3⟩
    · exact ⟨b, Lp_r h1, h2⟩
    · obtain ⟨b, g1, g2⟩ := ih n' h2 a' h3
      exact ⟨b, (Lp_l h1).trans g1, g2⟩
theorem pv_lt_of {B : Nat} {d e : Nat → Nat} {n k : Nat} (hk : k < n) (hd : ∀ i, i < k → d i < B) (heq : ∀ i, k < i → i < n → d i = e i) (hlt : d k < e k) : pv B d n < pv B e n := by
  obtain ⟨r, rfl⟩ : ∃ r, n = k + 1 + r := ⟨n - (k + 1), by omega⟩
  rw [pv_split (k + 1) r, pv_split (k + 1) r, pv_congr (d := fun i => d (k + 1 + i)) (e := fun i => e (k + 1 + i)) (n := r) (fun i hi => heq (k + 1 + i) (by omega) (by omega))]
  have h1 := pv_lt hd
  have h2 : (d k + 1) * B ^ k ≤ e k * B ^ k := Nat.mul_le_mul_right _ hlt
  rw [Nat.add_mul, Nat.one_mul] at h2
  show pv B d k + d k * B ^ k + _ < pv B e k + e k * B ^ k + _
  omega
theorem pv_eq_of {B : Nat} {d e : Nat → Nat} {n k : Nat} (hk : k < n) (h0 : k = 0) (heq : ∀ i, k < i → i < n → d i = e i) (h : d k = e k) : pv B d n = pv B e n := by
  refine pv_congr (fun i hi => ?_)
  by_cases h1 : i = k
  · rw [h1, h]
  · exact heq i (by omega) hi
theorem val_lt_of {f g : Nat → Int32} (hf : W30 f) (hg : W30 g) {k : Nat} (hk : k < 320) (heq : ∀ i, k < i → i < 320 → f i = g i) (hlt : (f k).toInt < (g k).toInt) : val f < val g := by
  refine pv_lt_of hk (fun i hi => hf.dg (by omega)) (fun i h1 h2 => by unfold dg; rw [heq i h1 h2]) ?_
  have h1 := hf k hk
  have h2 := hg k hk
  unfold dg
  omega
theorem cmp_loop {i j : Nat} (hi : mLen i = 320) (hj : mLen j = 320) {m : MS} : ∃ b, Lp (fun a => f_X7_compareRows_L4 i j a m) 319 = some b ∧ ∃ k, b = nI k ∧ k < 320 ∧ (∀ q, k < q → q < 320 → mA m i q = mA m j q) ∧ (k = 0 ∨ mA m i k ≠ mA m j k) := by
  refine Lp_inv (F := fun a => f_X7_compareRows_L4 i j a m) (fun k a => a = nI k ∧ k < 320 ∧ (∀ q, k < q → q < 320 → mA m i q = mA m j q)) _ ?_ 319 319 ⟨rfl, by omega, fun q h1 h2 => by omega⟩
  rintro k _ ⟨rfl, hk, hq⟩
  show (∃ b, f_X7_compareRows_L4 i j (nI k) m = _ ∧ _) ∨ ∃ a' n', f_X7_compareRows_L4 i j (nI k) m = _ ∧ _
  unfold f_X7_compareRows_L4
  by_cases h0 : k = 0
  · rw [if_pos ((cge k0 (by omega)).mpr (by omega))]
    exact .inl ⟨_, rfl, k, rfl, hk, hq, .inl h0⟩
  · rw [if_neg (fun h => by have := (cge k0 (by omega)).mp h; omega), if_pos ((vIn (by omega)).mpr (by omega)), if_pos ((vIn (by omega)).mpr (by omega))]
    rw [nI_clamp (show k < 2 ^ 31 by omega)]
    by_cases h1 : mA m i k = mA m j k
    · rw [if_pos h1]
      refine .inr ⟨nI (k - 1), k - 1, ?_, by omega, rfl, by omega, fun q h2 h3 => ?_⟩
      · simp only [lt]
        rw [nI_neg (n := 1) (by omega) (by omega) (by decide)]
      · by_cases h4 : q = k
        · rw [h4]; exact h1
        · exact hq q (by omega) h3
    · rw [if_neg h1]
      exact .inl ⟨_, rfl, k, rfl, hk, hq, .inr h1⟩
theorem cmp_spec {i j : Nat} (hi : mLen i = 320) (hj : mLen j = 320) {m : MS} (hwi : W30 (mA m i)) (hwj : W30 (mA m j)) : ∃ r, f_X7_compareRows i j m = some r ∧ (r = -1 ∧ val (mA m i) < val (mA m j) ∨ r = 0 ∧ val (mA m i) = val (mA m j) ∨ r = 1 ∧ val (mA m j) < val (mA m i)) := by
  obtain ⟨b, h1, k, rfl, hk, hq, h0⟩ := cmp_loop hi hj (m := m)
  have hv : vI (nI k) (mLen i) := (vIn (by omega)).mpr (by omega)
  have hv' : vI (nI k) (mLen j) := (vIn (by omega)).mpr (by omega)
  unfold f_X7_compareRows
  rw [h1]
  simp only [Option.bind, if_pos hv, if_pos hv', nI_clamp (show k < 2 ^ 31 by omega)]
  by_cases h2 : mA m j k ≤ mA m i k
  · rw [if_pos h2]
    by_cases h3 : mA m i k ≤ mA m j k
    · rw [if_pos h3]
      rw [ile] at h2 h3
      have h4 : mA m i k = mA m j k := ieq.mpr (by omega)
      refine ⟨0, rfl, .inr (.inl ⟨rfl, ?_⟩)⟩
      refine pv_eq_of hk (by rcases h0 with h | h; exact h; exact absurd h4 h) (fun q h5 h6 => by unfold dg; rw [hq q h5 h6]) (by unfold dg; rw [h4])
    · rw [if_neg h3]
      rw [ile] at h2 h3
      exact ⟨1, rfl, .inr (.inr ⟨rfl, val_lt_of hwj hwi hk (fun q h5 h6 => (hq q h5 h6).symm) (by omega)⟩)⟩
  · rw [if_neg h2]
    rw [ile] at h2
    exact ⟨-1, rfl, .inl ⟨rfl, val_lt_of hwi hwj hk hq (by omega)⟩⟩
