theorem hv_bits {x s : Int32} (h0 : 0 ≤ x.toInt) (h1 : x.toInt < 1073741824) : ((kshr x 1) ||| (kshl (s &&& 1) 29)).toInt = x.toInt / 2 + 536870912 * (s.toInt % 2) := by
  have a1 := kshr_eq (x := x) (y := 1) (k := 1) (by decide) (by omega)
  have a2 := kshl_nat (x := s &&& 1) (y := 29) (k := 29) (by decide) (by omega)
  have a3 := am1i s
  have a4 := u32 (kshr x 1)
  have a5 := u32 (kshl (s &&& 1) 29)
  have a6 := u32 (s &&& 1)
  have a7 := u32 ((kshr x 1) ||| (kshl (s &&& 1) 29))
  have a8 := or32 (kshr x 1) (kshl (s &&& 1) 29)
  rw [show (2 : Int) ^ 1 = 2 from rfl] at a1
  rw [show (2 : Nat) ^ 29 = 536870912 from rfl] at a2
  rw [Nat.or_comm, or_add (k := 29) (by rw [show (2 : Nat) ^ 29 = 536870912 from rfl]; omega) (by rw [show (2 : Nat) ^ 29 = 536870912 from rfl]; omega)] at a8
  omega
theorem pv_half {d v : Nat → Nat} (h : ∀ q, v q = d q / 2 + 536870912 * (d (q + 1) % 2)) : ∀ n, 2 * pv 1073741824 v n + d 0 % 2 = pv 1073741824 d n + d n % 2 * 1073741824 ^ n := by
  intro n
  induction n with
  | zero => simp [pv]
  | succ n ih =>
    rw [pv, pv, h n, Nat.pow_succ]
    have e := Nat.div_add_mod (d n) 2
    generalize 1073741824 ^ n = X at *
    generalize d n / 2 = Q at *
    generalize d n % 2 = R at *
    rw [← e]
    generalize d (n + 1) % 2 = S at *
    grind
def dz0 (f : Nat → Int32) (q : Nat) : Nat := if q < 320 then dg f q else 0
theorem halve_loop {j : Nat} (hj : mLen j = 320) {m : MS} (hw : W30 (mA m j)) : ∃ b, Lp (fun a => f_X7_halve_L2 j a.1 a.2) (0, m) = some b ∧ ∃ v, b = smA m j v ∧ ∀ q, q < 320 → (v q).toInt = ((dz0 (mA m j) q / 2 + 536870912 * (dz0 (mA m j) (q + 1) % 2) : Nat) : Int) := by
  refine Lp_inv (F := fun a => f_X7_halve_L2 j a.1 a.2) (fun n a => ∃ k u, a = (nI k, smA m j u) ∧ n + k = 320 ∧ (∀ q, q < k → (u q).toInt = ((dz0 (mA m j) q / 2 + 536870912 * (dz0 (mA m j) (q + 1) % 2) : Nat) : Int)) ∧ (∀ q, k ≤ q → u q = mA m j q)) _ ?_ 320 (0, m) ⟨0, mA m j, by rw [smA_self]; rfl, by omega, fun q h => by omega, fun q h => rfl⟩
  rintro n _ ⟨k, u, rfl, hn, hlo, hhi⟩
  show (∃ b, f_X7_halve_L2 j (nI k) (smA m j u) = _ ∧ _) ∨ ∃ a' n', f_X7_halve_L2 j (nI k) (smA m j u) = _ ∧ _
  unfold f_X7_halve_L2
  by_cases h0 : k = 320
  · rw [if_pos ((cle k320 (by omega)).mpr (by omega))]
    exact .inl ⟨_, rfl, u, rfl, fun q hq => hlo q (by omega)⟩
  · have hwk := hw k (by omega)
    have key : ∀ s : Int32, s.toInt % 2 = ((dz0 (mA m j) (k + 1) % 2 : Nat) : Int) → f_X7_halve_J27 j (nI k) s (smA m j u) = some (.inl (nI (k + 1), smA m j (upd u k ((kshr (u k) 1) ||| (kshl (s &&& 1) 29))))) ∧ (∀ q, q < k + 1 → (upd u k ((kshr (u k) 1) ||| (kshl (s &&& 1) 29)) q).toInt = ((dz0 (mA m j) q / 2 + 536870912 * (dz0 (mA m j) (q + 1) % 2) : Nat) : Int)) ∧ (∀ q, k + 1 ≤ q → upd u k ((kshr (u k) 1) ||| (kshl (s &&& 1) 29)) q = mA m j q) := by
      intro s hs
      refine ⟨?_, fun q hq => ?_, fun q hq => ?_⟩
      · unfold f_X7_halve_J27
        rw [if_pos ((vIn (by omega)).mpr (by omega)), if_pos ((vIn (by omega)).mpr (by omega))]
        simp only [lt, nI_1, nI_clamp (show k < 2 ^ 31 by omega), smA_same, smA_smA]
      · by_cases hqk : q = k
        · subst hqk
          rw [upd_eq, hhi q (Nat.le_refl _), hv_bits hwk.1 hwk.2, hs]
          have h5 : dz0 (mA m j) q = dg (mA m j) q := if_pos (by omega)
          have h6 := dg_int hwk.1
          rw [h5]
          omega
        · rw [upd_ne hqk]; exact hlo q (by omega)
      · rw [upd_ne (by omega)]; exact hhi q (by omega)
    rw [if_neg (fun h => by have := (cle k320 (by omega)).mp h; omega), nI_1]
    by_cases h1 : k + 1 = 320
    · rw [if_pos ((cle k320 (by omega)).mpr (by omega))]
      obtain ⟨e1, e2, e3⟩ := key 0 (by rw [show dz0 (mA m j) (k + 1) = 0 from if_neg (by omega)]; rfl)
      exact .inr ⟨_, n - 1, e1, by omega, k + 1, _, rfl, by omega, e2, e3⟩
    · rw [if_neg (fun h => by have := (cle k320 (by omega)).mp h; omega), if_pos ((vIn (by omega)).mpr (by omega)), nI_clamp (show k + 1 < 2 ^ 31 by omega), smA_same, hhi (k + 1) (by omega)]
      obtain ⟨e1, e2, e3⟩ := key (mA m j (k + 1)) (by
        rw [show dz0 (mA m j) (k + 1) = dg (mA m j) (k + 1) from if_pos (by omega)]
        have := dg_int (hw (k + 1) (by omega)).1
        omega)
      exact .inr ⟨_, n - 1, e1, by omega, k + 1, _, rfl, by omega, e2, e3⟩
theorem pv_half' {d v : Nat → Nat} {N : Nat} (hN : d N = 0) (h : ∀ q, q < N → v q = d q / 2 + 536870912 * (d (q + 1) % 2)) : pv 1073741824 v N = pv 1073741824 d N / 2 := by
  have h1 := pv_half (d := d) (v := fun q => d q / 2 + 536870912 * (d (q + 1) % 2)) (fun q => rfl) N
  rw [hN, Nat.zero_mod, Nat.zero_mul, Nat.add_zero] at h1
  rw [pv_congr (d := v) (e := fun q => d q / 2 + 536870912 * (d (q + 1) % 2)) h]
  omega
theorem halve_spec {j : Nat} (hj : mLen j = 320) {m : MS} (hw : W30 (mA m j)) : ∃ v, f_X7_halve j m = some (smA m j v) ∧ W30 v ∧ val v = val (mA m j) / 2 := by
  obtain ⟨b, h1, v, rfl, h2⟩ := halve_loop hj hw
  refine ⟨v, ?_, fun k hk => ?_, ?_⟩
  · unfold f_X7_halve
    rw [h1]
    rfl
  · have h3 : dz0 (mA m j) k < 1073741824 := by unfold dz0; rw [if_pos hk]; exact hw.dg hk
    rw [h2 k hk]
    omega
  · have h4 : pv 1073741824 (dg v) 320 = pv 1073741824 (dz0 (mA m j)) 320 / 2 := pv_half' (if_neg (by omega)) (fun q hq => by
      have := h2 q hq
      unfold dg
      omega)
    have h5 : pv 1073741824 (dz0 (mA m j)) 320 = pv 1073741824 (dg (mA m j)) 320 := pv_congr (fun i hi => if_pos hi)
    exact h4.trans (congrArg (· / 2) h5)
