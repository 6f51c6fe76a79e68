theorem pv_sub {d e v : Nat → Nat} {c : Nat → Nat} {N : Nat} (h : ∀ q, q < N → v q + e q + c q = d q + c (q + 1) * 1073741824) (h0 : c 0 = 0) : pv 1073741824 v N + pv 1073741824 e N = pv 1073741824 d N + c N * 1073741824 ^ N := by
  induction N with
  | zero => simp [pv, h0]
  | succ n ih =>
    have i1 := ih (fun q hq => h q (by omega))
    have i2 := h n (by omega)
    rw [pv, pv, pv, Nat.pow_succ]
    generalize 1073741824 ^ n = X at *
    generalize pv 1073741824 v n = a at *
    generalize pv 1073741824 e n = b at *
    generalize pv 1073741824 d n = f at *
    generalize v n = v' at *
    generalize e n = e' at *
    generalize d n = d' at *
    generalize c n = c' at *
    generalize c (n + 1) = c1 at *
    have : (v' + e' + c') * X = (d' + c1 * 1073741824) * X := by rw [i2]
    grind
theorem less_loop {i j : Nat} (hi : mLen i = 320) (hj : mLen j = 320) (hne : j ≠ i) {m : MS} (hwi : W30 (mA m i)) (hwj : W30 (mA m j)) : ∃ b, Lp (fun a => f_X7_less_L4 i j a.1 a.2.1 a.2.2) (0, 0, m) = some b ∧ ∃ (v : Nat → Int32) (c : Nat → Nat), b = smA m i v ∧ W30 v ∧ c 0 = 0 ∧ c 320 ≤ 1 ∧ ∀ q, q < 320 → dg v q + dg (mA m j) q + c q = dg (mA m i) q + c (q + 1) * 1073741824 := by
  refine Lp_inv (F := fun a => f_X7_less_L4 i j a.1 a.2.1 a.2.2) (fun n a => ∃ (k : Nat) (u : Nat → Int32) (c : Nat → Nat), a = (nI (c k), nI k, smA m i u) ∧ n + k = 320 ∧ W30 u ∧ c 0 = 0 ∧ c k ≤ 1 ∧ (∀ q, q < k → dg u q + dg (mA m j) q + c q = dg (mA m i) q + c (q + 1) * 1073741824) ∧ (∀ q, k ≤ q → u q = mA m i q)) _ ?_ 320 (0, 0, m) ⟨0, mA m i, fun _ => 0, by rw [smA_self]; rfl, by omega, hwi, rfl, Nat.zero_le 1, fun q h => by omega, fun q h => rfl⟩
  rintro n _ ⟨k, u, c, rfl, hn, hu, hc0, hck, hlo, hhi⟩
  show (∃ b, f_X7_less_L4 i j (nI (c k)) (nI k) (smA m i u) = _ ∧ _) ∨ ∃ a' n', f_X7_less_L4 i j (nI (c k)) (nI k) (smA m i u) = _ ∧ _
  unfold f_X7_less_L4
  by_cases h0 : k = 320
  · rw [if_pos ((cle k320 (by omega)).mpr (by omega))]
    subst h0
    exact .inl ⟨_, rfl, u, c, rfl, hu, hc0, hck, hlo⟩
  · have hik := hwi k (by omega)
    have hjk := hwj k (by omega)
    have di := dg_int hik.1
    have dj := dg_int hjk.1
    have hcI : (nI (c k)).toInt = (c k : Int) := nI_toInt (by omega)
    rw [if_neg (fun h => by have := (cle k320 (by omega)).mp h; omega), if_pos ((vIn (by omega)).mpr (by omega)), if_pos ((vIn (by omega)).mpr (by omega)), nI_clamp (show k < 2 ^ 31 by omega), smA_same, smA_ne hne, hhi k (Nat.le_refl _)]
    obtain ⟨x, hx⟩ : ∃ x, x = mA m i k - mA m j k - nI (c k) := ⟨_, rfl⟩
    have ex : x.toInt = (mA m i k).toInt - (mA m j k).toInt - c k := by
      have e1 := is_ (x := mA m i k) (y := mA m j k) (by omega) (by omega)
      rw [hx, is_ (by omega) (by omega), e1, hcI]
    have em := am30i x
    have key : ∀ s : Nat, s ≤ 1 → (s : Int) * 1073741824 + x.toInt = x.toInt % 1073741824 → f_X7_less_J32 i j (nI k) x (nI s) (smA m i u) = some (.inl (nI ((fun q => if q = k + 1 then s else c q) (k + 1)), nI (k + 1), smA m i (upd u k (x &&& 1073741823)))) ∧ W30 (upd u k (x &&& 1073741823)) ∧ (fun q => if q = k + 1 then s else c q) 0 = 0 ∧ (fun q => if q = k + 1 then s else c q) (k + 1) ≤ 1 ∧ (∀ q, q < k + 1 → dg (upd u k (x &&& 1073741823)) q + dg (mA m j) q + (fun q => if q = k + 1 then s else c q) q = dg (mA m i) q + (fun q => if q = k + 1 then s else c q) (q + 1) * 1073741824) ∧ (∀ q, k + 1 ≤ q → upd u k (x &&& 1073741823) q = mA m i q) := by
      intro s hs he
      refine ⟨?_, hu.upd (by omega) (by omega), ?_, ?_, fun q hq => ?_, fun q hq => ?_⟩
      · unfold f_X7_less_J32
        rw [if_pos ((vIn (by omega)).mpr (by omega))]
        simp only [lt, nI_1, nI_clamp (show k < 2 ^ 31 by omega), smA_same, smA_smA, if_true]
      · show (if 0 = k + 1 then s else c 0) = 0
        rw [if_neg (by omega)]; exact hc0
      · show (if k + 1 = k + 1 then s else c (k + 1)) ≤ 1
        rw [if_pos rfl]; exact hs
      · show _ + (if q = k + 1 then s else c q) = _ + (if q + 1 = k + 1 then s else c (q + 1)) * 1073741824
        rw [if_neg (by omega)]
        by_cases hqk : q = k
        · subst hqk
          rw [if_pos rfl]
          have : dg (upd u q (x &&& 1073741823)) q = (x.toInt % 1073741824).toNat := by unfold dg; rw [upd_eq, em]
          omega
        · rw [if_neg (by omega)]
          have : dg (upd u k (x &&& 1073741823)) q = dg u q := by unfold dg; rw [upd_ne hqk]
          rw [this]
          exact hlo q (by omega)
      · rw [upd_ne (by omega)]; exact hhi q (by omega)
    simp only [lt]
    rw [← hx]
    by_cases h1 : 0 ≤ x
    · rw [if_pos h1]
      rw [ile, k0] at h1
      obtain ⟨e1, e2⟩ := key 0 (by omega) (by omega)
      exact .inr ⟨_, n - 1, e1, by omega, k + 1, upd u k (x &&& 1073741823), fun q => if q = k + 1 then 0 else c q, rfl, by omega, e2⟩
    · rw [if_neg h1]
      rw [ile, k0] at h1
      obtain ⟨e1, e2⟩ := key 1 (by omega) (by omega)
      exact .inr ⟨_, n - 1, e1, by omega, k + 1, upd u k (x &&& 1073741823), fun q => if q = k + 1 then 1 else c q, rfl, by omega, e2⟩
theorem no_borrow {v e d c T : Nat} (h : v + e = d + c * T) (hv : v < T) (he : e ≤ d) : v + e = d := by
  rcases Nat.eq_zero_or_pos c with h1 | h1
  · rw [h1] at h; omega
  · have : T ≤ c * T := Nat.le_mul_of_pos_left _ h1
    omega
theorem less_spec {i j : Nat} (hi : mLen i = 320) (hj : mLen j = 320) (hne : j ≠ i) {m : MS} (hwi : W30 (mA m i)) (hwj : W30 (mA m j)) (hle : val (mA m j) ≤ val (mA m i)) : ∃ v, f_X7_less i j m = some (smA m i v) ∧ W30 v ∧ val v + val (mA m j) = val (mA m i) := by
  obtain ⟨b, h1, v, c, rfl, h2, h3, h4, h5⟩ := less_loop hi hj hne hwi hwj
  refine ⟨v, ?_, h2, ?_⟩
  · unfold f_X7_less
    rw [h1]
    rfl
  · exact no_borrow (c := c 320) (T := B320) (pv_sub h5 h3) h2.lt hle
