theorem lf_bits {x y : Int64} {a b s : Nat} {t r : Int32} (hx : x.toInt = a) (hy : y.toInt = b) (ha : a < 1073741824) (hb : b < 1073741824) (ht : t.toInt = s) (hr : r.toInt = (30 - s : Nat)) (hs : s < 30) : (((jshl x t) ||| (jshr y r)) &&& 1073741823).toInt32.toInt = (((a * 2 ^ s + b / 2 ^ (30 - s)) % 1073741824 : Nat) : Int) := by
  have p1 : 2 ^ s ≤ 2 ^ 29 := Nat.pow_le_pow_right (by decide) (by omega)
  have p2 : a * 2 ^ s ≤ 1073741824 * 2 ^ 29 := Nat.mul_le_mul (by omega) p1
  rw [show (1073741824 : Nat) * 2 ^ 29 = 576460752303423488 from rfl] at p2
  have a1 := jshl_eq (x := x) (y := t) (k := s) ht (by omega) (by omega) (by
    rw [hx, show ((2 : Int) ^ s) = ((2 ^ s : Nat) : Int) by simp, ← Int.natCast_mul]; omega)
  rw [hx, show ((2 : Int) ^ s) = ((2 ^ s : Nat) : Int) by simp, ← Int.natCast_mul] at a1
  have a2 := jshr_eq (x := y) (y := r) (k := 30 - s) hr (by omega)
  rw [hy, show ((2 : Int) ^ (30 - s)) = ((2 ^ (30 - s) : Nat) : Int) by simp, ← Int.natCast_ediv] at a2
  have p3 : b / 2 ^ (30 - s) < 2 ^ s := by
    rw [Nat.div_lt_iff_lt_mul (Nat.pow_pos (by decide)), ← Nat.pow_add, show s + (30 - s) = 30 by omega]
    exact hb
  generalize b / 2 ^ (30 - s) = z at a2 p3 ⊢
  have a3 := u64 (jshl x t)
  have a4 := u64 (jshr y r)
  have e3 : (jshl x t).toBitVec.toNat = a * 2 ^ s := by omega
  have e4 : (jshr y r).toBitVec.toNat = z := by omega
  have a5 := or64 (jshl x t) (jshr y r)
  rw [e3, e4, or_add p3 (Nat.mul_mod_left _ _)] at a5
  have a6 := u64 ((jshl x t) ||| (jshr y r))
  have a7 := am30 ((jshl x t) ||| (jshr y r))
  rw [li (by omega) (by omega), a7]
  omega
/-- limb k of what is shifted by 30 w + s bits -/
def eL (d : Nat → Nat) (w k : Nat) : Nat := if k < w then 0 else d (k - w)
def hL (d : Nat → Nat) (w s k : Nat) : Nat := if k ≤ w then 0 else d (k - w - 1) / 2 ^ (30 - s)
def vL (d : Nat → Nat) (w s k : Nat) : Nat := (eL d w k * 2 ^ s + hL d w s k) % 1073741824
theorem nI_sub {a b : Nat} (h : b ≤ a) (ha : a < 2147483648) : nI a - nI b = nI (a - b) := by
  have h1 : (nI a).toInt = (a : Int) := nI_toInt ha
  have h2 : (nI b).toInt = (b : Int) := nI_toInt (by omega)
  rw [ieq, nI_toInt (by omega), is_ (by omega) (by omega)]
  omega
theorem clt2 {a b : Nat} (ha : a < 2147483648) (hb : b < 2147483648) : nI a < nI b ↔ a < b := by rw [ilt, nI_toInt ha, nI_toInt hb]; omega
theorem cle2 {a b : Nat} (ha : a < 2147483648) (hb : b < 2147483648) : nI a ≤ nI b ↔ a ≤ b := by rw [ile, nI_toInt ha, nI_toInt hb]; omega
theorem left_step {j : Nat} (hj : mLen j = 320) {w s k : Nat} (hs : s < 30) (hw : w < 2147483648) (hk : k < 320) {m : MS} {d : Nat → Nat} {u : Nat → Int32} (hd : ∀ q, q ≤ k → (u q).toInt = (d q : Int) ∧ d q < 1073741824) : ∃ x : Int32, f_X7_left_L15 j (nI w) (nI s) (nI k) (smA m j u) = some (.inl (nI k + (-1), smA m j (upd u k x))) ∧ x.toInt = (vL d w s k : Int) := by
  have hr : (30 - nI s : Int32).toInt = (30 - s : Nat) := by
    have h1 : (nI s).toInt = (s : Int) := nI_toInt (by omega)
    rw [is_ (by rw [k30]; omega) (by rw [k30]; omega), k30]; omega
  have ht : (nI s).toInt = (s : Int) := nI_toInt (by omega)
  have j58 : ∀ (x y : Int64), x.toInt = (eL d w k : Int) → y.toInt = ((if k ≤ w then 0 else d (k - w - 1) : Nat) : Int) → ∃ z : Int32, f_X7_left_J58 j (nI w) (nI s) (nI k) x y (smA m j u) = some (.inl (nI k + (-1), smA m j (upd u k z))) ∧ z.toInt = (vL d w s k : Int) := by
    intro x y hx hy
    refine ⟨_, ?_, lf_bits (a := eL d w k) (b := if k ≤ w then 0 else d (k - w - 1)) hx hy ?_ ?_ ht hr hs |>.trans ?_⟩
    · unfold f_X7_left_J58
      rw [if_pos ((vIn (by omega)).mpr (by omega))]
      simp only [lt, nI_clamp (show k < 2 ^ 31 by omega), smA_same, smA_smA]
    · unfold eL; split
      · omega
      · exact (hd _ (by omega)).2
    · split
      · omega
      · exact (hd _ (by omega)).2
    · unfold vL hL
      split <;> simp
  have j37 : ∀ (x : Int64), x.toInt = (eL d w k : Int) → ∃ z : Int32, f_X7_left_J37 j (nI w) (nI s) (nI k) x (smA m j u) = some (.inl (nI k + (-1), smA m j (upd u k z))) ∧ z.toInt = (vL d w s k : Int) := by
    intro x hx
    unfold f_X7_left_J37
    by_cases h1 : k ≤ w
    · rw [if_pos ((cle2 (by omega) hw).mpr h1)]
      exact j58 x 0 hx (by rw [if_pos h1]; rfl)
    · rw [if_neg (fun h => h1 ((cle2 (by omega) hw).mp h)), nI_sub (by omega) (by omega), show nI (k - w) - 1 = nI (k - w - 1) from nI_sub (b := 1) (by omega) (by omega), if_pos ((vIn (by omega)).mpr (by omega)), nI_clamp (show k - w - 1 < 2 ^ 31 by omega), smA_same]
      exact j58 x _ hx (by rw [if_neg h1, il]; exact (hd _ (by omega)).1)
  unfold f_X7_left_L15
  rw [if_neg (by rw [ilt, k0, nI_toInt (by omega)]; omega)]
  by_cases h1 : k < w
  · rw [if_pos ((clt2 (by omega) hw).mpr h1)]
    exact j37 0 (by unfold eL; rw [if_pos h1]; rfl)
  · rw [if_neg (fun h => h1 ((clt2 (by omega) hw).mp h)), nI_sub (by omega) (by omega), if_pos ((vIn (by omega)).mpr (by omega)), nI_clamp (show k - w < 2 ^ 31 by omega), smA_same]
    exact j37 _ (by unfold eL; rw [if_neg h1, il]; exact (hd _ (by omega)).1)
theorem left_loop {j : Nat} (hj : mLen j = 320) {w s : Nat} (hs : s < 30) (hww : w < 2147483648) {m : MS} (hw : W30 (mA m j)) : ∃ b, Lp (fun a => f_X7_left_L15 j (nI w) (nI s) a.1 a.2) (319, m) = some b ∧ ∃ v, b = smA m j v ∧ ∀ q, q < 320 → (v q).toInt = (vL (dg (mA m j)) w s q : Int) := by
  refine Lp_inv (F := fun a => f_X7_left_L15 j (nI w) (nI s) a.1 a.2) (fun n a => ∃ (u : Nat → Int32), a.1.toInt = (n : Int) - 1 ∧ a.2 = smA m j u ∧ n ≤ 320 ∧ (∀ q, n ≤ q → q < 320 → (u q).toInt = (vL (dg (mA m j)) w s q : Int)) ∧ (∀ q, q < n → u q = mA m j q)) _ ?_ 320 (319, m) ⟨mA m j, by show (319 : Int32).toInt = _; decide +kernel, by rw [smA_self], by omega, fun q h1 h2 => by omega, fun q h => rfl⟩
  rintro n ⟨a, m'⟩ ⟨u, ha, hm, hn, hhi, hlo⟩
  change a.toInt = _ at ha
  change m' = _ at hm
  subst hm
  show (∃ b, f_X7_left_L15 j (nI w) (nI s) a (smA m j u) = _ ∧ _) ∨ ∃ a' n', f_X7_left_L15 j (nI w) (nI s) a (smA m j u) = _ ∧ _
  by_cases h0 : n = 0
  · refine .inl ⟨smA m j u, ?_, u, rfl, fun q hq => hhi q (by omega) hq⟩
    unfold f_X7_left_L15
    rw [if_pos (by rw [ilt, k0]; omega)]
  · obtain ⟨k, rfl⟩ : ∃ k, n = k + 1 := ⟨n - 1, by omega⟩
    obtain rfl : a = nI k := ieq.mpr (by rw [nI_toInt (by omega)]; omega)
    obtain ⟨x, h1, h2⟩ := left_step hj (m := m) (w := w) (s := s) (k := k) (d := dg (mA m j)) (u := u) hs hww (by omega) (fun q hq => by
      rw [hlo q (by omega)]
      exact ⟨(dg_int (hw q (by omega)).1).symm, hw.dg (by omega)⟩)
    refine .inr ⟨_, k, h1, by omega, upd u k x, ?_, rfl, by omega, fun q h3 h4 => ?_, fun q h3 => ?_⟩
    · have h5 : (-1 : Int32).toInt = -1 := by decide
      show (nI k + -1).toInt = _
      rw [ia (by rw [h5]; omega) (by rw [h5]; omega), h5]
      omega
    · by_cases h6 : q = k
      · rw [h6, upd_eq]; exact h2
      · rw [upd_ne h6]; exact hhi q (by omega) h4
    · rw [upd_ne (by omega)]; exact hlo q (by omega)
theorem hL_lt {d : Nat → Nat} {w s k : Nat} (hs : s < 30) (hd : ∀ q, d q < 1073741824) : hL d w s k < 2 ^ s := by
  unfold hL
  split
  · exact Nat.pow_pos (by decide)
  · rw [Nat.div_lt_iff_lt_mul (Nat.pow_pos (by decide)), ← Nat.pow_add, show s + (30 - s) = 30 by omega]
    exact hd _
theorem hL_succ {d : Nat → Nat} {w s k : Nat} (hs : s < 30) (hd : ∀ q, d q < 1073741824) : (eL d w k * 2 ^ s + hL d w s k) / 1073741824 = hL d w s (k + 1) := by
  have h1 := hL_lt (w := w) (k := k) hs hd
  have h2 : (1073741824 : Nat) = 2 ^ s * 2 ^ (30 - s) := by rw [← Nat.pow_add, show s + (30 - s) = 30 by omega]
  rw [h2, ← Nat.div_div_eq_div_mul, Nat.mul_comm (eL d w k), Nat.mul_add_div (Nat.pow_pos (by decide)), Nat.div_eq_of_lt h1, Nat.add_zero]
  unfold eL hL
  by_cases h3 : k < w
  · rw [if_pos h3, if_pos (by omega), Nat.zero_div]
  · rw [if_neg h3, if_neg (by omega), show k + 1 - w - 1 = k - w by omega]
theorem pv_left {d : Nat → Nat} {w s : Nat} (hs : s < 30) (hd : ∀ q, d q < 1073741824) : ∀ n, pv 1073741824 (vL d w s) n + hL d w s n * 1073741824 ^ n = 2 ^ s * pv 1073741824 (eL d w) n := by
  intro n
  induction n with
  | zero => simp [pv, hL]
  | succ n ih =>
    have h1 := Nat.div_add_mod (eL d w n * 2 ^ s + hL d w s n) 1073741824
    rw [hL_succ hs hd] at h1
    rw [pv, pv, Nat.pow_succ]
    change 1073741824 * hL d w s (n + 1) + vL d w s n = _ at h1
    generalize 1073741824 ^ n = X at *
    generalize 2 ^ s = S at *
    generalize pv 1073741824 (vL d w s) n = a at *
    generalize pv 1073741824 (eL d w) n = b at *
    generalize hL d w s (n + 1) = h' at *
    generalize hL d w s n = h at *
    generalize vL d w s n = v at *
    generalize eL d w n = e at *
    have h2 : (1073741824 * h' + v) * X = (e * S + h) * X := by rw [h1]
    grind
theorem pv_eL {B : Nat} {d : Nat → Nat} {w r : Nat} : pv B (eL d w) (w + r) = B ^ w * pv B d r := by
  rw [pv_split w r, pv_zero (d := eL d w) (n := w) (fun k hk => if_pos hk), Nat.zero_add]
  congr 1
  refine pv_congr (fun k hk => ?_)
  unfold eL
  rw [if_neg (by omega), Nat.add_sub_cancel_left]
theorem left_arith {T V P h a b S W : Nat} (h1 : V + h * T = S * (W * a)) (hf : (a + b) * (W * S) < T) (hb : b = 0) : V = (a + b) * (W * S) := by
  subst hb
  have h2 : S * (W * a) = (a + 0) * (W * S) := by grind
  rw [h2] at h1
  rcases Nat.eq_zero_or_pos h with h3 | h3
  · rw [h3] at h1; omega
  · have : T ≤ h * T := Nat.le_mul_of_pos_left _ h3
    omega
theorem left_val {d : Nat → Nat} {w s N : Nat} (hs : s < 30) (hw : w ≤ N) (hd : ∀ q, d q < 1073741824) (hf : pv 1073741824 d N * 2 ^ (30 * w + s) < pB 1073741824 N) : pv 1073741824 (vL d w s) N = pv 1073741824 d N * 2 ^ (30 * w + s) := by
  obtain ⟨r, rfl⟩ : ∃ r, N = r + w := ⟨N - w, by omega⟩
  have h1 := pv_left (w := w) hs hd (r + w)
  rw [Nat.add_comm r w, pv_eL, Nat.add_comm w r] at h1
  rw [pv_split (d := d) r w, Nat.pow_add, ← p30] at hf ⊢
  refine left_arith (T := 1073741824 ^ (r + w)) (P := 0) (h := hL d w s (r + w)) h1 hf ?_
  have hX : 1073741824 ^ (r + w) = 1073741824 ^ r * 1073741824 ^ w := Nat.pow_add _ _ _
  unfold pB at hf
  rw [hX] at hf
  rcases Nat.eq_zero_or_pos (pv 1073741824 (fun i => d (r + i)) w) with h3 | h3
  · rw [h3, Nat.mul_zero]
  · exfalso
    have q1 : 1073741824 ^ r * 1 ≤ pv 1073741824 d r + 1073741824 ^ r * pv 1073741824 (fun i => d (r + i)) w := Nat.le_trans (Nat.mul_le_mul_left _ h3) (Nat.le_add_left _ _)
    have q2 : 1073741824 ^ w * 1 ≤ 1073741824 ^ w * 2 ^ s := Nat.mul_le_mul_left _ (Nat.pow_pos (by decide))
    have q3 := Nat.mul_le_mul q1 q2
    rw [Nat.mul_one, Nat.mul_one] at q3
    omega
def dL (f : Nat → Int32) (q : Nat) : Nat := if q < 320 then dg f q else 0
theorem k30' : (30 : Int32).toInt = 30 := by decide +kernel
theorem nI_div30 {n : Nat} (hn : n < 2147483648) : nI n / 30 = nI (n / 30) := by
  rw [ieq, nI_toInt (by omega), idv (by rw [nI_toInt hn]; omega), nI_toInt hn, k30', Int.tdiv_eq_ediv_of_nonneg (by omega)]
  omega
theorem nI_rm30 {n : Nat} (hn : n < 2147483648) : irm (nI n) 30 = nI (n % 30) := by
  rw [ieq, nI_toInt (by omega), irm_eq, nI_toInt hn, k30', Int.tmod_eq_emod_of_nonneg (by omega)]
  omega
theorem vL_lt {d : Nat → Nat} {w s q : Nat} : vL d w s q < 1073741824 := Nat.mod_lt _ (by decide)
theorem vL_congr {d e : Nat → Nat} {w s q N : Nat} (h : ∀ i, i < N → d i = e i) (hq : q < N) : vL d w s q = vL e w s q := by
  have h1 : eL d w q = eL e w q := by
    unfold eL; split
    · rfl
    · exact h _ (by omega)
  have h2 : hL d w s q = hL e w s q := by
    unfold hL; split
    · rfl
    · rw [h _ (by omega)]
  unfold vL
  rw [h1, h2]
theorem left_spec {j : Nat} (hj : mLen j = 320) {n : Nat} (hn : n ≤ 9600) {m : MS} (hw : W30 (mA m j)) (hf : val (mA m j) * 2 ^ n < B320) : ∃ v, f_X7_left j (nI n) m = some (smA m j v) ∧ W30 v ∧ val v = val (mA m j) * 2 ^ n := by
  obtain ⟨b, h1, v, rfl, h2⟩ := left_loop hj (w := n / 30) (s := n % 30) (by omega) (by omega) hw
  refine ⟨v, ?_, fun k hk => ?_, ?_⟩
  · unfold f_X7_left
    simp only [lt]
    rw [nI_div30 (by omega), nI_rm30 (by omega), h1]
    rfl
  · have := vL_lt (d := dg (mA m j)) (w := n / 30) (s := n % 30) (q := k)
    rw [h2 k hk]
    omega
  · have e0 : pv 1073741824 (dL (mA m j)) 320 = val (mA m j) := pv_congr (fun i hi => if_pos hi)
    have e1 : pv 1073741824 (vL (dL (mA m j)) (n / 30) (n % 30)) 320 = val v := pv_congr (fun i hi => by
      rw [vL_congr (d := dL (mA m j)) (e := dg (mA m j)) (N := 320) (fun i hi => if_pos hi) hi]
      have h4 := h2 i hi
      generalize vL (dg (mA m j)) (n / 30) (n % 30) i = z at h4 ⊢
      unfold dg
      omega)
    have hn' : 30 * (n / 30) + n % 30 = n := Nat.div_add_mod n 30
    have h3 := left_val (d := dL (mA m j)) (w := n / 30) (s := n % 30) (N := 320) (by omega) (by omega) (fun q => by
      unfold dL
      by_cases hq : q < 320
      · rw [if_pos hq]; exact hw.dg hq
      · rw [if_neg hq]; decide) (by rw [e0, hn']; exact hf)
    rw [e0, e1, hn'] at h3
    exact h3
