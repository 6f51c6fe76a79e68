/-! the reference writes -/
theorem ps_I {m : MS} {v : Nat → Int32} {L : List Int32} {k : Nat} (h : k ≠ 2) : mI (ps m v L) k = mI m k := by unfold ps; rw [mI_smI_ne h, mI_smA]
theorem ps_I2 {m : MS} {v : Nat → Int32} {L : List Int32} : mI (ps m v L) 2 = nI L.length := by unfold ps; rw [mI_smI]
theorem ps_A {m : MS} {v : Nat → Int32} {L : List Int32} {k : Nat} (h : k ≠ 1) : mA (ps m v L) k = mA m k := by unfold ps; rw [mA_smI, smA_ne h]
theorem ps_A1 {m : MS} {v : Nat → Int32} {L : List Int32} : mA (ps m v L) 1 = v := by unfold ps; rw [mA_smI, smA_same]
theorem ps_J {m : MS} {v : Nat → Int32} {L : List Int32} {k : Nat} : mJ (ps m v L) k = mJ m k := rfl
theorem ps_nil (m : MS) : smI m 2 0 = ps m (mA m 1) [] := by unfold ps; rw [smA_self]; rfl
theorem pw_nil (v : Nat → Int32) : PW v [] := fun i hi => by simp at hi
theorem ow_nil (c : CS) : OW (brB c 1, 0) [] := ⟨rfl, fun i hi => by simp at hi⟩
section OutM
variable {m : MS} {n : Nat}
theorem m_dgf {k : Nat} (hk : k < n) : 48 + mA m 2 k = dgf (mA m 2) n k := by unfold dgf; rw [if_pos hk]
theorem wr_l203 (hc : mI m 3 = nI n) (hn : n ≤ 1420) {p : Nat} (hp : mI m 4 = nI p) (hp2 : p ≤ 1500) : ∀ (r a : Nat) (v : Nat → Int32) (L : List Int32), a + r = p → PW v L → L.length + r ≤ 1600 → ∃ v', Lp (fun z => f_X7_write_L203 z.1 z.2) (nI a, ps m v L) = some (ps m v' (L ++ dl (dgf (mA m 2) n) a r)) ∧ PW v' (L ++ dl (dgf (mA m 2) n) a r) := by
  intro r
  induction r with
  | zero =>
    intro a v L ha hv hl
    rw [dl, List.append_nil]
    refine ⟨v, Lp_r ?_, hv⟩
    show f_X7_write_L203 (nI a) (ps m v L) = _
    unfold f_X7_write_L203
    rw [ps_I (by decide), hp, if_pos ((cle2 (by omega) (by omega)).mpr (by omega))]
  | succ r ih =>
    intro a v L ha hv hl
    obtain ⟨v', g1, g2⟩ := put_o (m := m) (x := dgf (mA m 2) n a) hv (by omega)
    have hs : f_X7_write_L203 (nI a) (ps m v L) = some (.inl (nI (a + 1), ps m v' (L ++ [dgf (mA m 2) n a]))) := by
      unfold f_X7_write_L203 f_X7_write_J234
      rw [ps_I (by decide), hp, if_neg (fun h => by have := (cle2 (by omega) (by omega)).mp h; omega), ps_I (by decide), hc]
      by_cases h : n ≤ a
      · have e : dgf (mA m 2) n a = 48 := by unfold dgf; rw [if_neg (by omega)]; decide
        rw [e] at g1 g2 ⊢
        rw [if_pos ((cle2 (by omega) (by omega)).mpr h), g1]
        simp only [Option.bind, lt]
        rw [nI_inc (by omega)]
      · rw [if_neg (fun x => h ((cle2 (by omega) (by omega)).mp x)), if_pos ((vIn (by omega)).mpr (by show a < 1600; omega)), nI_clamp (show a < 2 ^ 31 by omega), ps_A (by decide), m_dgf (n := n) (k := a) (by omega), g1]
        simp only [Option.bind, lt]
        rw [nI_inc (by omega)]
    obtain ⟨v'', k1, k2⟩ := ih (a + 1) v' (L ++ [dgf (mA m 2) n a]) (by omega) g2 (by rw [len1]; omega)
    rw [← app1] at k1 k2
    exact ⟨v'', (Lp_l (F := fun z => f_X7_write_L203 z.1 z.2) (a := (nI a, ps m v L)) hs).trans k1, k2⟩
theorem wr_l169 (hc : mI m 3 = nI n) (hn : n ≤ 1420) : ∀ (r a : Nat) (v : Nat → Int32) (L : List Int32), a + r = n → PW v L → L.length + r ≤ 1600 → ∃ v', Lp (fun z => f_X7_write_L169 z.1 z.2) (nI a, ps m v L) = some (ps m v' (L ++ dl (dgf (mA m 2) n) a r)) ∧ PW v' (L ++ dl (dgf (mA m 2) n) a r) := by
  intro r
  induction r with
  | zero =>
    intro a v L ha hv hl
    rw [dl, List.append_nil]
    refine ⟨v, Lp_r ?_, hv⟩
    show f_X7_write_L169 (nI a) (ps m v L) = _
    unfold f_X7_write_L169
    rw [ps_I (by decide), hc, if_pos ((cle2 (by omega) (by omega)).mpr (by omega))]
  | succ r ih =>
    intro a v L ha hv hl
    obtain ⟨v', g1, g2⟩ := put_o (m := m) (x := dgf (mA m 2) n a) hv (by omega)
    have hs : f_X7_write_L169 (nI a) (ps m v L) = some (.inl (nI (a + 1), ps m v' (L ++ [dgf (mA m 2) n a]))) := by
      unfold f_X7_write_L169
      rw [ps_I (by decide), hc, if_neg (fun h => by have := (cle2 (by omega) (by omega)).mp h; omega), if_pos ((vIn (by omega)).mpr (by show a < 1600; omega)), nI_clamp (show a < 2 ^ 31 by omega), ps_A (by decide), m_dgf (n := n) (k := a) (by omega), g1]
      simp only [Option.bind, lt]
      rw [nI_inc (by omega)]
    obtain ⟨v'', k1, k2⟩ := ih (a + 1) v' (L ++ [dgf (mA m 2) n a]) (by omega) g2 (by rw [len1]; omega)
    rw [← app1] at k1 k2
    exact ⟨v'', (Lp_l (F := fun z => f_X7_write_L169 z.1 z.2) (a := (nI a, ps m v L)) hs).trans k1, k2⟩
theorem wr_l151 : ∀ (r : Nat) (x : Int32) (v : Nat → Int32) (L : List Int32), x.toInt = -(r : Int) → PW v L → L.length + r ≤ 1600 → ∃ v', Lp (fun z => f_X7_write_L151 z.1 z.2) (x, ps m v L) = some (ps m v' (L ++ dl z48 0 r)) ∧ PW v' (L ++ dl z48 0 r) := by
  have one : (1 : Int32).toInt = 1 := by decide
  have sh : ∀ r a, dl z48 (a + 1) r = dl z48 a r := by
    intro r
    induction r with
    | zero => intro a; rfl
    | succ r ih => intro a; rw [dl, dl, ih]; rfl
  intro r
  induction r with
  | zero =>
    intro x v L hx hv hl
    rw [dl, List.append_nil]
    refine ⟨v, Lp_r ?_, hv⟩
    show f_X7_write_L151 x (ps m v L) = _
    unfold f_X7_write_L151
    rw [if_pos (by rw [ile, hx, k0]; omega)]
  | succ r ih =>
    intro x v L hx hv hl
    obtain ⟨v', g1, g2⟩ := put_o (m := m) (x := 48) hv (by omega)
    have hs : f_X7_write_L151 x (ps m v L) = some (.inl (x + 1, ps m v' (L ++ [48]))) := by
      unfold f_X7_write_L151
      rw [if_neg (by rw [ile, hx, k0]; omega), g1]
      rfl
    obtain ⟨v'', k1, k2⟩ := ih (x + 1) v' (L ++ [48]) (by rw [ia (by omega) (by omega), hx, one]; omega) g2 (by rw [len1]; omega)
    rw [← app1] at k1 k2
    rw [dl, sh]
    exact ⟨v'', (Lp_l (F := fun z => f_X7_write_L151 z.1 z.2) (a := (x, ps m v L)) hs).trans k1, k2⟩
/-- behind the point -/
theorem wr_l248t (hc : mI m 3 = nI n) (hn : n ≤ 1420) {p : Nat} (hp : mI m 4 = nI p) (hp2 : p ≤ 1500) : ∀ (r a : Nat) (v : Nat → Int32) (L : List Int32), a + r = n → p < a → PW v L → L.length + r ≤ 1600 → ∃ v', Lp (fun z => f_X7_write_L248 z.1 z.2) (nI a, ps m v L) = some (ps m v' (L ++ dl (dgf (mA m 2) n) a r)) ∧ PW v' (L ++ dl (dgf (mA m 2) n) a r) := by
  intro r
  induction r with
  | zero =>
    intro a v L ha hpa hv hl
    rw [dl, List.append_nil]
    refine ⟨v, Lp_r ?_, hv⟩
    show f_X7_write_L248 (nI a) (ps m v L) = _
    unfold f_X7_write_L248
    rw [ps_I (by decide), hc, if_pos ((cle2 (by omega) (by omega)).mpr (by omega))]
  | succ r ih =>
    intro a v L ha hpa hv hl
    obtain ⟨v', g1, g2⟩ := put_o (m := m) (x := dgf (mA m 2) n a) hv (by omega)
    have hs : f_X7_write_L248 (nI a) (ps m v L) = some (.inl (nI (a + 1), ps m v' (L ++ [dgf (mA m 2) n a]))) := by
      have hne : ¬ (nI a = nI p) := fun q => by rw [nI_inj (by omega) (by omega)] at q; omega
      unfold f_X7_write_L248 f_X7_write_J270
      rw [ps_I (by decide), hc, if_neg (fun h => by have := (cle2 (by omega) (by omega)).mp h; omega), ps_I (by decide), hp, if_neg hne, if_pos ((vIn (by omega)).mpr (by show a < 1600; omega)), nI_clamp (show a < 2 ^ 31 by omega), ps_A (by decide), m_dgf (n := n) (k := a) (by omega), g1]
      simp only [Option.bind, lt]
      rw [nI_inc (by omega)]
    obtain ⟨v'', k1, k2⟩ := ih (a + 1) v' (L ++ [dgf (mA m 2) n a]) (by omega) (by omega) g2 (by rw [len1]; omega)
    rw [← app1] at k1 k2
    exact ⟨v'', (Lp_l (F := fun z => f_X7_write_L248 z.1 z.2) (a := (nI a, ps m v L)) hs).trans k1, k2⟩
theorem wr_l248 (hc : mI m 3 = nI n) (hn : n ≤ 1420) {p : Nat} (hp : mI m 4 = nI p) (hp2 : p ≤ 1500) {v : Nat → Int32} {L : List Int32} (hv : PW v L) (hl : L.length + n + 2 ≤ 1600 + p ∧ L.length ≤ 1598) : ∃ v', Lp (fun z => f_X7_write_L248 z.1 z.2) (nI p, ps m v L) = some (ps m v' ((L ++ (if p < n then [46] else [])) ++ dl (dgf (mA m 2) n) p (n - p))) ∧ PW v' ((L ++ (if p < n then [46] else [])) ++ dl (dgf (mA m 2) n) p (n - p)) := by
  by_cases h : p < n
  · rw [if_pos h]
    obtain ⟨r, hr⟩ : ∃ r, n - p = r + 1 := ⟨n - p - 1, by omega⟩
    obtain ⟨v1, a1, b1⟩ := put_o (m := m) (x := 46) hv (by omega)
    obtain ⟨v2, a2, b2⟩ := put_o (m := m) (x := dgf (mA m 2) n p) b1 (by rw [len1]; omega)
    have hs : f_X7_write_L248 (nI p) (ps m v L) = some (.inl (nI (p + 1), ps m v2 ((L ++ [46]) ++ [dgf (mA m 2) n p]))) := by
      unfold f_X7_write_L248 f_X7_write_J270
      rw [ps_I (by decide), hc, if_neg (fun h => by have := (cle2 (by omega) (by omega)).mp h; omega), ps_I (by decide), hp, if_pos rfl, a1]
      simp only [Option.bind, lt]
      rw [if_pos ((vIn (by omega)).mpr (by show p < 1600; omega)), nI_clamp (show p < 2 ^ 31 by omega), ps_A (by decide), m_dgf (by omega), a2]
      simp only
      rw [nI_inc (by omega)]
    obtain ⟨v3, k1, k2⟩ := wr_l248t hc hn hp hp2 r (p + 1) v2 _ (by omega) (by omega) b2 (by rw [len1, len1]; omega)
    rw [← app1 (L := L ++ [46]) (x := dgf (mA m 2) n p)] at k1 k2
    rw [hr, dl]
    exact ⟨v3, (Lp_l (F := fun z => f_X7_write_L248 z.1 z.2) (a := (nI p, ps m v L)) hs).trans k1, k2⟩
  · rw [if_neg h, show n - p = 0 by omega, dl, List.append_nil, List.append_nil]
    refine ⟨v, Lp_r ?_, hv⟩
    show f_X7_write_L248 (nI p) (ps m v L) = _
    unfold f_X7_write_L248
    rw [ps_I (by decide), hc, if_pos ((cle2 (by omega) (by omega)).mpr (by omega))]
theorem wr_l73t (hc : mI m 3 = nI n) (hn : n ≤ 1420) : ∀ (r a : Nat) (v : Nat → Int32) (L : List Int32), a + r = n → 1 < a → PW v L → L.length + r ≤ 1600 → ∃ v', Lp (fun z => f_X7_write_L73 z.1 z.2) (nI a, ps m v L) = some (ps m v' (L ++ dl (dgf (mA m 2) n) a r)) ∧ PW v' (L ++ dl (dgf (mA m 2) n) a r) := by
  intro r
  induction r with
  | zero =>
    intro a v L ha hpa hv hl
    rw [dl, List.append_nil]
    refine ⟨v, Lp_r ?_, hv⟩
    show f_X7_write_L73 (nI a) (ps m v L) = _
    unfold f_X7_write_L73
    rw [ps_I (by decide), hc, if_pos ((cle2 (by omega) (by omega)).mpr (by omega))]
  | succ r ih =>
    intro a v L ha hpa hv hl
    obtain ⟨v', g1, g2⟩ := put_o (m := m) (x := dgf (mA m 2) n a) hv (by omega)
    have hs : f_X7_write_L73 (nI a) (ps m v L) = some (.inl (nI (a + 1), ps m v' (L ++ [dgf (mA m 2) n a]))) := by
      have hne : ¬ (nI a = 1) := fun q => by rw [show (1 : Int32) = nI 1 from rfl, nI_inj (by omega) (by omega)] at q; omega
      unfold f_X7_write_L73 f_X7_write_J92
      rw [ps_I (by decide), hc, if_neg (fun h => by have := (cle2 (by omega) (by omega)).mp h; omega), if_neg hne, if_pos ((vIn (by omega)).mpr (by show a < 1600; omega)), nI_clamp (show a < 2 ^ 31 by omega), ps_A (by decide), m_dgf (n := n) (k := a) (by omega), g1]
      simp only [Option.bind, lt]
      rw [nI_inc (by omega)]
    obtain ⟨v'', k1, k2⟩ := ih (a + 1) v' (L ++ [dgf (mA m 2) n a]) (by omega) (by omega) g2 (by rw [len1]; omega)
    rw [← app1] at k1 k2
    exact ⟨v'', (Lp_l (F := fun z => f_X7_write_L73 z.1 z.2) (a := (nI a, ps m v L)) hs).trans k1, k2⟩
theorem wr_l73 (hc : mI m 3 = nI n) (hn : n ≤ 1420) (hn1 : 1 ≤ n) {v : Nat → Int32} {L : List Int32} (hv : PW v L) (hl : L.length ≤ 10) : ∃ v', Lp (fun z => f_X7_write_L73 z.1 z.2) (1, ps m v L) = some (ps m v' ((L ++ (if 1 < n then [46] else [])) ++ dl (dgf (mA m 2) n) 1 (n - 1))) ∧ PW v' ((L ++ (if 1 < n then [46] else [])) ++ dl (dgf (mA m 2) n) 1 (n - 1)) := by
  by_cases h : 1 < n
  · rw [if_pos h]
    obtain ⟨r, hr⟩ : ∃ r, n - 1 = r + 1 := ⟨n - 2, by omega⟩
    obtain ⟨v1, a1, b1⟩ := put_o (m := m) (x := 46) hv (by omega)
    obtain ⟨v2, a2, b2⟩ := put_o (m := m) (x := dgf (mA m 2) n 1) b1 (by rw [len1]; omega)
    have hs : f_X7_write_L73 (nI 1) (ps m v L) = some (.inl (nI 2, ps m v2 ((L ++ [46]) ++ [dgf (mA m 2) n 1]))) := by
      unfold f_X7_write_L73 f_X7_write_J92
      rw [ps_I (by decide), hc, if_neg (fun h => by have := (cle2 (by omega) (by omega)).mp h; omega), if_pos (show nI 1 = 1 from rfl), a1]
      simp only [Option.bind, lt]
      rw [if_pos ((vIn (by omega)).mpr (by show 1 < 1600; omega)), nI_clamp (show 1 < 2 ^ 31 by omega), ps_A (by decide), m_dgf (by omega), a2]
      simp only
      rw [nI_inc (by omega)]
    obtain ⟨v3, k1, k2⟩ := wr_l73t hc hn r 2 v2 _ (by omega) (by omega) b2 (by rw [len1, len1]; omega)
    rw [← app1 (L := L ++ [46]) (x := dgf (mA m 2) n 1)] at k1 k2
    rw [hr, dl]
    exact ⟨v3, (Lp_l (F := fun z => f_X7_write_L73 z.1 z.2) (a := (nI 1, ps m v L)) hs).trans k1, k2⟩
  · rw [if_neg h, show n - 1 = 0 by omega, dl, List.append_nil, List.append_nil]
    refine ⟨v, Lp_r ?_, hv⟩
    show f_X7_write_L73 (nI 1) (ps m v L) = _
    unfold f_X7_write_L73
    rw [ps_I (by decide), hc, if_pos ((cle2 (by omega) (by omega)).mpr (by omega))]
theorem wr53 {p : Int} (hc : mI m 3 = nI n) (hn : n ≤ 1420) (hn1 : 1 ≤ n) (hp : (mI m 4).toInt = p) (hp1 : p ≤ 400) (hp2 : p < 1 → -p + n ≤ 1490) {pl : Bool} {v : Nat → Int32} {L : List Int32} (hv : PW v L) (hl : L.length ≤ 1) : ∃ v' M, f_X7_write_J53 (nb pl) (ps m v L) = some (nI M.length, ps m v' M) ∧ PW v' M ∧ M = L ++ (if pl then pln (dgf (mA m 2) n) n p else sci (dgf (mA m 2) n) n p) := by
  have one : (1 : Int32).toInt = 1 := by decide
  unfold f_X7_write_J53
  cases pl
  · rw [if_pos (show nb false = 0 from rfl), if_pos (show vI 0 (mLen 2) from ⟨by decide, by decide⟩), show (0 : Int32).toNatClampNeg = 0 from rfl, ps_A (by decide), m_dgf (show 0 < n by omega)]
    obtain ⟨v1, a1, b1⟩ := put_o (m := m) (x := dgf (mA m 2) n 0) hv (by omega)
    rw [a1]; simp only [Option.bind]
    obtain ⟨v2, a2, b2⟩ := wr_l73 hc hn hn1 b1 (by rw [len1]; omega)
    rw [a2]; simp only
    have hlen : ((L ++ [dgf (mA m 2) n 0]) ++ (if 1 < n then [46] else [])).length ≤ 3 := by rw [List.length_append, len1]; split <;> simp <;> omega
    obtain ⟨v3, a3, b3⟩ := put_o (m := m) (x := 101) b2 (by rw [List.length_append, dl_len]; omega)
    rw [a3]; simp only
    have hpp : (mI m 4 - 1).toInt = p - 1 := by rw [is_ (by rw [hp, one]; omega) (by rw [hp, one]; omega), hp, one]
    obtain ⟨v4, a4, b4⟩ := putNumber_o (m := m) hpp (by omega) b3 (by rw [len1, List.length_append, dl_len]; omega)
    rw [ps_I (by decide), a4]; simp only
    rw [ps_I2]
    refine ⟨v4, _, rfl, b4, ?_⟩
    simp only [Bool.false_eq_true, if_false]
    unfold sci
    simp [List.append_assoc]
  · rw [if_neg (show ¬ nb true = 0 by decide), ps_I (by decide)]
    simp only [if_true]
    unfold pln
    by_cases h : p < 1
    · rw [if_neg (by rw [ile, hp, one]; omega), if_pos h]
      have w24 : sxN 24 = 2 := words.2.2.2.2.2.2.2.1
      obtain ⟨v1, a1, b1⟩ := putWord_o (m := m) (j := 24) (by rw [w24]; decide) hv (by rw [w24]; omega)
      rw [a1]; simp only [Option.bind, lt]
      obtain ⟨v2, a2, b2⟩ := wr_l151 (m := m) (-p).toNat (mI m 4) v1 _ (by rw [hp]; omega) b1 (by rw [List.length_append, dl_len, w24]; omega)
      rw [ps_I (by decide), a2]; simp only
      obtain ⟨v3, a3, b3⟩ := wr_l169 hc hn n 0 v2 _ (by omega) b2 (by rw [List.length_append, List.length_append, dl_len, dl_len, w24]; omega)
      rw [show ((0 : Int32), ps m v2 (L ++ dl (sxW 24) 0 (sxN 24) ++ dl z48 0 (-p).toNat)) = (nI 0, ps m v2 (L ++ dl (sxW 24) 0 (sxN 24) ++ dl z48 0 (-p).toNat)) from rfl, a3]; simp only
      rw [ps_I2]
      refine ⟨v3, _, rfl, b3, ?_⟩
      rw [words2.2.2.1]
      simp [List.append_assoc]
    · rw [if_pos (by rw [ile, hp, one]; omega), if_neg h]
      obtain ⟨q, hq⟩ : ∃ q : Nat, p = q := ⟨p.toNat, by omega⟩
      have hpq : mI m 4 = nI q := nIeq (by rw [hp, hq]) (by omega)
      obtain ⟨v1, a1, b1⟩ := wr_l203 hc hn hpq (by omega) q 0 v L (by omega) hv (by omega)
      rw [show ((0 : Int32), ps m v L) = (nI 0, ps m v L) from rfl, a1]; simp only [Option.bind, lt]
      rw [ps_I (by decide), hpq]
      obtain ⟨v2, a2, b2⟩ := wr_l248 hc hn hpq (by omega) b1 (by rw [List.length_append, dl_len]; omega)
      rw [a2]; simp only
      rw [ps_I2]
      refine ⟨v2, _, rfl, b2, ?_⟩
      rw [show p.toNat = q by omega]
      have : (p < (n : Int)) = (q < n) := by rw [hq]; simp only [eq_iff_iff]; omega
      simp only [this]
      simp [List.append_assoc]
theorem write_o {p : Int} (hc : mI m 3 = nI n) (hn : n ≤ 1420) (hn1 : 1 ≤ n) (hp : (mI m 4).toInt = p) (hp1 : p ≤ 400) (hp2 : p < 1 → -p + n ≤ 1490) {form : Nat} (hf : form < 3) {neg : Bool} (hm : mI m 5 = nb neg) : ∃ v' M, f_X7_write (Int32.ofNat form) m = some (nI M.length, ps m v' M) ∧ PW v' M ∧ M = (if neg then [45] else []) ++ txt form (dgf (mA m 2) n) n p := by
  have one : (1 : Int32).toInt = 1 := by decide
  have hpp : (mI m 4 - 1).toInt = p - 1 := by rw [is_ (by rw [hp, one]; omega) (by rw [hp, one]; omega), hp, one]
  have j19 : ∀ (v : Nat → Int32) (L : List Int32), PW v L → L.length ≤ 1 → ∃ v' M, f_X7_write_J19 (Int32.ofNat form) (ps m v L) = some (nI M.length, ps m v' M) ∧ PW v' M ∧ M = L ++ txt form (dgf (mA m 2) n) n p := by
    intro v L hv hl
    have key : f_X7_write_J19 (Int32.ofNat form) (ps m v L) = f_X7_write_J53 (nb (isPl form p)) (ps m v L) := by
      have hin := in_i (x := mI m 4 - 1) (a := -6) (b := 20)
      rw [show (-6 : Int64).toInt = -6 by decide, show (20 : Int64).toInt = 20 by decide, hpp] at hin
      unfold f_X7_write_J19
      rw [ps_I (by decide), hin]
      have hf' : form = 0 ∨ form = 1 ∨ form = 2 := by omega
      rcases hf' with rfl | rfl | rfl
      · rw [if_neg (by decide), if_neg (by decide)]; rfl
      · rw [if_pos (show Int32.ofNat 1 = 1 from rfl)]; rfl
      · rw [if_neg (show ¬ Int32.ofNat 2 = 1 by decide), if_pos (show Int32.ofNat 2 = 2 from rfl)]
        unfold isPl
        by_cases hh : -6 ≤ p - 1 ∧ p - 1 ≤ 20
        · rw [if_pos hh, if_neg n10]
          have : decide (2 = 1 ∨ 2 = 2 ∧ -5 ≤ p ∧ p ≤ 21) = true := by simp; omega
          rw [this]; rfl
        · rw [if_neg hh, if_pos rfl]
          have : decide (2 = 1 ∨ 2 = 2 ∧ -5 ≤ p ∧ p ≤ 21) = false := by simp; omega
          rw [this]; rfl
    rw [key]
    obtain ⟨v', M, g1, g2, g3⟩ := wr53 (m := m) (pl := isPl form p) hc hn hn1 hp hp1 hp2 hv hl
    exact ⟨v', M, g1, g2, g3⟩
  unfold f_X7_write
  simp only [lt]
  rw [mI_smI_ne (by decide), hm, ps_nil]
  cases neg
  · rw [if_neg (show ¬ nb false = 1 by decide)]
    obtain ⟨v', M, g1, g2, g3⟩ := j19 (mA m 1) [] (pw_nil _) (by simp)
    exact ⟨v', M, g1, g2, by rw [g3]; simp⟩
  · rw [if_pos (show nb true = 1 from rfl)]
    obtain ⟨v1, a1, b1⟩ := put_o (m := m) (x := 45) (pw_nil (mA m 1)) (by simp)
    rw [a1]; simp only [Option.bind]
    obtain ⟨v', M, g1, g2, g3⟩ := j19 v1 ([] ++ [45]) b1 (by simp)
    exact ⟨v', M, g1, g2, by rw [g3]; simp⟩
end OutM
