/-! the reference finds the shortest -/
theorem Sp.fr {m m' : MS} {A n z : Nat} {P : Int} (h : Sp m A n z P) (hF : Fr [2, 3, 4, 5, 7] [3, 4, 10, 11] [2] m m') : Sp m' A n z P := by
  obtain ⟨s1, s2, s3, s4, s5, s6, s7⟩ := h
  exact ⟨s1, s2, s3, s4, by rw [hF.2.1 8 (by decide)]; exact s5, by rw [hF.2.1 9 (by decide)]; exact s6, fun i hi => by rw [hF.1 6 (by decide)]; exact s7 i hi⟩
theorem rb_copy {m : MS} {j : Nat} (hj : mI m 3 = nI j) (hj2 : j ≤ 1500) {x1 : Int32} {x2 : Int64} : ∃ b, Lp (fun a => f_X7_readsBack_L3 x1 x2 a.1 a.2) (0, m) = some b ∧ ∃ v, b = smA m 7 v ∧ ∀ i, i < j → v i = mA m 2 i := by
  refine Lp_inv (F := fun a => f_X7_readsBack_L3 x1 x2 a.1 a.2) (fun q a => ∃ (k : Nat) (v : Nat → Int32), a = (nI k, smA m 7 v) ∧ k + q = j ∧ ∀ i, i < k → v i = mA m 2 i) _ ?_ j (0, m) ⟨0, mA m 7, by rw [smA_self]; rfl, by omega, fun i hi => by omega⟩
  rintro q _ ⟨k, v, rfl, h1, h2⟩
  show (∃ b, f_X7_readsBack_L3 x1 x2 (nI k) (smA m 7 v) = _ ∧ _) ∨ ∃ a' n', f_X7_readsBack_L3 x1 x2 (nI k) (smA m 7 v) = _ ∧ _
  unfold f_X7_readsBack_L3
  rw [mI_smA, hj]
  by_cases hk : k = j
  · rw [if_pos ((cle2 (by omega) (by omega)).mpr (by omega))]
    exact .inl ⟨_, rfl, v, rfl, fun i hi => h2 i (by omega)⟩
  · rw [if_neg (fun h => by have := (cle2 (by omega) (by omega)).mp h; omega), if_pos ((vIn (by omega)).mpr (by show k < 1600; omega)), if_pos ((vIn (by omega)).mpr (by show k < 1600; omega)), nI_clamp (show k < 2 ^ 31 by omega)]
    simp only [lt, smA_same, smA_smA]
    rw [nI_inc (by omega), smA_ne (show (2 : Nat) ≠ 7 by decide)]
    refine .inr ⟨_, q - 1, rfl, by omega, k + 1, upd v k (mA m 2 k), rfl, by omega, fun i hi => ?_⟩
    by_cases hik : i = k
    · rw [hik, upd_eq]
    · rw [upd_ne hik]; exact h2 i (by omega)
/-- the first j digits of U -/
theorem nv_first {U j N : Nat} (hU : Dn U N) (h : N = j ∨ (N = j + 1 ∧ U = 10 ^ j)) (hj : 0 < j) : nv 10 (fun i => dgt U N i) j * 10 ^ (N - j) = U := by
  rcases h with h | ⟨h, h2⟩
  · subst h
    have e : nv 10 (fun i => dgt U N i) N = nv 10 (fun k => U / 10 ^ (N - 1 - k) % 10) N := nv_congr (fun k hk => dgt_lo hk)
    rw [e, nv_dig, Nat.mod_eq_of_lt hU.2.2, Nat.sub_self, Nat.pow_zero, Nat.mul_one]
  · subst h
    have e : nv 10 (fun i => dgt U (j + 1) i) j = nv 10 (fun k => U / 10 / 10 ^ (j - 1 - k) % 10) j := nv_congr (fun k hk => by
      show dgt U (j + 1) k = _
      rw [dgt_lo (by omega), Nat.div_div_eq_div_mul, show j + 1 - 1 - k = (j - 1 - k) + 1 by omega, Nat.pow_succ, Nat.mul_comm 10])
    rw [e, nv_dig, h2, show 10 ^ j / 10 = 10 ^ (j - 1) by rw [show j = (j - 1) + 1 by omega, Nat.pow_succ, Nat.mul_div_cancel _ (by decide), Nat.add_sub_cancel], Nat.mod_eq_of_lt (Nat.pow_lt_pow_right (by decide) (by omega)), ← Nat.pow_add]
    congr 1; omega
theorem rb_spec {m : MS} {f s U j N N' : Nat} (hf : f < 4) (hs0 : 0 < s) (hs : s < inf f) (hj : mI m 3 = nI j) (hj0 : 0 < j) (hj2 : j ≤ 1400) (hU : Dn U N') (hN' : N' = j ∨ (N' = j + 1 ∧ U = 10 ^ j)) (hP : (mI m 4).toInt = (N : Int) - 1080 + ((N' : Int) - j)) (hd : ∀ i, i < j → (mA m 2 i).toInt = ((dgt U N' i : Nat) : Int)) (hjN : j ≤ N) (hN2 : N ≤ 1400) : ∃ m' b, f_X7_readsBack (Int32.ofNat f) (L64 s) m = some (nb b, m') ∧ Fr [3, 4, 5, 7] [10, 11] [2] m m' ∧ (b = true ↔ LoOk (U * 10 ^ (N - j)) GG (wh f s) (un f s) (nrb f s) ∧ HiOk (U * 10 ^ (N - j)) GG (wh f s) (un f s)) := by
  obtain ⟨_, g1, v, rfl, g2⟩ := rb_copy (x1 := Int32.ofNat f) (x2 := L64 s) hj (by omega)
  have hE : (mI (smI (smA m 7 v) 10 (mI (smA m 7 v) 3)) 4 - mI (smI (smA m 7 v) 10 (mI (smA m 7 v) 3)) 3).toInt = (N : Int) - 1080 + ((N' : Int) - j) - j := by
    rw [mI_smI_ne (by decide), mI_smI_ne (by decide), mI_smA, mI_smA, hj]
    have e1 : (nI j).toInt = j := nI_toInt (by omega)
    rw [is_ (by omega) (by omega), hP, e1]
  have hnv := nv_first hU hN' hj0
  have hU0 : 0 < U := Nat.pos_of_ne_zero (dn_pos hU)
  obtain ⟨m', r, j1, j2, j3⟩ := rdec_spec (neg := false) (way := 0) (m := smI (smA m 7 v) 10 (mI (smA m 7 v) 3)) (R := j) (d := fun i => dgt U N' i) hf (by decide) (by rw [mI_smI]; exact hj) (by omega) (fun k hk => by rw [mA_smI, smA_same, g2 k hk]; exact ⟨hd k hk, dgt_lt _ _ _⟩) hE (by omega) (by omega)
  generalize hEE : (N : Int) - 1080 + ((N' : Int) - j) - j = E at *
  have hD0 : nv 10 (fun i => dgt U N' i) j ≠ 0 := fun q => by rw [q, Nat.zero_mul] at hnv; omega
  have hRT := (j3.resolve_left (fun q => hD0 q.1)).2
  have hRT2 : RT f false 0 (U * 10 ^ (N - j)) GG r := by
    refine hRT.scale ?_ (tp_pos _) GG_pos
    generalize nv 10 (fun i => dgt U N' i) j = D at hnv ⊢
    rw [← hnv, GG_eq]
    unfold tp
    rw [Nat.mul_assoc, Nat.mul_assoc, Nat.mul_assoc, ← Nat.pow_add, ← Nat.pow_add, ← Nat.pow_add]
    congr 2
    rcases hN' with q | ⟨q, -⟩ <;> omega
  have hit := rt_near hf hs0 hs (Nat.mul_pos hU0 (Nat.pow_pos (by decide))) GG_pos hRT2
  have hrl := hRT2.lt
  have hib := inf_b2 f hf
  refine ⟨m', decide (r.1 = s), ?_, ?_, ?_⟩
  · unfold f_X7_readsBack
    rw [g1]; simp only [Option.bind, lt]
    have j1' : f_X7_roundDecimal (Int32.ofNat f) 0 (mI (smI (smA m 7 v) 10 (mI (smA m 7 v) 3)) 4 - mI (smI (smA m 7 v) 10 (mI (smA m 7 v) 3)) 3) 0 (smI (smA m 7 v) 10 (mI (smA m 7 v) 3)) = some m' := j1
    rw [j1']; simp only
    have e1 : mJ m' 2 = L64 r.1 := by rw [j2.2.1]; rfl
    rw [e1]
    have e2 : (L64 r.1 = L64 s) = (r.1 = s) := by
      rw [leq, L64_i (by omega), L64_i (by omega)]; simp only [eq_iff_iff]; omega
    simp only [e2]
    by_cases hr : r.1 = s
    · rw [if_pos hr, decide_eq_true hr]; rfl
    · rw [if_neg hr, decide_eq_false hr]; rfl
  · exact (Fr.sA (by decide)).trans ((Fr.sI (by decide)).trans (j2.1.mono (by decide) (by decide) (by decide)))
  · rw [decide_eq_true_iff]; exact hit
/-- all that both know of a number while its shortest is sought -/
def SH (f s V VL VH N : Nat) : Prop := 0 < s ∧ s < inf f ∧ Dn V N ∧ 755 ≤ N ∧ N ≤ 1389 ∧ VLo VL (wh f s) (un f s) (nrb f s) ∧ VH * p2 (-(un f s - 1)) = (2 * wh f s + 1) * GG * p2 (un f s - 1) ∧ VL < V ∧ V < VH ∧ ∃ M, M ≤ 36028797018963968 ∧ 0 < M ∧ M * VL + V = M * V
def evn (f s : Nat) : Bool := decide (wh f s % 2 = 0)
theorem lR_iff {f s V VL VH N k : Nat} (h : SH f s V VL VH N) : (lR V VL (evn f s) k = true) ↔ (LoOk (V / 10 ^ k * 10 ^ k) GG (wh f s) (un f s) (nrb f s) ∧ HiOk (V / 10 ^ k * 10 ^ k) GG (wh f s) (un f s)) := by
  obtain ⟨h1, h2, h3, h4, h5, h6, h7, h8, h9, -⟩ := h
  rw [lo_iff h6, hi_iff h7]
  have hle : V / 10 ^ k * 10 ^ k ≤ V := Nat.div_mul_le_self _ _
  unfold lR evn
  rw [Bool.or_eq_true, Bool.and_eq_true, decide_eq_true_iff, decide_eq_true_iff, decide_eq_true_iff]
  constructor
  · intro q; exact ⟨q, .inl (by omega)⟩
  · intro q; exact q.1
theorem gR_iff {f s V VL VH N k : Nat} (h : SH f s V VL VH N) : (gR V VH (evn f s) k = true) ↔ (LoOk ((V / 10 ^ k + 1) * 10 ^ k) GG (wh f s) (un f s) (nrb f s) ∧ HiOk ((V / 10 ^ k + 1) * 10 ^ k) GG (wh f s) (un f s)) := by
  obtain ⟨h1, h2, h3, h4, h5, h6, h7, h8, h9, -⟩ := h
  rw [lo_iff h6, hi_iff h7]
  have hlt : V < (V / 10 ^ k + 1) * 10 ^ k := by
    have hp : 0 < 10 ^ k := Nat.pow_pos (by decide)
    have a1 := Nat.div_add_mod V (10 ^ k)
    have a2 := Nat.mod_lt V hp
    rw [Nat.mul_comm] at a1
    rw [Nat.add_mul, Nat.one_mul]; omega
  unfold gR evn
  rw [Bool.or_eq_true, Bool.and_eq_true, decide_eq_true_iff, decide_eq_true_iff, decide_eq_true_iff]
  constructor
  · intro q; exact ⟨.inl (by omega), q⟩
  · intro q; exact q.2
def fnd (f s V VL VH N i : Nat) : Bool := lR V VL (evn f s) (N - i) || gR V VH (evn f s) (N - i)
theorem bool_iff {a b : Bool} {P : Prop} (h1 : a = true ↔ P) (h2 : b = true ↔ P) : a = b := by
  rw [Bool.eq_iff_iff]; exact h1.trans h2.symm
/-- a try of the reference at j digits -/
theorem try_spec {m : MS} {f s V VL VH N Z A n z j : Nat} {P : Int} (hf : f < 4) (h : SH f s V VL VH N) (hS : Sp m A n z P) (hP : (N : Int) - 1080 = P) (hT : ∀ j, j ≤ N → V / 10 ^ (N - j) = Tj A n j) (hj0 : 0 < j) (hj : j ≤ 700) (up : Bool) : ∃ m' m'' b, f_X7_takeDigits (nI j) (nb up) m = some m' ∧ f_X7_readsBack (Int32.ofNat f) (L64 s) m' = some (nb b, m'') ∧ Fr [2, 3, 4, 5, 7] [3, 4, 10, 11] [2] m m'' ∧ b = (if up then gR V VH (evn f s) (N - j) else lR V VL (evn f s) (N - j)) := by
  have h' := h
  obtain ⟨h1, h2, h3, h4, h5, h6, h7, h8, h9, -⟩ := h'
  obtain ⟨m', N', t1, t2, t3, t4, t5, t6, t7⟩ := takeDigits_spec (m := m) (j := j) (up := up) hS hj0 (by omega) (by omega)
  obtain ⟨m'', b, r1, r2, r3⟩ := rb_spec (m := m') (U := Tj A n j + ubi up) (N := N) (N' := N') hf h1 h2 t5 hj0 (by omega) t3 t4 (by rw [t6]; omega) t7 (by omega) (by omega)
  rw [← hT j (by omega)] at r3
  refine ⟨m', m'', b, t1, r1, (t2.mono (by decide) (by decide) (by decide)).trans (r2.mono (by decide) (by decide) (by decide)), ?_⟩
  cases up
  · exact bool_iff r3 (lR_iff h)
  · exact bool_iff r3 (gR_iff h)
theorem mfs_loop {m : MS} {f s V VL VH N Z A n z i0 : Nat} {P : Int} (hf : f < 4) (h : SH f s V VL VH N) (hS : Sp m A n z P) (hP : (N : Int) - 1080 = P) (hT : ∀ j, j ≤ N → V / 10 ^ (N - j) = Tj A n j) (hi0 : 1 ≤ i0) (hi1 : i0 ≤ 19) (hi2 : i0 ≤ n - z) (hfo : fnd f s V VL VH N i0 = true) (hno : ∀ j, 1 ≤ j → j < i0 → fnd f s V VL VH N j = false) (hlast : i0 = n - z → lR V VL (evn f s) (N - i0) = true) : ∃ m', Lp (fun a => f_X7_findShortest_L13 (Int32.ofNat f) (L64 s) a.1 a.2) (1, m) = some (.inl (nI i0, nb (lR V VL (evn f s) (N - i0)), nb (decide (i0 < n - z) && gR V VH (evn f s) (N - i0)), m')) ∧ Fr [2, 3, 4, 5, 7] [3, 4, 10, 11] [2] m m' := by
  obtain ⟨b, g1, m', rfl, g2⟩ := Lp_inv (F := fun a => f_X7_findShortest_L13 (Int32.ofNat f) (L64 s) a.1 a.2) (fun q a => ∃ (i : Nat) (m' : MS), a = (nI i, m') ∧ i + q = i0 ∧ 1 ≤ i ∧ Fr [2, 3, 4, 5, 7] [3, 4, 10, 11] [2] m m') (fun b => ∃ m', b = .inl (nI i0, nb (lR V VL (evn f s) (N - i0)), nb (decide (i0 < n - z) && gR V VH (evn f s) (N - i0)), m') ∧ Fr [2, 3, 4, 5, 7] [3, 4, 10, 11] [2] m m') (by
    rintro q _ ⟨i, mi, rfl, a1, a2, a3⟩
    show (∃ b, f_X7_findShortest_L13 (Int32.ofNat f) (L64 s) (nI i) mi = _ ∧ _) ∨ ∃ a' n', f_X7_findShortest_L13 (Int32.ofNat f) (L64 s) (nI i) mi = _ ∧ _
    have hSi := hS.fr a3
    have hn15 := hS.2.2.2.1
    obtain ⟨ma, mb, b1, t1, t2, t3, t4⟩ := try_spec (m := mi) (Z := Z) hf h hSi hP hT (show 0 < i by omega) (by omega) false
    simp only [Bool.false_eq_true, if_false] at t4
    have hSb := hSi.fr t3
    have h8i := hSi.2.2.2.2.1
    have h8b := hSb.2.2.2.2.1
    unfold f_X7_findShortest_L13
    have t1' : f_X7_takeDigits (nI i) 0 mi = some ma := t1
    rw [h8i, if_neg (fun x => by have := (clt2 (by omega) (by omega)).mp x; omega), t1']
    simp only [Option.bind]
    rw [t2]
    simp only
    rw [h8b]
    have fin : ∀ (lb gb : Bool) (mm : MS), Fr [2, 3, 4, 5, 7] [3, 4, 10, 11] [2] m mm → lb = lR V VL (evn f s) (N - i) → gb = (decide (i < n - z) && gR V VH (evn f s) (N - i)) → (∃ b, f_X7_findShortest_J64 (Int32.ofNat f) (L64 s) (nI i) (nb lb) (nb gb) mm = some (.inr b) ∧ ∃ m', b = .inl (nI i0, nb (lR V VL (evn f s) (N - i0)), nb (decide (i0 < n - z) && gR V VH (evn f s) (N - i0)), m') ∧ Fr [2, 3, 4, 5, 7] [3, 4, 10, 11] [2] m m') ∨ ∃ a' n', f_X7_findShortest_J64 (Int32.ofNat f) (L64 s) (nI i) (nb lb) (nb gb) mm = some (.inl a') ∧ n' < q ∧ ∃ i m', a' = (nI i, m') ∧ i + n' = i0 ∧ 1 ≤ i ∧ Fr [2, 3, 4, 5, 7] [3, 4, 10, 11] [2] m m' := by
      intro lb gb mm hF hlb hgb
      unfold f_X7_findShortest_J64
      by_cases hii : i = i0
      · subst hii
        left
        unfold fnd at hfo
        cases lb
        · rw [if_pos (show nb false = 0 from rfl)]
          have hlt : i < n - z := by
            rcases Nat.lt_or_ge i (n - z) with x | x
            · exact x
            · have := hlast (by omega); rw [← hlb] at this; cases this
          rw [← hlb, Bool.false_or] at hfo
          rw [decide_eq_true hlt, hfo] at hgb
          subst hgb
          rw [if_neg (show ¬ nb (true && true) = 0 by decide)]
          exact ⟨_, rfl, mm, by rw [← hlb, decide_eq_true hlt, hfo], hF⟩
        · rw [if_neg (show ¬ nb true = 0 by decide)]
          exact ⟨_, rfl, mm, by rw [← hlb, hgb], hF⟩
      · right
        have hn := hno i a2 (by omega)
        unfold fnd at hn
        rw [Bool.or_eq_false_iff] at hn
        rw [hn.1] at hlb
        rw [hn.2, Bool.and_false] at hgb
        subst hlb hgb
        rw [if_pos (show nb false = 0 from rfl), if_pos (show nb false = 0 from rfl)]
        simp only [lt]
        rw [nI_inc (by omega)]
        exact ⟨_, q - 1, rfl, by omega, i + 1, mm, rfl, by omega, by omega, hF⟩
    by_cases hm : n - z ≤ i
    · rw [if_pos ((cle2 (by omega) (by omega)).mpr hm)]
      exact fin b1 false mb (a3.trans t3) t4 (by rw [decide_eq_false (by omega)]; rfl)
    · rw [if_neg (fun x => hm ((cle2 (by omega) (by omega)).mp x))]
      obtain ⟨mc, md, b2, u1, u2, u3, u4⟩ := try_spec (m := mb) (Z := Z) hf h hSb hP hT (show 0 < i by omega) (by omega) true
      simp only [if_true] at u4
      have u1' : f_X7_takeDigits (nI i) 1 mb = some mc := u1
      rw [u1']
      simp only
      rw [u2]
      simp only
      exact fin b1 b2 md ((a3.trans t3).trans u3) t4 (by rw [decide_eq_true (by omega), Bool.true_and]; exact u4)) (i0 - 1) (1, m) ⟨1, m, rfl, by omega, by decide, Fr.refl m⟩
  exact ⟨m', g1, g2⟩
