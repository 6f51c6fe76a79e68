/-! exponents and signs -/
def sg (t : Nat → Int32) (i : Nat) : Nat := if t i = 43 ∨ t i = 45 then 1 else 0
theorem c_sign {c : CS} {m : MS} {t : Nat → Int32} {n i : Nat} (hT : Tx c m t n) (hi : i < 100000) {S : Int32 × Int32 × Int32 × Int32 × Int32 × Int32 × Int32 × Int32} : f_X5_behindSign 0 (nI i) (scs c S) = nI (i + sg t i) := by
  have hat : f_X0_at 0 (nI i) c = t i := hT.atc (nI_toInt (by omega))
  unfold f_X5_behindSign sg
  simp only [lt]
  rw [scs_at, hat]
  by_cases h1 : t i = 43
  · rw [if_pos h1, if_pos (.inl h1), nI_inc (by omega)]
  · rw [if_neg h1]
    by_cases h2 : t i = 45
    · rw [if_pos h2, if_pos (.inr h2), nI_inc (by omega)]
    · rw [if_neg h2, if_neg (by rintro (x | x) <;> contradiction)]; rfl
theorem m_sign {c : CS} {m m0 : MS} {t : Nat → Int32} {n i : Nat} (hT : Tx c m t n) (hA : mA m0 0 = mA m 0) (h1 : mI m0 1 = mI m 1) (h12 : mI m0 12 = nI i) (hi : i < 100000) : f_X7_takeSign m0 = some (nb (decide (t i = 45)), smI m0 12 (nI (i + sg t i))) := by
  have hpk := hT.pk hA h1 h12 hi
  unfold f_X7_takeSign f_X7_takeSign_J27 sg
  rw [hpk]; simp only [Option.bind, lt]
  rw [h12]
  have z0 : nI i + 0 = nI i := by
    have z0 : (0 : Int32).toInt = 0 := by decide
    rw [ieq, ia (by rw [nI_toInt (by omega), z0]; omega) (by rw [nI_toInt (by omega), z0]; omega), z0]; omega
  by_cases h2 : t i = 43
  · have h3 : ¬ t i = 45 := fun x => by rw [h2] at x; cases x
    rw [if_pos h2, if_neg h3, if_pos (.inl h2), decide_eq_false h3, nI_inc (by omega)]; rfl
  · rw [if_neg h2]
    by_cases h3 : t i = 45
    · rw [if_pos h3, if_pos h3, if_pos (.inr h3), decide_eq_true h3, nI_inc (by omega)]; rfl
    · rw [if_neg h3, if_neg h3, if_neg (by rintro (x | x) <;> contradiction), decide_eq_false h3, z0]; rfl
/-- the class's exponent -/
theorem cex {c : CS} {m : MS} {t : Nat → Int32} {n p : Nat} (hT : Tx c m t n) (hp : p ≤ n) {a0 a1 a2 a3 a4 a5 a6 a7 : Int32} {to ec er : Nat} (hs : esc t (n - (p + sg t p)) (p + sg t p) 0 0 = (to, ec, er)) (hps : p + sg t p ≤ n) : ∃ xe : Int32, f_X5_faultOfExponent 0 (nI p) (scs c (a0, a1, a2, a3, a4, a5, a6, a7)) = some (if p + sg t p < to ∧ to = n then -1 else nI to, scs c (a0, a1, a2, a3, a4, a5, xe, a7)) ∧ xe.toInt = (if t p = 45 then -(ec : Int) else ec) := by
  have hT' := hT
  obtain ⟨g1, g2, g3, g4, g5, g6⟩ := hT'
  have hcs := c_sign (S := (a0, a1, a2, a3, a4, a5, a6, a7)) hT (show p < 100000 by omega)
  have e6 : (1000000 : Int32).toInt = 1000000 := by decide
  have e9 : (9 : Int32).toInt = 9 := by decide
  have e10 : (10 : Int32).toInt = 10 := by decide
  have hE0 : Ecr 0 0 := ⟨rfl, by decide⟩
  have hp1 := esc_p (t := t) (n - (p + sg t p)) (p + sg t p) 0 0 hE0
  rw [hs] at hp1
  obtain ⟨hp2, hp3, hp4⟩ := hp1
  change Ecr ec er at hp2
  change _ ≤ to at hp3
  change to ≤ _ at hp4
  have hecb : ec ≤ 1000000 := by have := hp2.1; split at this <;> omega
  generalize hfr : p + sg t p = fr at *
  obtain ⟨_, k1, hz⟩ := Lp_inv (F := fun a => f_X5_faultOfExponent_L12 0 (nI p) (nI fr) a.1 a.2 (scs c (a0, a1, a2, a3, a4, a5, a6, a7))) (fun q a => ∃ (i e r' : Nat), a = (nI e, nI i) ∧ i + q = n ∧ e ≤ 1000000 ∧ esc t q i e r' = (to, ec, er)) (fun z => z = .inr (nI ec, nI to) ∨ z = .inl (nI ec, nI to)) (by
    rintro q _ ⟨i, e, r', rfl, a1', a2', a3'⟩
    show (∃ z, f_X5_faultOfExponent_L12 0 (nI p) (nI fr) (nI e) (nI i) (scs c (a0, a1, a2, a3, a4, a5, a6, a7)) = _ ∧ _) ∨ ∃ a' n', f_X5_faultOfExponent_L12 0 (nI p) (nI fr) (nI e) (nI i) (scs c (a0, a1, a2, a3, a4, a5, a6, a7)) = _ ∧ _
    unfold f_X5_faultOfExponent_L12
    rw [scs_N, g2]
    by_cases hi : n ≤ i
    · rw [if_pos ((cle2 (by omega) (by omega)).mpr hi)]
      rw [show q = 0 by omega, esc] at a3'
      simp only [Prod.mk.injEq] at a3'
      obtain ⟨rfl, rfl, rfl⟩ := a3'
      exact .inl ⟨_, rfl, .inl rfl⟩
    · rw [if_neg (fun x => hi ((cle2 (by omega) (by omega)).mp x))]
      obtain ⟨q', rfl⟩ : ∃ q', q = q' + 1 := ⟨q - 1, by omega⟩
      have hat : f_X0_at 0 (nI i) c = t i := hT.atc (nI_toInt (by omega))
      obtain ⟨v1, v2, v3⟩ := vd_p (g6 i).1 (g6 i).2
      simp only [lt]
      rw [scs_at, hat]
      rw [esc] at a3'
      by_cases hv : vd (t i) < 10
      · rw [if_pos hv] at a3'
        have hval : (f_X5_valueOf (t i)).toInt = (vd (t i) : Int) := by
          rcases v2 with ⟨-, x, -⟩ | ⟨x, -⟩
          · exact x
          · omega
        rw [if_neg (by rw [ilt, hval, k0]; omega), if_pos (by rw [ile, hval, e9]; omega)]
        have hsum : (nI e * 10 + f_X5_valueOf (t i)).toInt = ((e * 10 + vd (t i) : Nat) : Int) := by
          have e1 : (nI e).toInt = e := nI_toInt (by omega)
          have e2 : (nI e * 10).toInt = (e : Int) * 10 := by rw [im (by rw [e1, e10]; omega) (by rw [e1, e10]; omega), e1, e10]
          rw [ia (by omega) (by omega), e2, hval]; omega
        have hmin : f_JM_min (nI e * 10 + f_X5_valueOf (t i)) 1000000 = nI (if e * 10 + vd (t i) < 1000000 then e * 10 + vd (t i) else 1000000) := by
          refine nIeq ?_ (by split <;> omega)
          rw [min_i, hsum, e6]
          split <;> split <;> omega
        rw [hmin, nI_inc (by omega)]
        exact .inr ⟨_, q', rfl, by omega, i + 1, _, _, rfl, by omega, by split <;> omega, a3'⟩
      · rw [if_neg hv] at a3'
        simp only [Prod.mk.injEq] at a3'
        obtain ⟨rfl, rfl, rfl⟩ := a3'
        left
        rcases v2 with ⟨x0, x, -⟩ | ⟨-, x⟩
        · rw [if_neg (by rw [ilt, x, k0]; omega), if_neg (by rw [ile, x, e9]; omega)]
          exact ⟨_, rfl, .inr rfl⟩
        · rw [if_pos (by rw [ilt, x, k0]; omega)]
          exact ⟨_, rfl, .inl rfl⟩) (n - fr) (0, nI fr) ⟨fr, 0, 0, rfl, by omega, by decide, hs⟩
  have hat : f_X0_at 0 (nI p) c = t p := hT.atc (nI_toInt (by omega))
  have j87 : ∀ x : Int32, f_X5_faultOfExponent_J87 0 (nI fr) (nI to) x (scs c (a0, a1, a2, a3, a4, a5, a6, a7)) = some (if fr < to ∧ to = n then -1 else nI to, scs c (a0, a1, a2, a3, a4, a5, x, a7)) := by
    intro x
    unfold f_X5_faultOfExponent_J87
    simp only [lt]
    have e0 : ssc6 (scs c (a0, a1, a2, a3, a4, a5, a6, a7)) x = scs c (a0, a1, a2, a3, a4, a5, x, a7) := rfl
    rw [e0, scs_N, g2]
    by_cases h1 : to ≤ fr
    · rw [if_pos ((cle2 (by omega) (by omega)).mpr h1), if_neg (by omega)]
    · rw [if_neg (fun y => h1 ((cle2 (by omega) (by omega)).mp y))]
      by_cases h2 : to = n
      · rw [if_pos (by rw [h2]), if_pos ⟨by omega, h2⟩]
      · rw [if_neg (fun y => h2 (by rw [nI_inj (by omega) (by omega)] at y; exact y)), if_neg (fun y => h2 y.2)]
  have j68 : ∃ xe : Int32, f_X5_faultOfExponent_J68 0 (nI p) (nI fr) (nI ec) (nI to) (scs c (a0, a1, a2, a3, a4, a5, a6, a7)) = some (if fr < to ∧ to = n then -1 else nI to, scs c (a0, a1, a2, a3, a4, a5, xe, a7)) ∧ xe.toInt = (if t p = 45 then -(ec : Int) else ec) := by
    have he : (nI ec).toInt = ec := nI_toInt (by omega)
    unfold f_X5_faultOfExponent_J68
    rw [scs_at, hat]
    by_cases h45 : t p = 45
    · rw [if_pos h45, if_pos h45, j87]
      exact ⟨_, rfl, by rw [ineg (by omega), he]⟩
    · rw [if_neg h45, if_neg h45, j87]
      exact ⟨_, rfl, he⟩
  unfold f_X5_faultOfExponent
  simp only [lt]
  rw [hcs, k1]; simp only [Option.bind]
  rcases hz with rfl | rfl
  · exact j68
  · exact j68
/-- the reference's exponent, where there is its letter -/
theorem mex {c : CS} {m m0 : MS} {t : Nat → Int32} {n p : Nat} (hT : Tx c m t n) (hA : mA m0 0 = mA m 0) (h1 : mI m0 1 = mI m 1) (hp : p < n) (h12 : mI m0 12 = nI p) (h13 : mI m0 13 = -1) {x1 : Int32} (hx1 : f_X7_small (t p) = x1) {to ec er : Nat} (hs : esc t (n - (p + 1 + sg t (p + 1))) (p + 1 + sg t (p + 1)) 0 0 = (to, ec, er)) (hps : p + 1 + sg t (p + 1) ≤ n) : ∃ xe : Int32, f_X7_takeExponent x1 m0 = some (xe, smI (smI m0 12 (nI to)) 13 (if p + 1 + sg t (p + 1) < to ∧ to = n then -1 else nI to)) ∧ xe.toInt = (if t (p + 1) = 45 then -(er : Int) else er) := by
  have hT' := hT
  obtain ⟨g1, g2, g3, g4, g5, g6⟩ := hT'
  have hpk := hT.pk hA h1 h12 (by omega)
  have e48 : (48 : Int32).toInt = 48 := by decide
  have e57 : (57 : Int32).toInt = 57 := by decide
  have e10 : (10 : Int32).toInt = 10 := by decide
  have e7 : (10000000 : Int32).toInt = 10000000 := by decide
  have hE0 : Ecr 0 0 := ⟨rfl, by decide⟩
  have hp1 := esc_p (t := t) (n - (p + 1 + sg t (p + 1))) (p + 1 + sg t (p + 1)) 0 0 hE0
  rw [hs] at hp1
  obtain ⟨hp2, hp3, hp4⟩ := hp1
  change Ecr ec er at hp2
  change _ ≤ to at hp3
  change to ≤ _ at hp4
  have herb := hp2.2
  have hms := m_sign (m0 := smI m0 12 (nI (p + 1))) (i := p + 1) hT (by rw [mA_smI]; exact hA) (by rw [mI_smI_ne (by decide)]; exact h1) mI_smI (by omega)
  rw [smI_smI] at hms
  generalize hfr : p + 1 + sg t (p + 1) = fr at *
  obtain ⟨_, k1, rfl⟩ := Lp_inv (F := fun a => f_X7_takeExponent_L34 a.1 (nb (decide (t (p + 1) = 45))) (nI fr) a.2) (fun q a => ∃ (i e r' : Nat), a = (nI r', smI m0 12 (nI i)) ∧ i + q = n ∧ r' < 200000000 ∧ Ecr e r' ∧ esc t q i e r' = (to, ec, er)) (fun z => z = (nI er, smI m0 12 (nI to))) (by
    rintro q _ ⟨i, e, r', rfl, a1', a2', a4', a3'⟩
    show (∃ z, f_X7_takeExponent_L34 (nI r') (nb (decide (t (p + 1) = 45))) (nI fr) (smI m0 12 (nI i)) = _ ∧ _) ∨ ∃ a' n', f_X7_takeExponent_L34 (nI r') (nb (decide (t (p + 1) = 45))) (nI fr) (smI m0 12 (nI i)) = _ ∧ _
    have hpk' : f_X7_peek (smI m0 12 (nI i)) = some (t i) := hT.pk (by rw [mA_smI]; exact hA) (by rw [mI_smI_ne (by decide)]; exact h1) mI_smI (by omega)
    obtain ⟨v1, v2, v3⟩ := vd_p (g6 i).1 (g6 i).2
    unfold f_X7_takeExponent_L34
    rw [hpk']; simp only [Option.bind]
    by_cases hv : vd (t i) < 10
    · have hlt : i < n := by
        rcases Nat.lt_or_ge i n with x | x
        · exact x
        · exfalso
          rw [g5 i x] at hv
          have e99 : vd (-1) = 99 := by decide
          omega
      obtain ⟨q', rfl⟩ : ∃ q', q = q' + 1 := ⟨q - 1, by omega⟩
      rw [esc, if_pos hv] at a3'
      have hr := v3.mpr hv
      have htv : (t i).toInt = 48 + (vd (t i) : Int) := by
        rcases v2 with ⟨-, -, -, x⟩ | ⟨x, -⟩
        · exact x hv
        · omega
      rw [if_neg (by rw [ilt, e48]; omega), if_neg (by rw [ilt, e57]; omega)]
      have hr' : (nI r').toInt = r' := nI_toInt (by omega)
      have key : Ecr (if e * 10 + vd (t i) < 1000000 then e * 10 + vd (t i) else 1000000) (if r' < 10000000 then 10 * r' + vd (t i) else r') := by
        have := esc_p (t := fun _ => t i) 1 0 e r' a4'
        rw [esc] at this
        simp only [if_pos hv, esc] at this
        exact this.1
      have hstep : ∀ x : Int32, f_X7_takeExponent_J74 (nb (decide (t (p + 1) = 45))) (nI fr) x (smI m0 12 (nI i)) = some (.inl (x, smI m0 12 (nI (i + 1)))) := by
        intro x
        unfold f_X7_takeExponent_J74
        simp only [lt]
        rw [mI_smI, smI_smI, nI_inc (by omega)]
      right
      by_cases c7 : r' < 10000000
      · rw [if_neg (by rw [ile, hr', e7]; omega)]
        have hnew : 10 * nI r' + t i - 48 = nI (10 * r' + vd (t i)) := by
          have e1 : (10 * nI r').toInt = 10 * (r' : Int) := by rw [im (by rw [hr', e10]; omega) (by rw [hr', e10]; omega), hr', e10]
          have e2 : (10 * nI r' + t i).toInt = 10 * (r' : Int) + 48 + vd (t i) := by rw [ia (by omega) (by omega), e1, htv]; omega
          exact nIeq (by rw [is_ (by omega) (by omega), e2, e48]; omega) (by omega)
        rw [hnew, hstep]
        rw [if_pos c7] at a3' key
        exact ⟨_, q', rfl, by omega, i + 1, _, _, rfl, by omega, by omega, key, a3'⟩
      · rw [if_pos (by rw [ile, hr', e7]; omega), hstep]
        rw [if_neg c7] at a3' key
        exact ⟨_, q', rfl, by omega, i + 1, _, _, rfl, by omega, a2', key, a3'⟩
    · have hst : esc t q i e r' = (i, e, r') := by
        cases q with
        | zero => rw [esc]
        | succ q => rw [esc, if_neg hv]
      rw [hst] at a3'
      simp only [Prod.mk.injEq] at a3'
      obtain ⟨rfl, rfl, rfl⟩ := a3'
      left
      have hnr : ¬ (48 ≤ (t i).toInt ∧ (t i).toInt ≤ 57) := fun x => hv (v3.mp x)
      by_cases c1 : (t i).toInt < 48
      · rw [if_pos (by rw [ilt, e48]; exact c1)]
        exact ⟨_, rfl, rfl⟩
      · rw [if_neg (by rw [ilt, e48]; exact c1), if_pos (by rw [ilt, e57]; omega)]
        exact ⟨_, rfl, rfl⟩) (n - fr) (0, smI m0 12 (nI fr)) ⟨fr, 0, 0, rfl, by omega, by decide, hE0, hs⟩
  have hmin : mI (smI m0 12 (nI to)) 12 = nI to := mI_smI
  have hm13 : mI (smI m0 12 (nI to)) 13 = -1 := by rw [mI_smI_ne (by decide)]; exact h13
  have hm1 : mI (smI m0 12 (nI to)) 1 = nI n := by rw [mI_smI_ne (by decide), h1]; exact g3
  have j123 : ∀ (x : Int32) (f : Int32), (f = -1 ∨ f = nI to) → f_X7_takeExponent_J123 x (smI (smI m0 12 (nI to)) 13 f) = some (x, smI (smI m0 12 (nI to)) 13 (if f = -1 ∧ to = n then -1 else nI to)) := by
    intro x f hf
    have i13 : mI (smI (smI m0 12 (nI to)) 13 f) 13 = f := mI_smI
    have i12 : mI (smI (smI m0 12 (nI to)) 13 f) 12 = nI to := by rw [mI_smI_ne (by decide), mI_smI]
    have i1 : mI (smI (smI m0 12 (nI to)) 13 f) 1 = nI n := by rw [mI_smI_ne (by decide)]; exact hm1
    unfold f_X7_takeExponent_J123
    simp only [lt]
    rw [i13, i12, i1, smI_smI, smI_smI]
    by_cases hf1 : f = -1
    · rw [if_pos hf1]
      by_cases hto : n ≤ to
      · rw [if_pos ((cle2 (by omega) (by omega)).mpr hto), if_pos ⟨hf1, by omega⟩, hf1]
      · rw [if_neg (fun y => hto ((cle2 (by omega) (by omega)).mp y)), if_neg (fun y => by omega)]
    · rw [if_neg hf1, if_neg (fun y => hf1 y.1), hf.resolve_left hf1]
  have j109 : ∃ xe : Int32, (if nI to = nI fr then f_X7_takeExponent_J109 (nI er) (nb (decide (t (p + 1) = 45))) (nI to) (smI m0 12 (nI to)) else f_X7_takeExponent_J109 (nI er) (nb (decide (t (p + 1) = 45))) (-1) (smI m0 12 (nI to))) = some (xe, smI (smI m0 12 (nI to)) 13 (if fr < to ∧ to = n then -1 else nI to)) ∧ xe.toInt = (if t (p + 1) = 45 then -(er : Int) else er) := by
    have her : (nI er).toInt = er := nI_toInt (by omega)
    have body : ∀ f : Int32, (f = -1 ∨ f = nI to) → ∃ xe : Int32, f_X7_takeExponent_J109 (nI er) (nb (decide (t (p + 1) = 45))) f (smI m0 12 (nI to)) = some (xe, smI (smI m0 12 (nI to)) 13 (if f = -1 ∧ to = n then -1 else nI to)) ∧ xe.toInt = (if t (p + 1) = 45 then -(er : Int) else er) := by
      intro f hf
      unfold f_X7_takeExponent_J109
      simp only [lt]
      by_cases h45 : t (p + 1) = 45
      · rw [decide_eq_true h45, if_neg (show ¬ nb true = 0 by decide), j123 _ f hf, if_pos h45]
        exact ⟨_, rfl, by rw [ineg (by omega), her]⟩
      · rw [decide_eq_false h45, if_pos (show nb false = 0 from rfl), j123 _ f hf, if_neg h45]
        exact ⟨_, rfl, her⟩
    by_cases hft : to = fr
    · rw [if_pos (by rw [hft])]
      obtain ⟨xe, b1, b2⟩ := body (nI to) (.inr rfl)
      refine ⟨xe, ?_, b2⟩
      rw [b1, if_neg (fun y => by
        have := y.1
        rw [ieq, nI_toInt (by omega)] at this
        have e1 : (-1 : Int32).toInt = -1 := by decide
        omega), if_neg (fun y => by omega)]
    · rw [if_neg (fun y => hft (by rw [nI_inj (by omega) (by omega)] at y; exact y))]
      obtain ⟨xe, b1, b2⟩ := body (-1) (.inl rfl)
      refine ⟨xe, ?_, b2⟩
      rw [b1]
      by_cases hto : to = n
      · rw [if_pos ⟨rfl, hto⟩, if_pos ⟨by omega, hto⟩]
      · rw [if_neg (fun y => hto y.2), if_neg (fun y => hto y.2)]
  unfold f_X7_takeExponent
  rw [hpk]; simp only [Option.bind, lt]
  rw [if_pos hx1, h12, nI_inc (by omega), hms]
  simp only
  rw [show mI (smI m0 12 (nI fr)) 12 = nI fr from mI_smI, k1]
  simp only
  rw [hmin, hm13]
  exact j109
/-- .. and where there is none -/
theorem mex0 {c : CS} {m m0 : MS} {t : Nat → Int32} {n p : Nat} (hT : Tx c m t n) (hA : mA m0 0 = mA m 0) (h1 : mI m0 1 = mI m 1) (hp : p ≤ n) (h12 : mI m0 12 = nI p) (h13 : mI m0 13 = -1) {x1 : Int32} (hx1 : f_X7_small (t p) ≠ x1) : f_X7_takeExponent x1 m0 = some (0, smI m0 13 (if p = n then -1 else nI p)) := by
  have hT' := hT
  obtain ⟨g1, g2, g3, g4, g5, g6⟩ := hT'
  have hpk := hT.pk hA h1 h12 (by omega)
  unfold f_X7_takeExponent f_X7_takeExponent_J123
  rw [hpk]; simp only [Option.bind, lt]
  rw [if_neg hx1, h13, if_pos rfl, h1, g3, h12]
  by_cases hpn : p = n
  · rw [if_pos ((cle2 (by omega) (by omega)).mpr (by omega)), if_pos hpn]
  · rw [if_neg (fun y => by have := (cle2 (by omega) (by omega)).mp y; omega), if_neg hpn]
