/-! a number read: both round it alike -/
theorem nv_nz {b : Nat} {d : Nat → Nat} (hb : 0 < b) : ∀ n, nv b d n = 0 → ∀ i, i < n → d i = 0 := by
  intro n
  induction n with
  | zero => intro _ i hi; omega
  | succ n ih =>
    intro h i hi
    rw [nv_step] at h
    have h1 : nv b d n * b = 0 := by omega
    have h2 : nv b d n = 0 := by
      rcases Nat.mul_eq_zero.mp h1 with x | x
      · exact x
      · omega
    by_cases hc : i = n
    · rw [hc]; omega
    · exact ih h2 i (by omega)
theorem tp_same {f way N Dg bh ec er : Nat} {neg sn : Bool} {e e' : Int} (hN : Dn N Dg) (hDg : Dg ≤ 1600) (hbh : bh ≤ 1600) (hE : Ecr ec er) (he : e = (if sn then -(ec : Int) else ec)) (he' : e' = (if sn then -(er : Int) else er)) {r r' : Nat × Nat} (a : RT f neg way (N * tp (e - bh)) (tp (-(e - bh))) r) (b : RT f neg way (N * tp (e' - bh)) (tp (-(e' - bh))) r') : r = r' := by
  have hN0 : 0 < N := Nat.lt_of_lt_of_le (Nat.pow_pos (by decide)) hN.2.1
  have hA : ∀ x, 0 < N * tp x := fun x => Nat.mul_pos hN0 (tp_pos _)
  have h0 := hN.1
  obtain ⟨h1, h2⟩ := hE
  by_cases hc : er < 1000000
  · rw [if_pos hc] at h1
    rw [h1] at he
    rw [he, ← he'] at a
    exact a.uniq (hA _) b
  · rw [if_neg hc] at h1
    cases sn
    · simp only [Bool.false_eq_true, if_false] at he he'
      rw [a.uniq (hA _) (.inl ⟨far_hi hN (by omega), rfl⟩), b.uniq (hA _) (.inl ⟨far_hi hN (by omega), rfl⟩)]
    · simp only [if_true] at he he'
      rw [a.uniq (hA _) (.inr (.inl ⟨far_lo hN (by omega), rfl⟩)), b.uniq (hA _) (.inr (.inl ⟨far_lo hN (by omega), rfl⟩))]
theorem p2_same {f way N L bh ec er : Nat} {neg sn : Bool} {e e' : Int} (hN : Bl N L) (hN0 : N ≠ 0) (hL : L ≤ 6400) (hbh : bh ≤ 1600) (hE : Ecr ec er) (he : e = (if sn then -(ec : Int) else ec)) (he' : e' = (if sn then -(er : Int) else er)) {r r' : Nat × Nat} (a : RT f neg way (N * p2 (e - 4 * bh)) (p2 (-(e - 4 * bh))) r) (b : RT f neg way (N * p2 (e' - 4 * bh)) (p2 (-(e' - 4 * bh))) r') : r = r' := by
  have hA : ∀ x, 0 < N * p2 x := fun x => Nat.mul_pos (Nat.pos_of_ne_zero hN0) (p2_pos _)
  have hLp := hN.pos (Nat.pos_of_ne_zero hN0)
  obtain ⟨h1, h2⟩ := hE
  by_cases hc : er < 1000000
  · rw [if_pos hc] at h1
    rw [h1] at he
    rw [he, ← he'] at a
    exact a.uniq (hA _) b
  · rw [if_neg hc] at h1
    cases sn
    · simp only [Bool.false_eq_true, if_false] at he he'
      rw [a.uniq (hA _) (.inl ⟨b2hi hN (by omega) (by omega), rfl⟩), b.uniq (hA _) (.inl ⟨b2hi hN (by omega) (by omega), rfl⟩)]
    · simp only [if_true] at he he'
      rw [a.uniq (hA _) (.inr (.inl ⟨b2lo hN (by omega), rfl⟩)), b.uniq (hA _) (.inr (.inl ⟨b2lo hN (by omega), rfl⟩))]
theorem c_zero {C : CS} {f : Nat} {neg : Bool} (h1 : sc1 C = nb neg) : f_X3_become (f_X2_signed f (sc1 C) 0) C = Cs C f neg (0, 0) := by
  rw [h1, show (0 : Int64) = L64 0 from rfl, signed_eq]; rfl
theorem dec_fin {c : CS} {m m' : MS} {t : Nat → Int32} {n p f way : Nat} {neg : Bool} (hT : Tx c m t n) (hr : Rw (rws c 0)) (hf : f < 4) (hw : way < 5) {S : Int32 × Int32 × Int32 × Int32 × Int32 × Int32 × Int32 × Int32} {xb xr : Int32} (hN : Num t 10 p n neg 0 S xb xr m') : ∃ w r m'', f_X6_roundScanned f (Int32.ofNat way) (scs c S) = some (Cs (srws (scs c S) 0 w) f neg r) ∧ Rw w ∧ f_X7_roundDecimal (Int32.ofNat f) (nb neg) (xr - xb) (Int32.ofNat way) m' = some m'' ∧ Rd m' m'' f neg r := by
  obtain ⟨D, bh, l, E, ec, er, xe, sn, rfl, rfl, h3, h4, h5, h6, h7, h8, h9, h10, h11, h12, h13, h14⟩ := hN
  have hT' := hT
  obtain ⟨g1, g2, g3, g4, g5, g6⟩ := hT'
  have hE2 := h12
  obtain ⟨q1, q2⟩ := hE2
  have hec : ec ≤ 1000000 := by split at q1 <;> omega
  have ebh : (nI bh).toInt = (bh : Int) := nI_toInt (by omega)
  have exr : (xr - nI bh).toInt = xr.toInt - bh := by
    rw [is_ (by rw [h14, ebh]; split <;> omega) (by rw [h14, ebh]; split <;> omega), ebh]
  obtain ⟨m'', r', r1, r2, r3⟩ := rdec_spec (neg := neg) (d := fun k => D.getD k 0) hf hw h4 h3 (fun k hk => ⟨h5 k hk, h6 k hk⟩) exr (by rw [h14]; split <;> omega) (by rw [h14]; split <;> omega)
  change (lvn 10 D = 0 ∧ _) ∨ (lvn 10 D ≠ 0 ∧ RT f neg way (lvn 10 D * _) _ _) at r3
  generalize hC : scs c ((0 : Int32), nb neg, nI p, nI E, nI (D.length - bh), nI l, xe, nI D.length) = C
  have s0 : sc0 C = 0 := by rw [← hC]; rfl
  have s1 : sc1 C = nb neg := by rw [← hC]; rfl
  have s5 : sc5 C = nI l := by rw [← hC]; rfl
  have s7 : sc7 C = nI D.length := by rw [← hC]; rfl
  have hrC : Rw (rws C 0) := by rw [← hC]; exact hr
  have hl := h7.1
  have hz : f_X5_isZero C = if l = D.length then 1 else 0 := by
    unfold f_X5_isZero
    rw [s5, s7]
    have e : (nI l = nI D.length) = (l = D.length) := nI_inj (by omega) (by omega)
    by_cases x : l = D.length
    · rw [if_pos (e.mpr x), if_pos x]
    · rw [if_neg (fun y => x (e.mp y)), if_neg x]
  unfold f_X6_roundScanned
  rw [s0, if_neg (show ¬ (0 : Int32) = 2 by decide), if_neg (show ¬ (0 : Int32) = 3 by decide), if_neg (show ¬ (0 : Int32) = 1 by decide), hz]
  by_cases hlD : l = D.length
  · rw [if_pos hlD, if_neg n10]
    have hN0 : lvn 10 D = 0 := nv_zero (fun i hi => h7.2.1 i (by omega))
    rcases r3 with ⟨-, hr0⟩ | ⟨x, -⟩
    · subst hr0
      refine ⟨rws C 0, (0, 0), m'', ?_, hrC, r1, r2⟩
      simp only [lt]
      rw [srws_self, c_zero s1]
    · exact absurd hN0 x
  · rw [if_neg hlD, if_pos rfl]
    have hlt : l < D.length := by omega
    have hDn := ld_dn h6 h7 hlt
    have hNp : 0 < lvn 10 D := Nat.lt_of_lt_of_le (Nat.pow_pos (by decide)) hDn.2.1
    have r3 := (r3.resolve_left (fun x => by omega)).2
    obtain ⟨w, r, k1, k2, k3⟩ := cdec (neg := neg) (a0 := 0) (m := m) hT hr hf hw (by omega) h10 h3 h6 h7 hlt h8 h9 rfl (by rw [h13]; split <;> omega) (by rw [h13]; split <;> omega)
    rw [hC] at k1
    have := tp_same hDn (by omega) (by omega) h12 h13 h14 k3 r3
    subst this
    rw [k1]
    exact ⟨w, r, m'', rfl, k2, r1, r2⟩
theorem hex_fin {c : CS} {m m' : MS} {t : Nat → Int32} {n p f way : Nat} {neg : Bool} (hT : Tx c m t n) (hf : f < 4) (hw : way < 5) {S : Int32 × Int32 × Int32 × Int32 × Int32 × Int32 × Int32 × Int32} {xb xr x1 x2 x3 x5 x6 : Int32} (hN : Num t 16 p n neg 1 S xb xr m') : ∃ r v0 m1 m'', f_X6_roundScanned f (Int32.ofNat way) (scs c S) = some (Cs (scs c S) f neg r) ∧ f_X7_zero 3 m' = some (smA m' 3 v0) ∧ Lp (fun a => f_X7_read_L178 x1 x2 x3 x5 x6 a.1 a.2) (0, smA m' 3 v0) = some m1 ∧ f_X7_roundBinary (Int32.ofNat f) (nb neg) (xr.toInt64 - 4 * xb.toInt64) (Int32.ofNat way) m1 = some m'' ∧ Rd m' m'' f neg r := by
  obtain ⟨D, bh, l, E, ec, er, xe, sn, rfl, rfl, h3, h4, h5, h6, h7, h8, h9, h10, h11, h12, h13, h14⟩ := hN
  have hT' := hT
  obtain ⟨g1, g2, g3, g4, g5, g6⟩ := hT'
  have hE2 := h12
  obtain ⟨q1, q2⟩ := hE2
  have hec : ec ≤ 1000000 := by split at q1 <;> omega
  have ebh : (nI bh).toInt64.toInt = (bh : Int) := by rw [il]; exact nI_toInt (by omega)
  have four : (4 : Int64).toInt = 4 := by decide
  have e4 : (4 * (nI bh).toInt64).toInt = 4 * (bh : Int) := by rw [lm (by rw [four, ebh]; omega) (by rw [four, ebh]; omega), four, ebh]
  have hxb : -200000000 < xr.toInt ∧ xr.toInt < 200000000 := by rw [h14]; split <;> omega
  have exr : (xr.toInt64 - 4 * (nI bh).toInt64).toInt = xr.toInt - 4 * bh := by
    rw [ls_ (by rw [e4, il]; omega) (by rw [e4, il]; omega), e4, il]
  obtain ⟨v0, z1, z2⟩ := zero_spec (j := 3) rfl m'
  obtain ⟨v, l1, l2, l3⟩ := mhex (d := fun k => D.getD k 0) (x1 := x1) (x2 := x2) (x3 := x3) (x5 := x5) (x6 := x6) h4 h3 (fun k hk => ⟨h5 k hk, h6 k hk⟩) z2
  change vl v = lvn 16 D at l3
  have hNb : lvn 16 D < 2 ^ 6400 := by
    have a := nv_lt (b := 16) (d := fun k => D.getD k 0) (n := D.length) h6
    have b : (16 : Nat) ^ D.length ≤ 16 ^ 1600 := Nat.pow_le_pow_right (by decide) h3
    have e : (16 : Nat) ^ 1600 = 2 ^ 6400 := by rw [show (16 : Nat) = 2 ^ 4 by decide, ← Nat.pow_mul]
    rw [← e]
    exact Nat.lt_of_lt_of_le a b
  obtain ⟨m'', r', r1, r2, r3⟩ := rbin_spec (neg := neg) (m := smA m' 3 v) (N := lvn 16 D) hf hw (by rw [smA_same]; exact l2) (by rw [smA_same]; exact l3) hNb exr (by omega) (by omega)
  have hRd : Rd m' m'' f neg r' := ⟨(Fr.sA (by decide)).trans r2.1, r2.2⟩
  generalize hC : scs c ((1 : Int32), nb neg, nI p, nI E, nI (D.length - bh), nI l, xe, nI D.length) = C
  have s0 : sc0 C = 1 := by rw [← hC]; rfl
  have s1 : sc1 C = nb neg := by rw [← hC]; rfl
  have s5 : sc5 C = nI l := by rw [← hC]; rfl
  have s7 : sc7 C = nI D.length := by rw [← hC]; rfl
  have hl := h7.1
  have hz : f_X5_isZero C = if l = D.length then 1 else 0 := by
    unfold f_X5_isZero
    rw [s5, s7]
    have e : (nI l = nI D.length) = (l = D.length) := nI_inj (by omega) (by omega)
    by_cases x : l = D.length
    · rw [if_pos (e.mpr x), if_pos x]
    · rw [if_neg (fun y => x (e.mp y)), if_neg x]
  unfold f_X6_roundScanned
  rw [s0, if_neg (show ¬ (1 : Int32) = 2 by decide), if_neg (show ¬ (1 : Int32) = 3 by decide), if_pos (show (1 : Int32) = 1 from rfl), hz]
  by_cases hlD : l = D.length
  · rw [if_pos hlD, if_neg n10]
    have hN0 : lvn 16 D = 0 := nv_zero (fun i hi => h7.2.1 i (by omega))
    rcases r3 with ⟨-, hr0⟩ | ⟨x, -⟩
    · subst hr0
      refine ⟨(0, 0), v0, _, m'', ?_, z1, l1, r1, hRd⟩
      simp only [lt]
      rw [c_zero s1]
    · exact absurd hN0 x
  · rw [if_neg hlD, if_pos rfl]
    have hlt : l < D.length := by omega
    have hN0 : lvn 16 D ≠ 0 := fun x => h7.2.2 hlt (nv_nz (by decide) _ x l hlt)
    have r3 := (r3.resolve_left (fun x => hN0 x.1)).2
    obtain ⟨r, k1, k3⟩ := chex (neg := neg) (a0 := 1) (a5 := nI l) (m := m) hT hf hw (by omega) h10 h3 h6 hN0 h8 h9 rfl (by rw [h13]; split <;> omega) (by rw [h13]; split <;> omega)
    rw [hC] at k1
    obtain ⟨L, hL⟩ := bl_any hN0
    have hL6 : L + 1 ≤ 6400 := by
      have h1 := hL.2.resolve_left (by omega)
      rw [Nat.add_sub_cancel] at h1
      have : L < 6400 := (Nat.pow_lt_pow_iff_right (a := 2) (by decide)).mp (Nat.lt_of_le_of_lt h1 hNb)
      omega
    have := p2_same hL hN0 hL6 (by omega) h12 h13 h14 k3 r3
    subst this
    rw [k1]
    exact ⟨r, v0, _, m'', rfl, z1, l1, r1, hRd⟩
