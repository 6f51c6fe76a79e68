/-! the class rounds a scanned text -/
theorem ld_dn {D : List Nat} {l : Nat} (hD : ∀ k, k < D.length → D.getD k 0 < 10) (h : Ld D l) (hl : l < D.length) : Dn (lvn 10 D) (D.length - l) := nv_dn (d := fun k => D.getD k 0) hD h.2.1 hl (h.2.2 hl)
theorem cdec {c : CS} {m : MS} {t : Nat → Int32} {n f way : Nat} {neg : Bool} (hT : Tx c m t n) (hr : Rw (rws c 0)) (hf : f < 4) (hw : way < 5) {D : List Nat} {st E l bh : Nat} (hE : E ≤ 1600) (hst : st ≤ E) (hDl : D.length ≤ 1600) (hD : ∀ k, k < D.length → D.getD k 0 < 10) (hL : Ld D l) (hl : l < D.length) (hbh : bh ≤ D.length) (hDd : D = dls t (E - st) st) {xe a0 : Int32} {e : Int} (hxe : xe.toInt = e) (he1 : -1000000 ≤ e) (he2 : e ≤ 1000000) : ∃ w r, f_X6_roundDecimal f (Int32.ofNat way) (scs c (a0, nb neg, nI st, nI E, nI (D.length - bh), nI l, xe, nI D.length)) = some (Cs (srws (scs c (a0, nb neg, nI st, nI E, nI (D.length - bh), nI l, xe, nI D.length)) 0 w) f neg r) ∧ Rw w ∧ RT f neg way (lvn 10 D * tp (e - bh)) (tp (-(e - bh))) r := by
  generalize hC : scs c (a0, nb neg, nI st, nI E, nI (D.length - bh), nI l, xe, nI D.length) = C
  have s1 : sc1 C = nb neg := by rw [← hC]; rfl
  have s2 : sc2 C = nI st := by rw [← hC]; rfl
  have s3 : sc3 C = nI E := by rw [← hC]; rfl
  have s4 : sc4 C = nI (D.length - bh) := by rw [← hC]; rfl
  have s5 : sc5 C = nI l := by rw [← hC]; rfl
  have s6 : sc6 C = xe := by rw [← hC]; rfl
  have hTC : Tx C m t n := by rw [← hC]; exact hT
  have hrC : Rw (rws C 0) := by rw [← hC]; exact hr
  have hDn := ld_dn hD hL hl
  have e1 : (nI (D.length - bh)).toInt = ((D.length - bh : Nat) : Int) := nI_toInt (by omega)
  have e2 : (nI (D.length - bh) + xe).toInt = (D.length : Int) - bh + e := by rw [ia (by omega) (by omega), e1, hxe]; omega
  have e3 : (nI l).toInt = (l : Int) := nI_toInt (by omega)
  have e4 : (nI (D.length - bh) + xe - nI l).toInt = (D.length : Int) - bh + e - l := by rw [is_ (by omega) (by omega), e2, e3]
  have one : (1 : Int32).toInt = 1 := by decide
  have e5 : (nI (D.length - bh) + xe - 1).toInt = (D.length : Int) - bh + e - 1 := by rw [is_ (by omega) (by omega), e2, one]
  unfold f_X6_roundDecimal
  simp only [lt]
  rw [s1, s4, s5, s6, far_spec hf hw e4]
  simp only [Option.bind]
  by_cases c1 : (D.length : Int) - bh + e - l ≤ 310
  · rw [if_pos c1]
    by_cases c2 : -330 ≤ (D.length : Int) - bh + e - l
    · rw [if_pos c2]
      simp only [if_true]
      have hsig : ∀ k : Nat, k < D.length → D.getD k 0 ≠ 0 → (D.length : Int) - bh + e - 1 - k < 324 := by
        intro k hk hk0
        have : l ≤ k := by
          rcases Nat.lt_or_ge k l with x | x
          · exact absurd (hL.2.1 k x) hk0
          · exact x
        omega
      obtain ⟨w, V, s, A, tt, g1, g2, g3, g4, g5⟩ := setDigits_o hTC hrC hE hst (by omega) hD hsig hDl hDd e5
      rw [s2, s3, g1]
      simp only
      have s1' : sc1 (srws C 0 w) = nb neg := s1
      rw [s1']
      obtain ⟨f1, f2⟩ := fbq_fl (E := e - bh) g3 (by omega) g5 hDn (by omega)
      have hV : V ≠ 0 := by
        have := f2.2.1
        have hp : 0 < 10 ^ ((((D.length - l : Nat) : Int) + (e - bh) + 1080).toNat - 1) := Nat.pow_pos (by decide)
        omega
      obtain ⟨w', V', s', q, h, ee, r1, r2, r3⟩ := rrow_spec (neg := neg) hf hw (c := srws C 0 w) (r := 0) (by rw [rws_same]; exact g2) hV f2 (by omega) (by omega) f1
      rw [r1, srws_srws]
      exact ⟨w', _, rfl, ⟨V', s', r2⟩, .inr (.inr ⟨q, h, ee, r3, rfl⟩)⟩
    · rw [if_neg c2]
      simp only [if_neg n10]
      exact ⟨rws C 0, _, by rw [srws_self], hrC, .inr (.inl ⟨far_lo hDn (by omega), rfl⟩)⟩
  · rw [if_neg c1]
    simp only [if_neg n10]
    exact ⟨rws C 0, _, by rw [srws_self], hrC, .inl ⟨far_hi hDn (by omega), rfl⟩⟩
/-- hexadecimal digits -/
def HXI (t : Nat → Int32) (D : List Nat) (E : Nat) (u : Int) (q : Nat) (a : Int64 × Int32 × Int32 × Int32) : Prop := ∃ (p : Nat) (pre : List Nat) (k : Nat) (s : Bool), a.1.toBitVec.toNat = lvn 16 pre / 16 ^ k ∧ a.2.1 = nb s ∧ a.2.2.1.toInt = u - 4 * pre.length + 4 * k ∧ a.2.2.2 = nI p ∧ p + q = E ∧ D = pre ++ dls t q p ∧ k ≤ pre.length ∧ s = decide (lvn 16 pre % 16 ^ k ≠ 0) ∧ (k = 0 ∨ 2 ^ 56 ≤ lvn 16 pre / 16 ^ k) ∧ lvn 16 pre / 16 ^ k < 2 ^ 60
theorem chx_lp {c : CS} {m : MS} {t : Nat → Int32} {n : Nat} (hT : Tx c m t n) {D : List Nat} {E : Nat} (hE : E ≤ 1600) (hDl : D.length ≤ 1600) (hD : ∀ k, k < D.length → D.getD k 0 < 16) {u : Int} (hu1 : -2000000 ≤ u) (hu2 : u ≤ 2000000) {f1 : Nat} {x2 : Int32} (s3 : sc3 c = nI E) (q : Nat) (a : Int64 × Int32 × Int32 × Int32) (hI : HXI t D E u q a) : (∃ z, f_X6_roundHexadecimal_L33 f1 x2 a.1 a.2.1 a.2.2.1 a.2.2.2 c = some (.inr z) ∧ ∃ (k : Nat) (s : Bool), z.1.toBitVec.toNat = lvn 16 D / 16 ^ k ∧ z.2.1 = nb s ∧ z.2.2.toInt = u - 4 * D.length + 4 * k ∧ k ≤ D.length ∧ s = decide (lvn 16 D % 16 ^ k ≠ 0) ∧ (k = 0 ∨ 2 ^ 56 ≤ lvn 16 D / 16 ^ k) ∧ lvn 16 D / 16 ^ k < 2 ^ 60) ∨ ∃ a' q', f_X6_roundHexadecimal_L33 f1 x2 a.1 a.2.1 a.2.2.1 a.2.2.2 c = some (.inl a') ∧ q' < q ∧ HXI t D E u q' a' := by
  obtain ⟨x3, x5, x6, x7⟩ := a
  obtain ⟨p, pre, k, s, h1, h2, h3, h4, h5, h6, h7, h8, h9, h10⟩ := hI
  change x3.toBitVec.toNat = _ at h1
  change x5 = _ at h2
  change x6.toInt = _ at h3
  change x7 = _ at h4
  subst h2 h4
  have hT' := hT
  obtain ⟨g1, g2, g3, g4, g5, g6⟩ := hT'
  show (∃ z, f_X6_roundHexadecimal_L33 f1 x2 x3 (nb s) x6 (nI p) c = some (.inr z) ∧ _) ∨ ∃ a' q', f_X6_roundHexadecimal_L33 f1 x2 x3 (nb s) x6 (nI p) c = some (.inl a') ∧ _
  have hpl : pre.length ≤ D.length := by rw [h6]; simp
  unfold f_X6_roundHexadecimal_L33
  rw [s3]
  cases q with
  | zero =>
    rw [if_pos ((cle2 (by omega) (by omega)).mpr (by omega))]
    rw [dls, List.append_nil] at h6
    subst h6
    exact .inl ⟨_, rfl, k, s, h1, rfl, h3, h7, h8, h9, h10⟩
  | succ q =>
    right
    rw [if_neg (fun x => by have := (cle2 (by omega) (by omega)).mp x; omega)]
    have hat : f_X0_at 0 (nI p) c = t p := hT.atc (nI_toInt (by omega))
    simp only [lt]
    rw [hat, nI_inc (by omega)]
    obtain ⟨v1, v2, v3⟩ := vd_p (g6 p).1 (g6 p).2
    rw [dls] at h6
    by_cases hdot : t p = 46
    · rw [if_pos hdot] at h6
      have hv : (f_X5_valueOf (t p)).toInt = -1 := by
        rcases v2 with ⟨-, -, x, -⟩ | ⟨-, x⟩
        · exact absurd hdot x
        · exact x
      rw [if_neg (by rw [ile, hv, k0]; omega)]
      exact ⟨_, q, rfl, by omega, p + 1, pre, k, s, h1, rfl, h3, rfl, by omega, h6, h7, h8, h9, h10⟩
    · rw [if_neg hdot] at h6
      have h6' : D = (pre ++ [vd (t p)]) ++ dls t q (p + 1) := by rw [h6]; simp
      have hlen : pre.length < D.length := by rw [h6]; simp
      have hget : D.getD pre.length 0 = vd (t p) := by rw [h6]; simp [List.getD]
      have hd16 : vd (t p) < 16 := by rw [← hget]; exact hD _ hlen
      have hv : (f_X5_valueOf (t p)).toInt = (vd (t p) : Int) := by
        rcases v2 with ⟨-, x, -⟩ | ⟨x, -⟩
        · exact x
        · omega
      rw [if_pos (by rw [ile, hv, k0]; omega)]
      have ej := jushr_nat (x := x3) (y := 56) (k := 56) (by decide) (by decide)
      have uj := u64 (jushr x3 56)
      have u3 := u64 x3
      rw [h1] at ej u3
      have p56 : (2 : Nat) ^ 56 = 72057594037927936 := by decide
      have p60 : (2 : Nat) ^ 60 = 1152921504606846976 := by decide
      rw [p56] at ej h9
      rw [p60] at h10
      by_cases hW : lvn 16 pre / 16 ^ k < 72057594037927936
      · have hk : k = 0 := by omega
        subst hk
        rw [Nat.pow_zero, Nat.div_one] at *
        rw [if_pos (by rw [leq, l0]; omega)]
        have k16 : (16 : Int64).toInt = 16 := by decide
        have m4 : (-4 : Int32).toInt = -4 := by decide
        have eW : (x3 * 16 + (f_X5_valueOf (t p)).toInt64).toInt = ((lvn 16 pre * 16 + vd (t p) : Nat) : Int) := by
          have y1 : (x3 * 16).toInt = (lvn 16 pre : Int) * 16 := by rw [lm (by rw [k16]; omega) (by rw [k16]; omega), k16]; omega
          rw [la (by rw [il]; omega) (by rw [il]; omega), y1, il, hv]; omega
        have uW := u64 (x3 * 16 + (f_X5_valueOf (t p)).toInt64)
        refine ⟨_, q, rfl, by omega, p + 1, pre ++ [vd (t p)], 0, s, ?_, rfl, ?_, rfl, by omega, h6', by omega, ?_, .inl rfl, ?_⟩
        · rw [lvn_app, Nat.pow_zero, Nat.div_one]
          show (x3 * 16 + (f_X5_valueOf (t p)).toInt64).toBitVec.toNat = _
          omega
        · show (x6 + -4).toInt = _
          rw [ia (by omega) (by omega), h3, m4, lenN]; omega
        · rw [h8, Nat.pow_zero, Nat.mod_one, Nat.mod_one]
        · rw [lvn_app, Nat.pow_zero, Nat.div_one, p60]; omega
      · rw [if_neg (by rw [leq, l0]; omega)]
        have hdv : (lvn 16 pre * 16 + vd (t p)) / 16 = lvn 16 pre := by omega
        have hmd : (lvn 16 pre * 16 + vd (t p)) % 16 = vd (t p) := by omega
        have q1 : lvn 16 (pre ++ [vd (t p)]) / 16 ^ (k + 1) = lvn 16 pre / 16 ^ k := by rw [lvn_app, Nat.pow_succ, Nat.mul_comm (16 ^ k) 16, ← Nat.div_div_eq_div_mul, hdv]
        have q2 : lvn 16 (pre ++ [vd (t p)]) % 16 ^ (k + 1) = vd (t p) + 16 * (lvn 16 pre % 16 ^ k) := by rw [lvn_app, Nat.pow_succ, Nat.mul_comm (16 ^ k), Nat.mod_mul, hdv, hmd]
        by_cases hd0 : vd (t p) = 0
        · rw [if_pos (by rw [ieq, hv, k0]; omega)]
          refine ⟨_, q, rfl, by omega, p + 1, pre ++ [vd (t p)], k + 1, s, by rw [q1]; exact h1, rfl, ?_, rfl, by omega, h6', by rw [lenN]; omega, ?_, .inr (by rw [q1, p56]; omega), by rw [q1, p60]; exact h10⟩
          · rw [lenN]; show x6.toInt = _; omega
          · rw [q2, h8, hd0]
            by_cases z : lvn 16 pre % 16 ^ k = 0
            · rw [z]
            · rw [decide_eq_true z, decide_eq_true (by omega)]
        · rw [if_neg (by rw [ieq, hv, k0]; omega)]
          refine ⟨_, q, rfl, by omega, p + 1, pre ++ [vd (t p)], k + 1, true, by rw [q1]; exact h1, rfl, ?_, rfl, by omega, h6', by rw [lenN]; omega, ?_, .inr (by rw [q1, p56]; omega), by rw [q1, p60]; exact h10⟩
          · rw [lenN]; show x6.toInt = _; omega
          · rw [q2, decide_eq_true (by omega)]
theorem chex {c : CS} {m : MS} {t : Nat → Int32} {n f way : Nat} {neg : Bool} (hT : Tx c m t n) (hf : f < 4) (hw : way < 5) {D : List Nat} {st E bh : Nat} (hE : E ≤ 1600) (hst : st ≤ E) (hDl : D.length ≤ 1600) (hD : ∀ k, k < D.length → D.getD k 0 < 16) (hN : lvn 16 D ≠ 0) (hbh : bh ≤ D.length) (hDd : D = dls t (E - st) st) {xe a0 a5 : Int32} {e : Int} (hxe : xe.toInt = e) (he1 : -1000000 ≤ e) (he2 : e ≤ 1000000) : ∃ r, f_X6_roundHexadecimal f (Int32.ofNat way) (scs c (a0, nb neg, nI st, nI E, nI (D.length - bh), a5, xe, nI D.length)) = some (Cs (scs c (a0, nb neg, nI st, nI E, nI (D.length - bh), a5, xe, nI D.length)) f neg r) ∧ RT f neg way (lvn 16 D * p2 (e - 4 * bh)) (p2 (-(e - 4 * bh))) r := by
  generalize hC : scs c (a0, nb neg, nI st, nI E, nI (D.length - bh), a5, xe, nI D.length) = C
  have s1 : sc1 C = nb neg := by rw [← hC]; rfl
  have s2 : sc2 C = nI st := by rw [← hC]; rfl
  have s3 : sc3 C = nI E := by rw [← hC]; rfl
  have s4 : sc4 C = nI (D.length - bh) := by rw [← hC]; rfl
  have s6 : sc6 C = xe := by rw [← hC]; rfl
  have hTC : Tx C m t n := by rw [← hC]; exact hT
  have four : (4 : Int32).toInt = 4 := by decide
  have e1 : (nI (D.length - bh)).toInt = ((D.length - bh : Nat) : Int) := nI_toInt (by omega)
  have e2 : (4 * nI (D.length - bh)).toInt = 4 * ((D.length - bh : Nat) : Int) := by rw [im (by rw [e1, four]; omega) (by rw [e1, four]; omega), e1, four]
  have e3 : (xe + 4 * nI (D.length - bh)).toInt = e + 4 * ((D.length : Int) - bh) := by rw [ia (by omega) (by omega), e2, hxe]; omega
  obtain ⟨z, k1, k, s, z1, z2, z3, z4, z5, z6, z7⟩ := Lp_inv (F := fun a => f_X6_roundHexadecimal_L33 f (Int32.ofNat way) a.1 a.2.1 a.2.2.1 a.2.2.2 C) (HXI t D E (e + 4 * ((D.length : Int) - bh))) _ (fun q a hI => chx_lp hTC hE hDl hD (by omega) (by omega) s3 q a hI) (E - st) (0, 0, xe + 4 * nI (D.length - bh), nI st) ⟨st, [], 0, false, by show (0 : Int64).toBitVec.toNat = _; decide, rfl, by show (xe + 4 * nI (D.length - bh)).toInt = _; rw [e3]; simp, rfl, by omega, by rw [List.nil_append]; exact hDd, Nat.le_refl _, by rw [Nat.pow_zero, Nat.mod_one]; rfl, .inl rfl, by show lvn 16 [] / 16 ^ 0 < _; decide⟩
  unfold f_X6_roundHexadecimal
  simp only [lt]
  rw [s4, s6, s2, k1]
  simp only [Option.bind]
  have p56 : (2 : Nat) ^ 56 = 72057594037927936 := by decide
  have p16 : (16 : Nat) ^ k = 2 ^ (4 * k) := by rw [Nat.pow_mul]
  have hu : z.2.2.toInt64.toInt = e - 4 * bh + (4 * k : Nat) := by rw [il, z3]; omega
  have fl := fl_unit (d := 4 * k) (k := e - 4 * bh + (4 * k : Nat)) rfl (fl_two (N := lvn 16 D) (E := e - 4 * bh))
  rw [Bool.false_or, ← p16, ← z5] at fl
  have hW : lvn 16 D / 16 ^ k ≠ 0 := by
    rcases z6 with rfl | z6
    · rw [Nat.pow_zero, Nat.div_one]; exact hN
    · omega
  obtain ⟨L, hL⟩ := bl_any hW
  have hfm := fm_b f
  have hll : lst f = 2 - (gr f : Int) - (pr f : Int) := rfl
  obtain ⟨q, h, ee, r1, r2⟩ := crnd_spec (neg := neg) (s := s) hf hw z1 hu (by omega) (by omega) hL fl (fun hs => by
    have hk : k ≠ 0 := by
      rintro rfl
      rw [z5, Nat.pow_zero, Nat.mod_one] at hs
      simp at hs
    have h56 := z6.resolve_left hk
    have hlt := Nat.lt_of_le_of_lt h56 hL.1
    have : 56 < L + 1 := (Nat.pow_lt_pow_iff_right (by decide)).mp hlt
    unfold qOf
    split <;> omega) C
  rw [s1, z2, r1]
  exact ⟨_, rfl, .inr (.inr ⟨q, h, ee, r2, rfl⟩)⟩
