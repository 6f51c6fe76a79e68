/-! the reference's words -/
theorem nan64 : ∀ f, f < 4 → f_X2_nanWith f 0 = L64 (inf f + 2 ^ (pr f - 2)) := f4 (by decide +kernel) (by decide +kernel) (by decide +kernel) (by decide +kernel)
def sB (f : Nat) (neg : Bool) : Int64 := if nb neg = 0 then 0 else f_X7_signBit (Int32.ofNat f)
theorem mnan : ∀ f, f < 4 → ∀ neg : Bool, (sB f neg ||| f_X7_infinite (Int32.ofNat f)) ||| jshl 1 (f_X7_precision (Int32.ofNat f) - 2) = sgn f neg (inf f + 2 ^ (pr f - 2)) := f4 (by decide +kernel) (by decide +kernel) (by decide +kernel) (by decide +kernel)
theorem minf : ∀ f, f < 4 → ∀ neg : Bool, sB f neg ||| f_X7_infinite (Int32.ofNat f) = sgn f neg (inf f) := f4 (by decide +kernel) (by decide +kernel) (by decide +kernel) (by decide +kernel)
theorem rw_sb {f : Nat} {neg : Bool} {m0 : MS} : f_X7_readWord (Int32.ofNat f) (nb neg) m0 = f_X7_readWord_J12 (Int32.ofNat f) (sB f neg) m0 := by
  unfold f_X7_readWord sB
  by_cases h : nb neg = 0
  · rw [if_pos h, if_pos h]
  · rw [if_neg h, if_neg h]
def WdR (f : Nat) (neg : Bool) (v : Nat) (F : Int32) (m0 m' : MS) : Prop := mI m' 13 = F ∧ Fr [] [11, 12, 13] [2] m0 m' ∧ (F = -1 → mJ m' 2 = sgn f neg v ∧ mI m' 11 = 0)
theorem mw_nan {c : CS} {m m0 : MS} {t : Nat → Int32} {n p f : Nat} {neg : Bool} (hf : f < 4) (hT : Tx c m t n) (hA : mA m0 0 = mA m 0) (h1 : mI m0 1 = mI m 1) (hp : p ≤ n) (h12 : mI m0 12 = nI p) (h13 : mI m0 13 = -1) (hx : f_X7_small (t p) = 110) : ∃ m', f_X7_readWord (Int32.ofNat f) (nb neg) m0 = some m' ∧ WdR f neg (inf f + 2 ^ (pr f - 2)) (wF t n p 3 3) m0 m' := by
  have hT' := hT
  obtain ⟨g1, g2, g3, g4, g5, g6⟩ := hT'
  have hA' : mA (smI m0 11 0) 0 = mA m 0 := hA
  have h1' : mI (smI m0 11 0) 1 = mI m 1 := by rw [mI_smI_ne (by decide)]; exact h1
  have h12' : mI (smI m0 11 0) 12 = nI (p + 0) := by rw [mI_smI_ne (by decide)]; exact h12
  have h13' : mI (smI m0 11 0) 13 = -1 := by rw [mI_smI_ne (by decide)]; exact h13
  have h11' : mI (smI m0 11 0) 11 = 0 := mI_smI
  have hF' : Fr [] [11, 12, 13] [2] m0 (smI m0 11 0) := Fr.sI (by decide)
  have hpk := hT.pk hA' h1' h12' (by omega)
  have hw := mwd (j := 21) (a := 0) hT hA' h1' hp (by decide) (by decide) h12'
  rw [sx21, Nat.sub_zero, mt_congr (w := sxW 21) (w' := sxW 3) 3 0 (fun k hk => (wn k (by omega)).1)] at hw
  have hmn := mt_n (w := sxW 3) (p := p) g5 3 0 (fun k hk => (wn k (by omega)).2) hp
  have hmb := mt_b (t := t) (w := sxW 3) (p := p) 3 0
  unfold wF
  rw [sx3, rw_sb]
  unfold f_X7_readWord_J12
  simp only [lt]
  generalize hm1 : smI m0 11 0 = m1 at *
  generalize hQ : mt t (sxW 3) p 3 0 = Q at *
  rw [hpk]
  simp only [Option.bind, Nat.add_zero]
  rw [if_pos hx]
  change f_X7_isWord 21 0 m1 = _ at hw
  rw [hw]
  simp only
  rw [mnan f hf neg]
  by_cases c1 : Q = 3
  · rw [if_pos c1]
    rw [j109 (F := -1) (n := n) (q := p + 3) (by rw [mI_smJ, mI_smI_ne (by decide)]; exact h13') (by rw [mI_smJ, mI_smI_ne (by decide), h1']; exact g3) (by rw [mI_smJ, mI_smI]) g1 (by omega)]
    refine ⟨_, rfl, ?_, hF'.trans ((Fr.sI (by decide)).trans ((Fr.sJ (by decide)).trans (Fr.sI (by decide)))), fun _ => ⟨?_, ?_⟩⟩
    · rw [mI_smI]
      by_cases c2 : p + Q = n
      · rw [if_neg (fun x => by have := x.2; omega), if_pos ⟨.inl c1, c2⟩]
      · rw [if_pos ⟨rfl, by omega⟩, if_neg (fun x => c2 x.2), c1]
    · rw [mJ_smI, mJ_smJ]
    · rw [mI_smI_ne (by decide), mI_smJ, mI_smI_ne (by decide)]; exact h11'
  · rw [if_neg c1]
    rw [j109 (F := nI (p + Q)) (n := n) (q := p + Q) (by rw [mI_smJ, mI_smI]) (by rw [mI_smJ, mI_smI_ne (by decide), mI_smI_ne (by decide), h1']; exact g3) (by rw [mI_smJ, mI_smI_ne (by decide), mI_smI]) g1 (by omega)]
    refine ⟨_, rfl, ?_, hF'.trans ((Fr.sI (by decide)).trans ((Fr.sI (by decide)).trans ((Fr.sJ (by decide)).trans (Fr.sI (by decide))))), fun _ => ⟨?_, ?_⟩⟩
    · rw [mI_smI, if_neg (fun x => nI_m1 (by omega) x.1), if_neg (fun x => by rcases x.1 with y | y; exact c1 y; exact absurd y.1 (by decide))]
    · rw [mJ_smI, mJ_smJ]
    · rw [mI_smI_ne (by decide), mI_smJ, mI_smI_ne (by decide), mI_smI_ne (by decide)]; exact h11'
theorem mw_inf {c : CS} {m m0 : MS} {t : Nat → Int32} {n p f : Nat} {neg : Bool} (hf : f < 4) (hT : Tx c m t n) (hA : mA m0 0 = mA m 0) (h1 : mI m0 1 = mI m 1) (hp : p ≤ n) (h12 : mI m0 12 = nI p) (h13 : mI m0 13 = -1) (hx : f_X7_small (t p) ≠ 110) : ∃ m', f_X7_readWord (Int32.ofNat f) (nb neg) m0 = some m' ∧ WdR f neg (inf f) (wF t n p 2 4) m0 m' := by
  have hT' := hT
  obtain ⟨g1, g2, g3, g4, g5, g6⟩ := hT'
  have hA' : mA (smI m0 11 0) 0 = mA m 0 := hA
  have h1' : mI (smI m0 11 0) 1 = mI m 1 := by rw [mI_smI_ne (by decide)]; exact h1
  have h12' : mI (smI m0 11 0) 12 = nI (p + 0) := by rw [mI_smI_ne (by decide)]; exact h12
  have h13' : mI (smI m0 11 0) 13 = -1 := by rw [mI_smI_ne (by decide)]; exact h13
  have h11' : mI (smI m0 11 0) 11 = 0 := mI_smI
  have hF' : Fr [] [11, 12, 13] [2] m0 (smI m0 11 0) := Fr.sI (by decide)
  have hpk := hT.pk hA' h1' h12' (by omega)
  have hw := mwd (j := 22) (a := 0) hT hA' h1' hp (by decide) (by decide) h12'
  rw [sx22, Nat.sub_zero, mt_congr (w := sxW 22) (w' := sxW 4) 3 0 (fun k hk => wi3 k (by omega))] at hw
  have hmn := mt_n (w := sxW 4) (p := p) g5 3 0 (fun k hk => (wi8 k (by omega)).2) hp
  have hmb := mt_b (t := t) (w := sxW 4) (p := p) 3 0
  have hmn8 := mt_n (w := sxW 4) (p := p) g5 8 0 (fun k hk => (wi8 k (by omega)).2) hp
  have hmb8 := mt_b (t := t) (w := sxW 4) (p := p) 8 0
  have hspl := mt_add (t := t) (w := sxW 4) (p := p) 3 5 0
  rw [show 3 + 5 = 8 from rfl, Nat.zero_add] at hspl
  have hmb5 := mt_b (t := t) (w := sxW 4) (p := p) 5 3
  have hw2 : ∀ m2 : MS, mA m2 0 = mA m 0 → mI m2 1 = mI m 1 → mI m2 12 = nI (p + 3) → f_X7_isWord 23 3 m2 = some (if mt t (sxW 4) p 5 3 = 8 then (1, smI m2 12 (nI (p + 8))) else (0, smI (smI m2 12 (nI (p + mt t (sxW 4) p 5 3))) 13 (nI (p + mt t (sxW 4) p 5 3)))) := by
    intro m2 y1 y2 y3
    have := mwd (j := 23) (a := 3) hT y1 y2 hp (by decide) (by decide) y3
    rw [sx23, show 8 - 3 = 5 from rfl, mt_congr (w := sxW 23) (w' := sxW 4) 5 3 (fun k hk => (wi8 k (by omega)).1)] at this
    exact this
  have hend : p + 3 = n → mt t (sxW 4) p 5 3 = 3 := by
    intro y
    rw [show (5 : Nat) = 4 + 1 from rfl, mt, if_neg]
    rw [g5 (p + 3) (by omega), sm_m1]
    exact fun z => (wi8 3 (by decide)).2 z.symm
  unfold wF
  rw [sx4, rw_sb]
  unfold f_X7_readWord_J12
  simp only [lt]
  generalize hm1 : smI m0 11 0 = m1 at *
  generalize hQ : mt t (sxW 4) p 3 0 = Q at *
  generalize hQ8 : mt t (sxW 4) p 8 0 = Q8 at *
  generalize hQ5 : mt t (sxW 4) p 5 3 = Q5 at *
  rw [hpk]
  simp only [Option.bind, Nat.add_zero]
  rw [if_neg hx]
  change f_X7_isWord 22 0 m1 = _ at hw
  rw [hw]
  simp only
  rw [minf f hf neg]
  by_cases c1 : Q = 3
  · rw [if_pos c1]
    rw [if_pos c1] at hspl
    simp only
    rw [if_neg n10]
    have i12 : mI (smJ (smI m1 12 (nI (p + 3))) 2 (sgn f neg (inf f))) 12 = nI (p + 3) := by rw [mI_smJ, mI_smI]
    have i1 : mI (smJ (smI m1 12 (nI (p + 3))) 2 (sgn f neg (inf f))) 1 = nI n := by rw [mI_smJ, mI_smI_ne (by decide), h1']; exact g3
    have i13 : mI (smJ (smI m1 12 (nI (p + 3))) 2 (sgn f neg (inf f))) 13 = -1 := by rw [mI_smJ, mI_smI_ne (by decide)]; exact h13'
    have i11 : mI (smJ (smI m1 12 (nI (p + 3))) 2 (sgn f neg (inf f))) 11 = 0 := by rw [mI_smJ, mI_smI_ne (by decide)]; exact h11'
    have i2 : mJ (smJ (smI m1 12 (nI (p + 3))) 2 (sgn f neg (inf f))) 2 = sgn f neg (inf f) := mJ_smJ
    have hF2 : Fr [] [11, 12, 13] [2] m0 (smJ (smI m1 12 (nI (p + 3))) 2 (sgn f neg (inf f))) := hF'.trans ((Fr.sI (by decide)).trans (Fr.sJ (by decide)))
    have hw3 := hw2 (smJ (smI m1 12 (nI (p + 3))) 2 (sgn f neg (inf f))) hA' (by rw [i1]; exact g3.symm) i12
    generalize smJ (smI m1 12 (nI (p + 3))) 2 (sgn f neg (inf f)) = m2 at *
    rw [i12, i1]
    by_cases c2 : p + 3 = n
    · rw [if_pos (by rw [c2]), j109 i13 i1 i12 g1 (by omega)]
      have := hend c2
      refine ⟨_, rfl, ?_, hF2.trans (Fr.sI (by decide)), fun _ => ⟨by rw [mJ_smI]; exact i2, by rw [mI_smI_ne (by decide)]; exact i11⟩⟩
      rw [mI_smI, if_neg (fun x => by have := x.2; omega), if_pos ⟨.inr ⟨trivial, by omega⟩, by omega⟩]
    · rw [if_neg (fun y => c2 (by rw [nI_inj (by omega) (by omega)] at y; exact y)), hw3]
      simp only
      by_cases c3 : Q5 = 8
      · rw [if_pos c3]
        simp only
        rw [if_neg n10, j109 (F := -1) (n := n) (q := p + 8) (by rw [mI_smI_ne (by decide)]; exact i13) (by rw [mI_smI_ne (by decide)]; exact i1) mI_smI g1 (by omega)]
        refine ⟨_, rfl, ?_, hF2.trans ((Fr.sI (by decide)).trans (Fr.sI (by decide))), fun _ => ⟨by rw [mJ_smI, mJ_smI]; exact i2, by rw [mI_smI_ne (by decide), mI_smI_ne (by decide)]; exact i11⟩⟩
        rw [mI_smI]
        by_cases c4 : p + Q8 = n
        · rw [if_neg (fun x => by have := x.2; omega), if_pos ⟨.inl (by omega), c4⟩]
        · rw [if_pos ⟨rfl, by omega⟩, if_neg (fun x => c4 x.2), show Q8 = 8 by omega]
      · rw [if_neg c3]
        simp only
        rw [if_pos trivial, j109 (F := nI (p + Q5)) (n := n) (q := p + Q5) mI_smI (by rw [mI_smI_ne (by decide), mI_smI_ne (by decide)]; exact i1) (by rw [mI_smI_ne (by decide), mI_smI]) g1 (by omega)]
        refine ⟨_, rfl, ?_, hF2.trans ((Fr.sI (by decide)).trans ((Fr.sI (by decide)).trans (Fr.sI (by decide)))), fun _ => ⟨by rw [mJ_smI, mJ_smI, mJ_smI]; exact i2, by rw [mI_smI_ne (by decide), mI_smI_ne (by decide), mI_smI_ne (by decide)]; exact i11⟩⟩
        rw [mI_smI, if_neg (fun x => nI_m1 (by omega) x.1), if_neg (fun x => by have h2 := x.2; rcases x.1 with y | ⟨-, y⟩ <;> omega), hspl]
  · rw [if_neg c1]
    rw [if_neg c1] at hspl
    simp only
    rw [if_pos trivial, j109 (F := nI (p + Q)) (n := n) (q := p + Q) mI_smI (by rw [mI_smI_ne (by decide), mI_smI_ne (by decide), h1']; exact g3) (by rw [mI_smI_ne (by decide), mI_smI]) g1 (by omega)]
    refine ⟨_, rfl, ?_, hF'.trans ((Fr.sI (by decide)).trans ((Fr.sI (by decide)).trans (Fr.sI (by decide)))), fun q => ?_⟩
    · rw [mI_smI, if_neg (fun x => nI_m1 (by omega) x.1), if_neg (fun x => by have h2 := x.2; rcases x.1 with y | ⟨-, y⟩ <;> omega), hspl]
    · rw [if_neg (fun x => by have h2 := x.2; rcases x.1 with y | ⟨-, y⟩ <;> omega)] at q
      exact absurd q (nI_m1 (by omega))
