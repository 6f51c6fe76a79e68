/-! what class and reference have in common between two calls -/
def TxI (c : CS) (m : MS) : Prop := ∃ n : Nat, n ≤ 1600 ∧ brN c 0 = nI n ∧ mI m 1 = nI n ∧ ∀ i, i < n → brB c 0 i &&& 255 = mA m 0 i
def OtI (c : CS) (m : MS) : Prop := ∃ n : Nat, n ≤ 1500 ∧ brN c 1 = nI n ∧ mI m 2 = nI n ∧ ∀ i, i < n → brB c 1 i &&& 255 = mA m 1 i
def DcI (c : CS) (m : MS) : Prop := ∃ n : Nat, n ≤ 1420 ∧ dcC c = nI n ∧ mI m 3 = nI n ∧ dcP c = mI m 4 ∧ dcM c = mI m 5 ∧ (dcM c = 0 ∨ dcM c = 1) ∧ ∀ i, i < n → dcD c i = mA m 2 i
def Iv (c : CS) (m : MS) : Prop := TxI c m ∧ OtI c m ∧ DcI c m ∧ (rsP c = mJ m 0 ∧ rsF c = mI m 6) ∧ ∀ r, r < 4 → Rw (rws c r)
theorem Iv.mo {c : CS} {m m' : MS} (h : Iv c m) (hF : Fr [3, 4, 5, 6, 7] [0, 7, 8, 9, 10, 11, 12, 13] [1, 2] m m') : Iv c m' := by
  obtain ⟨fa, fi, fj⟩ := hF
  obtain ⟨⟨n1, t1, t2, t3, t4⟩, ⟨n2, o1, o2, o3, o4⟩, ⟨n3, d1, d2, d3, d4, d5, d6, d7⟩, ⟨r1, r2⟩, w⟩ := h
  refine ⟨⟨n1, t1, t2, ?_, ?_⟩, ⟨n2, o1, o2, ?_, ?_⟩, ⟨n3, d1, d2, ?_, ?_, ?_, d6, ?_⟩, ⟨?_, ?_⟩, w⟩
  · rw [fi 1 (by decide)]; exact t3
  · rw [fa 0 (by decide)]; exact t4
  · rw [fi 2 (by decide)]; exact o3
  · rw [fa 1 (by decide)]; exact o4
  · rw [fi 3 (by decide)]; exact d3
  · rw [fi 4 (by decide)]; exact d4
  · rw [fi 5 (by decide)]; exact d5
  · rw [fa 2 (by decide)]; exact d7
  · rw [fj 0 (by decide)]; exact r1
  · rw [fi 6 (by decide)]; exact r2
theorem Iv.co {c c' : CS} {m : MS} (h : Iv c m) (h1 : c'.1 = c.1) (h2 : c'.2.1 = c.2.1) (h3 : c'.2.2.2.2.2 = c.2.2.2.2.2) (h4 : ∀ r, r < 4 → Rw (rws c' r)) : Iv c' m := by
  obtain ⟨a1, a2, a3, a4, a5⟩ := h
  refine ⟨?_, ?_, ?_, ?_, h4⟩
  · unfold TxI brN brB at a1 ⊢; rw [h1]; exact a1
  · unfold OtI brN brB at a2 ⊢; rw [h1]; exact a2
  · unfold DcI dcC dcP dcM dcD at a3 ⊢; rw [h2]; exact a3
  · unfold rsP rsF at a4 ⊢; rw [h3]; exact a4
theorem rows_srws {c : CS} {r : Nat} {w : RWs} (h : ∀ q, q < 4 → Rw (rws c q)) (hw : Rw w) : ∀ q, q < 4 → Rw (rws (srws c r w) q) := by
  intro q hq
  by_cases h1 : q = r
  · rw [h1, rws_same]; exact hw
  · rw [rws_ne h1]; exact h q hq
theorem Iv.row {c : CS} {m : MS} {r : Nat} {w : RWs} (h : Iv c m) (hw : Rw w) : Iv (srws c r w) m := h.co rfl rfl rfl (rows_srws h.2.2.2.2 hw)
theorem Iv.cs {c : CS} {m : MS} {f : Nat} {neg : Bool} {r : Nat × Nat} (h : Iv c m) : Iv (Cs c f neg r) m := h.co rfl rfl rfl h.2.2.2.2
/-- the result is kept by both -/
theorem Iv.keep {c : CS} {m m' : MS} {f : Nat} {neg : Bool} {r : Nat × Nat} (h : Iv c m) (hF : Fr [3, 4, 5, 6, 7] [0, 7, 8, 9, 10, 11, 12, 13] [1, 2] m m') (h1 : mJ m' 2 = sgn f neg r.1) (h2 : mI m' 11 = Int32.ofNat r.2) : (f_X6_keepResult (Cs c f neg r)).1 = mJ (f_X7_keep m') 0 ∧ Iv (f_X6_keepResult (Cs c f neg r)).2 (f_X7_keep m') ∧ mI (f_X7_keep m') 0 = mI m' 0 := by
  have e1 : mJ (f_X7_keep m') 0 = mJ m' 2 := by unfold f_X7_keep; simp only [lt]; rw [mJ_smI, mJ_smJ]
  have e2 : mI (f_X7_keep m') 6 = mI m' 11 := by unfold f_X7_keep; simp only [lt]; rw [mI_smI, mI_smJ]
  have h' := (h.mo hF)
  obtain ⟨a1, a2, a3, a4, a5⟩ := h'
  refine ⟨?_, ⟨a1, a2, a3, ⟨?_, ?_⟩, a5⟩, rfl⟩
  · rw [e1, h1]; rfl
  · rw [e1, h1]; rfl
  · rw [e2, h2]; rfl
/-! arguments -/
theorem in_spec {x a b : Int64} : f_X7_in x a b = if a.toInt ≤ x.toInt ∧ x.toInt ≤ b.toInt then 1 else 0 := by
  unfold f_X7_in
  by_cases h1 : x < a
  · rw [if_pos h1, if_neg (by rw [llt] at h1; omega)]
  · rw [if_neg h1]
    rw [llt] at h1
    by_cases h2 : b < x
    · rw [if_pos h2, if_neg (by rw [llt] at h2; omega)]
    · rw [if_neg h2, if_pos (by rw [llt] at h2; omega)]
theorem in_i {x : Int32} {a b : Int64} : f_X7_in x.toInt64 a b = if a.toInt ≤ x.toInt ∧ x.toInt ≤ b.toInt then 1 else 0 := by rw [in_spec, il]
theorem of_nat {x : Int32} {n : Nat} (h : x.toInt = n) (hn : n < 2147483648) : x = Int32.ofNat n := by rw [ieq, h, Int32.toInt_ofNat_of_lt (by omega)]
theorem l0 : (0 : Int64).toInt = 0 := by decide
theorem l3 : (3 : Int64).toInt = 3 := by decide
theorem l4 : (4 : Int64).toInt = 4 := by decide
theorem l2 : (2 : Int64).toInt = 2 := by decide
theorem a_shape (x : Int32) : (f_X6_shapeOf x = some (.inl ()) ∧ f_X7_in x.toInt64 0 3 = 0) ∨ ∃ f, f < 4 ∧ x = Int32.ofNat f ∧ f_X6_shapeOf x = some (.inr f) ∧ f_X7_in x.toInt64 0 3 = 1 := by
  have e4 : (4 : Int32).toInt = 4 := by decide
  rw [in_i, l0, l3]
  unfold f_X6_shapeOf
  by_cases h1 : x.toInt < 0
  · rw [if_pos (by rw [ilt, k0]; omega), if_neg (by omega)]; exact .inl ⟨rfl, rfl⟩
  · rw [if_neg (by rw [ilt, k0]; omega)]
    by_cases h2 : x.toInt < 4
    · rw [if_pos (by rw [ilt, e4]; omega), if_pos (by omega)]
      exact .inr ⟨x.toInt.toNat, by omega, of_nat (by omega) (by omega), rfl, rfl⟩
    · rw [if_neg (by rw [ilt, e4]; omega), if_neg (by omega)]; exact .inl ⟨rfl, rfl⟩
theorem a_way (x : Int32) : (f_X6_needWay x = some (.inl ()) ∧ f_X7_in x.toInt64 0 4 = 0) ∨ ∃ w, w < 5 ∧ x = Int32.ofNat w ∧ f_X6_needWay x = some (.inr ()) ∧ f_X7_in x.toInt64 0 4 = 1 := by
  have e4 : (4 : Int32).toInt = 4 := by decide
  rw [in_i, l0, l4]
  unfold f_X6_needWay
  by_cases h1 : x.toInt < 0
  · rw [if_pos (by rw [ilt, k0]; omega), if_neg (by omega)]; exact .inl ⟨rfl, rfl⟩
  · rw [if_neg (by rw [ilt, k0]; omega)]
    by_cases h2 : x.toInt ≤ 4
    · rw [if_pos (by rw [ile, e4]; omega), if_pos (by omega)]
      exact .inr ⟨x.toInt.toNat, by omega, of_nat (by omega) (by omega), rfl, rfl⟩
    · rw [if_neg (by rw [ile, e4]; omega), if_neg (by omega)]; exact .inl ⟨rfl, rfl⟩
theorem a_form (x : Int32) : (f_X6_needForm x = some (.inl ()) ∧ f_X7_isForm x = 0) ∨ ∃ w, w < 3 ∧ x = Int32.ofNat w ∧ f_X6_needForm x = some (.inr ()) ∧ f_X7_isForm x = 1 := by
  have e4 : (2 : Int32).toInt = 2 := by decide
  unfold f_X7_isForm
  rw [in_i, l0, l2]
  unfold f_X6_needForm
  by_cases h1 : x.toInt < 0
  · rw [if_pos (by rw [ilt, k0]; omega), if_neg (by omega)]; exact .inl ⟨rfl, rfl⟩
  · rw [if_neg (by rw [ilt, k0]; omega)]
    by_cases h2 : x.toInt ≤ 2
    · rw [if_pos (by rw [ile, e4]; omega), if_pos (by omega)]
      exact .inr ⟨x.toInt.toNat, by omega, of_nat (by omega) (by omega), rfl, rfl⟩
    · rw [if_neg (by rw [ile, e4]; omega), if_neg (by omega)]; exact .inl ⟨rfl, rfl⟩
theorem a_tens (x : Int32) : (f_X6_needTens x = some (.inl ()) ∧ f_X7_in x.toInt64 (-5000) 5000 = 0) ∨ (-5000 ≤ x.toInt ∧ x.toInt ≤ 5000 ∧ f_X6_needTens x = some (.inr ()) ∧ f_X7_in x.toInt64 (-5000) 5000 = 1) := by
  have e1 : (-5000 : Int32).toInt = -5000 := by decide
  have e2 : (5000 : Int32).toInt = 5000 := by decide
  have e3 : (-5000 : Int64).toInt = -5000 := by decide
  have e4 : (5000 : Int64).toInt = 5000 := by decide
  rw [in_i, e3, e4]
  unfold f_X6_needTens
  by_cases h1 : x.toInt < -5000
  · rw [if_pos (by rw [ilt, e1]; omega), if_neg (by omega)]; exact .inl ⟨rfl, rfl⟩
  · rw [if_neg (by rw [ilt, e1]; omega)]
    by_cases h2 : x.toInt ≤ 5000
    · rw [if_pos (by rw [ile, e2]; omega), if_pos (by omega)]
      exact .inr ⟨by omega, h2, rfl, rfl⟩
    · rw [if_neg (by rw [ile, e2]; omega), if_neg (by omega)]; exact .inl ⟨rfl, rfl⟩
theorem wd_eq : ∀ f, f < 4 → f_X7_bitsOf (Int32.ofNat f) = fW f ∧ (fW f).toInt = wdt f ∧ 2 ^ wdt f = 2 * sb f ∧ (fW f = 64) = (f = 0) ∧ (Int32.ofNat f = 0) = (f = 0) ∧ (f ≠ 0 → wdt f < 64) := f4 (by decide +kernel) (by decide +kernel) (by decide +kernel) (by decide +kernel)
theorem sgn_all {f : Nat} (hf : f < 4) {x : Int64} (h : x.toBitVec.toNat < 2 * sb f) : ∃ neg s, s < sb f ∧ x = sgn f neg s := by
  have hs := sb_eq f hf
  by_cases h1 : x.toBitVec.toNat < sb f
  · refine ⟨false, x.toBitVec.toNat, h1, eq_n ?_⟩
    rw [sgn_n hf h1]; simp
  · refine ⟨true, x.toBitVec.toNat - sb f, by omega, eq_n ?_⟩
    rw [sgn_n hf (by omega)]; simp; omega
theorem a_pat {f : Nat} (hf : f < 4) (x : Int64) : (f_X6_needPattern f x = some (.inl ()) ∧ f_X7_isPattern (Int32.ofNat f) x = 0) ∨ ∃ neg s, s < sb f ∧ x = sgn f neg s ∧ f_X6_needPattern f x = some (.inr ()) ∧ f_X7_isPattern (Int32.ofNat f) x = 1 := by
  obtain ⟨w1, w2, w3, w4, w5, w6⟩ := wd_eq f hf
  have hin : f_X7_in (Int32.ofNat f).toInt64 0 3 = 1 := by
    rw [in_i, l0, l3, Int32.toInt_ofNat_of_lt (by omega), if_pos (by omega)]
  have hx := x.toBitVec.isLt
  unfold f_X6_needPattern f_X2_owns f_X7_isPattern
  rw [hin, if_neg (show ¬ (1 : Int32) = 0 by decide), w1]
  simp only [w4, w5]
  by_cases h0 : f = 0
  · rw [if_pos h0, if_neg (show ¬ (1 : Int32) = 0 by decide)]
    obtain ⟨neg, s, g1, g2⟩ := sgn_all hf (x := x) (by rw [← w3, h0]; exact hx)
    exact .inr ⟨neg, s, g1, g2, rfl, rfl⟩
  · rw [if_neg h0]
    have hj := jushr_nat (x := x) (y := fW f) (k := wdt f) w2 (w6 h0)
    by_cases h1 : jushr x (fW f) = 0
    · rw [if_pos h1, if_neg (show ¬ (1 : Int32) = 0 by decide)]
      rw [h1] at hj
      have h2 : x.toBitVec.toNat < 2 ^ wdt f := dz (pp2 _) hj.symm
      obtain ⟨neg, s, g1, g2⟩ := sgn_all hf (x := x) (by rw [← w3]; exact h2)
      exact .inr ⟨neg, s, g1, g2, rfl, rfl⟩
    · rw [if_neg h1, if_pos rfl]
      exact .inl ⟨rfl, rfl⟩
theorem a_own (x1 : Int32) (x2 : Int64) : (f_X6_shapeOwning x1 x2 = some (.inl ()) ∧ f_X7_isPattern x1 x2 = 0) ∨ ∃ f neg s, f < 4 ∧ x1 = Int32.ofNat f ∧ s < sb f ∧ x2 = sgn f neg s ∧ f_X6_shapeOwning x1 x2 = some (.inr f) ∧ f_X7_isPattern x1 x2 = 1 := by
  rcases a_shape x1 with ⟨h1, h2⟩ | ⟨f, hf, h1, h2, h3⟩
  · refine .inl ⟨?_, ?_⟩
    · unfold f_X6_shapeOwning; rw [h1]; rfl
    · unfold f_X7_isPattern; rw [h2, if_pos rfl]
  · rcases a_pat hf x2 with ⟨g1, g2⟩ | ⟨neg, s, g1, g2, g3, g4⟩
    · refine .inl ⟨?_, by rw [h1]; exact g2⟩
      unfold f_X6_shapeOwning; rw [h2]
      show tbd (f_X6_needPattern f x2) _ = _
      rw [g1]; rfl
    · refine .inr ⟨f, neg, s, hf, h1, g1, g2, ?_, by rw [h1]; exact g4⟩
      unfold f_X6_shapeOwning; rw [h2]
      show tbd (f_X6_needPattern f x2) _ = _
      rw [g3]; rfl
/-! what a pattern tells, to both -/
theorem x_size {f : Nat} (hf : f < 4) (x : Int64) : f_X7_sizeOf (Int32.ofNat f) x = f_X2_sizeOf f x := by unfold f_X7_sizeOf f_X2_sizeOf; rw [cm_sb f hf]
theorem x_minus {f : Nat} (hf : f < 4) (x : Int64) : f_X7_isMinus (Int32.ofNat f) x = f_X2_isMinus f x := by unfold f_X7_isMinus f_X2_isMinus; rw [cm_sb f hf]
theorem x_nan {f : Nat} (hf : f < 4) (x : Int64) : f_X7_isNan (Int32.ofNat f) x = f_X2_isNan f x := by unfold f_X7_isNan f_X2_isNan; rw [cm_inf f hf, x_size hf]
theorem x_fin {f : Nat} (hf : f < 4) (x : Int64) : f_X7_isFinite (Int32.ofNat f) x = f_X2_isFinite f x := by unfold f_X7_isFinite f_X2_isFinite; rw [cm_inf f hf, x_size hf]
theorem x_place {f : Nat} (hf : f < 4) (x : Int64) : f_X7_placeOf (Int32.ofNat f) x = f_X2_placeOf f x := by unfold f_X7_placeOf f_X2_placeOf; rw [x_minus hf, x_size hf]
theorem L64_lt {f s : Nat} (hf : f < 4) (hs : s < sb f) : (L64 s).toInt = s := L64_i (by have := sb_eq f hf; omega)
theorem s_fin {f s : Nat} {neg : Bool} (hf : f < 4) (hs : s < sb f) : f_X2_isFinite f (sgn f neg s) = if inf f ≤ s then 0 else 1 := by
  unfold f_X2_isFinite
  rw [sgn_size hf hs]
  by_cases h : inf f ≤ s
  · rw [if_pos h, if_pos (by rw [lle, c_inf f hf, L64_lt hf hs]; omega)]
  · rw [if_neg h, if_neg (by rw [lle, c_inf f hf, L64_lt hf hs]; omega)]
theorem s_nan {f s : Nat} {neg : Bool} (hf : f < 4) (hs : s < sb f) : f_X2_isNan f (sgn f neg s) = if s ≤ inf f then 0 else 1 := by
  unfold f_X2_isNan
  rw [sgn_size hf hs]
  by_cases h : s ≤ inf f
  · rw [if_pos h, if_pos (by rw [lle, c_inf f hf, L64_lt hf hs]; omega)]
  · rw [if_neg h, if_neg (by rw [lle, c_inf f hf, L64_lt hf hs]; omega)]
theorem L64_z {f s : Nat} (hf : f < 4) (hs : s < sb f) : (L64 s = 0) = (s = 0) := by
  rw [leq, L64_lt hf hs, l0]; simp only [eq_iff_iff]; omega
theorem s_zero {f s : Nat} {neg : Bool} (hf : f < 4) (hs : s < sb f) : f_X2_isZero f (sgn f neg s) = if s = 0 then 1 else 0 := by
  unfold f_X2_isZero
  rw [sgn_size hf hs]
  simp only [L64_z hf hs]
/-! answers -/
theorem refuse0 {m : MS} : f_X7_refuses 0 m = (1, smI m 0 1) := rfl
theorem refuse1 {m : MS} : f_X7_refuses 1 m = (0, smI m 0 0) := rfl
theorem Iv.thr {c : CS} {m : MS} {v : Int32} (h : Iv c m) : Iv c (smI m 0 v) := h.mo (Fr.sI (by decide))
theorem ag_no {cl : CS → Option (Unit ⊕ (Int64 × CS))} {mo : MS → Option (Int64 × MS)} {c : CS} {m : MS} {v : Int64} (h : Iv c m) (hm : mo m = some (v, smI m 0 1)) (hc : cl c = some (.inl ())) : ∃ v m', mo m = some (v, m') ∧ ((cl c = some (.inl ()) ∧ mI m' 0 = 1 ∧ Iv c m') ∨ ∃ c', cl c = some (.inr (v, c')) ∧ mI m' 0 = 0 ∧ Iv c' m') :=
  ⟨v, _, hm, .inl ⟨hc, mI_smI, h.thr⟩⟩
theorem ag_yes {cl : CS → Option (Unit ⊕ (Int64 × CS))} {mo : MS → Option (Int64 × MS)} {c c' : CS} {m m' : MS} {v : Int64} (hm : mo m = some (v, m')) (hc : cl c = some (.inr (v, c'))) (h0 : mI m' 0 = 0) (h : Iv c' m') : ∃ v m', mo m = some (v, m') ∧ ((cl c = some (.inl ()) ∧ mI m' 0 = 1 ∧ Iv c m') ∨ ∃ c', cl c = some (.inr (v, c')) ∧ mI m' 0 = 0 ∧ Iv c' m') :=
  ⟨v, m', hm, .inr ⟨c', hc, h0, h⟩⟩
theorem tbd_l {α β : Type} {g : α → Option (Unit ⊕ β)} : tbd (some (.inl ())) g = some (.inl ()) := rfl
theorem tbd_r {α β : Type} {g : α → Option (Unit ⊕ β)} {v : α} : tbd (some (.inr v)) g = g v := rfl
