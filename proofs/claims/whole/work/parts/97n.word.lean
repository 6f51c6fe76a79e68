/-! words -/
def mt (t : Nat → Int32) (w : Nat → Int32) (p : Nat) : Nat → Nat → Nat
  | 0, i => i
  | r + 1, i => if f_X7_small (t (p + i)) = w i then mt t w p r (i + 1) else i
theorem mt_b {t w : Nat → Int32} {p : Nat} : ∀ r i, i ≤ mt t w p r i ∧ mt t w p r i ≤ i + r := by
  intro r
  induction r with
  | zero => intro i; exact ⟨Nat.le_refl _, Nat.le_refl _⟩
  | succ r ih =>
    intro i
    rw [mt]
    split
    · have := ih (i + 1); omega
    · omega
theorem mt_n {t w : Nat → Int32} {p n : Nat} (ht : ∀ i, n ≤ i → t i = -1) : ∀ r i, (∀ k, k < i + r → w k ≠ -1) → p + i ≤ n → p + mt t w p r i ≤ n := by
  intro r
  induction r with
  | zero => intro i _ h; exact h
  | succ r ih =>
    intro i hw h
    rw [mt]
    split
    next hc =>
      refine ih (i + 1) (fun k hk => hw k (by omega)) ?_
      rcases Nat.lt_or_ge (p + i) n with x | x
      · omega
      · rw [ht _ x, sm_m1] at hc
        exact absurd hc.symm (hw i (by omega))
    · exact h
theorem mt_add {t w : Nat → Int32} {p : Nat} : ∀ a r i, mt t w p (a + r) i = if mt t w p a i = i + a then mt t w p r (i + a) else mt t w p a i := by
  intro a
  induction a with
  | zero => intro r i; rw [Nat.zero_add, mt, if_pos (by omega)]; rfl
  | succ a ih =>
    intro r i
    rw [show a + 1 + r = (a + r) + 1 by omega, mt, mt]
    by_cases hc : f_X7_small (t (p + i)) = w i
    · rw [if_pos hc, if_pos hc, ih, show i + 1 + a = i + (a + 1) by omega]
    · rw [if_neg hc, if_neg hc, if_neg (by omega)]
theorem mt_congr {t w w' : Nat → Int32} {p : Nat} : ∀ r i, (∀ k, k < i + r → w k = w' k) → mt t w p r i = mt t w' p r i := by
  intro r
  induction r with
  | zero => intro i _; rfl
  | succ r ih =>
    intro i h
    rw [mt, mt, h i (by omega), ih (i + 1) (fun k hk => h k (by omega))]
theorem cwd {c : CS} {m : MS} {t : Nat → Int32} {n p j : Nat} (hT : Tx c m t n) (hp : p ≤ n) (hj : sxN j < 100) {S : Int32 × Int32 × Int32 × Int32 × Int32 × Int32 × Int32 × Int32} : f_X5_faultOfWord 0 (nI p) j (scs c S) = some (if (mt t (sxW j) p (sxN j) 0 = sxN j ∨ (S.1 = 2 ∧ mt t (sxW j) p (sxN j) 0 = 3)) ∧ p + mt t (sxW j) p (sxN j) 0 = n then -1 else nI (p + mt t (sxW j) p (sxN j) 0)) := by
  have hT' := hT
  obtain ⟨g1, g2, g3, g4, g5, g6⟩ := hT'
  have hlen : f_JS_length j = nI (sxN j) := nIeq (sx_len j (by omega)) (by omega)
  have hb := mt_b (t := t) (w := sxW j) (p := p) (sxN j) 0
  generalize hQ : mt t (sxW j) p (sxN j) 0 = Q at hb ⊢
  have hadd : ∀ i : Nat, i ≤ 100 → nI p + nI i = nI (p + i) := fun i hi => nIeq (by rw [ia (by rw [nI_toInt (by omega), nI_toInt (by omega)]; omega) (by rw [nI_toInt (by omega), nI_toInt (by omega)]; omega), nI_toInt (by omega), nI_toInt (by omega)]; omega) (by omega)
  obtain ⟨_, k1, rfl⟩ := Lp_inv (F := fun a => f_X5_faultOfWord_L3 0 (nI p) j a (scs c S)) (fun q a => ∃ i : Nat, a = nI i ∧ i + q = sxN j ∧ mt t (sxW j) p q i = Q) (fun z => z = nI Q) (by
    rintro q _ ⟨i, rfl, a1, a2⟩
    show (∃ z, f_X5_faultOfWord_L3 0 (nI p) j (nI i) (scs c S) = _ ∧ _) ∨ ∃ a' n', f_X5_faultOfWord_L3 0 (nI p) j (nI i) (scs c S) = _ ∧ _
    unfold f_X5_faultOfWord_L3
    rw [hlen]
    cases q with
    | zero =>
      rw [if_pos ((cle2 (by omega) (by omega)).mpr (by omega))]
      exact .inl ⟨_, rfl, by rw [← a2]; rfl⟩
    | succ q =>
      rw [if_neg (fun x => by have := (cle2 (by omega) (by omega)).mp x; omega), sx_char (by omega) (by omega), hadd i (by omega)]
      have hat : f_X0_at 0 (nI (p + i)) c = t (p + i) := hT.atc (nI_toInt (by omega))
      simp only [Option.bind, lt]
      rw [scs_at, hat, sm_eq (g6 _).1 (g6 _).2, nI_inc (by omega)]
      rw [mt] at a2
      by_cases hc : f_X7_small (t (p + i)) = sxW j i
      · rw [if_pos hc]; rw [if_pos hc] at a2
        exact .inr ⟨_, q, rfl, by omega, i + 1, rfl, by omega, a2⟩
      · rw [if_neg hc]; rw [if_neg hc] at a2
        exact .inl ⟨_, rfl, by rw [a2]⟩) (sxN j) 0 ⟨0, rfl, by omega, hQ⟩
  have hN : brN (scs c S) 0 = nI n := g2
  have j1 : f_X5_faultOfWord_J66 0 (nI p) (nI Q) 1 (scs c S) = some (if p + Q = n then -1 else nI (p + Q)) := by
    unfold f_X5_faultOfWord_J66
    rw [if_neg n10, hadd Q (by omega), hN]
    by_cases x : p + Q = n
    · rw [if_pos (by rw [x]), if_pos x]
    · rw [if_neg (fun y => x (by rw [nI_inj (by omega) (by omega)] at y; exact y)), if_neg x]
  have j0 : f_X5_faultOfWord_J66 0 (nI p) (nI Q) 0 (scs c S) = some (nI (p + Q)) := by
    unfold f_X5_faultOfWord_J66
    rw [if_pos rfl, hadd Q (by omega)]
  have hs0 : sc0 (scs c S) = S.1 := rfl
  unfold f_X5_faultOfWord
  rw [k1]
  simp only [Option.bind]
  rw [hlen, hs0, j1, j0]
  have eL : (nI Q = nI (sxN j)) = (Q = sxN j) := nI_inj (by omega) (by omega)
  have eT : (nI Q = 3) = (Q = 3) := by rw [show (3 : Int32) = nI 3 from rfl]; exact nI_inj (by omega) (by omega)
  by_cases c1 : Q = sxN j
  · rw [if_pos (eL.mpr c1)]
    by_cases x : p + Q = n
    · rw [if_pos x, if_pos ⟨.inl c1, x⟩]
    · rw [if_neg x, if_neg (fun y => x y.2)]
  · rw [if_neg (fun y => c1 (eL.mp y))]
    by_cases c2 : S.1 = 2
    · rw [if_pos c2]
      by_cases c3 : Q = 3
      · rw [if_pos (eT.mpr c3)]
        by_cases x : p + Q = n
        · rw [if_pos x, if_pos ⟨.inr ⟨c2, c3⟩, x⟩]
        · rw [if_neg x, if_neg (fun y => x y.2)]
      · rw [if_neg (fun y => c3 (eT.mp y)), if_neg (fun y => by rcases y.1 with z | z; exact c1 z; exact c3 z.2)]
    · rw [if_neg c2, if_neg (fun y => by rcases y.1 with z | z; exact c1 z; exact c2 z.1)]
theorem mwd {c : CS} {m m0 : MS} {t : Nat → Int32} {n p j a : Nat} (hT : Tx c m t n) (hA : mA m0 0 = mA m 0) (h1 : mI m0 1 = mI m 1) (hp : p ≤ n) (hj : sxN j < 100) (ha : a ≤ sxN j) (h12 : mI m0 12 = nI (p + a)) : f_X7_isWord j (nI a) m0 = some (if mt t (sxW j) p (sxN j - a) a = sxN j then (1, smI m0 12 (nI (p + sxN j))) else (0, smI (smI m0 12 (nI (p + mt t (sxW j) p (sxN j - a) a))) 13 (nI (p + mt t (sxW j) p (sxN j - a) a)))) := by
  have hT' := hT
  obtain ⟨g1, g2, g3, g4, g5, g6⟩ := hT'
  have hlen : f_JS_length j = nI (sxN j) := nIeq (sx_len j (by omega)) (by omega)
  have hb := mt_b (t := t) (w := sxW j) (p := p) (sxN j - a) a
  generalize hQ : mt t (sxW j) p (sxN j - a) a = Q at hb ⊢
  obtain ⟨_, k1, rfl⟩ := Lp_inv (F := fun a => f_X7_isWord_L2 j a.1 a.2) (fun q b => ∃ i : Nat, b = (nI i, smI m0 12 (nI (p + i))) ∧ i + q = sxN j ∧ mt t (sxW j) p q i = Q) (fun z => z = if Q = sxN j then .inr (smI m0 12 (nI (p + sxN j))) else .inl (smI m0 12 (nI (p + Q)))) (by
    rintro q _ ⟨i, rfl, a1, a2⟩
    show (∃ z, f_X7_isWord_L2 j (nI i) (smI m0 12 (nI (p + i))) = _ ∧ _) ∨ ∃ a' n', f_X7_isWord_L2 j (nI i) (smI m0 12 (nI (p + i))) = _ ∧ _
    have hpk : f_X7_peek (smI m0 12 (nI (p + i))) = some (t (p + i)) := hT.pk (by rw [mA_smI]; exact hA) (by rw [mI_smI_ne (by decide)]; exact h1) mI_smI (by omega)
    unfold f_X7_isWord_L2
    rw [hlen]
    cases q with
    | zero =>
      rw [if_pos ((cle2 (by omega) (by omega)).mpr (by omega))]
      rw [mt] at a2
      exact .inl ⟨_, rfl, by rw [if_pos (by omega), show i = sxN j by omega]⟩
    | succ q =>
      rw [if_neg (fun x => by have := (cle2 (by omega) (by omega)).mp x; omega), hpk, sx_char (by omega) (by omega)]
      simp only [Option.bind, lt]
      rw [mI_smI, smI_smI, nI_inc (by omega), nI_inc (by omega)]
      rw [mt] at a2
      by_cases hc : f_X7_small (t (p + i)) = sxW j i
      · rw [if_pos hc]; rw [if_pos hc] at a2
        exact .inr ⟨_, q, rfl, by omega, i + 1, rfl, by omega, a2⟩
      · rw [if_neg hc]; rw [if_neg hc] at a2
        exact .inl ⟨_, rfl, by rw [if_neg (by omega), a2]⟩) (sxN j - a) (nI a, m0) ⟨a, by rw [← h12, smI_self], by omega, hQ⟩
  unfold f_X7_isWord
  rw [k1]
  simp only [Option.bind]
  by_cases c1 : Q = sxN j
  · rw [if_pos c1, if_pos c1]; rfl
  · rw [if_neg c1, if_neg c1]
    show (lt (smI (smI m0 12 (nI (p + Q))) 13 (mI (smI m0 12 (nI (p + Q))) 12)) fun m_10 => some ((0 : Int32), m_10)) = _
    rw [mI_smI]; rfl
theorem sx3 : sxN 3 = 3 := by decide
theorem sx4 : sxN 4 = 8 := by decide
theorem sx21 : sxN 21 = 3 := by decide
theorem sx22 : sxN 22 = 3 := by decide
theorem sx23 : sxN 23 = 8 := by decide
theorem wn : ∀ k, k < 3 → sxW 21 k = sxW 3 k ∧ sxW 3 k ≠ -1 := by decide
theorem wi3 : ∀ k, k < 3 → sxW 22 k = sxW 4 k := by decide
theorem wi8 : ∀ k, k < 8 → sxW 23 k = sxW 4 k ∧ sxW 4 k ≠ -1 := by decide
/-- the reference's word -/
def wF (t : Nat → Int32) (n p : Nat) (k : Int32) (j : Nat) : Int32 := if (mt t (sxW j) p (sxN j) 0 = sxN j ∨ (k = 2 ∧ mt t (sxW j) p (sxN j) 0 = 3)) ∧ p + mt t (sxW j) p (sxN j) 0 = n then -1 else nI (p + mt t (sxW j) p (sxN j) 0)
theorem nI_m1 {i : Nat} (hi : i ≤ 100000) : nI i ≠ -1 := fun q => by
  have e1 : (-1 : Int32).toInt = -1 := by decide
  rw [ieq, nI_toInt (by omega), e1] at q
  omega
theorem j109 {m : MS} {F : Int32} {n q : Nat} (h13 : mI m 13 = F) (h1 : mI m 1 = nI n) (h12 : mI m 12 = nI q) (hn : n ≤ 1600) (hq : q ≤ 2000) : f_X7_readWord_J109 m = some (smI m 13 (if F = -1 ∧ q < n then nI q else F)) := by
  unfold f_X7_readWord_J109
  rw [h13, h1, h12]
  simp only [lt]
  by_cases c1 : F = -1
  · rw [if_pos c1]
    by_cases c2 : n ≤ q
    · rw [if_pos ((cle2 (by omega) (by omega)).mpr c2), if_neg (by omega)]
    · rw [if_neg (fun x => c2 ((cle2 (by omega) (by omega)).mp x)), if_pos ⟨c1, by omega⟩]
  · rw [if_neg c1, if_neg (fun x => c1 x.1)]
