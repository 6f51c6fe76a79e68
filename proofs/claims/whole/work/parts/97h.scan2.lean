/-! the reference takes figures; exponents; words -/
theorem scn_ge {t : Nat → Int32} {b : Nat} : ∀ (r i : Nat) (pt : Bool) (D : List Nat) (bh : Nat), i ≤ (scn t b r i pt D bh).1 := by
  intro r
  induction r with
  | zero => intro i pt D bh; exact Nat.le_refl _
  | succ r ih =>
    intro i pt D bh
    rw [scn]
    by_cases c1 : t i = 46 ∧ pt = false
    · rw [if_pos c1]; have := ih (i + 1) true D bh; omega
    · rw [if_neg c1]
      by_cases c2 : vd (t i) < b
      · rw [if_pos c2]; have := ih (i + 1) pt (D ++ [vd (t i)]) (bh + (if pt then 1 else 0)); omega
      · rw [if_neg c2]; exact Nat.le_refl _
theorem mtf {c : CS} {m m0 : MS} {t : Nat → Int32} {n b p : Nat} (hT : Tx c m t n) (hA : mA m0 0 = mA m 0) (h1 : mI m0 1 = mI m 1) (hp : p ≤ n) (h12 : mI m0 12 = nI p) (hb : b = 10 ∨ b = 16) {bb : Int32} (hbb : bb.toInt = b) {E : Nat} {pt : Bool} {D : List Nat} {bh : Nat} (hs : scn t b (n - p) p false [] 0 = (E, pt, D, bh)) : ∃ v, f_X7_takeFigures bb m0 = (if D.length = 0 then some (-1, smI (smI (smI (smA m0 7 v) 10 (nI D.length)) 12 (nI E)) 13 (nI E)) else some (nI bh, smI (smI (smA m0 7 v) 10 (nI D.length)) 12 (nI E))) ∧ ∀ k, k < D.length → (v k).toInt = ((D.getD k 0 : Nat) : Int) := by
  have hT' := hT
  obtain ⟨g1, g2, g3, g4, g5, g6⟩ := hT'
  obtain ⟨_, k1, v, rfl, k3⟩ := Lp_inv (F := fun a => f_X7_takeFigures_L9 bb a.1 a.2.1 a.2.2) (fun q a => ∃ (i : Nat) (pt' : Bool) (D' : List Nat) (bh' : Nat) (v : Nat → Int32), a = (nb pt', nI bh', smI (smI (smA m0 7 v) 10 (nI D'.length)) 12 (nI i)) ∧ i + q = n ∧ p ≤ i ∧ D'.length ≤ i - p ∧ bh' ≤ D'.length ∧ (∀ k, k < D'.length → (v k).toInt = ((D'.getD k 0 : Nat) : Int)) ∧ scn t b q i pt' D' bh' = (E, pt, D, bh)) (fun z => ∃ v, z = (nI bh, smI (smI (smA m0 7 v) 10 (nI D.length)) 12 (nI E)) ∧ ∀ k, k < D.length → (v k).toInt = ((D.getD k 0 : Nat) : Int)) (by
    rintro q _ ⟨i, pt', D', bh', v, rfl, a1, a2, a3, a4, a5, a6⟩
    show (∃ z, f_X7_takeFigures_L9 bb (nb pt') (nI bh') (smI (smI (smA m0 7 v) 10 (nI D'.length)) 12 (nI i)) = _ ∧ _) ∨ ∃ a' n', f_X7_takeFigures_L9 bb (nb pt') (nI bh') (smI (smI (smA m0 7 v) 10 (nI D'.length)) 12 (nI i)) = _ ∧ _
    have hpk : f_X7_peek (smI (smI (smA m0 7 v) 10 (nI D'.length)) 12 (nI i)) = some (t i) := hT.pk (by rw [mA_smI, mA_smI, smA_ne (by decide)]; exact hA) (by rw [mI_smI_ne (by decide), mI_smI_ne (by decide), mI_smA]; exact h1) mI_smI (by omega)
    obtain ⟨v1, v2, v3⟩ := vd_p (g6 i).1 (g6 i).2
    have hinc : nI i + 1 = nI (i + 1) := nI_inc (by omega)
    have hst : ∀ (w : Nat → Int32) (l : Nat), smI (smI (smI (smA m0 7 w) 10 (nI l)) 12 (nI i)) 12 (mI (smI (smI (smA m0 7 w) 10 (nI l)) 12 (nI i)) 12 + 1) = smI (smI (smA m0 7 w) 10 (nI l)) 12 (nI (i + 1)) := fun w l => by rw [mI_smI, smI_smI, hinc]
    unfold f_X7_takeFigures_L9
    rw [hpk]; simp only [Option.bind]
    by_cases hv : vd (t i) < b
    · have hlt : i < n := by
        rcases Nat.lt_or_ge i n with x | x
        · exact x
        · exfalso
          have := g5 i x
          rw [this] at hv
          have e99 : vd (-1) = 99 := by decide
          rw [e99] at hv
          rcases hb with rfl | rfl <;> omega
      rw [if_pos (by rw [ilt, v1, hbb]; omega)]
      have hn46 : t i ≠ 46 := by
        rcases v2 with ⟨-, -, x, -⟩ | ⟨x, -⟩
        · exact x
        · rcases hb with rfl | rfl <;> omega
      obtain ⟨q', rfl⟩ : ∃ q', q = q' + 1 := ⟨q - 1, by omega⟩
      rw [scn, if_neg (fun x => hn46 x.1), if_pos hv] at a6
      unfold f_X7_takeFigures_J33
      rw [hpk]; simp only [Option.bind]
      rw [if_neg hn46]
      have m10 : mI (smI (smI (smA m0 7 v) 10 (nI D'.length)) 12 (nI i)) 10 = nI D'.length := by rw [mI_smI_ne (by decide), mI_smI]
      have m7 : mA (smI (smI (smA m0 7 v) 10 (nI D'.length)) 12 (nI i)) 7 = v := by rw [mA_smI, mA_smI, smA_same]
      rw [m10, if_pos ((vIn (by omega)).mpr (by show D'.length < 1600; omega)), nI_clamp (show D'.length < 2 ^ 31 by omega), m7]
      simp only [lt]
      have hst2 : smI (smA (smI (smI (smA m0 7 v) 10 (nI D'.length)) 12 (nI i)) 7 (upd v D'.length (f_X7_figure (t i)))) 10 (mI (smA (smI (smI (smA m0 7 v) 10 (nI D'.length)) 12 (nI i)) 7 (upd v D'.length (f_X7_figure (t i)))) 10 + 1) = smI (smI (smA m0 7 (upd v D'.length (f_X7_figure (t i)))) 10 (nI (D' ++ [vd (t i)]).length)) 12 (nI i) := by
        rw [mI_smA, m10, nI_inc (by omega), smA_smI, smA_smI, smA_smA, smI_comm (i := 12) (j := 10) (by decide), smI_smI, lenN]
      rw [hst2]
      have hbh : (if pt' = true then (nI bh' + 1) else (nI bh' + 0)) = nI (bh' + (if pt' then 1 else 0)) := by
        cases pt'
        · have z0 : (0 : Int32).toInt = 0 := by decide
          simp only [Bool.false_eq_true, if_false]
          rw [ieq, ia (by rw [nI_toInt (by omega), z0]; omega) (by rw [nI_toInt (by omega), z0]; omega), z0, nI_toInt (by omega), nI_toInt (by omega)]; omega
        · simp only [if_true]; exact nI_inc (by omega)
      right
      refine ⟨(nb pt', nI (bh' + (if pt' then 1 else 0)), smI (smI (smA m0 7 (upd v D'.length (f_X7_figure (t i)))) 10 (nI (D' ++ [vd (t i)]).length)) 12 (nI (i + 1))), q', ?_, by omega, i + 1, pt', D' ++ [vd (t i)], bh' + (if pt' then 1 else 0), upd v D'.length (f_X7_figure (t i)), rfl, by omega, by omega, by rw [lenN]; omega, by rw [lenN]; split <;> omega, fun k hk => ?_, a6⟩
      · unfold f_X7_takeFigures_J85
        simp only [lt]
        rw [hst]
        cases pt'
        · simp only [Bool.false_eq_true, if_false] at hbh ⊢
          rw [if_pos (show nb false = 0 from rfl), hbh]
        · simp only [if_true] at hbh ⊢
          rw [if_neg (show ¬ nb true = 0 by decide), hbh]
      · rw [lenN] at hk
        by_cases hk2 : k = D'.length
        · rw [hk2, upd_eq, gN_last]; exact v1
        · rw [upd_ne hk2, gN_app (by omega)]; exact a5 k (by omega)
    · rw [if_neg (by rw [ilt, v1, hbb]; omega)]
      have stop : scn t b q i pt' D' bh' = (i, pt', D', bh') ∨ (t i = 46 ∧ pt' = false ∧ i < n) := by
        by_cases hd : t i = 46 ∧ pt' = false
        · by_cases hin : i < n
          · exact .inr ⟨hd.1, hd.2, hin⟩
          · left; rw [show q = 0 by omega, scn]
        · left
          cases q with
          | zero => rw [scn]
          | succ q => rw [scn, if_neg hd, if_neg hv]
      rcases stop with hstop | ⟨d1, d2, d3⟩
      · rw [hstop] at a6
        obtain ⟨rfl, rfl, rfl, rfl⟩ : i = E ∧ pt' = pt ∧ D' = D ∧ bh' = bh := by
          simp only [Prod.mk.injEq] at a6; exact a6
        left
        refine ⟨_, ?_, v, rfl, a5⟩
        by_cases hd : t i = 46
        · rw [if_pos hd]
          by_cases hpt : nb pt' = 0
          · rw [if_pos hpt]
            -- a point that is not taken: only at the end
            exfalso
            have hpf : pt' = false := by cases pt'; rfl; cases hpt
            rcases Nat.lt_or_ge i n with x | x
            · obtain ⟨q', rfl⟩ : ∃ q', q = q' + 1 := ⟨q - 1, by omega⟩
              have := hstop
              rw [scn, if_pos ⟨hd, hpf⟩] at this
              have hle := scn_ge (t := t) (b := b) q' (i + 1) true D' bh'
              rw [this] at hle
              simp at hle
              omega
            · rw [g5 i x] at hd; cases hd
          · rw [if_neg hpt]
        · rw [if_neg hd]
      · obtain ⟨q', rfl⟩ : ∃ q', q = q' + 1 := ⟨q - 1, by omega⟩
        rw [scn, if_pos ⟨d1, d2⟩] at a6
        subst d2
        rw [if_pos d1, if_pos (show nb false = 0 from rfl)]
        unfold f_X7_takeFigures_J33 f_X7_takeFigures_J85
        rw [hpk]; simp only [Option.bind, lt]
        rw [if_pos d1, hst]
        exact .inr ⟨_, q', rfl, by omega, i + 1, true, D', bh', v, rfl, by omega, by omega, by omega, a4, a5, a6⟩) (n - p) (0, 0, smI m0 10 0) ⟨p, false, [], 0, mA m0 7, by
      rw [smA_self, smI_comm (i := 10) (j := 12) (by decide), ← h12, smI_self]; rfl, by omega, Nat.le_refl _, by simp, by simp, fun k hk => by simp at hk, hs⟩
  refine ⟨v, ?_, k3⟩
  unfold f_X7_takeFigures
  simp only [lt]
  rw [k1]; simp only [Option.bind]
  have m10 : mI (smI (smI (smA m0 7 v) 10 (nI D.length)) 12 (nI E)) 10 = nI D.length := by rw [mI_smI_ne (by decide), mI_smI]
  rw [m10]
  by_cases h0 : D.length = 0
  · rw [if_pos h0, if_pos (show nI D.length = 0 by rw [h0]; rfl), mI_smI]
  · have hlen : D.length ≤ 1600 := by
      have := (scn_p (t := t) (b := b) (p := p) (n - p) p false [] 0 (Nat.le_refl _) (by simp) (by simp) (fun k hk => by simp at hk))
      rw [hs] at this
      simp at this
      omega
    rw [if_neg h0, if_neg (fun q => h0 (by rw [show (0 : Int32) = nI 0 from rfl, nI_inj (by omega) (by decide)] at q; exact q))]
/-- the digits of an exponent -/
def esc (t : Nat → Int32) : Nat → Nat → Nat → Nat → Nat × Nat × Nat
  | 0, i, ec, er => (i, ec, er)
  | r + 1, i, ec, er => if vd (t i) < 10 then esc t r (i + 1) (if ec * 10 + vd (t i) < 1000000 then ec * 10 + vd (t i) else 1000000) (if er < 10000000 then 10 * er + vd (t i) else er) else (i, ec, er)
def Ecr (ec er : Nat) : Prop := ec = (if er < 1000000 then er else 1000000) ∧ er < 200000000
theorem esc_p {t : Nat → Int32} : ∀ (r i ec er : Nat), Ecr ec er → Ecr (esc t r i ec er).2.1 (esc t r i ec er).2.2 ∧ i ≤ (esc t r i ec er).1 ∧ (esc t r i ec er).1 ≤ i + r := by
  intro r
  induction r with
  | zero => intro i ec er h; exact ⟨h, Nat.le_refl _, Nat.le_refl _⟩
  | succ r ih =>
    intro i ec er h
    rw [esc]
    by_cases hv : vd (t i) < 10
    · rw [if_pos hv]
      obtain ⟨h1, h2⟩ := h
      have key : Ecr (if ec * 10 + vd (t i) < 1000000 then ec * 10 + vd (t i) else 1000000) (if er < 10000000 then 10 * er + vd (t i) else er) := by
        unfold Ecr
        by_cases c1 : er < 1000000
        · rw [if_pos c1] at h1
          rw [if_pos (show er < 10000000 by omega), h1, show er * 10 = 10 * er by omega]
          exact ⟨rfl, by omega⟩
        · rw [if_neg c1] at h1
          rw [h1, if_neg (show ¬ 1000000 * 10 + vd (t i) < 1000000 by omega)]
          by_cases c2 : er < 10000000
          · rw [if_pos c2, if_neg (by omega)]; exact ⟨rfl, by omega⟩
          · rw [if_neg c2, if_neg (by omega)]; exact ⟨rfl, h2⟩
      obtain ⟨a1, a2, a3⟩ := ih (i + 1) _ _ key
      exact ⟨a1, by omega, by omega⟩
    · rw [if_neg hv]; exact ⟨h, Nat.le_refl _, by show i ≤ i + (r + 1); omega⟩
