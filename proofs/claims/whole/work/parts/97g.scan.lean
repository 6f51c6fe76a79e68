/-! texts read: digits -/
theorem rng_all {P : Int32 → Prop} (h : ∀ k : Nat, k < 257 → P (Int32.ofNat k - 1)) {x : Int32} (h0 : -1 ≤ x.toInt) (h1 : x.toInt < 256) : P x := by
  have := h (x.toInt + 1).toNat (by omega)
  have e : Int32.ofNat (x.toInt + 1).toNat - 1 = x := by
    have one : (1 : Int32).toInt = 1 := by decide
    have e1 : (Int32.ofNat (x.toInt + 1).toNat).toInt = x.toInt + 1 := by rw [Int32.toInt_ofNat_of_lt (by omega)]; omega
    rw [ieq, is_ (by omega) (by omega), e1, one]; omega
  rw [e] at this
  exact this
def vd (x : Int32) : Nat := (f_X7_figure x).toInt.toNat
theorem sm_all : ∀ k : Nat, k < 257 → f_X5_smallOf (Int32.ofNat k - 1) = f_X7_small (Int32.ofNat k - 1) := by decide +kernel
theorem sm_eq {x : Int32} (h0 : -1 ≤ x.toInt) (h1 : x.toInt < 256) : f_X5_smallOf x = f_X7_small x := rng_all (P := fun x => f_X5_smallOf x = f_X7_small x) sm_all h0 h1
def VdP (x : Int32) : Prop := (f_X7_figure x).toInt = (vd x : Int) ∧ ((vd x < 16 ∧ (f_X5_valueOf x).toInt = (vd x : Int) ∧ x ≠ 46 ∧ (vd x < 10 → x.toInt = 48 + (vd x : Int))) ∨ (vd x = 99 ∧ (f_X5_valueOf x).toInt = -1)) ∧ ((48 ≤ x.toInt ∧ x.toInt ≤ 57) ↔ vd x < 10)
theorem vd_all : ∀ k : Nat, k < 257 → ((f_X7_figure (Int32.ofNat k - 1)).toInt = (vd (Int32.ofNat k - 1) : Int) ∧ ((vd (Int32.ofNat k - 1) < 16 ∧ (f_X5_valueOf (Int32.ofNat k - 1)).toInt = (vd (Int32.ofNat k - 1) : Int) ∧ Int32.ofNat k - 1 ≠ 46 ∧ (vd (Int32.ofNat k - 1) < 10 → (Int32.ofNat k - 1).toInt = 48 + (vd (Int32.ofNat k - 1) : Int))) ∨ (vd (Int32.ofNat k - 1) = 99 ∧ (f_X5_valueOf (Int32.ofNat k - 1)).toInt = -1)) ∧ ((48 ≤ (Int32.ofNat k - 1).toInt ∧ (Int32.ofNat k - 1).toInt ≤ 57) ↔ vd (Int32.ofNat k - 1) < 10)) := by decide +kernel
theorem vd_p {x : Int32} (h0 : -1 ≤ x.toInt) (h1 : x.toInt < 256) : VdP x := rng_all (P := VdP) vd_all h0 h1
/-- the text as both see it -/
def Tx (c : CS) (m : MS) (t : Nat → Int32) (n : Nat) : Prop := n ≤ 1600 ∧ brN c 0 = nI n ∧ mI m 1 = nI n ∧ (∀ i, i < n → brB c 0 i &&& 255 = t i ∧ mA m 0 i = t i) ∧ (∀ i, n ≤ i → t i = -1) ∧ ∀ i, -1 ≤ (t i).toInt ∧ (t i).toInt < 256
theorem tx_ex {c : CS} {m : MS} (h : TxI c m) : ∃ t n, Tx c m t n := by
  obtain ⟨n, h1, h2, h3, h4⟩ := h
  refine ⟨fun i => if i < n then mA m 0 i else -1, n, h1, h2, h3, fun i hi => ?_, fun i hi => ?_, fun i => ?_⟩
  · simp only [if_pos hi]; exact ⟨h4 i hi, trivial⟩
  · show (if i < n then _ else _) = _
    rw [if_neg (by omega)]
  · show -1 ≤ (if i < n then mA m 0 i else -1 : Int32).toInt ∧ (if i < n then mA m 0 i else -1 : Int32).toInt < 256
    by_cases hi : i < n
    · rw [if_pos hi]
      have := am8i (brB c 0 i)
      rw [h4 i hi] at this
      omega
    · rw [if_neg hi]; decide
theorem Tx.atc {c : CS} {m : MS} {t : Nat → Int32} {n : Nat} (h : Tx c m t n) {i : Nat} {x : Int32} (hx : x.toInt = i) : f_X0_at 0 x c = t i := by
  obtain ⟨h1, h2, h3, h4, h5, h6⟩ := h
  by_cases hi : i < n
  · rw [at_in h2 (by show n ≤ 1600; omega) hi hx]; exact (h4 i hi).1
  · rw [at_out h2 h1 (by omega) hx, h5 i (by omega)]
def scs (c : CS) (S : Int32 × Int32 × Int32 × Int32 × Int32 × Int32 × Int32 × Int32) : CS := (c.1, c.2.1, S, c.2.2.2)
theorem scs_at {c : CS} {x : Int32} {S : Int32 × Int32 × Int32 × Int32 × Int32 × Int32 × Int32 × Int32} : f_X0_at 0 x (scs c S) = f_X0_at 0 x c := rfl
theorem scs_N {c : CS} {S : Int32 × Int32 × Int32 × Int32 × Int32 × Int32 × Int32 × Int32} : brN (scs c S) 0 = brN c 0 := rfl
theorem Tx.pk {c : CS} {m m' : MS} {t : Nat → Int32} {n : Nat} (h : Tx c m t n) (hA : mA m' 0 = mA m 0) (h1 : mI m' 1 = mI m 1) {i : Nat} (hi : mI m' 12 = nI i) (hi2 : i < 100000) : f_X7_peek m' = some (t i) := by
  obtain ⟨g1, g2, g3, g4, g5, g6⟩ := h
  unfold f_X7_peek
  rw [h1, hi, g3]
  by_cases hin : n ≤ i
  · rw [if_pos ((cle2 (by omega) (by omega)).mpr hin), g5 i hin]
  · rw [if_neg (fun q => hin ((cle2 (by omega) (by omega)).mp q)), if_pos ((vIn (by omega)).mpr (by show i < 1600; omega)), nI_clamp (show i < 2 ^ 31 by omega), hA, (g4 i (by omega)).2]
/-- the digits from i on, by both -/
def scn (t : Nat → Int32) (b : Nat) : Nat → Nat → Bool → List Nat → Nat → Nat × Bool × List Nat × Nat
  | 0, i, pt, D, bh => (i, pt, D, bh)
  | r + 1, i, pt, D, bh => if t i = 46 ∧ pt = false then scn t b r (i + 1) true D bh else if vd (t i) < b then scn t b r (i + 1) pt (D ++ [vd (t i)]) (bh + (if pt then 1 else 0)) else (i, pt, D, bh)
theorem gN_app {L : List Nat} {x i : Nat} (hi : i < L.length) : (L ++ [x]).getD i 0 = L.getD i 0 := by simp [List.getD, List.getElem?_append_left hi]
theorem gN_last {L : List Nat} {x : Nat} : (L ++ [x]).getD L.length 0 = x := by simp [List.getD]
theorem lenN {L : List Nat} {x : Nat} : (L ++ [x]).length = L.length + 1 := by simp
def Ld (D : List Nat) (l : Nat) : Prop := l ≤ D.length ∧ (∀ i, i < l → D.getD i 0 = 0) ∧ (l < D.length → D.getD l 0 ≠ 0)
theorem Ld.app {D : List Nat} {l v : Nat} (h : Ld D l) : Ld (D ++ [v]) (if l = D.length ∧ v = 0 then l + 1 else l) := by
  obtain ⟨h1, h2, h3⟩ := h
  by_cases hc : l = D.length ∧ v = 0
  · rw [if_pos hc]
    refine ⟨by rw [lenN]; omega, fun i hi => ?_, fun hh => by rw [lenN] at hh; omega⟩
    by_cases hi2 : i < D.length
    · rw [gN_app hi2]; exact h2 i (by omega)
    · rw [show i = D.length by omega, gN_last]; exact hc.2
  · rw [if_neg hc]
    refine ⟨by rw [lenN]; omega, fun i hi => by rw [gN_app (by omega)]; exact h2 i hi, fun hh => ?_⟩
    by_cases hl : l < D.length
    · rw [gN_app hl]; exact h3 hl
    · have : l = D.length := by omega
      rw [this, gN_last]
      intro q
      exact hc ⟨this, q⟩
/-- what scanning keeps -/
theorem scn_p {t : Nat → Int32} {b p : Nat} : ∀ (r i : Nat) (pt : Bool) (D : List Nat) (bh : Nat), p ≤ i → D.length ≤ i - p → bh ≤ D.length → (∀ k, k < D.length → D.getD k 0 < b) → p ≤ (scn t b r i pt D bh).1 ∧ (scn t b r i pt D bh).1 ≤ i + r ∧ i ≤ (scn t b r i pt D bh).1 ∧ (scn t b r i pt D bh).2.2.1.length ≤ (scn t b r i pt D bh).1 - p ∧ (scn t b r i pt D bh).2.2.2 ≤ (scn t b r i pt D bh).2.2.1.length ∧ ∀ k, k < (scn t b r i pt D bh).2.2.1.length → (scn t b r i pt D bh).2.2.1.getD k 0 < b := by
  intro r
  induction r with
  | zero => intro i pt D bh h1 h2 h3 h4; exact ⟨h1, by rw [scn]; omega, by rw [scn]; omega, h2, h3, h4⟩
  | succ r ih =>
    intro i pt D bh h1 h2 h3 h4
    rw [scn]
    by_cases c1 : t i = 46 ∧ pt = false
    · rw [if_pos c1]
      obtain ⟨a1, a2, a3, a4⟩ := ih (i + 1) true D bh (by omega) (by omega) h3 h4
      exact ⟨a1, by omega, by omega, a4⟩
    · rw [if_neg c1]
      by_cases c2 : vd (t i) < b
      · rw [if_pos c2]
        obtain ⟨a1, a2, a3, a4⟩ := ih (i + 1) pt (D ++ [vd (t i)]) (bh + (if pt then 1 else 0)) (by omega) (by rw [lenN]; omega) (by rw [lenN]; split <;> omega) (fun k hk => by
          rw [lenN] at hk
          by_cases hk2 : k < D.length
          · rw [gN_app hk2]; exact h4 k hk2
          · rw [show k = D.length by omega, gN_last]; exact c2)
        exact ⟨a1, by omega, by omega, a4⟩
      · rw [if_neg c2]
        exact ⟨h1, by show i ≤ i + (r + 1); omega, Nat.le_refl _, h2, h3, h4⟩
/-- the class takes digits -/
theorem ctd {c : CS} {m : MS} {t : Nat → Int32} {n b p : Nat} (hT : Tx c m t n) (hb : b = 10 ∨ b = 16) (hp : p ≤ n) {bb : Int32} (hbb : bb.toInt = b) {a0 a1 a2 a3 a4 a5 a6 a7 : Int32} : ∃ E pt D bh l, scn t b (n - p) p false [] 0 = (E, pt, D, bh) ∧ f_X5_takeDigits 0 (nI p) bb (scs c (a0, a1, a2, a3, a4, a5, a6, a7)) = some (scs c (a0, a1, nI p, nI E, nI (D.length - bh), nI l, a6, nI D.length)) ∧ Ld D l := by
  have hT' := hT
  obtain ⟨g1, g2, g3, g4, g5, g6⟩ := hT'
  have e10 : (10 : Nat) ≤ 16 := by decide
  obtain ⟨_, k1, E, pt, D, bh, l, k2, rfl, k3⟩ := Lp_inv (F := fun a => f_X5_takeDigits_L28 0 bb a.1 a.2) (fun q a => ∃ (i : Nat) (pt : Bool) (D : List Nat) (bh l : Nat), a = (nb pt, scs c (a0, a1, nI p, nI i, nI (D.length - bh), nI l, a6, nI D.length)) ∧ i + q = n ∧ p ≤ i ∧ D.length ≤ i - p ∧ bh ≤ D.length ∧ Ld D l ∧ scn t b q i pt D bh = scn t b (n - p) p false [] 0) (fun z => ∃ (E : Nat) (pt : Bool) (D : List Nat) (bh l : Nat), scn t b (n - p) p false [] 0 = (E, pt, D, bh) ∧ z = scs c (a0, a1, nI p, nI E, nI (D.length - bh), nI l, a6, nI D.length) ∧ Ld D l) (by
    rintro q _ ⟨i, pt, D, bh, l, rfl, h1, h2, h3, h4, h5, h6⟩
    show (∃ z, f_X5_takeDigits_L28 0 bb (nb pt) (scs c (a0, a1, nI p, nI i, nI (D.length - bh), nI l, a6, nI D.length)) = _ ∧ _) ∨ ∃ a' n', f_X5_takeDigits_L28 0 bb (nb pt) (scs c (a0, a1, nI p, nI i, nI (D.length - bh), nI l, a6, nI D.length)) = _ ∧ _
    have s3 : sc3 (scs c (a0, a1, nI p, nI i, nI (D.length - bh), nI l, a6, nI D.length)) = nI i := rfl
    unfold f_X5_takeDigits_L28
    rw [scs_N, g2, s3]
    by_cases hi : i = n
    · rw [if_pos ((cle2 (by omega) (by omega)).mpr (by omega))]
      refine .inl ⟨_, rfl, i, pt, D, bh, l, ?_, rfl, h5⟩
      rw [← h6, show q = 0 by omega, scn]
    · rw [if_neg (fun x => by have := (cle2 (by omega) (by omega)).mp x; omega)]
      obtain ⟨q', rfl⟩ : ∃ q', q = q' + 1 := ⟨q - 1, by omega⟩
      have hat : f_X0_at 0 (nI i) c = t i := hT.atc (nI_toInt (by omega))
      simp only [lt]
      rw [scs_at, hat]
      have hvd := vd_p (g6 i).1 (g6 i).2
      obtain ⟨v1, v2, v3⟩ := hvd
      rw [scn] at h6
      have hinc : nI i + 1 = nI (i + 1) := nI_inc (by omega)
      have j74 : ¬ (t i = 46 ∧ pt = false) → (∃ z, f_X5_takeDigits_J74 0 bb (nb pt) (f_X5_valueOf (t i)) (scs c (a0, a1, nI p, nI i, nI (D.length - bh), nI l, a6, nI D.length)) = some (.inr z) ∧ ∃ (E : Nat) (pt : Bool) (D : List Nat) (bh l : Nat), scn t b (n - p) p false [] 0 = (E, pt, D, bh) ∧ z = scs c (a0, a1, nI p, nI E, nI (D.length - bh), nI l, a6, nI D.length) ∧ Ld D l) ∨ ∃ a' n', f_X5_takeDigits_J74 0 bb (nb pt) (f_X5_valueOf (t i)) (scs c (a0, a1, nI p, nI i, nI (D.length - bh), nI l, a6, nI D.length)) = some (.inl a') ∧ n' < q' + 1 ∧ ∃ (i : Nat) (pt : Bool) (D : List Nat) (bh l : Nat), a' = (nb pt, scs c (a0, a1, nI p, nI i, nI (D.length - bh), nI l, a6, nI D.length)) ∧ i + n' = n ∧ p ≤ i ∧ D.length ≤ i - p ∧ bh ≤ D.length ∧ Ld D l ∧ scn t b n' i pt D bh = scn t b (n - p) p false [] 0 := by
        intro hnd
        rw [if_neg hnd] at h6
        unfold f_X5_takeDigits_J74
        by_cases hv : vd (t i) < b
        · rw [if_pos hv] at h6
          have hval : (f_X5_valueOf (t i)).toInt = (vd (t i) : Int) := by
            rcases v2 with ⟨-, x, -⟩ | ⟨x, -⟩
            · exact x
            · omega
          right
          rw [if_neg (by rw [ilt, hval, k0]; omega), if_neg (by rw [ile, hbb, hval]; omega)]
          have s5 : sc5 (scs c (a0, a1, nI p, nI i, nI (D.length - bh), nI l, a6, nI D.length)) = nI l := rfl
          have s7 : sc7 (scs c (a0, a1, nI p, nI i, nI (D.length - bh), nI l, a6, nI D.length)) = nI D.length := rfl
          rw [s5, s7]
          have hl5 := h5.1
          have hz : (f_X5_valueOf (t i) = 0) = (vd (t i) = 0) := by rw [ieq, hval, k0]; simp only [eq_iff_iff]; omega
          have hll : (nI l = nI D.length) = (l = D.length) := nI_inj (by omega) (by omega)
          have j111 : ∀ e : Nat, e ≤ 1 → f_X5_takeDigits_J111 0 bb (nb pt) (nI e) (nI l) (scs c (a0, a1, nI p, nI i, nI (D.length - bh), nI l, a6, nI D.length)) = some (.inl (nb pt, scs c (a0, a1, nI p, nI (i + 1), nI ((D ++ [vd (t i)]).length - (bh + (if pt then 1 else 0))), nI (l + e), a6, nI (D ++ [vd (t i)]).length))) := by
            intro e he
            have e1 : nI l + nI e = nI (l + e) := by
              rw [ieq, ia (by rw [nI_toInt (by omega), nI_toInt (by omega)]; omega) (by rw [nI_toInt (by omega), nI_toInt (by omega)]; omega), nI_toInt (by omega), nI_toInt (by omega), nI_toInt (by omega)]; omega
            have e2 : nI D.length + 1 = nI (D.length + 1) := nI_inc (by omega)
            have e3 : nI (D.length - bh) + 1 = nI (D.length - bh + 1) := nI_inc (by omega)
            have e4 : nI (D.length - bh) + 0 = nI (D.length - bh) := by
              have z0 : (0 : Int32).toInt = 0 := by decide
              rw [ieq, ia (by rw [nI_toInt (by omega), z0]; omega) (by rw [nI_toInt (by omega), z0]; omega), z0]; omega
            unfold f_X5_takeDigits_J111 f_X5_takeDigits_J144
            simp only [lt]
            rw [e1, lenN]
            cases pt
            · rw [if_pos (show nb false = 0 from rfl)]
              simp only [Bool.false_eq_true, if_false, Nat.add_zero]
              show some (Sum.inl (nb false, scs c (a0, a1, nI p, nI i + 1, nI (D.length - bh) + 1, nI (l + e), a6, nI D.length + 1))) = _
              rw [hinc, e2, e3, show D.length - bh + 1 = D.length + 1 - bh by omega]
            · rw [if_neg (show ¬ nb true = 0 by decide)]
              simp only [if_true]
              show some (Sum.inl (nb true, scs c (a0, a1, nI p, nI i + 1, nI (D.length - bh) + 0, nI (l + e), a6, nI D.length + 1))) = _
              rw [hinc, e2, e4, show D.length + 1 - (bh + 1) = D.length - bh by omega]
          have hLd := h5.app (v := vd (t i))
          have fin : ∀ e : Nat, e ≤ 1 → l + e = (if l = D.length ∧ vd (t i) = 0 then l + 1 else l) → ∃ a' n', f_X5_takeDigits_J111 0 bb (nb pt) (nI e) (nI l) (scs c (a0, a1, nI p, nI i, nI (D.length - bh), nI l, a6, nI D.length)) = some (.inl a') ∧ n' < q' + 1 ∧ ∃ (i : Nat) (pt : Bool) (D : List Nat) (bh l : Nat), a' = (nb pt, scs c (a0, a1, nI p, nI i, nI (D.length - bh), nI l, a6, nI D.length)) ∧ i + n' = n ∧ p ≤ i ∧ D.length ≤ i - p ∧ bh ≤ D.length ∧ Ld D l ∧ scn t b n' i pt D bh = scn t b (n - p) p false [] 0 := by
            intro e he hle
            rw [← hle] at hLd
            refine ⟨_, q', j111 e he, by omega, i + 1, pt, D ++ [vd (t i)], bh + (if pt then 1 else 0), l + e, rfl, by omega, by omega, by rw [lenN]; omega, ?_, hLd, h6⟩
            rw [lenN]; split <;> omega
          by_cases hz0 : vd (t i) = 0
          · rw [if_pos (hz.mpr hz0)]
            by_cases hl0 : l = D.length
            · rw [if_pos (hll.mpr hl0)]
              exact fin 1 (by decide) (by rw [if_pos ⟨hl0, hz0⟩])
            · rw [if_neg (fun x => hl0 (hll.mp x))]
              exact fin 0 (by decide) (by rw [if_neg (fun x => hl0 x.1)]; rfl)
          · rw [if_neg (fun x => hz0 (hz.mp x))]
            exact fin 0 (by decide) (by rw [if_neg (fun x => hz0 x.2)]; rfl)
        · rw [if_neg hv] at h6
          left
          have stop : (if f_X5_valueOf (t i) < 0 then some (Sum.inr (scs c (a0, a1, nI p, nI i, nI (D.length - bh), nI l, a6, nI D.length))) else if bb ≤ f_X5_valueOf (t i) then some (Sum.inr (scs c (a0, a1, nI p, nI i, nI (D.length - bh), nI l, a6, nI D.length))) else (none : Option ((Int32 × CS) ⊕ CS))) = some (.inr (scs c (a0, a1, nI p, nI i, nI (D.length - bh), nI l, a6, nI D.length))) := by
            rcases v2 with ⟨-, x, -⟩ | ⟨-, x⟩
            · rw [if_neg (by rw [ilt, x, k0]; omega), if_pos (by rw [ile, x, hbb]; omega)]
            · rw [if_pos (by rw [ilt, x, k0]; omega)]
          refine ⟨scs c (a0, a1, nI p, nI i, nI (D.length - bh), nI l, a6, nI D.length), ?_, i, pt, D, bh, l, h6.symm, rfl, h5⟩
          rcases v2 with ⟨-, x, -⟩ | ⟨-, x⟩
          · rw [if_neg (by rw [ilt, x, k0]; omega), if_pos (by rw [ile, x, hbb]; omega)]
          · rw [if_pos (by rw [ilt, x, k0]; omega)]
      by_cases hdot : t i = 46
      · rw [if_pos hdot]
        cases pt
        · rw [if_pos (show nb false = 0 from rfl)]
          rw [if_pos ⟨hdot, rfl⟩] at h6
          right
          refine ⟨(nb true, scs c (a0, a1, nI p, nI (i + 1), nI (D.length - bh), nI l, a6, nI D.length)), q', ?_, by omega, i + 1, true, D, bh, l, rfl, by omega, by omega, by omega, h4, h5, h6⟩
          unfold f_X5_takeDigits_J144
          simp only [lt]
          show some (Sum.inl ((1 : Int32), scs c (a0, a1, nI p, nI i + 1, nI (D.length - bh), nI l, a6, nI D.length))) = _
          rw [hinc]; rfl
        · rw [if_neg (show ¬ nb true = 0 by decide)]
          exact j74 (fun x => by cases x.2)
      · rw [if_neg hdot]
        exact j74 (fun x => hdot x.1)) (n - p) (0, scs c (a0, a1, nI p, nI p, 0, 0, a6, 0)) ⟨p, false, [], 0, 0, rfl, by omega, Nat.le_refl _, by simp, by simp, ⟨by simp, fun i hi => by omega, fun x => by simp at x⟩, rfl⟩
  refine ⟨E, pt, D, bh, l, k2, ?_, k3⟩
  unfold f_X5_takeDigits
  simp only [lt]
  show (Option.bind (Lp (fun a => f_X5_takeDigits_L28 0 bb a.1 a.2) (0, scs c (a0, a1, nI p, nI p, 0, 0, a6, 0))) fun e_21 => some e_21) = _
  rw [k1]; rfl
