/-! both scan a number -/
theorem nv_step {b : Nat} {d : Nat → Nat} {k : Nat} : nv b d (k + 1) = nv b d k * b + d k := rfl
theorem mhex {m0 : MS} {d : Nat → Nat} {R : Nat} (hR : mI m0 10 = nI R) (hR2 : R ≤ 1600) (hd : ∀ k, k < R → (mA m0 7 k).toInt = (d k : Int) ∧ d k < 16) {x1 x2 x3 x5 x6 : Int32} {v0 : Nat → Int32} (hv0 : ∀ i, i < 320 → v0 i = 0) : ∃ v, Lp (fun a => f_X7_read_L178 x1 x2 x3 x5 x6 a.1 a.2) (0, smA m0 3 v0) = some (smA m0 3 v) ∧ W30 v ∧ vl v = nv 16 d R := by
  have k16 : (16 : Int32).toInt = 16 := by decide
  obtain ⟨_, k1, v, rfl, k2, k3⟩ := Lp_inv (F := fun a => f_X7_read_L178 x1 x2 x3 x5 x6 a.1 a.2) (fun q a => ∃ (k : Nat) (v : Nat → Int32), a = (nI k, smA m0 3 v) ∧ k + q = R ∧ W30 v ∧ vl v = nv 16 d k) (fun z => ∃ v, z = smA m0 3 v ∧ W30 v ∧ vl v = nv 16 d R) (by
    rintro q _ ⟨k, v, rfl, a1, a2, a3⟩
    show (∃ z, f_X7_read_L178 x1 x2 x3 x5 x6 (nI k) (smA m0 3 v) = _ ∧ _) ∨ ∃ a' n', f_X7_read_L178 x1 x2 x3 x5 x6 (nI k) (smA m0 3 v) = _ ∧ _
    unfold f_X7_read_L178
    rw [mI_smA, hR]
    cases q with
    | zero =>
      rw [if_pos ((cle2 (by omega) (by omega)).mpr (by omega))]
      exact .inl ⟨_, rfl, v, rfl, a2, by rw [a3]; congr 1⟩
    | succ q =>
      rw [if_neg (fun x => by have := (cle2 (by omega) (by omega)).mp x; omega), if_pos ((vIn (by omega)).mpr (by show k < 1600; omega)), nI_clamp (show k < 2 ^ 31 by omega), smA_ne (by decide)]
      obtain ⟨d1, d2⟩ := hd k (by omega)
      have hlt := nv_lt (b := 16) (d := d) (n := k + 1) (fun i hi => (hd i (by omega)).2)
      rw [nv_step] at hlt
      have hp : (16 : Nat) ^ (k + 1) ≤ 16 ^ 1600 := Nat.pow_le_pow_right (by decide) (by omega)
      have hp2 : (16 : Nat) ^ 1600 < B320 := by rw [B320_eq, show (16 : Nat) = 2 ^ 4 by decide, ← Nat.pow_mul]; exact pw_lt (by decide)
      have hval : val (mA (smA m0 3 v) 3) = nv 16 d k := by rw [smA_same, vl_eq]; exact a3
      obtain ⟨v', g1, g2, g3⟩ := grow_fit (j := 3) rfl (y := 16) (x := mA m0 7 k) (by rw [k16]; decide) (by rw [k16]; decide) (by omega) (by omega) (m := smA m0 3 v) (by rw [smA_same]; exact a2) (by
        rw [hval, k16, d1]
        exact Nat.lt_of_lt_of_le hlt (Nat.le_trans hp (Nat.le_of_lt hp2)))
      rw [g1, smA_smA, nI_inc (by omega)]
      refine .inr ⟨_, q, rfl, by omega, k + 1, v', rfl, by omega, g2, ?_⟩
      rw [← vl_eq, g3, hval, k16, d1]; rfl) R (0, smA m0 3 v0) ⟨0, v0, rfl, by omega, fun i hi => by rw [hv0 i hi]; decide, by rw [vl_zero hv0]; rfl⟩
  exact ⟨v, k1, k2, k3⟩
/-- a number's text, as both have it -/
def Num (t : Nat → Int32) (b p n : Nat) (neg : Bool) (k : Int32) (S : Int32 × Int32 × Int32 × Int32 × Int32 × Int32 × Int32 × Int32) (xb xr : Int32) (m' : MS) : Prop := ∃ (D : List Nat) (bh l E ec er : Nat) (xe : Int32) (sn : Bool), S = (k, nb neg, nI p, nI E, nI (D.length - bh), nI l, xe, nI D.length) ∧ xb = nI bh ∧ D.length ≤ 1600 ∧ mI m' 10 = nI D.length ∧ (∀ i, i < D.length → (mA m' 7 i).toInt = ((D.getD i 0 : Nat) : Int)) ∧ (∀ i, i < D.length → D.getD i 0 < b) ∧ Ld D l ∧ bh ≤ D.length ∧ D = dls t (E - p) p ∧ p ≤ E ∧ E ≤ n ∧ Ecr ec er ∧ xe.toInt = (if sn then -(ec : Int) else ec) ∧ xr.toInt = (if sn then -(er : Int) else er)
theorem sm_m1 : f_X7_small (-1) = -1 := by decide
theorem num_same {c : CS} {m m0 : MS} {t : Nat → Int32} {n b p : Nat} {neg : Bool} (hT : Tx c m t n) (hb : b = 10 ∨ b = 16) (hp : p ≤ n) {bb ll k : Int32} (hbb : bb.toInt = b) (hll : ll ≠ -1) {a2 a3 a4 a5 a6 a7 : Int32} (hA : mA m0 0 = mA m 0) (h1 : mI m0 1 = mI m 1) (h12 : mI m0 12 = nI p) (h13 : mI m0 13 = -1) : ∃ (F : Int32) (S : Int32 × Int32 × Int32 × Int32 × Int32 × Int32 × Int32 × Int32) (xb xr : Int32) (m' : MS), f_X5_faultOfNumber 0 (nI p) bb ll (scs c (k, nb neg, a2, a3, a4, a5, a6, a7)) = some (F, scs c S) ∧ (∀ K : Int32 → Int32 → MS → Option (Int32 × MS), (Option.bind (f_X7_takeFigures bb m0) fun v => if v.1 = -1 then K v.1 0 v.2 else Option.bind (f_X7_takeExponent ll v.2) fun w => K v.1 w.1 w.2) = K xb xr m') ∧ mI m' 13 = F ∧ Fr [7] [10, 12, 13] [] m0 m' ∧ (F = -1 → Num t b p n neg k S xb xr m') := by
  have hT' := hT
  obtain ⟨g1, g2, g3, g4, g5, g6⟩ := hT'
  obtain ⟨E, pt, D, bh, l, hs, hc, hL⟩ := ctd (bb := bb) hT hb hp hbb (a0 := k) (a1 := nb neg) (a2 := a2) (a3 := a3) (a4 := a4) (a5 := a5) (a6 := a6) (a7 := a7)
  obtain ⟨v, hm, hv⟩ := mtf (bb := bb) hT hA h1 hp h12 hb hbb hs
  have sp := scn_p (t := t) (b := b) (p := p) (n - p) p false [] 0 (Nat.le_refl _) (by simp) (by simp) (fun k hk => by simp at hk)
  have sd := scn_dls (t := t) (b := b) (by omega) g6 (n - p) p false [] 0
  rw [hs] at sp sd
  obtain ⟨-, p2, p3, p4, p5, p6⟩ := sp
  change E ≤ _ at p2
  change p ≤ E at p3
  change D.length ≤ E - p at p4
  change bh ≤ D.length at p5
  change ∀ k, k < D.length → D.getD k 0 < b at p6
  change D = [] ++ dls t (E - p) p at sd
  rw [List.nil_append] at sd
  have nm1 : ∀ i : Nat, i ≤ 1600 → nI i ≠ -1 := fun i hi q => by
    have e1 : (-1 : Int32).toInt = -1 := by decide
    rw [ieq, nI_toInt (by omega), e1] at q
    omega
  have z7 : (nI D.length = 0) = (D.length = 0) := by rw [show (0 : Int32) = nI 0 from rfl]; exact nI_inj (by omega) (by omega)
  have hat : f_X0_at 0 (nI E) c = t E := hT.atc (nI_toInt (by omega))
  have hN : f_X5_faultOfNumber 0 (nI p) bb ll (scs c (k, nb neg, a2, a3, a4, a5, a6, a7)) = if nI D.length = 0 then some (nI E, scs c (k, nb neg, nI p, nI E, nI (D.length - bh), nI l, 0, nI D.length)) else if nI E = nI n then some (-1, scs c (k, nb neg, nI p, nI E, nI (D.length - bh), nI l, 0, nI D.length)) else if f_X7_small (t E) = ll then f_X5_faultOfExponent 0 (nI (E + 1)) (scs c (k, nb neg, nI p, nI E, nI (D.length - bh), nI l, 0, nI D.length)) else some (nI E, scs c (k, nb neg, nI p, nI E, nI (D.length - bh), nI l, 0, nI D.length)) := by
    unfold f_X5_faultOfNumber
    rw [hc]
    have e0 : ssc6 (scs c (k, nb neg, nI p, nI E, nI (D.length - bh), nI l, a6, nI D.length)) 0 = scs c (k, nb neg, nI p, nI E, nI (D.length - bh), nI l, 0, nI D.length) := rfl
    have e7 : sc7 (scs c (k, nb neg, nI p, nI E, nI (D.length - bh), nI l, 0, nI D.length)) = nI D.length := rfl
    have e3 : sc3 (scs c (k, nb neg, nI p, nI E, nI (D.length - bh), nI l, 0, nI D.length)) = nI E := rfl
    show (lt (ssc6 (scs c (k, nb neg, nI p, nI E, nI (D.length - bh), nI l, a6, nI D.length)) 0) fun c_2 => _) = _
    rw [e0]
    simp only [lt]
    rw [e7, e3, scs_N, g2, scs_at, hat, sm_eq (g6 E).1 (g6 E).2, nI_inc (by omega)]
    have hb : ∀ o : Option (Int32 × CS), (Option.bind o fun v_3 => some (v_3.1, v_3.2)) = o := fun o => by cases o <;> rfl
    rw [hb]
  rw [hN]
  by_cases h0 : D.length = 0
  · rw [if_pos (z7.mpr h0)]
    rw [if_pos h0] at hm
    refine ⟨nI E, (k, nb neg, nI p, nI E, nI (D.length - bh), nI l, 0, nI D.length), -1, 0, smI (smI (smI (smA m0 7 v) 10 (nI D.length)) 12 (nI E)) 13 (nI E), rfl, fun K => ?_, ?_, ?_, fun q => absurd q (nm1 E (by omega))⟩
    · rw [hm]; rfl
    · exact mI_smI
    · exact (Fr.sA (by decide)).trans ((Fr.sI (by decide)).trans ((Fr.sI (by decide)).trans (Fr.sI (by decide))))
  · rw [if_neg (fun q => h0 (z7.mp q))]
    rw [if_neg h0] at hm
    generalize hm1 : smI (smI (smA m0 7 v) 10 (nI D.length)) 12 (nI E) = m1 at hm
    have i10 : mI m1 10 = nI D.length := by rw [← hm1, mI_smI_ne (by decide), mI_smI]
    have i12 : mI m1 12 = nI E := by rw [← hm1, mI_smI]
    have i13 : mI m1 13 = -1 := by rw [← hm1, mI_smI_ne (by decide), mI_smI_ne (by decide), mI_smA]; exact h13
    have i1 : mI m1 1 = mI m 1 := by rw [← hm1, mI_smI_ne (by decide), mI_smI_ne (by decide), mI_smA]; exact h1
    have iA : mA m1 0 = mA m 0 := by rw [← hm1, mA_smI, mA_smI, smA_ne (by decide)]; exact hA
    have i7 : mA m1 7 = v := by rw [← hm1, mA_smI, mA_smI, smA_same]
    have hFr : Fr [7] [10, 12, 13] [] m0 m1 := by rw [← hm1]; exact (Fr.sA (by decide)).trans ((Fr.sI (by decide)).trans (Fr.sI (by decide)))
    have hK : ∀ K : Int32 → Int32 → MS → Option (Int32 × MS), (Option.bind (f_X7_takeFigures bb m0) fun v => if v.1 = -1 then K v.1 0 v.2 else Option.bind (f_X7_takeExponent ll v.2) fun w => K v.1 w.1 w.2) = Option.bind (f_X7_takeExponent ll m1) fun w => K (nI bh) w.1 w.2 := by
      intro K
      rw [hm]
      show (if nI bh = -1 then _ else _) = _
      rw [if_neg (nm1 bh (by omega))]
    by_cases hle : f_X7_small (t E) = ll
    · have hEn : E < n := by
        rcases Nat.lt_or_ge E n with x | x
        · exact x
        · rw [g5 E x, sm_m1] at hle
          exact absurd hle.symm hll
      have hps : E + 1 + sg t (E + 1) ≤ n := by
        unfold sg
        by_cases x : E + 1 < n
        · split <;> omega
        · rw [g5 (E + 1) (by omega), if_neg (by decide)]; omega
      obtain ⟨⟨to, ec, er⟩, hes⟩ : ∃ z, esc t (n - (E + 1 + sg t (E + 1))) (E + 1 + sg t (E + 1)) 0 0 = z := ⟨_, rfl⟩
      obtain ⟨xe, hx1, hx2⟩ := cex (p := E + 1) hT (by omega) (a0 := k) (a1 := nb neg) (a2 := nI p) (a3 := nI E) (a4 := nI (D.length - bh)) (a5 := nI l) (a6 := 0) (a7 := nI D.length) hes hps
      obtain ⟨xr, hy1, hy2⟩ := mex (p := E) hT iA i1 hEn i12 i13 hle hes hps
      have hE0 : Ecr 0 0 := ⟨rfl, by decide⟩
      have hp1 := (esc_p (t := t) (n - (E + 1 + sg t (E + 1))) (E + 1 + sg t (E + 1)) 0 0 hE0).1
      rw [hes] at hp1
      rw [if_neg (fun q => by rw [nI_inj (by omega) (by omega)] at q; omega), if_pos hle, hx1]
      refine ⟨_, _, nI bh, xr, _, rfl, fun K => by rw [hK, hy1]; rfl, mI_smI, hFr.trans ((Fr.sI (by decide)).trans (Fr.sI (by decide))), fun _ => ?_⟩
      refine ⟨D, bh, l, E, ec, er, xe, decide (t (E + 1) = 45), rfl, rfl, by omega, ?_, ?_, p6, hL, p5, sd, p3, by omega, hp1, ?_, ?_⟩
      · rw [mI_smI_ne (by decide), mI_smI_ne (by decide)]; exact i10
      · rw [mA_smI, mA_smI, i7]; exact hv
      · rw [hx2]; simp
      · rw [hy2]; simp
    · have hy1 := mex0 (p := E) hT iA i1 (by omega) i12 i13 hle
      refine ⟨if E = n then -1 else nI E, (k, nb neg, nI p, nI E, nI (D.length - bh), nI l, 0, nI D.length), nI bh, 0, smI m1 13 (if E = n then -1 else nI E), ?_, fun K => by rw [hK, hy1]; rfl, mI_smI, hFr.trans (Fr.sI (by decide)), fun _ => ?_⟩
      · by_cases hEn : E = n
        · rw [if_pos (by rw [hEn]), if_pos hEn]
        · rw [if_neg (fun q => hEn (by rw [nI_inj (by omega) (by omega)] at q; exact q)), if_neg hle, if_neg hEn]
      · refine ⟨D, bh, l, E, 0, 0, 0, false, rfl, rfl, by omega, ?_, ?_, p6, hL, p5, sd, p3, by omega, ⟨rfl, by decide⟩, by decide, by decide⟩
        · rw [mI_smI_ne (by decide)]; exact i10
        · rw [mA_smI, i7]; exact hv
