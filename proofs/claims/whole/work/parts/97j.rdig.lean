/-! the class reads its digits again -/
def dls (t : Nat → Int32) : Nat → Nat → List Nat
  | 0, _ => []
  | r + 1, i => if t i = 46 then dls t r (i + 1) else vd (t i) :: dls t r (i + 1)
theorem scn_dls {t : Nat → Int32} {b : Nat} (hb : b ≤ 16) (ht : ∀ i, -1 ≤ (t i).toInt ∧ (t i).toInt < 256) : ∀ (r i : Nat) (pt : Bool) (D : List Nat) (bh : Nat), (scn t b r i pt D bh).2.2.1 = D ++ dls t ((scn t b r i pt D bh).1 - i) i := by
  intro r
  induction r with
  | zero => intro i pt D bh; rw [scn]; show D = D ++ dls t (i - i) i; rw [Nat.sub_self, dls, List.append_nil]
  | succ r ih =>
    intro i pt D bh
    rw [scn]
    by_cases c1 : t i = 46 ∧ pt = false
    · rw [if_pos c1, ih]
      have := scn_ge (t := t) (b := b) r (i + 1) true D bh
      obtain ⟨k, hk⟩ : ∃ k, (scn t b r (i + 1) true D bh).1 = i + 1 + k := ⟨(scn t b r (i + 1) true D bh).1 - (i + 1), by omega⟩
      rw [hk, show i + 1 + k - (i + 1) = k by omega, show i + 1 + k - i = k + 1 by omega, dls, if_pos c1.1]
    · rw [if_neg c1]
      by_cases c2 : vd (t i) < b
      · rw [if_pos c2, ih]
        have hn : t i ≠ 46 := by
          obtain ⟨v1, v2, v3⟩ := vd_p (ht i).1 (ht i).2
          rcases v2 with ⟨-, -, x, -⟩ | ⟨x, -⟩
          · exact x
          · omega
        have := scn_ge (t := t) (b := b) r (i + 1) pt (D ++ [vd (t i)]) (bh + (if pt then 1 else 0))
        obtain ⟨k, hk⟩ : ∃ k, (scn t b r (i + 1) pt (D ++ [vd (t i)]) (bh + (if pt then 1 else 0))).1 = i + 1 + k := ⟨(scn t b r (i + 1) pt (D ++ [vd (t i)]) (bh + (if pt then 1 else 0))).1 - (i + 1), by omega⟩
        rw [hk, show i + 1 + k - (i + 1) = k by omega, show i + 1 + k - i = k + 1 by omega, dls, if_neg hn]
        simp
      · rw [if_neg c2]
        show D = D ++ dls t (i - i) i
        rw [Nat.sub_self, dls, List.append_nil]
def lvn (b : Nat) (D : List Nat) : Nat := nv b (fun k => D.getD k 0) D.length
theorem lvn_app {b : Nat} {D : List Nat} {d : Nat} : lvn b (D ++ [d]) = lvn b D * b + d := by
  unfold lvn
  rw [lenN]
  show nv b (fun k => (D ++ [d]).getD k 0) D.length * b + (D ++ [d]).getD D.length 0 = _
  rw [gN_last, nv_congr (d := fun k => (D ++ [d]).getD k 0) (e := fun k => D.getD k 0) (fun k hk => gN_app hk)]
/-- a row that is M * 10^(9 b), cut at its end -/
def FBq (M : Nat) (b : Int) (V : Nat) (s : Bool) : Prop := (0 ≤ b → V = M * 1000000000 ^ b.toNat ∧ s = false) ∧ (b < 0 → V = M / 1000000000 ^ (-b).toNat ∧ s = decide (M % 1000000000 ^ (-b).toNat ≠ 0))
theorem place_o {c : CS} {r V M y : Nat} {s : Bool} {A : Int} (h : RIs (rws c r) V s) (hF : FBq M (A + 1) V s) {x Y : Int32} (hx : x.toInt = 155 - A) (hY : Y.toInt = (y : Int)) (hy : y < 1000000000) (hA : 156 ≤ A → M * 1000000000 + y = 0) : ∃ w' V' s', f_X4_placeLimb r x Y c = srws c r w' ∧ RIs w' V' s' ∧ FBq (M * 1000000000 + y) A V' s' := by
  have e156 : (156 : Int32).toInt = 156 := by decide
  unfold f_X4_placeLimb f_X4_placeLimb_J16
  by_cases h1 : 156 ≤ A
  · have hz := hA h1
    have hM : M = 0 := by omega
    rw [if_pos (by rw [ilt, hx, e156]; omega)]
    simp only [lt]
    rw [setLimb_out (.inl (by omega))]
    have hf := hF.1 (by omega)
    rw [hM, Nat.zero_mul] at hf
    refine ⟨rws c r, V, s, (srws_self c r).symm, h, fun _ => ⟨by rw [hz, Nat.zero_mul]; exact hf.1, hf.2⟩, fun q => by omega⟩
  · by_cases h2 : 0 ≤ A
    · rw [if_pos (by rw [ilt, hx, e156]; omega)]
      simp only [lt]
      obtain ⟨a, ha⟩ : ∃ a : Nat, A = a := ⟨A.toNat, by omega⟩
      obtain ⟨f1, f2⟩ := hF.1 (by omega)
      rw [ha, show ((a : Int) + 1).toNat = a + 1 by omega] at f1
      have hg : gd V a = 0 := by
        unfold gd
        rw [f1, Nat.pow_succ, ← Nat.mul_assoc, Nat.mul_right_comm, Nat.mul_div_cancel _ (Nat.pow_pos (by decide)), Nat.mul_mod_left]
      obtain ⟨w', s1, s2, s3, s4⟩ := setLimb_ris (i := 155 - a) h (x := x) (y := Y) (by omega) (by omega) (by omega) (by omega) (fun _ => by
        rw [ieq, h.limb (by omega), show 155 - (155 - a) = a by omega, hg]; rfl)
      rw [show 155 - (155 - a) = a by omega, hg, Nat.zero_mul, Nat.add_zero, hY, Int.toNat_natCast] at s4
      refine ⟨w', rv w'.1, s, s1, s2, fun _ => ⟨?_, f2⟩, fun q => by omega⟩
      rw [s4, f1, ha, Int.toNat_natCast, Nat.add_mul, Nat.pow_succ, Nat.mul_comm (1000000000 ^ a) 1000000000, ← Nat.mul_assoc]
    · obtain ⟨k, hk⟩ : ∃ k : Nat, A = -((k + 1 : Nat) : Int) := ⟨(-A).toNat - 1, by omega⟩
      have hVs : V = (M * 1000000000 + y) / 1000000000 ^ (k + 1) ∧ (s || decide (y ≠ 0)) = decide ((M * 1000000000 + y) % 1000000000 ^ (k + 1) ≠ 0) := by
        have hdv : (M * 1000000000 + y) / 1000000000 = M := by omega
        have hmd : (M * 1000000000 + y) % 1000000000 = y := by omega
        have e1 : (M * 1000000000 + y) / 1000000000 ^ (k + 1) = M / 1000000000 ^ k := by rw [Nat.pow_succ, Nat.mul_comm (1000000000 ^ k) 1000000000, ← Nat.div_div_eq_div_mul, hdv]
        have e2 : (M * 1000000000 + y) % 1000000000 ^ (k + 1) = y + 1000000000 * (M % 1000000000 ^ k) := by rw [Nat.pow_succ, Nat.mul_comm (1000000000 ^ k), Nat.mod_mul, hdv, hmd]
        rw [e1, e2]
        by_cases hk0 : k = 0
        · obtain ⟨f1, f2⟩ := hF.1 (by omega)
          rw [hk, hk0, show (-((0 + 1 : Nat) : Int) + 1).toNat = 0 by decide, Nat.pow_zero, Nat.mul_one] at f1
          rw [hk0, Nat.pow_zero, Nat.div_one, Nat.mod_one, f2]
          exact ⟨f1, by simp⟩
        · obtain ⟨f1, f2⟩ := hF.2 (by omega)
          rw [show (-(A + 1)).toNat = k by omega] at f1 f2
          refine ⟨f1, ?_⟩
          rw [f2, Bool.eq_iff_iff, Bool.or_eq_true, decide_eq_true_iff, decide_eq_true_iff, decide_eq_true_iff]
          omega
      have fin : FBq (M * 1000000000 + y) A V (s || decide (y ≠ 0)) := by
        refine ⟨fun q => by omega, fun _ => ?_⟩
        rw [show (-A).toNat = k + 1 by omega]
        exact hVs
      rw [if_neg (by rw [ilt, hx, e156]; omega)]
      by_cases hy0 : y = 0
      · rw [if_pos (show Y = 0 by rw [ieq, hY, hy0]; rfl)]
        simp only [lt]
        rw [setLimb_out (.inr (by omega))]
        refine ⟨rws c r, V, s, (srws_self c r).symm, h, ?_⟩
        rw [hy0] at fin
        simpa [hy0] using fin
      · rw [if_neg (show ¬ Y = 0 from fun q => hy0 (by rw [q, k0] at hY; omega))]
        simp only [lt]
        rw [setLimb_out (.inr (by omega))]
        refine ⟨((rws c r).1, (rws c r).2.1, (rws c r).2.2.1, 1), V, true, rfl, ?_, ?_⟩
        · obtain ⟨a1, a2, a3, a4, a5⟩ := h
          exact ⟨a1, a2, a3, a4, rfl⟩
        · rw [show (s || decide (y ≠ 0)) = true by rw [decide_eq_true hy0, Bool.or_true]] at fin
          exact fin
theorem y_fit {y d tt : Nat} (hy : y < 1000000000) (hd : d < 10) (ht : tt < 9) (hm : y % 10 ^ (tt + 1) = 0) : y + d * 10 ^ tt < 1000000000 ∧ (y + d * 10 ^ tt) % 10 ^ tt = 0 := by
  have hp : 0 < 10 ^ tt := Nat.pow_pos (by decide)
  obtain ⟨q, hq⟩ := Nat.dvd_of_mod_eq_zero hm
  have e9 : 1000000000 = 10 ^ (tt + 1) * 10 ^ (8 - tt) := by rw [← Nat.pow_add, show tt + 1 + (8 - tt) = 9 by omega]
  rw [e9, hq] at hy
  have hq2 : q < 10 ^ (8 - tt) := Nat.lt_of_mul_lt_mul_left hy
  have h1 : 10 ^ (tt + 1) * (q + 1) ≤ 10 ^ (tt + 1) * 10 ^ (8 - tt) := Nat.mul_le_mul_left _ hq2
  rw [Nat.mul_add, Nat.mul_one] at h1
  have h2 : d * 10 ^ tt ≤ 9 * 10 ^ tt := Nat.mul_le_mul_right _ (by omega)
  have h3 : 10 ^ (tt + 1) = 10 * 10 ^ tt := by rw [Nat.pow_succ, Nat.mul_comm]
  constructor
  · rw [hq, e9]
    rw [h3] at h1 ⊢
    generalize 10 ^ tt = T at *
    omega
  · rw [hq, h3, Nat.mul_comm 10, Nat.mul_assoc, Nat.mul_comm d, ← Nat.mul_add]
    exact Nat.mul_mod_right _ _
def SDI (c : CS) (t : Nat → Int32) (D : List Nat) (E : Nat) (pos : Int) (q : Nat) (a : Int32 × Int32 × Int32 × Int32 × CS) : Prop := ∃ (p : Nat) (pre : List Nat) (A : Int) (tt M y V : Nat) (s : Bool) (w : RWs), a.1.toInt = 155 - A ∧ a.2.1.toInt = ((10 ^ tt : Nat) : Int) ∧ a.2.2.1.toInt = (y : Int) ∧ a.2.2.2.1 = nI p ∧ a.2.2.2.2 = srws c 0 w ∧ p + q = E ∧ D = pre ++ dls t q p ∧ tt < 9 ∧ pos - pre.length + 1080 = 9 * A + tt ∧ M * 1000000000 + y = lvn 10 pre * 10 ^ (tt + 1) ∧ y < 1000000000 ∧ y % 10 ^ (tt + 1) = 0 ∧ RIs w V s ∧ FBq M (A + 1) V s ∧ (156 ≤ A → lvn 10 pre = 0)
theorem sdi_step {c : CS} {m : MS} {t : Nat → Int32} {n : Nat} (hT : Tx c m t n) {D : List Nat} {E : Nat} {pos : Int} (hE : E ≤ 1600) (hpos : -5000 ≤ pos ∧ pos ≤ 5000) (hD : ∀ k, k < D.length → D.getD k 0 < 10) (hsig : ∀ k : Nat, k < D.length → D.getD k 0 ≠ 0 → pos - k < 324) (hDl : D.length ≤ 1600) (q : Nat) (a : Int32 × Int32 × Int32 × Int32 × CS) (hI : SDI c t D E pos q a) : (∃ z, f_X4_setDigits_L24 0 0 (nI E) a.1 a.2.1 a.2.2.1 a.2.2.2.1 a.2.2.2.2 = some (.inr z) ∧ ∃ (A : Int) (tt M y V : Nat) (s : Bool) (w : RWs), z.1.toInt = 155 - A ∧ z.2.1.toInt = (y : Int) ∧ z.2.2 = srws c 0 w ∧ tt < 9 ∧ pos - D.length + 1080 = 9 * A + tt ∧ M * 1000000000 + y = lvn 10 D * 10 ^ (tt + 1) ∧ y < 1000000000 ∧ RIs w V s ∧ FBq M (A + 1) V s ∧ (156 ≤ A → lvn 10 D = 0)) ∨ ∃ a' q', f_X4_setDigits_L24 0 0 (nI E) a.1 a.2.1 a.2.2.1 a.2.2.2.1 a.2.2.2.2 = some (.inl a') ∧ q' < q ∧ SDI c t D E pos q' a' := by
  obtain ⟨x5, x6, x7, x8, c'⟩ := a
  obtain ⟨p, pre, A, tt, M, y, V, s, w, h1, h2, h3, h4, h5, h6, h7, h8, h9, h10, h11, h12, h13, h14, h15⟩ := hI
  change x5.toInt = _ at h1
  change x6.toInt = _ at h2
  change x7.toInt = _ at h3
  change x8 = _ at h4
  change c' = _ at h5
  subst h4 h5
  have hT' := hT
  obtain ⟨g1, g2, g3, g4, g5, g6⟩ := hT'
  show (∃ z, f_X4_setDigits_L24 0 0 (nI E) x5 x6 x7 (nI p) (srws c 0 w) = some (.inr z) ∧ _) ∨ ∃ a' q', f_X4_setDigits_L24 0 0 (nI E) x5 x6 x7 (nI p) (srws c 0 w) = some (.inl a') ∧ _
  unfold f_X4_setDigits_L24
  cases q with
  | zero =>
    rw [if_pos ((cle2 (by omega) (by omega)).mpr (by omega))]
    rw [dls, List.append_nil] at h7
    subst h7
    exact .inl ⟨_, rfl, A, tt, M, y, V, s, w, h1, h3, rfl, h8, h9, h10, h11, h13, h14, h15⟩
  | succ q =>
    right
    rw [if_neg (fun x => by have := (cle2 (by omega) (by omega)).mp x; omega)]
    have hat : f_X0_at 0 (nI p) (srws c 0 w) = t p := hT.atc (c := c) (nI_toInt (by omega))
    simp only [lt]
    rw [hat, nI_inc (by omega)]
    rw [dls] at h7
    by_cases hdot : t p = 46
    · rw [if_pos hdot]
      rw [if_pos hdot] at h7
      exact ⟨_, q, rfl, by omega, p + 1, pre, A, tt, M, y, V, s, w, h1, h2, h3, rfl, rfl, by omega, h7, h8, h9, h10, h11, h12, h13, h14, h15⟩
    · rw [if_neg hdot]
      rw [if_neg hdot] at h7
      have h7' : D = (pre ++ [vd (t p)]) ++ dls t q (p + 1) := by rw [h7]; simp
      have hlen : pre.length < D.length := by rw [h7]; simp
      have hget : D.getD pre.length 0 = vd (t p) := by rw [h7]; simp [List.getD]
      have hd10 : vd (t p) < 10 := by rw [← hget]; exact hD _ hlen
      obtain ⟨v1, v2, v3⟩ := vd_p (g6 p).1 (g6 p).2
      have htv : (t p).toInt = 48 + (vd (t p) : Int) := by
        rcases v2 with ⟨-, -, -, x⟩ | ⟨x, -⟩
        · exact x hd10
        · omega
      have e48 : (48 : Int32).toInt = 48 := by decide
      have k10 : (10 : Int32).toInt = ((10 : Nat) : Int) := by decide
      have hsub : (t p - 48).toInt = (vd (t p) : Int) := by rw [is_ (by omega) (by omega), htv, e48]; omega
      have hp8 : 10 ^ tt ≤ 10 ^ 8 := Nat.pow_le_pow_right (by decide) (by omega)
      rw [show (10 : Nat) ^ 8 = 100000000 by decide] at hp8
      have hp0 : 0 < 10 ^ tt := Nat.pow_pos (by decide)
      have hdt : vd (t p) * 10 ^ tt ≤ 9 * 10 ^ tt := Nat.mul_le_mul_right _ (by omega)
      have hmul : ((t p - 48) * x6).toInt = ((vd (t p) * 10 ^ tt : Nat) : Int) := by
        rw [im (by rw [hsub, h2, ← i64pos]; omega) (by rw [hsub, h2, ← i64pos]; omega), hsub, h2, ← i64pos]
      obtain ⟨yf1, yf2⟩ := y_fit h11 hd10 h8 h12
      have hx7 : (x7 + (t p - 48) * x6).toInt = ((y + vd (t p) * 10 ^ tt : Nat) : Int) := by
        rw [ia (by rw [h3, hmul]; omega) (by rw [h3, hmul]; omega), h3, hmul]; omega
      have hx6 := idv_n h2 k10
      have hMy : M * 1000000000 + (y + vd (t p) * 10 ^ tt) = lvn 10 (pre ++ [vd (t p)]) * 10 ^ tt := by
        rw [lvn_app, Nat.add_mul, ← Nat.add_assoc, h10, Nat.pow_succ, Nat.mul_comm (10 ^ tt) 10, ← Nat.mul_assoc]
      have hhi : 156 ≤ A → lvn 10 (pre ++ [vd (t p)]) = 0 := by
        intro hA
        have hd0 : vd (t p) = 0 := by
          rcases Nat.eq_zero_or_pos (vd (t p)) with x | x
          · exact x
          · have := hsig pre.length hlen (by rw [hget]; omega)
            omega
        rw [lvn_app, h15 hA, hd0]
      generalize x7 + (t p - 48) * x6 = z7 at hx7 ⊢
      cases tt with
      | zero =>
        rw [if_pos (by rw [ieq, hx6, k0])]
        rw [Nat.pow_zero, Nat.mul_one] at hx7 yf1 hMy
        rw [Nat.mul_one] at hMy
        obtain ⟨w', V', s', p1, p2, p3⟩ := place_o (c := srws c 0 w) (r := 0) (by rw [rws_same]; exact h13) h14 h1 hx7 yf1 (fun hA => by rw [hMy]; exact hhi hA)
        rw [srws_srws] at p1
        rw [p1]
        have one : (1 : Int32).toInt = 1 := by decide
        refine ⟨_, q, rfl, by omega, p + 1, pre ++ [vd (t p)], A - 1, 8, M * 1000000000 + (y + vd (t p)), 0, V', s', w', ?_, (by show (100000000 : Int32).toInt = _; decide), (by show (0 : Int32).toInt = _; decide), rfl, rfl, by omega, h7', by omega, ?_, ?_, by decide, by decide, p2, by rw [show A - 1 + 1 = A by omega]; exact p3, fun hA => hhi (by omega)⟩
        · show (x5 + 1).toInt = _
          rw [ia (by omega) (by omega), h1, one]; omega
        · rw [lenN]; omega
        · rw [hMy, Nat.add_zero]
      | succ u =>
        rw [Nat.pow_succ, Nat.mul_div_cancel _ (by decide)] at hx6
        have hu0 : 0 < 10 ^ u := Nat.pow_pos (by decide)
        rw [if_neg (by rw [ieq, hx6, k0]; omega)]
        refine ⟨_, q, rfl, by omega, p + 1, pre ++ [vd (t p)], A, u, M, y + vd (t p) * 10 ^ (u + 1), V, s, w, h1, hx6, hx7, rfl, rfl, by omega, h7', by omega, ?_, hMy, yf1, yf2, h13, h14, hhi⟩
        rw [lenN]; omega
theorem setDigits_o {c : CS} {m : MS} {t : Nat → Int32} {n : Nat} (hT : Tx c m t n) (hr : Rw (rws c 0)) {D : List Nat} {st E : Nat} {pos : Int} (hE : E ≤ 1600) (hst : st ≤ E) (hpos : -3000 ≤ pos ∧ pos ≤ 3000) (hD : ∀ k, k < D.length → D.getD k 0 < 10) (hsig : ∀ k : Nat, k < D.length → D.getD k 0 ≠ 0 → pos - k < 324) (hDl : D.length ≤ 1600) (hDd : D = dls t (E - st) st) {x4 : Int32} (hx4 : x4.toInt = pos) : ∃ (w : RWs) (V : Nat) (s : Bool) (A : Int) (tt : Nat), f_X4_setDigits 0 0 (nI st) (nI E) x4 c = some (srws c 0 w) ∧ RIs w V s ∧ FBq (lvn 10 D * 10 ^ (tt + 1)) A V s ∧ pos - D.length + 1080 = 9 * A + (tt : Int) ∧ tt < 9 := by
  obtain ⟨V0, s0, h0⟩ := hr
  obtain ⟨l, g1, g2⟩ := empty_spec h0
  have hl := limbOf_i (x := x4) (by omega) (by omega)
  have ht := tenOf_i (x := x4)
  rw [hx4] at hl ht
  obtain ⟨z, k1, A, tt, M, y, V, s, w, k2, k3, k4, k5, k6, k7, k8, k9, k10, k11⟩ := Lp_inv (F := fun a => f_X4_setDigits_L24 0 0 (nI E) a.1 a.2.1 a.2.2.1 a.2.2.2.1 a.2.2.2.2) (SDI c t D E pos) _ (fun q a hI => sdi_step hT hE (by omega) hD hsig hDl q a hI) (E - st) (f_X4_limbOf x4, f_X4_tenOf x4, 0, nI st, srws c 0 (l, 156, -1, 0)) ⟨st, [], pos / 9 + 120, (pos % 9).toNat, 0, 0, 0, false, (l, 156, -1, 0), by show (f_X4_limbOf x4).toInt = _; rw [hl]; omega, ht, (by show (0 : Int32).toInt = _; decide), rfl, rfl, by omega, by rw [List.nil_append]; exact hDd, by omega, by simp; omega, by show 0 * 1000000000 + 0 = lvn 10 [] * _; simp [lvn, nv], by decide, Nat.zero_mod _, zero_ris g2, ⟨fun _ => ⟨by rw [Nat.zero_mul], rfl⟩, fun _ => ⟨by rw [Nat.zero_div], by simp⟩⟩, fun _ => rfl⟩
  obtain ⟨w', V', s', p1, p2, p3⟩ := place_o (c := srws c 0 w) (r := 0) (by rw [rws_same]; exact k9) k10 k2 k3 k8 (fun hA => by rw [k7, k11 hA, Nat.zero_mul])
  rw [srws_srws] at p1
  rw [k7] at p3
  refine ⟨w', V', s', A, tt, ?_, p2, p3, k6, k5⟩
  unfold f_X4_setDigits
  rw [g1]; simp only [Option.bind, lt]
  rw [k1]; simp only
  rw [k4, p1]
theorem dn_div {N D k : Nat} (h : Dn N D) (hk : k < D) : Dn (N / 10 ^ k) (D - k) := by
  obtain ⟨h1, h2, h3⟩ := h
  have hp : 0 < 10 ^ k := Nat.pow_pos (by decide)
  refine ⟨by omega, ?_, ?_⟩
  · rw [Nat.le_div_iff_mul_le hp, ← Nat.pow_add, show D - k - 1 + k = D - 1 by omega]; exact h2
  · rw [Nat.div_lt_iff_lt_mul hp, ← Nat.pow_add, show D - k + k = D by omega]; exact h3
/-- the row of a text's digits -/
theorem fbq_fl {N tt V Dg : Nat} {A E : Int} {s : Bool} (hF : FBq (N * 10 ^ (tt + 1)) A V s) (hE : E + 1080 = 9 * A + tt + 1) (ht : tt < 9) (hD : Dn N Dg) (hP : 720 ≤ (Dg : Int) + E + 1080) : Fl (N * tp E * GG) (tp (-E)) V s ∧ Dn V ((Dg : Int) + E + 1080).toNat := by
  by_cases hA : 0 ≤ A
  · obtain ⟨f1, f2⟩ := hF.1 hA
    obtain ⟨K, hK⟩ : ∃ K : Nat, (K : Int) = E + 1080 := ⟨(E + 1080).toNat, by omega⟩
    have hV : V = N * 10 ^ K := by
      rw [f1, Nat.mul_assoc, B9, ← Nat.pow_add]
      congr 2; omega
    rw [hV, f2]
    refine ⟨fl_tens hK, ?_⟩
    rw [show ((Dg : Int) + E + 1080).toNat = Dg + K by omega]
    exact dn_mul hD
  · obtain ⟨f1, f2⟩ := hF.2 (by omega)
    obtain ⟨k, hk⟩ : ∃ k : Nat, A = -(k : Int) := ⟨(-A).toNat, by omega⟩
    rw [show (-A).toNat = k by omega, B9] at f1 f2
    have fl := fl_of (X := N * 10 ^ (tt + 1)) (Y := 10 ^ (9 * k)) (Nat.pow_pos (by decide))
    rw [← f1, ← f2] at fl
    refine ⟨fl_scale ?_ (tp_pos _) fl, ?_⟩
    · rw [GG_eq]
      unfold tp
      rw [Nat.mul_assoc, ← Nat.pow_add, Nat.mul_assoc, Nat.mul_assoc, ← Nat.pow_add, ← Nat.pow_add]
      congr 2; omega
    · obtain ⟨j, hj⟩ : ∃ j, 9 * k = j + (tt + 1) := ⟨9 * k - (tt + 1), by omega⟩
      have hV : V = N / 10 ^ j := by
        rw [f1, hj, Nat.pow_add 10 j (tt + 1), Nat.mul_div_mul_right _ _ (Nat.pow_pos (n := tt + 1) (show 0 < 10 by decide))]
      rw [hV, show ((Dg : Int) + E + 1080).toNat = Dg - j by omega]
      exact dn_div hD (by omega)
