/-! addUnit -/
def AEq (T R A m : Nat) : Prop := R + A * 1000000000 ^ (156 - m) = T
def AU (T : Nat) (X : Int32) (c : CS) (r : Nat) (n : Nat) (a : Int32 × Int32 × CS) : Prop := ∃ (l : Nat → Int32) (F E : Int32) (A : Nat), a.1.toInt = A ∧ A ≤ 100000000 ∧ a.2.1.toInt = (n : Int) - 1 ∧ n ≤ 156 ∧ a.2.2 = srws c r (l, F, E, X) ∧ LR l ∧ LZ l F.toInt E.toInt ∧ 0 ≤ F.toInt ∧ F.toInt ≤ 156 ∧ -1 ≤ E.toInt ∧ E.toInt ≤ 155 ∧ AEq T (rv l) A n
def AUq (T : Nat) (X : Int32) (c : CS) (r : Nat) (z : CS) : Prop := ∃ (l : Nat → Int32) (F E : Int32), z = srws c r (l, F, E, X) ∧ LR l ∧ LZ l F.toInt E.toInt ∧ 0 ≤ F.toInt ∧ F.toInt ≤ 156 ∧ -1 ≤ E.toInt ∧ E.toInt ≤ 155 ∧ rv l = T
theorem setLimb_weak {c : CS} {r i : Nat} {l : Nat → Int32} {F E X x y : Int32} (hx : x.toInt = i) (hi : i < 156) (h1 : LR l) (h2 : LZ l F.toInt E.toInt) (h3 : 0 ≤ F.toInt) (h4 : F.toInt ≤ 156) (h5 : -1 ≤ E.toInt) (h6 : E.toInt ≤ 155) (h0 : 0 ≤ y.toInt) (hy : y.toInt < 1000000000) : ∃ F' E' : Int32, f_X4_setLimb r x y (srws c r (l, F, E, X)) = srws c r (upd l i y, F', E', X) ∧ LR (upd l i y) ∧ LZ (upd l i y) F'.toInt E'.toInt ∧ 0 ≤ F'.toInt ∧ F'.toInt ≤ 156 ∧ -1 ≤ E'.toInt ∧ E'.toInt ≤ 155 := by
  obtain ⟨F1, E1, s1, s2, s3⟩ := setLimb_in (c := srws c r (l, F, E, X)) (r := r) (x := x) (y := y) (i := i) hx hi
  rw [rws_same] at s1 s2 s3
  rw [srws_srws] at s1
  change F1.toInt = (if y = 0 then F.toInt else if (i : Int) < F.toInt then (i : Int) else F.toInt) at s2
  change E1.toInt = (if y = 0 then E.toInt else if E.toInt < (i : Int) then (i : Int) else E.toInt) at s3
  refine ⟨F1, E1, s1, h1.upd h0 hy, ?_, ?_, ?_, ?_, ?_⟩
  · intro k hk hh
    by_cases q : k = i
    · subst q
      rw [upd_eq]
      by_cases h11 : y = 0
      · exact h11
      · exfalso
        rw [if_neg h11] at s2 s3
        revert s2 s3; split <;> (try split) <;> omega
    · rw [upd_ne q]
      refine h2 k hk ?_
      rw [s2, s3] at hh
      revert hh
      by_cases h11 : y = 0
      · rw [if_pos h11, if_pos h11]; exact id
      · rw [if_neg h11, if_neg h11]; split <;> split <;> omega
  · rw [s2]; split <;> (try split) <;> omega
  · rw [s2]; split <;> (try split) <;> omega
  · rw [s3]; split <;> (try split) <;> omega
  · rw [s3]; split <;> (try split) <;> omega
theorem ae1 {T R A m R' d : Nat} (hm : m + 1 ≤ 156) (h : AEq T R A (m + 1)) (hu : R' + d * 1000000000 ^ (155 - m) = R + (d + A) * 1000000000 ^ (155 - m)) : AEq T R' 0 m := by
  unfold AEq at *
  rw [show 156 - (m + 1) = 155 - m by omega] at h
  rw [Nat.add_mul] at hu
  rw [Nat.zero_mul]
  omega
theorem ae2 {T R A m R' d y : Nat} (hm : m + 1 ≤ 156) (h : AEq T R A (m + 1)) (hy : y + 1000000000 = d + A) (hu : R' + d * 1000000000 ^ (155 - m) = R + y * 1000000000 ^ (155 - m)) : AEq T R' 1 m := by
  unfold AEq at *
  rw [show 156 - (m + 1) = 155 - m by omega] at h
  rw [show 156 - m = (155 - m) + 1 by omega, Nat.pow_succ]
  generalize 1000000000 ^ (155 - m) = P at *
  have h1 : (y + 1000000000) * P = (d + A) * P := by rw [hy]
  rw [Nat.add_mul, Nat.add_mul] at h1
  omega
theorem au_step {T : Nat} {X : Int32} {c : CS} {r : Nat} (hT : T < 1000000000 ^ 156) (n : Nat) (a : Int32 × Int32 × CS) (hI : AU T X c r n a) : (∃ z, f_X4_addUnit_L16 r a.1 a.2.1 a.2.2 = some (.inr z) ∧ AUq T X c r z) ∨ ∃ a' n', f_X4_addUnit_L16 r a.1 a.2.1 a.2.2 = some (.inl a') ∧ n' < n ∧ AU T X c r n' a' := by
  obtain ⟨l, F, E, A, h1, h2, h3, h4, h5, h6, h7, h8, h9, h10, h11, h12⟩ := hI
  obtain ⟨x2, x3, cc⟩ := a
  change x2.toInt = _ at h1
  change x3.toInt = _ at h3
  change cc = _ at h5
  subst h5
  show (∃ z, f_X4_addUnit_L16 r x2 x3 (srws c r (l, F, E, X)) = _ ∧ _) ∨ ∃ a' n', f_X4_addUnit_L16 r x2 x3 (srws c r (l, F, E, X)) = _ ∧ _
  unfold f_X4_addUnit_L16
  by_cases hc : x3 < 0
  · rw [if_pos hc]
    rw [ilt, k0] at hc
    have hn : n = 0 := by omega
    subst hn
    have hA : A = 0 := by
      rcases Nat.eq_zero_or_pos A with q | q
      · exact q
      · exfalso
        unfold AEq at h12
        rw [Nat.sub_zero] at h12
        have h13 : 1 * 1000000000 ^ 156 ≤ A * 1000000000 ^ 156 := Nat.mul_le_mul_right _ q
        rw [← h12, Nat.add_comm] at hT
        exact mul_ov h13 hT
    refine .inl ⟨_, rfl, l, F, E, rfl, h6, h7, h8, h9, h10, h11, ?_⟩
    unfold AEq at h12
    rw [hA, Nat.zero_mul, Nat.add_zero] at h12
    exact h12
  · rw [if_neg hc]
    rw [ilt, k0] at hc
    by_cases hA : x2 ≤ 0
    · rw [if_pos hA]
      rw [ile, k0, h1] at hA
      have hA0 : A = 0 := by omega
      refine .inl ⟨_, rfl, l, F, E, rfl, h6, h7, h8, h9, h10, h11, ?_⟩
      unfold AEq at h12
      rw [hA0, Nat.zero_mul, Nat.add_zero] at h12
      exact h12
    · rw [if_neg hA]
      rw [ile, k0, h1] at hA
      obtain ⟨m, rfl⟩ : ∃ m, n = m + 1 := ⟨n - 1, by omega⟩
      have hx3 : x3.toInt = m := by omega
      have hl : f_X4_limbAt r x3 (srws c r (l, F, E, X)) = l m := by rw [limbAt_in (i := m) hx3 (by omega), rws_same]
      have hlm := h6 m (by omega)
      have hdm := dg_int hlm.1
      have hS : (l m + x2).toInt = ((dg l m + A : Nat) : Int) := by rw [ia (by omega) (by omega), h1]; omega
      have eB : (1000000000 : Int32).toInt = 1000000000 := by decide +kernel
      simp only [lt]
      rw [hl]
      have hu := fun y => rv_upd (l := l) (i := m) (y := y) (by omega)
      unfold f_X4_addUnit_J45 f_X4_addUnit_J65
      simp only [lt]
      generalize l m + x2 = S at *
      by_cases hb : S < 1000000000
      · rw [if_pos hb, if_pos hb]
        rw [ilt, eB] at hb
        obtain ⟨F1, E1, s1, s2, s3, s4, s5, s6, s7⟩ := setLimb_weak (c := c) (r := r) (X := X) (y := S) hx3 (by omega) h6 h7 h8 h9 h10 h11 (by omega) (by omega)
        rw [s1]
        refine .inr ⟨_, m, rfl, by omega, upd l m S, F1, E1, 0, rfl, by omega, ?_, by omega, rfl, s2, s3, s4, s5, s6, s7, ?_⟩
        · exact pred32 hx3
        · have hu' := hu S
          rw [hS, Int.toNat_natCast] at hu'
          exact ae1 h4 h12 hu'
      · rw [if_neg hb, if_neg hb]
        rw [ilt, eB] at hb
        have hS2 : (S - 1000000000).toInt = ((dg l m + A - 1000000000 : Nat) : Int) := by rw [is_ (by omega) (by omega), hS, eB]; omega
        obtain ⟨F1, E1, s1, s2, s3, s4, s5, s6, s7⟩ := setLimb_weak (c := c) (r := r) (X := X) (y := S - 1000000000) hx3 (by omega) h6 h7 h8 h9 h10 h11 (by omega) (by omega)
        rw [s1]
        refine .inr ⟨_, m, rfl, by omega, upd l m (S - 1000000000), F1, E1, 1, rfl, by omega, ?_, by omega, rfl, s2, s3, s4, s5, s6, s7, ?_⟩
        · exact pred32 hx3
        · have hu' := hu (S - 1000000000)
          rw [hS2, Int.toNat_natCast] at hu'
          exact ae2 h4 h12 (by omega) hu'
theorem add_spec {c : CS} {r V : Nat} {s : Bool} (h : RIs (rws c r) V s) {x : Int32} {k : Nat} (hx : x.toInt = (k : Int) - 1080) (hk : k < 1404) (hfit : V + 10 ^ k < 1000000000 ^ 156) : ∃ w, f_X4_addUnit r x c = some (srws c r w) ∧ RIs w (V + 10 ^ k) s := by
  have hlo := limbOf_i (x := x) (by omega) (by omega)
  have hte := tenOf_i (x := x)
  have e155 : (155 : Int32).toInt = 155 := by decide
  rw [show (x.toInt % 9).toNat = k % 9 by omega] at hte
  have hmin : (f_JM_min (f_X4_limbOf x) 155).toInt = 155 - ((k / 9 : Nat) : Int) := by rw [min_i, e155]; split <;> omega
  have h8 : 10 ^ (k % 9) ≤ 10 ^ 8 := Nat.pow_le_pow_right (by decide) (by omega)
  rw [show (10 : Nat) ^ 8 = 100000000 by decide] at h8
  obtain ⟨a1, a2, a3, a4, a5⟩ := h
  obtain ⟨z, g1, l, F, E, rfl, g2, g3, g4, g5, g6, g7, g8⟩ := Lp_inv (F := fun a => f_X4_addUnit_L16 r a.1 a.2.1 a.2.2) (AU (V + 10 ^ k) (rws c r).2.2.2 c r) (AUq (V + 10 ^ k) (rws c r).2.2.2 c r) (fun n a hh => au_step hfit n a hh) (156 - k / 9) (f_X4_tenOf x, f_JM_min (f_X4_limbOf x) 155, c) ⟨(rws c r).1, (rws c r).2.1, (rws c r).2.2.1, 10 ^ (k % 9), hte, h8, by show (f_JM_min (f_X4_limbOf x) 155).toInt = _; rw [hmin]; omega, by omega, (srws_self c r).symm, a1, a2, by rcases a3 with q | q <;> omega, by rcases a3 with q | q <;> omega, by rcases a3 with q | q <;> omega, by rcases a3 with q | q <;> omega, by
      unfold AEq
      rw [a4, show 156 - (156 - k / 9) = k / 9 by omega]
      congr 1
      have := p9 (k / 9) (k % 9)
      rw [Nat.div_add_mod] at this
      rw [this, Nat.mul_comm]⟩
  obtain ⟨F', E', t1, t2, t3⟩ := trim_spec (c := c) (r := r) (l := l) (F := F) (E := E) (X := (rws c r).2.2.2) g4 g5 g6 g7 g3
  unfold f_X4_addUnit
  simp only [lt]
  rw [g1]; simp only [Option.bind]
  rw [t1]
  exact ⟨_, rfl, g2, t2, t3, g8, a5⟩
/-! against -/
theorem rv_lt_of {l u : Nat → Int32} (hl : LR l) {i : Nat} (hi : i < 156) (heq : ∀ k, k < i → l k = u k) (hlt : dg l i < dg u i) : rv l < rv u := by
  rw [rv_tl l (i := i + 1) (by omega), rv_tl u (i := i + 1) (by omega), hv, hv, hv_congr (d := dg l) (e := dg u) (fun k hk => by unfold dg; rw [heq k hk])]
  have h1 : tl l (i + 1) < 1000000000 ^ (156 - (i + 1)) := by rw [tl_eq]; exact hv_lt (fun k hk => hl.dg (by omega))
  generalize hv (dg u) i * 1000000000 = H
  have h2 : (H + dg l i + 1) * 1000000000 ^ (156 - (i + 1)) ≤ (H + dg u i) * 1000000000 ^ (156 - (i + 1)) := Nat.mul_le_mul_right _ (by omega)
  rw [Nat.add_mul (H + dg l i), Nat.one_mul] at h2
  generalize (H + dg l i) * 1000000000 ^ (156 - (i + 1)) = Y at *
  generalize (H + dg u i) * 1000000000 ^ (156 - (i + 1)) = Z at *
  generalize 1000000000 ^ (156 - (i + 1)) = P at *
  omega
def GI (c : CS) (r0 r1 : Nat) (n : Nat) (a : Int32) : Prop := ∃ i : Nat, a = nI i ∧ i + n = 157 ∧ i ≤ 156 ∧ ∀ k, k < i → (rws c r0).1 k = (rws c r1).1 k
def Cm (V0 V1 : Nat) (x : Int32) : Prop := (0 < x.toInt ∧ V1 < V0) ∨ (x.toInt = 0 ∧ V0 = V1) ∨ (x.toInt < 0 ∧ V0 < V1)
theorem against_step {c : CS} {r0 r1 V0 V1 : Nat} {s0 s1 : Bool} (h0 : RIs (rws c r0) V0 s0) (h1 : RIs (rws c r1) V1 s1) {x2 : Int32} (hx2 : x2.toInt ≤ 155) (hz : ∀ k : Nat, k < 156 → x2.toInt < k → (rws c r0).1 k = 0 ∧ (rws c r1).1 k = 0) (n : Nat) (a : Int32) (hI : GI c r0 r1 n a) : (∃ z, f_X4_against_L24 r0 r1 x2 a c = some (.inr z) ∧ ((∃ x, z = .inl x ∧ Cm V0 V1 x) ∨ (z = .inr () ∧ V0 = V1))) ∨ ∃ a' n', f_X4_against_L24 r0 r1 x2 a c = some (.inl a') ∧ n' < n ∧ GI c r0 r1 n' a' := by
  obtain ⟨i, rfl, g1, g2, g3⟩ := hI
  have hi : (nI i).toInt = i := nI_toInt (by omega)
  unfold f_X4_against_L24
  by_cases hc : x2 < nI i
  · rw [if_pos hc]
    rw [ilt, hi] at hc
    refine .inl ⟨_, rfl, .inr ⟨rfl, ?_⟩⟩
    rw [← h0.2.2.2.1, ← h1.2.2.2.1, rv_eq, rv_eq]
    refine hv_congr (fun k hk => ?_)
    unfold dg
    by_cases q : k < i
    · rw [g3 k q]
    · have := hz k hk (by omega)
      rw [this.1, this.2]
  · rw [if_neg hc]
    rw [ilt, hi] at hc
    simp only [lt]
    rw [limbAt_in (i := i) hi (by omega), limbAt_in (i := i) hi (by omega)]
    have l0 := h0.1 i (by omega)
    have l1 := h1.1 i (by omega)
    have hd : ((rws c r0).1 i - (rws c r1).1 i).toInt = ((rws c r0).1 i).toInt - ((rws c r1).1 i).toInt := is_ (by omega) (by omega)
    by_cases hq : (rws c r0).1 i - (rws c r1).1 i = 0
    · rw [if_pos hq, nI_inc (by omega)]
      rw [ieq, hd, k0] at hq
      refine .inr ⟨_, n - 1, rfl, by omega, i + 1, rfl, by omega, by omega, fun k hk => ?_⟩
      by_cases q : k = i
      · rw [q]; exact ieq.mpr (by omega)
      · exact g3 k (by omega)
    · rw [if_neg hq]
      rw [ieq, hd, k0] at hq
      refine .inl ⟨_, rfl, .inl ⟨_, rfl, ?_⟩⟩
      have d0 := dg_int l0.1
      have d1 := dg_int l1.1
      by_cases hlt : ((rws c r0).1 i).toInt < ((rws c r1).1 i).toInt
      · refine .inr (.inr ⟨by omega, ?_⟩)
        rw [← h0.2.2.2.1, ← h1.2.2.2.1]
        exact rv_lt_of h0.1 (by omega) g3 (by omega)
      · refine .inl ⟨by omega, ?_⟩
        rw [← h0.2.2.2.1, ← h1.2.2.2.1]
        exact rv_lt_of h1.1 (i := i) (by omega) (fun k hk => (g3 k hk).symm) (by omega)
theorem against_spec {c : CS} {r0 r1 V0 V1 : Nat} {s0 s1 : Bool} (h0 : RIs (rws c r0) V0 s0) (h1 : RIs (rws c r1) V1 s1) : ∃ x, f_X4_against r0 r1 c = some x ∧ Cm V0 V1 x := by
  have b0 : 0 ≤ (rws c r0).2.1.toInt ∧ (rws c r0).2.1.toInt ≤ 156 ∧ -1 ≤ (rws c r0).2.2.1.toInt ∧ (rws c r0).2.2.1.toInt ≤ 155 := by rcases h0.2.2.1 with q | q <;> omega
  have b1 : 0 ≤ (rws c r1).2.1.toInt ∧ (rws c r1).2.1.toInt ≤ 156 ∧ -1 ≤ (rws c r1).2.2.1.toInt ∧ (rws c r1).2.2.1.toInt ≤ 155 := by rcases h1.2.2.1 with q | q <;> omega
  have hm : (f_JM_max (rwE c r0) (rwE c r1)).toInt = if (rws c r0).2.2.1.toInt < (rws c r1).2.2.1.toInt then (rws c r1).2.2.1.toInt else (rws c r0).2.2.1.toInt := max_i
  have hn : (f_JM_min (rwF c r0) (rwF c r1)).toInt = if (rws c r1).2.1.toInt < (rws c r0).2.1.toInt then (rws c r1).2.1.toInt else (rws c r0).2.1.toInt := min_i
  have hm2 : (rws c r0).2.2.1.toInt ≤ (f_JM_max (rwE c r0) (rwE c r1)).toInt ∧ (rws c r1).2.2.1.toInt ≤ (f_JM_max (rwE c r0) (rwE c r1)).toInt ∧ (f_JM_max (rwE c r0) (rwE c r1)).toInt ≤ 155 := by rw [hm]; split <;> omega
  have hn2 : (f_JM_min (rwF c r0) (rwF c r1)).toInt ≤ (rws c r0).2.1.toInt ∧ (f_JM_min (rwF c r0) (rwF c r1)).toInt ≤ (rws c r1).2.1.toInt ∧ 0 ≤ (f_JM_min (rwF c r0) (rwF c r1)).toInt := by rw [hn]; split <;> omega
  obtain ⟨z, g1, g2⟩ := Lp_inv (F := fun a => f_X4_against_L24 r0 r1 (f_JM_max (rwE c r0) (rwE c r1)) a c) (GI c r0 r1) (fun z => (∃ x, z = .inl x ∧ Cm V0 V1 x) ∨ (z = .inr () ∧ V0 = V1)) (fun n a hh => against_step h0 h1 hm2.2.2 (fun k hk hh => ⟨h0.2.1 k hk (by omega), h1.2.1 k hk (by omega)⟩) n a hh) (157 - (f_JM_min (rwF c r0) (rwF c r1)).toInt).toNat (f_JM_min (rwF c r0) (rwF c r1)) ⟨(f_JM_min (rwF c r0) (rwF c r1)).toInt.toNat, nIeq (by omega) (by omega), by omega, by omega, fun k hk => by rw [h0.2.1 k (by omega) (by omega), h1.2.1 k (by omega) (by omega)]⟩
  unfold f_X4_against
  simp only [lt]
  rw [g1]; simp only [Option.bind]
  rcases g2 with ⟨x, rfl, hx⟩ | ⟨rfl, hx⟩
  · exact ⟨x, rfl, hx⟩
  · exact ⟨0, rfl, .inr (.inl ⟨by decide, hx⟩)⟩
