/-! The world at the law's entry: its classes, constants, texts. -/
def adW (aF : Nat → Nat) (tO tT : Nat) (aS aV : Nat → Nat) (k : Nat) : Nat := if k < 34 then aF (k - 30) else if k = 34 then tO else if k = 35 then tT else if k < 70 then aS (k - 40) else aV (k - 70)
theorem adW_F {aF : Nat → Nat} {tO tT : Nat} {aS aV : Nat → Nat} {i : Nat} (h : i < 4) : adW aF tO tT aS aV (30 + i) = aF i := by
  unfold adW; rw [if_pos (by omega)]; congr 1; omega
theorem adW_S {aF : Nat → Nat} {tO tT : Nat} {aS aV : Nat → Nat} {i : Nat} (h : i < 27) : adW aF tO tT aS aV (40 + i) = aS i := by
  unfold adW; rw [if_neg (by omega), if_neg (by omega), if_neg (by omega), if_pos (by omega)]; congr 1; omega
theorem adW_V {aF : Nat → Nat} {tO tT : Nat} {aS aV : Nat → Nat} {i : Nat} (h : i < 27) : adW aF tO tT aS aV (70 + i) = aV i := by
  unfold adW; rw [if_neg (by omega), if_neg (by omega), if_neg (by omega), if_neg (by omega)]; congr 1; omega
theorem st_arr {s : State} {args : Array Value} {ty : FieldType} (h : (Cond.arrayClass ty).before args s = true) : ∃ cA, s.vm.findClass ("[" ++ ty.toString) = some cA ∧ ArrOfT s cA ty := by
  obtain ⟨c, k, comp, h1, h2, h3⟩ := Cond.arrayClass_spec h
  exact ⟨c, h1, fun N z => ⟨(fun k h => by cases h), k, h2, comp, h3⟩⟩
theorem st_all {s : State} {b : Nat} (hts : ∀ w ∈ lw_tbl, w.before #[Value.ref b] s = true) (hgv : (Jvm.Cond.and given_1 narrow_1).before #[Value.ref b] s = true) :
    ∃ w : Wc, w.2.2.2 = s.heap.size ∧ va_K w.1 vwCl (wty w) s ∧ Cns w s s.heap ∧ Nst w s := by
  have hf : ∀ c ∈ fl1, c.before #[Value.ref b] s = true := flat_of_before _ hgv
  have hg : ∀ w ∈ gws, w.before #[Value.ref b] s = true := fun w h => hts w (List.mem_filter.mp h).1
  have ht : ∀ {w : Cond}, w ∈ lw_tbl → w.before #[Value.ref b] s = true := fun h => hts _ h
  have hL := fun (w : Cond) (h : w ∈ _) => hts w (st_L w h)
  have hA : ∀ a : Nat, a < s.heap.size → ¬ (s.heap.size ≤ a) := fun a h => by omega
  -- classes
  obtain ⟨c0, i0, k0⟩ := u_known (C := RX0) (T := TX0) (N := 2) (n := 2) hg uin0 (hL (.instantiable RX0 2) (by simp))
  obtain ⟨c1, i1, k1⟩ := u_known (C := RX1) (T := TX1) (N := 4) (n := 4) hg uin1 (hL (.instantiable RX1 4) (by simp))
  obtain ⟨c3, i3, k3⟩ := u_known (C := RX3) (T := TX3) (N := 2) (n := 2) hg uin3 (hL (.instantiable RX3 2) (by simp))
  obtain ⟨c4, i4, k4⟩ := u_known (C := RX4) (T := TX4) (N := 4) (n := 4) hg uin4 (hL (.instantiable RX4 4) (by simp))
  obtain ⟨c5, i5, k5⟩ := u_known (C := RX5) (T := TX5) (N := 8) (n := 8) hg uin5 (hL (.instantiable RX5 8) (by simp))
  obtain ⟨c6, i6, k6⟩ := u_known (C := RX6) (T := TX6) (N := 11) (n := 11) hg uin6 (hL (.instantiable RX6 11) (by simp))
  obtain ⟨c7, i7, k7⟩ := u_known (C := RX7) (T := TX7) (N := 25) (n := 25) hg uin7 (hL (.instantiable RX7 25) (by simp))
  obtain ⟨ab, hab, hab2⟩ := st_arr (hL (.arrayClass .byte) (by simp))
  obtain ⟨ai, hai, hai2⟩ := st_arr (hL (.arrayClass .int) (by simp))
  obtain ⟨al, hal, hal2⟩ := st_arr (hL (.arrayClass .long) (by simp))
  -- formats
  have hF0 : ∀ i : Nat, ∃ t : Nat, i < 4 → (tmF i).eval #[Value.ref b] s none [] s = some (.ref t) ∧ va_O "FloatTexts$Format" t (fun q => s.heap.size ≤ q) s s.heap := by
    intro i
    by_cases hi : i < 4
    · obtain ⟨a, c, cell, k, q1, q2, q3, q4, q5, q6, -⟩ := Cond.exactly_spec (hf _ (st_exF i hi))
      exact ⟨a, fun _ => ⟨q1, va_Oof (hf _ (st_exF i hi)) q1 hA⟩⟩
    · exact ⟨0, fun h => absurd h hi⟩
  obtain ⟨aF, hF⟩ := Classical.axiomOfChoice hF0
  obtain ⟨tO, hO1, hO2⟩ := va_Tof (tm := tmO) (ty := .object "FloatTexts$Format") (N := 4) (f := fun k => .ref (aF k)) (A := fun q => s.heap.size ≤ q) (by decide) (hf _ st_O1.1) (va_eqt (hf _ st_O1.2)) (fun j hj => va_eqv (hf _ (st_O2 j hj)) (hF j hj).1) hA
  obtain ⟨tT, hT1, hT2⟩ := va_Tof (tm := tmT) (ty := .int) (N := 9) (f := fun k => .int (tnV k)) (A := fun q => s.heap.size ≤ q) (by decide) (hf _ st_T1.1) (va_eqt (hf _ st_T1.2)) (fun j hj => va_eqt (hf _ (st_T2 j hj))) hA
  -- texts
  have hS0 : ∀ j : Nat, ∃ q : Nat × Nat, j < 27 → (tmS j).eval #[Value.ref b] s none [] s = some (.ref q.1) ∧ va_O "java/lang/String" q.1 (fun q => s.heap.size ≤ q) s s.heap ∧ va_OF "java/lang/String" "value" "[B" (.ref q.2) q.1 (fun q => s.heap.size ≤ q) s s.heap ∧ va_OF "java/lang/String" "coder" "B" (.int 0) q.1 (fun q => s.heap.size ≤ q) s s.heap ∧ va_T .byte q.2 (sxN j) (fun i => .int (sxC j i)) (fun q => s.heap.size ≤ q) s s.heap := by
    intro j
    by_cases hj : j < 27
    · obtain ⟨e1, e2, e3, e4⟩ := st_S1 j hj
      obtain ⟨a, c, cell, k, q1, q2, q3, q4, q5, q6, -⟩ := Cond.exactly_spec (hf _ e1)
      have hN : sxN j < 2 ^ 31 := by
        have : ∀ j, j < 27 → sxN j < 2 ^ 31 := by decide +kernel
        exact this j hj
      obtain ⟨t, ht1, ht2⟩ := va_Tof (tm := tmV j) (ty := .byte) (N := sxN j) (f := fun i => .int (sxC j i)) (A := fun q => s.heap.size ≤ q) hN (hf _ e3) (va_eqt (hf _ e4)) (fun i hi => va_eqt (hf _ (st_S2 j hj i hi))) hA
      exact ⟨(a, t), fun _ => ⟨q1, va_Oof (hf _ e1) q1 hA, vk_OFof q1 ht1 hA, vk_OFof q1 (va_eqt (hf _ e2)) hA, ht2⟩⟩
    · exact ⟨(0, 0), fun h => absurd h hj⟩
  obtain ⟨aS, hS⟩ := Classical.axiomOfChoice hS0
  obtain ⟨WA, hWF, hWO, hWT, hWS, hWV⟩ : ∃ WA : Nat → Nat, (∀ i, i < 4 → WA (30 + i) = aF i) ∧ WA 34 = tO ∧ WA 35 = tT ∧ (∀ j, j < 27 → WA (40 + j) = (aS j).1) ∧ (∀ j, j < 27 → WA (70 + j) = (aS j).2) := ⟨adW aF tO tT (fun j => (aS j).1) (fun j => (aS j).2), fun i hi => adW_F hi, rfl, rfl, fun j hj => adW_S hj, fun j hj => adW_V hj⟩
  refine ⟨((fun k => if k = 0 then c0 else if k = 1 then c1 else if k = 2 then c3 else if k = 3 then c4 else if k = 4 then c5 else if k = 5 then c6 else c7, fun k => if k = 0 then i0 else if k = 1 then i1 else if k = 2 then i3 else if k = 3 then i4 else if k = 4 then i5 else if k = 5 then i6 else i7), fun k => if k = 0 then ab else if k = 1 then ai else al, WA, s.heap.size), rfl, ⟨?_, ?_⟩, ?_, ?_⟩
  · intro k q hq
    match k, hq with
    | 0, hq => cases hq; exact k0
    | 1, hq => cases hq; exact k1
    | 2, hq => cases hq; exact k3
    | 3, hq => cases hq; exact k4
    | 4, hq => cases hq; exact k5
    | 5, hq => cases hq; exact k6
    | 6, hq => cases hq; exact k7
    | k + 7, hq => simp [vwCl] at hq
  · intro k q hq
    match k, hq with
    | 0, hq => cases hq; exact ⟨hab2, hab⟩
    | 1, hq => cases hq; exact ⟨hai2, hai⟩
    | 2, hq => cases hq; exact ⟨hal2, hal⟩
    | k + 3, hq => simp [wty] at hq
  · refine ⟨?_, ?_, ?_, ?_, ?_, ?_, ?_, ?_, ?_, ?_, ?_, ?_, ?_⟩
    · intro i hi
      show va_OF _ _ _ _ (WA (30 + i)) _ _ _
      rw [hWF i hi]
      exact vk_OFof (hF i hi).1 (va_eqt (hf _ (st_W i hi))) hA
    · intro i hi
      show va_OF _ _ _ _ (WA (30 + i)) _ _ _
      rw [hWF i hi]
      exact vk_OFof (hF i hi).1 (va_eqt (hf _ (st_P i hi))) hA
    · intro i hi
      show va_OF _ _ _ _ (WA (30 + i)) _ _ _
      rw [hWF i hi]
      exact vk_OFof (hF i hi).1 (va_eqt (hf _ (st_E i hi))) hA
    · intro i hi
      show va_O _ (WA (30 + i)) _ _ _
      rw [hWF i hi]
      exact (hF i hi).2
    · refine va_Zref (hL _ (by simp)) (hL _ (by simp)) ?_ hA
      show _ = some (Value.ref (WA 34))
      rw [hWO]; exact hO1
    · show va_T _ (WA 34) _ _ _ _ _
      rw [hWO]
      obtain ⟨cell, z1, z2, z3, z4, z5, z6, z7⟩ := hO2
      refine ⟨cell, z1, z2, z3, z4, z5, fun j hj => ?_, z7⟩
      rw [z6 j hj]
      show _ = some (Value.ref (WA (30 + j)))
      rw [hWF j hj]
    · refine va_Zref (hL _ (by simp)) (hL _ (by simp)) ?_ hA
      show _ = some (Value.ref (WA 35))
      rw [hWT]; exact hT1
    · show va_T _ (WA 35) _ _ _ _ _
      rw [hWT]
      exact hT2
    · intro j hj
      show va_O _ (WA (40 + j)) _ _ _ ∧ va_OF _ _ _ (Value.ref (WA (70 + j))) (WA (40 + j)) _ _ _ ∧ va_OF _ _ _ _ (WA (40 + j)) _ _ _ ∧ va_T _ (WA (70 + j)) _ _ _ _ _
      rw [hWS j hj, hWV j hj]
      exact (hS j hj).2
    · exact va_Zof (hL _ (by simp)) (hL _ (by simp)) (va_eqt (hf _ st_X.1)) hA
    · exact vx_Zqof (hL _ (by simp)) (hL _ (by simp)) (hf _ st_X.2.1) hA
    · exact vx_Zqof (hL _ (by simp)) (hL _ (by simp)) (hf _ st_X.2.2.1) hA
    · exact va_Zqof (hL _ (by simp)) (hL _ (by simp)) (hf _ st_X.2.2.2) hA
  · refine ⟨?_, va_Nw.of rfl (hL _ (by simp)), va_Nw.of rfl (hL _ (by simp)), va_Nw.of rfl (hL (.castable wIA wIA) (by simp)), va_Nw.of rfl (hL (.castable wIO wIO) (by simp)), va_Nw.of rfl (hL _ (by simp)), va_Nw.of rfl (hL _ (by simp)), va_Nw.of rfl (hL _ (by simp))⟩
    intro j q hq
    have hj : j < 27 := by
      have := (List.getElem?_eq_some_iff.mp hq).1
      exact this
    have hq2 : sxR.getD j ("", 0, "") = q := by rw [List.getD_eq_getElem?_getD, hq]; rfl
    have h1 := ht (st_R j hj)
    have h2 := (hS j hj).1
    unfold tmS at h2
    rw [hq2] at h1 h2
    show vk_R _ _ _ (WA (40 + j)) s
    rw [hWS j hj]
    exact ⟨by simpa [Cond.before, Cond.holds, Cond.value] using h1, by simpa [Term.eval] using h2⟩
