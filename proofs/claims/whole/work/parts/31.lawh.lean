/-! The law's own methods: a call on the class, its exception caught. -/
def CtH (y : MethodName) (cc : ByteArray) (nL : Nat) (hh : List (Nat × Nat × Nat × Nat)) (d : Nat) (as : Wc → List Value) (σ : SS) (v : Int32) (σ' : SS) : Prop :=
  ∀ (l : Launch) (w : Wc), l.stackTraces = false → Met l y (Cond.codeWith y cc nL (some .int) hh :: gws) (rmd d 1 6) (va_Pc (as w) (Wd w σ)) (Qr w (some (.int v)) σ') 1 6 (wA w)
theorem CtH_of {y : MethodName} {cc : ByteArray} {nL d : Nat} {hh : List (Nat × Nat × Nat × Nat)} {as : Wc → List Value} {σ σ' : SS} {v : Int32} (hy : plainName y.cls = true) (hl : ∀ w : Wc, (lg_sl (as w)).length ≤ nL) (body : ∀ g : Cx, Gd g y.cls cc nL d 1 6 → g.1.2.1.stackTraces = false → g.2.1.2.2.2.2.exceptionTable.toList = tableOf hh → FinI g cc 1 6 v σ' → AW g 0 (lv_args 0 (as (cxw g))) [] σ 0 0) : CtH y cc nL hh d as σ v σ' := by
  intro l w hst
  refine va_MetW (cc := cc) (maxL := nL) (ret := some .int) (hh := hh) hy rfl ?_
  intro p e s m args below meth c s₁ B hml hv
  obtain ⟨rfl, hP, hK, hC, hNs, hsz⟩ := hv
  have hx := B.exec
  have hb := B.bytes
  have hr := B.returns
  have hts := atoms_spec (ws := Cond.codeWith y cc nL (some .int) hh :: gws) B.pre
  have htab := vx_table (p := p) (x := y) (y := y) (bytes := cc) (maxL' := nL) (ret' := some .int) (hh := hh) B (hts _ List.mem_cons_self)
  have hown : s.vm.findClass y.cls = some m.cls := findClass_of_methodNamed B.named
  have hlk := B.notSynchronized
  have hl9 := lv_entry (as w) (n := nL) (hl w)
  rw [lg_entry_eq]
  generalize (lg_sl (as w) ++ List.replicate (nL - (lg_sl (as w)).length) Slot.unset).toArray = ls at hl9 ⊢
  refine body ((p, l, e, rmd d 1 6, s), (m, (as w).toArray, below, meth, c), (w, nL, MQ below (Qr w (some (.int v)) σ') (as w).toArray s 1 6 (wA w))) ⟨hx, hb, hml, rfl, hown, fun w hw => hts w (List.mem_cons_of_mem _ hw), hlk, hK, hC, hNs, hsz, Nat.le_refl _, Nat.le_refl _, Nat.le_refl _, Nat.le_refl _⟩ hst htab ?_ s.heap [] ls hP va_S.rf hl9
  intro pc L k n hk hn hd H locs ls hP hS hl
  refine W.widen hk hn ?_
  exact W.iret hx hb hr (fun t ht hW => ⟨rfl, by rw [ht]; exact hP, hS.F ht⟩) hS.2.2 hd hlk
section AWH
variable {g : Cx} {own : String} {cc : ByteArray} {nL d mc ms pc k n : Nat} {L L' : List (Nat × Value)} {st : List Value} {σ σ' : SS}
def Wh (y : MethodName) (cc : ByteArray) (nL : Nat) (hh : List (Nat × Nat × Nat × Nat)) (np : Nat) : Prop := (Cond.static y ∈ gws ∧ Cond.initialized y.cls ∈ gws ∧ Cond.codeWith y cc nL (some .int) hh ∈ gws) ∧ (y.cls ≠ "java/lang/invoke/MethodHandle" ∧ y.cls ≠ "java/lang/invoke/VarHandle" ∧ (parseMethodDescriptor y.desc).map (fun d => d.parameters.length) = some np) ∧ nL ≤ 19
theorem aw_callH {y : MethodName} {cc' : ByteArray} {nL' d' idx np : Nat} {hh : List (Nat × Nat × Nat × Nat)} {as : Wc → List Value} {v : Int32} {As rest : List Value} (hG : Gd g own cc nL d mc ms) (hst9 : g.1.2.1.stackTraces = false) (hM : CtH y cc' nL' hh d' as σ v σ') (h1 : Cond.methodLink own idx y ∈ gws) (hw : Wh y cc' nL' hh np) (has : as (cxw g) = As) (hn : As.length = np) (hst : st = As.reverse ++ rest) (hdd : d' + 1 ≤ d) (hk : k + 1 ≤ mc) (hk2 : n + 6 ≤ ms) (hcat : (rest.map fun v => v.category).sum ≤ 8) (hd : decode cc pc = .ok (.invokestatic idx, 3)) (kk : AW g (pc + 3) L (.int v :: rest) σ' (k + 1) (n + 6)) : AW g pc L st σ k n := by
  obtain ⟨⟨p, l, e, R, s⟩, ⟨m, args, below, meth, c⟩, w, N, Q⟩ := g
  obtain ⟨hx, hb, hml, hN, hown, hts, hlk, hK, hC, hNs, hsz, hR⟩ := hG
  intro H locs ls hP hS hl
  dsimp only [cxw, cxs] at *
  obtain ⟨⟨w1, w3, w4⟩, w5, w6⟩ := hw
  have hM9 := hM l w hst9
  rw [has] at hM9
  have hr := vx_runSW (e := e) (below := below) (meth := meth) (g := F0 m pc ls st) (As := As) (rest := rest) (H := H) (locs := locs) (cells := k) (slots := n) ⟨hx, hb, hml, hown, hts⟩ hM9 (vx_cwSW (R := R) (rm := rmd d' 1 6) (mc := 1) (ms := 6) np hts (inS h1 w1 w3 w4) rfl rfl rfl w5 (by simp only [rmd]; omega)) ⟨fun a U f mk q => ⟨q.1, q.2.calling⟩, fun U hU hW => ⟨rfl, Wd_of hP hK hC hNs hsz hS hU hW⟩⟩ rfl hn (hl.1.trans hN) (by rw [hst]) (lv_room hcat) hd (by omega)
  intro T hT X
  obtain ⟨v, st₀, t, T', L9, h0, X', hL, e1, e2, ⟨hv, hWd, hF⟩, hgo⟩ := hr T hT X
  cases hv
  obtain ⟨t2, a1, b1⟩ := kk T'.heap (locs ++ L9) ls (by rw [e1]; exact hWd) (va_S.step hS h0 e1 hF hL) hl T' rfl X'
  exact ⟨t2, hgo t2 a1, b1⟩
theorem aw_catchV {y : MethodName} {cc' : ByteArray} {nL' d' idx b np hs he hp ct : Nat} {ret : Option FieldType} {as : Wc → List Value} {E : String} {As rest : List Value} (hG : Gd g own cc nL d 1 6) (hst9 : g.1.2.1.stackTraces = false) (htab : g.2.1.2.2.2.2.exceptionTable.toList = tableOf [(hs, he, hp, ct)]) (hM : CtT y cc' nL' ret d' as σ E) (h1 : Cond.methodLink own idx y ∈ gws) (hw : Wv y cc' nL' ret np) (hrv : Rv g y.cls b σ) (has : as (cxw g) = .ref b :: As) (hn : As.length = np) (hst : st = As.reverse ++ .ref b :: rest) (hdd : d' + 1 ≤ d) (hcat : (rest.map fun v => v.category).sum ≤ 8) (hd : decode cc pc = .ok (.invokevirtual idx, 3)) (hcov : covers ⟨hs, he, hp, ct⟩ pc = true) (hct : ct ≠ 0) (hcl0 : Cond.classLink own ct E ∈ gws) (hcast : ∀ U : State, Nst (cxw g) U → va_Nw (.castable E E) U) (kk : ∀ q : Nat, AW g hp L [.ref q] σ 1 6) : AW g pc L st σ 0 0 := by
  obtain ⟨⟨p, l, e, R, s⟩, ⟨m, args, below, meth, c⟩, w, N, Q⟩ := g
  obtain ⟨hx, hb, hml, hN, hown, hts, hlk, hK, hC, hNs, hsz, hR⟩ := hG
  intro H locs ls hP hS hl
  dsimp only [cxw, cxs] at *
  obtain ⟨⟨w1, w2, w3, w4⟩, w5, w6⟩ := hw
  have hM9 := hM l w hst9
  rw [has] at hM9
  have hr := vx_runV (e := e) (below := below) (meth := meth) (g := F0 m pc ls st) (As := As) (rest := rest) (b := b) (H := H) (locs := locs) (cells := 0) (slots := 0) ⟨hx, hb, hml, hown, hts⟩ hM9 (cwV (R := R) (rm := rmd d' 1 6) (mc := 1) (ms := 6) np hts (inV h1 w1 w2 w3 w4) rfl rfl rfl w5 (by simp only [rmd]; omega)) ⟨fun a U f mk q => ⟨q.1, q.2.calling⟩, hrv H locs hP hS, fun U hU hW => ⟨rfl, Wd_of hP hK hC hNs hsz hS hU hW⟩⟩ rfl hn (hl.1.trans hN) (by rw [hst]) (lv_room hcat) hd (by omega)
  intro T hT X
  rcases hr T hT X with ⟨v, st₀, t, T', L9, h0, X', hL, e1, e2, hv, hgo⟩ | ⟨q, st₀, t, T', L9, E9, ce, h0, X', hL, e1, e2, ⟨hE, hWd, hF⟩, hce, hcv, hcl, hgo⟩
  · exact hv.elim
  · subst hE
    have hS1 := va_S.step hS h0 e1 hF hL
    obtain ⟨t2, a1, b1⟩ := vx_catch (E := E9) (name := E9) (ce := ce) (pc := pc) (ls := ls) (rest := rest) (Q := Q) hown [] ⟨hs, he, hp, ct⟩ [] htab (fun z hz => nomatch hz) hcov hct (hts _ hcl0) (va_Nw.use rfl (hcast s hNs)) (by rw [e1]; exact hce) hcv hcl (kk q T'.heap (locs ++ L9) ls (by rw [e1]; exact hWd) hS1 hl) T' rfl X'
    exact ⟨t2, hgo.trans a1, b1⟩
end AWH
theorem lL_0 : Cond.methodLink RL 7 yX6_type ∈ gws := gws_of 264 (by decide +kernel) (by decide +kernel)
theorem lL_1 : Cond.code yX6_type cX6_type 5 (some .int) ∈ gws := gws_of 267 (by decide +kernel) (by decide +kernel)
theorem lL_2 : Cond.initialized yX6_type.cls ∈ gws := gws_of 56 (by decide +kernel) (by decide +kernel)
theorem lL_3 : Cond.instanceMethod yX6_type ∈ gws := gws_of 265 (by decide +kernel) (by decide +kernel)
theorem lL_4 : Cond.selects yX6_type.cls yX6_type yX6_type ∈ gws := gws_of 266 (by decide +kernel) (by decide +kernel)
theorem wvL_X6_type : Wv yX6_type cX6_type 5 (some .int) 2 := ⟨⟨lL_3, lL_4, lL_2, lL_1⟩, ⟨rfl, by decide, by decide, by decide +kernel⟩, by decide⟩
theorem lL_5 : Cond.classLink RL 13 wIA ∈ gws := gws_of 263 (by decide +kernel) (by decide +kernel)
theorem lL_6 : Cond.methodLink RL 15 yX6_read ∈ gws := gws_of 338 (by decide +kernel) (by decide +kernel)
theorem lL_7 : Cond.code yX6_read cX6_read 5 (some .int) ∈ gws := gws_of 341 (by decide +kernel) (by decide +kernel)
theorem lL_8 : Cond.initialized yX6_read.cls ∈ gws := gws_of 56 (by decide +kernel) (by decide +kernel)
theorem lL_9 : Cond.instanceMethod yX6_read ∈ gws := gws_of 339 (by decide +kernel) (by decide +kernel)
theorem lL_10 : Cond.selects yX6_read.cls yX6_read yX6_read ∈ gws := gws_of 340 (by decide +kernel) (by decide +kernel)
theorem wvL_X6_read : Wv yX6_read cX6_read 5 (some .int) 2 := ⟨⟨lL_9, lL_10, lL_8, lL_7⟩, ⟨rfl, by decide, by decide, by decide +kernel⟩, by decide⟩
theorem lL_11 : Cond.methodLink RL 19 yX6_shortest ∈ gws := gws_of 614 (by decide +kernel) (by decide +kernel)
theorem lL_12 : Cond.code yX6_shortest cX6_shortest 7 (some .int) ∈ gws := gws_of 617 (by decide +kernel) (by decide +kernel)
theorem lL_13 : Cond.initialized yX6_shortest.cls ∈ gws := gws_of 56 (by decide +kernel) (by decide +kernel)
theorem lL_14 : Cond.instanceMethod yX6_shortest ∈ gws := gws_of 615 (by decide +kernel) (by decide +kernel)
theorem lL_15 : Cond.selects yX6_shortest.cls yX6_shortest yX6_shortest ∈ gws := gws_of 616 (by decide +kernel) (by decide +kernel)
theorem wvL_X6_shortest : Wv yX6_shortest cX6_shortest 7 (some .int) 3 := ⟨⟨lL_14, lL_15, lL_13, lL_12⟩, ⟨rfl, by decide, by decide, by decide +kernel⟩, by decide⟩
theorem lL_16 : Cond.methodLink RL 23 yX6_exact ∈ gws := gws_of 784 (by decide +kernel) (by decide +kernel)
theorem lL_17 : Cond.code yX6_exact cX6_exact 6 (some .int) ∈ gws := gws_of 787 (by decide +kernel) (by decide +kernel)
theorem lL_18 : Cond.initialized yX6_exact.cls ∈ gws := gws_of 56 (by decide +kernel) (by decide +kernel)
theorem lL_19 : Cond.instanceMethod yX6_exact ∈ gws := gws_of 785 (by decide +kernel) (by decide +kernel)
theorem lL_20 : Cond.selects yX6_exact.cls yX6_exact yX6_exact ∈ gws := gws_of 786 (by decide +kernel) (by decide +kernel)
theorem wvL_X6_exact : Wv yX6_exact cX6_exact 6 (some .int) 3 := ⟨⟨lL_19, lL_20, lL_18, lL_17⟩, ⟨rfl, by decide, by decide, by decide +kernel⟩, by decide⟩
theorem lL_21 : Cond.methodLink RL 26 yX6_middle ∈ gws := gws_of 795 (by decide +kernel) (by decide +kernel)
theorem lL_22 : Cond.code yX6_middle cX6_middle 6 (some .int) ∈ gws := gws_of 798 (by decide +kernel) (by decide +kernel)
theorem lL_23 : Cond.initialized yX6_middle.cls ∈ gws := gws_of 56 (by decide +kernel) (by decide +kernel)
theorem lL_24 : Cond.instanceMethod yX6_middle ∈ gws := gws_of 796 (by decide +kernel) (by decide +kernel)
theorem lL_25 : Cond.selects yX6_middle.cls yX6_middle yX6_middle ∈ gws := gws_of 797 (by decide +kernel) (by decide +kernel)
theorem wvL_X6_middle : Wv yX6_middle cX6_middle 6 (some .int) 3 := ⟨⟨lL_24, lL_25, lL_23, lL_22⟩, ⟨rfl, by decide, by decide, by decide +kernel⟩, by decide⟩
theorem lL_26 : Cond.methodLink RL 29 yX6_digits ∈ gws := gws_of 806 (by decide +kernel) (by decide +kernel)
theorem lL_27 : Cond.code yX6_digits cX6_digits 8 (some .int) ∈ gws := gws_of 809 (by decide +kernel) (by decide +kernel)
theorem lL_28 : Cond.initialized yX6_digits.cls ∈ gws := gws_of 56 (by decide +kernel) (by decide +kernel)
theorem lL_29 : Cond.instanceMethod yX6_digits ∈ gws := gws_of 807 (by decide +kernel) (by decide +kernel)
theorem lL_30 : Cond.selects yX6_digits.cls yX6_digits yX6_digits ∈ gws := gws_of 808 (by decide +kernel) (by decide +kernel)
theorem wvL_X6_digits : Wv yX6_digits cX6_digits 8 (some .int) 5 := ⟨⟨lL_29, lL_30, lL_28, lL_27⟩, ⟨rfl, by decide, by decide, by decide +kernel⟩, by decide⟩
theorem lL_31 : Cond.methodLink RL 33 yX6_fixed ∈ gws := gws_of 814 (by decide +kernel) (by decide +kernel)
theorem lL_32 : Cond.code yX6_fixed cX6_fixed 7 (some .int) ∈ gws := gws_of 817 (by decide +kernel) (by decide +kernel)
theorem lL_33 : Cond.initialized yX6_fixed.cls ∈ gws := gws_of 56 (by decide +kernel) (by decide +kernel)
theorem lL_34 : Cond.instanceMethod yX6_fixed ∈ gws := gws_of 815 (by decide +kernel) (by decide +kernel)
theorem lL_35 : Cond.selects yX6_fixed.cls yX6_fixed yX6_fixed ∈ gws := gws_of 816 (by decide +kernel) (by decide +kernel)
theorem wvL_X6_fixed : Wv yX6_fixed cX6_fixed 7 (some .int) 4 := ⟨⟨lL_34, lL_35, lL_33, lL_32⟩, ⟨rfl, by decide, by decide, by decide +kernel⟩, by decide⟩
theorem lL_36 : Cond.methodLink RL 37 yX6_hex ∈ gws := gws_of 822 (by decide +kernel) (by decide +kernel)
theorem lL_37 : Cond.code yX6_hex cX6_hex 5 (some .int) ∈ gws := gws_of 825 (by decide +kernel) (by decide +kernel)
theorem lL_38 : Cond.initialized yX6_hex.cls ∈ gws := gws_of 56 (by decide +kernel) (by decide +kernel)
theorem lL_39 : Cond.instanceMethod yX6_hex ∈ gws := gws_of 823 (by decide +kernel) (by decide +kernel)
theorem lL_40 : Cond.selects yX6_hex.cls yX6_hex yX6_hex ∈ gws := gws_of 824 (by decide +kernel) (by decide +kernel)
theorem wvL_X6_hex : Wv yX6_hex cX6_hex 5 (some .int) 2 := ⟨⟨lL_39, lL_40, lL_38, lL_37⟩, ⟨rfl, by decide, by decide, by decide +kernel⟩, by decide⟩
theorem lL_41 : Cond.methodLink RL 41 yX6_out ∈ gws := gws_of 837 (by decide +kernel) (by decide +kernel)
theorem lL_42 : Cond.code yX6_out cX6_out 2 (some .int) ∈ gws := gws_of 840 (by decide +kernel) (by decide +kernel)
theorem lL_43 : Cond.initialized yX6_out.cls ∈ gws := gws_of 56 (by decide +kernel) (by decide +kernel)
theorem lL_44 : Cond.instanceMethod yX6_out ∈ gws := gws_of 838 (by decide +kernel) (by decide +kernel)
theorem lL_45 : Cond.selects yX6_out.cls yX6_out yX6_out ∈ gws := gws_of 839 (by decide +kernel) (by decide +kernel)
theorem wvL_X6_out : Wv yX6_out cX6_out 2 (some .int) 1 := ⟨⟨lL_44, lL_45, lL_43, lL_42⟩, ⟨rfl, by decide, by decide, by decide +kernel⟩, by decide⟩
theorem lL_46 : Cond.classLink RL 45 wIO ∈ gws := gws_of 836 (by decide +kernel) (by decide +kernel)
theorem lL_47 : Cond.methodLink RL 47 yX6_decimal ∈ gws := gws_of 860 (by decide +kernel) (by decide +kernel)
theorem lL_48 : Cond.code yX6_decimal cX6_decimal 2 (some .int) ∈ gws := gws_of 863 (by decide +kernel) (by decide +kernel)
theorem lL_49 : Cond.initialized yX6_decimal.cls ∈ gws := gws_of 56 (by decide +kernel) (by decide +kernel)
theorem lL_50 : Cond.instanceMethod yX6_decimal ∈ gws := gws_of 861 (by decide +kernel) (by decide +kernel)
theorem lL_51 : Cond.selects yX6_decimal.cls yX6_decimal yX6_decimal ∈ gws := gws_of 862 (by decide +kernel) (by decide +kernel)
theorem wvL_X6_decimal : Wv yX6_decimal cX6_decimal 2 (some .int) 1 := ⟨⟨lL_50, lL_51, lL_49, lL_48⟩, ⟨rfl, by decide, by decide, by decide +kernel⟩, by decide⟩
theorem lL_52 : Cond.methodLink RL 50 yX6_digit ∈ gws := gws_of 868 (by decide +kernel) (by decide +kernel)
theorem lL_53 : Cond.code yX6_digit cX6_digit 2 (some .int) ∈ gws := gws_of 871 (by decide +kernel) (by decide +kernel)
theorem lL_54 : Cond.initialized yX6_digit.cls ∈ gws := gws_of 56 (by decide +kernel) (by decide +kernel)
theorem lL_55 : Cond.instanceMethod yX6_digit ∈ gws := gws_of 869 (by decide +kernel) (by decide +kernel)
theorem lL_56 : Cond.selects yX6_digit.cls yX6_digit yX6_digit ∈ gws := gws_of 870 (by decide +kernel) (by decide +kernel)
theorem wvL_X6_digit : Wv yX6_digit cX6_digit 2 (some .int) 1 := ⟨⟨lL_55, lL_56, lL_54, lL_53⟩, ⟨rfl, by decide, by decide, by decide +kernel⟩, by decide⟩
theorem lL_57 : Cond.methodLink RL 53 yX6_nearest ∈ gws := gws_of 877 (by decide +kernel) (by decide +kernel)
theorem lL_58 : Cond.code yX6_nearest cX6_nearest 7 (some .long) ∈ gws := gws_of 880 (by decide +kernel) (by decide +kernel)
theorem lL_59 : Cond.initialized yX6_nearest.cls ∈ gws := gws_of 56 (by decide +kernel) (by decide +kernel)
theorem lL_60 : Cond.instanceMethod yX6_nearest ∈ gws := gws_of 878 (by decide +kernel) (by decide +kernel)
theorem lL_61 : Cond.selects yX6_nearest.cls yX6_nearest yX6_nearest ∈ gws := gws_of 879 (by decide +kernel) (by decide +kernel)
theorem wvL_X6_nearest : Wv yX6_nearest cX6_nearest 7 (some .long) 4 := ⟨⟨lL_60, lL_61, lL_59, lL_58⟩, ⟨rfl, by decide, by decide, by decide +kernel⟩, by decide⟩
theorem lL_62 : Cond.methodLink RL 57 yX6_power ∈ gws := gws_of 900 (by decide +kernel) (by decide +kernel)
theorem lL_63 : Cond.code yX6_power cX6_power 7 (some .long) ∈ gws := gws_of 903 (by decide +kernel) (by decide +kernel)
theorem lL_64 : Cond.initialized yX6_power.cls ∈ gws := gws_of 56 (by decide +kernel) (by decide +kernel)
theorem lL_65 : Cond.instanceMethod yX6_power ∈ gws := gws_of 901 (by decide +kernel) (by decide +kernel)
theorem lL_66 : Cond.selects yX6_power.cls yX6_power yX6_power ∈ gws := gws_of 902 (by decide +kernel) (by decide +kernel)
theorem wvL_X6_power : Wv yX6_power cX6_power 7 (some .long) 4 := ⟨⟨lL_65, lL_66, lL_64, lL_63⟩, ⟨rfl, by decide, by decide, by decide +kernel⟩, by decide⟩
theorem lL_67 : Cond.methodLink RL 60 yX6_convert ∈ gws := gws_of 907 (by decide +kernel) (by decide +kernel)
theorem lL_68 : Cond.code yX6_convert cX6_convert 9 (some .long) ∈ gws := gws_of 910 (by decide +kernel) (by decide +kernel)
theorem lL_69 : Cond.initialized yX6_convert.cls ∈ gws := gws_of 56 (by decide +kernel) (by decide +kernel)
theorem lL_70 : Cond.instanceMethod yX6_convert ∈ gws := gws_of 908 (by decide +kernel) (by decide +kernel)
theorem lL_71 : Cond.selects yX6_convert.cls yX6_convert yX6_convert ∈ gws := gws_of 909 (by decide +kernel) (by decide +kernel)
theorem wvL_X6_convert : Wv yX6_convert cX6_convert 9 (some .long) 4 := ⟨⟨lL_70, lL_71, lL_69, lL_68⟩, ⟨rfl, by decide, by decide, by decide +kernel⟩, by decide⟩
theorem lL_72 : Cond.methodLink RL 63 yX6_next ∈ gws := gws_of 918 (by decide +kernel) (by decide +kernel)
theorem lL_73 : Cond.code yX6_next cX6_next 9 (some .long) ∈ gws := gws_of 921 (by decide +kernel) (by decide +kernel)
theorem lL_74 : Cond.initialized yX6_next.cls ∈ gws := gws_of 56 (by decide +kernel) (by decide +kernel)
theorem lL_75 : Cond.instanceMethod yX6_next ∈ gws := gws_of 919 (by decide +kernel) (by decide +kernel)
theorem lL_76 : Cond.selects yX6_next.cls yX6_next yX6_next ∈ gws := gws_of 920 (by decide +kernel) (by decide +kernel)
theorem wvL_X6_next : Wv yX6_next cX6_next 9 (some .long) 3 := ⟨⟨lL_75, lL_76, lL_74, lL_73⟩, ⟨rfl, by decide, by decide, by decide +kernel⟩, by decide⟩
theorem lL_77 : Cond.methodLink RL 67 yX6_steps ∈ gws := gws_of 929 (by decide +kernel) (by decide +kernel)
theorem lL_78 : Cond.code yX6_steps cX6_steps 13 (some .long) ∈ gws := gws_of 932 (by decide +kernel) (by decide +kernel)
theorem lL_79 : Cond.initialized yX6_steps.cls ∈ gws := gws_of 56 (by decide +kernel) (by decide +kernel)
theorem lL_80 : Cond.instanceMethod yX6_steps ∈ gws := gws_of 930 (by decide +kernel) (by decide +kernel)
theorem lL_81 : Cond.selects yX6_steps.cls yX6_steps yX6_steps ∈ gws := gws_of 931 (by decide +kernel) (by decide +kernel)
theorem wvL_X6_steps : Wv yX6_steps cX6_steps 13 (some .long) 3 := ⟨⟨lL_80, lL_81, lL_79, lL_78⟩, ⟨rfl, by decide, by decide, by decide +kernel⟩, by decide⟩
theorem lL_82 : Cond.methodLink RL 71 yX6_compare ∈ gws := gws_of 944 (by decide +kernel) (by decide +kernel)
theorem lL_83 : Cond.code yX6_compare cX6_compare 7 (some .int) ∈ gws := gws_of 947 (by decide +kernel) (by decide +kernel)
theorem lL_84 : Cond.initialized yX6_compare.cls ∈ gws := gws_of 56 (by decide +kernel) (by decide +kernel)
theorem lL_85 : Cond.instanceMethod yX6_compare ∈ gws := gws_of 945 (by decide +kernel) (by decide +kernel)
theorem lL_86 : Cond.selects yX6_compare.cls yX6_compare yX6_compare ∈ gws := gws_of 946 (by decide +kernel) (by decide +kernel)
theorem wvL_X6_compare : Wv yX6_compare cX6_compare 7 (some .int) 3 := ⟨⟨lL_85, lL_86, lL_84, lL_83⟩, ⟨rfl, by decide, by decide, by decide +kernel⟩, by decide⟩
theorem lL_87 : Cond.methodLink RL 75 yX6_order ∈ gws := gws_of 954 (by decide +kernel) (by decide +kernel)
theorem lL_88 : Cond.code yX6_order cX6_order 8 (some .int) ∈ gws := gws_of 957 (by decide +kernel) (by decide +kernel)
theorem lL_89 : Cond.initialized yX6_order.cls ∈ gws := gws_of 56 (by decide +kernel) (by decide +kernel)
theorem lL_90 : Cond.instanceMethod yX6_order ∈ gws := gws_of 955 (by decide +kernel) (by decide +kernel)
theorem lL_91 : Cond.selects yX6_order.cls yX6_order yX6_order ∈ gws := gws_of 956 (by decide +kernel) (by decide +kernel)
theorem wvL_X6_order : Wv yX6_order cX6_order 8 (some .int) 3 := ⟨⟨lL_90, lL_91, lL_89, lL_88⟩, ⟨rfl, by decide, by decide, by decide +kernel⟩, by decide⟩
theorem lL_92 : Cond.methodLink RL 78 yX6_kind ∈ gws := gws_of 961 (by decide +kernel) (by decide +kernel)
theorem lL_93 : Cond.code yX6_kind cX6_kind 5 (some .int) ∈ gws := gws_of 964 (by decide +kernel) (by decide +kernel)
theorem lL_94 : Cond.initialized yX6_kind.cls ∈ gws := gws_of 56 (by decide +kernel) (by decide +kernel)
theorem lL_95 : Cond.instanceMethod yX6_kind ∈ gws := gws_of 962 (by decide +kernel) (by decide +kernel)
theorem lL_96 : Cond.selects yX6_kind.cls yX6_kind yX6_kind ∈ gws := gws_of 963 (by decide +kernel) (by decide +kernel)
theorem wvL_X6_kind : Wv yX6_kind cX6_kind 5 (some .int) 2 := ⟨⟨lL_95, lL_96, lL_94, lL_93⟩, ⟨rfl, by decide, by decide, by decide +kernel⟩, by decide⟩
theorem lL_97 : Cond.methodLink RL 81 yX6_reads ∈ gws := gws_of 969 (by decide +kernel) (by decide +kernel)
theorem lL_98 : Cond.code yX6_reads cX6_reads 8 (some .boolean) ∈ gws := gws_of 972 (by decide +kernel) (by decide +kernel)
theorem lL_99 : Cond.initialized yX6_reads.cls ∈ gws := gws_of 56 (by decide +kernel) (by decide +kernel)
theorem lL_100 : Cond.instanceMethod yX6_reads ∈ gws := gws_of 970 (by decide +kernel) (by decide +kernel)
theorem lL_101 : Cond.selects yX6_reads.cls yX6_reads yX6_reads ∈ gws := gws_of 971 (by decide +kernel) (by decide +kernel)
theorem wvL_X6_reads : Wv yX6_reads cX6_reads 8 (some .boolean) 4 := ⟨⟨lL_100, lL_101, lL_99, lL_98⟩, ⟨rfl, by decide, by decide, by decide +kernel⟩, by decide⟩
theorem lL_102 : Cond.methodLink RL 85 yX6_holds ∈ gws := gws_of 976 (by decide +kernel) (by decide +kernel)
theorem lL_103 : Cond.code yX6_holds cX6_holds 7 (some .boolean) ∈ gws := gws_of 979 (by decide +kernel) (by decide +kernel)
theorem lL_104 : Cond.initialized yX6_holds.cls ∈ gws := gws_of 56 (by decide +kernel) (by decide +kernel)
theorem lL_105 : Cond.instanceMethod yX6_holds ∈ gws := gws_of 977 (by decide +kernel) (by decide +kernel)
theorem lL_106 : Cond.selects yX6_holds.cls yX6_holds yX6_holds ∈ gws := gws_of 978 (by decide +kernel) (by decide +kernel)
theorem wvL_X6_holds : Wv yX6_holds cX6_holds 7 (some .boolean) 2 := ⟨⟨lL_105, lL_106, lL_104, lL_103⟩, ⟨rfl, by decide, by decide, by decide +kernel⟩, by decide⟩
theorem lL_107 : Cond.static yL_type ∈ gws := gws_of 261 (by decide +kernel) (by decide +kernel)
theorem lL_108 : Cond.initialized yL_type.cls ∈ gws := gws_of 55 (by decide +kernel) (by decide +kernel)
theorem lL_109 : Cond.codeWith yL_type cL_type 6 (some .int) [(0, 11, 14, 13)] ∈ gws := gws_of 262 (by decide +kernel) (by decide +kernel)
theorem lL_110 : Cond.static yL_read ∈ gws := gws_of 336 (by decide +kernel) (by decide +kernel)
theorem lL_111 : Cond.initialized yL_read.cls ∈ gws := gws_of 55 (by decide +kernel) (by decide +kernel)
theorem lL_112 : Cond.codeWith yL_read cL_read 5 (some .int) [(0, 10, 13, 13)] ∈ gws := gws_of 337 (by decide +kernel) (by decide +kernel)
theorem lL_113 : Cond.static yL_shortest ∈ gws := gws_of 612 (by decide +kernel) (by decide +kernel)
theorem lL_114 : Cond.initialized yL_shortest.cls ∈ gws := gws_of 55 (by decide +kernel) (by decide +kernel)
theorem lL_115 : Cond.codeWith yL_shortest cL_shortest 7 (some .int) [(0, 13, 16, 13)] ∈ gws := gws_of 613 (by decide +kernel) (by decide +kernel)
theorem lL_116 : Cond.static yL_exact ∈ gws := gws_of 782 (by decide +kernel) (by decide +kernel)
theorem lL_117 : Cond.initialized yL_exact.cls ∈ gws := gws_of 55 (by decide +kernel) (by decide +kernel)
theorem lL_118 : Cond.codeWith yL_exact cL_exact 7 (some .int) [(0, 13, 16, 13)] ∈ gws := gws_of 783 (by decide +kernel) (by decide +kernel)
theorem lL_119 : Cond.static yL_middle ∈ gws := gws_of 793 (by decide +kernel) (by decide +kernel)
theorem lL_120 : Cond.initialized yL_middle.cls ∈ gws := gws_of 55 (by decide +kernel) (by decide +kernel)
theorem lL_121 : Cond.codeWith yL_middle cL_middle 7 (some .int) [(0, 13, 16, 13)] ∈ gws := gws_of 794 (by decide +kernel) (by decide +kernel)
theorem lL_122 : Cond.static yL_digits ∈ gws := gws_of 804 (by decide +kernel) (by decide +kernel)
theorem lL_123 : Cond.initialized yL_digits.cls ∈ gws := gws_of 55 (by decide +kernel) (by decide +kernel)
theorem lL_124 : Cond.codeWith yL_digits cL_digits 9 (some .int) [(0, 17, 20, 13)] ∈ gws := gws_of 805 (by decide +kernel) (by decide +kernel)
theorem lL_125 : Cond.static yL_fixed ∈ gws := gws_of 812 (by decide +kernel) (by decide +kernel)
theorem lL_126 : Cond.initialized yL_fixed.cls ∈ gws := gws_of 55 (by decide +kernel) (by decide +kernel)
theorem lL_127 : Cond.codeWith yL_fixed cL_fixed 8 (some .int) [(0, 15, 18, 13)] ∈ gws := gws_of 813 (by decide +kernel) (by decide +kernel)
theorem lL_128 : Cond.static yL_hex ∈ gws := gws_of 820 (by decide +kernel) (by decide +kernel)
theorem lL_129 : Cond.initialized yL_hex.cls ∈ gws := gws_of 55 (by decide +kernel) (by decide +kernel)
theorem lL_130 : Cond.codeWith yL_hex cL_hex 6 (some .int) [(0, 11, 14, 13)] ∈ gws := gws_of 821 (by decide +kernel) (by decide +kernel)
theorem lL_131 : Cond.static yL_out ∈ gws := gws_of 834 (by decide +kernel) (by decide +kernel)
theorem lL_132 : Cond.initialized yL_out.cls ∈ gws := gws_of 55 (by decide +kernel) (by decide +kernel)
theorem lL_133 : Cond.codeWith yL_out cL_out 4 (some .int) [(0, 9, 12, 45)] ∈ gws := gws_of 835 (by decide +kernel) (by decide +kernel)
theorem lL_134 : Cond.static yL_decimal ∈ gws := gws_of 858 (by decide +kernel) (by decide +kernel)
theorem lL_135 : Cond.initialized yL_decimal.cls ∈ gws := gws_of 55 (by decide +kernel) (by decide +kernel)
theorem lL_136 : Cond.codeWith yL_decimal cL_decimal 4 (some .int) [(0, 9, 12, 13)] ∈ gws := gws_of 859 (by decide +kernel) (by decide +kernel)
theorem lL_137 : Cond.static yL_digit ∈ gws := gws_of 866 (by decide +kernel) (by decide +kernel)
theorem lL_138 : Cond.initialized yL_digit.cls ∈ gws := gws_of 55 (by decide +kernel) (by decide +kernel)
theorem lL_139 : Cond.codeWith yL_digit cL_digit 4 (some .int) [(0, 9, 12, 45)] ∈ gws := gws_of 867 (by decide +kernel) (by decide +kernel)
theorem lL_140 : Cond.static yL_nearest ∈ gws := gws_of 875 (by decide +kernel) (by decide +kernel)
theorem lL_141 : Cond.initialized yL_nearest.cls ∈ gws := gws_of 55 (by decide +kernel) (by decide +kernel)
theorem lL_142 : Cond.codeWith yL_nearest cL_nearest 8 (some .int) [(0, 14, 17, 13)] ∈ gws := gws_of 876 (by decide +kernel) (by decide +kernel)
theorem lL_143 : Cond.static yL_power ∈ gws := gws_of 898 (by decide +kernel) (by decide +kernel)
theorem lL_144 : Cond.initialized yL_power.cls ∈ gws := gws_of 55 (by decide +kernel) (by decide +kernel)
theorem lL_145 : Cond.codeWith yL_power cL_power 8 (some .int) [(0, 14, 17, 13)] ∈ gws := gws_of 899 (by decide +kernel) (by decide +kernel)
theorem lL_146 : Cond.static yL_convert ∈ gws := gws_of 905 (by decide +kernel) (by decide +kernel)
theorem lL_147 : Cond.initialized yL_convert.cls ∈ gws := gws_of 55 (by decide +kernel) (by decide +kernel)
theorem lL_148 : Cond.codeWith yL_convert cL_convert 8 (some .int) [(0, 14, 17, 13)] ∈ gws := gws_of 906 (by decide +kernel) (by decide +kernel)
theorem lL_149 : Cond.static yL_next ∈ gws := gws_of 916 (by decide +kernel) (by decide +kernel)
theorem lL_150 : Cond.initialized yL_next.cls ∈ gws := gws_of 55 (by decide +kernel) (by decide +kernel)
theorem lL_151 : Cond.codeWith yL_next cL_next 7 (some .int) [(0, 12, 15, 13)] ∈ gws := gws_of 917 (by decide +kernel) (by decide +kernel)
theorem lL_152 : Cond.static yL_steps ∈ gws := gws_of 927 (by decide +kernel) (by decide +kernel)
theorem lL_153 : Cond.initialized yL_steps.cls ∈ gws := gws_of 55 (by decide +kernel) (by decide +kernel)
theorem lL_154 : Cond.codeWith yL_steps cL_steps 8 (some .int) [(0, 12, 15, 13)] ∈ gws := gws_of 928 (by decide +kernel) (by decide +kernel)
theorem lL_155 : Cond.static yL_compare ∈ gws := gws_of 942 (by decide +kernel) (by decide +kernel)
theorem lL_156 : Cond.initialized yL_compare.cls ∈ gws := gws_of 55 (by decide +kernel) (by decide +kernel)
theorem lL_157 : Cond.codeWith yL_compare cL_compare 8 (some .int) [(0, 13, 16, 13)] ∈ gws := gws_of 943 (by decide +kernel) (by decide +kernel)
theorem lL_158 : Cond.static yL_order ∈ gws := gws_of 952 (by decide +kernel) (by decide +kernel)
theorem lL_159 : Cond.initialized yL_order.cls ∈ gws := gws_of 55 (by decide +kernel) (by decide +kernel)
theorem lL_160 : Cond.codeWith yL_order cL_order 8 (some .int) [(0, 13, 16, 13)] ∈ gws := gws_of 953 (by decide +kernel) (by decide +kernel)
theorem lL_161 : Cond.static yL_kind ∈ gws := gws_of 959 (by decide +kernel) (by decide +kernel)
theorem lL_162 : Cond.initialized yL_kind.cls ∈ gws := gws_of 55 (by decide +kernel) (by decide +kernel)
theorem lL_163 : Cond.codeWith yL_kind cL_kind 6 (some .int) [(0, 11, 14, 13)] ∈ gws := gws_of 960 (by decide +kernel) (by decide +kernel)
theorem lL_164 : Cond.static yL_reads ∈ gws := gws_of 967 (by decide +kernel) (by decide +kernel)
theorem lL_165 : Cond.initialized yL_reads.cls ∈ gws := gws_of 55 (by decide +kernel) (by decide +kernel)
theorem lL_166 : Cond.codeWith yL_reads cL_reads 9 (some .int) [(0, 22, 25, 13)] ∈ gws := gws_of 968 (by decide +kernel) (by decide +kernel)
theorem lL_167 : Cond.static yL_holds ∈ gws := gws_of 974 (by decide +kernel) (by decide +kernel)
theorem lL_168 : Cond.initialized yL_holds.cls ∈ gws := gws_of 55 (by decide +kernel) (by decide +kernel)
theorem lL_169 : Cond.codeWith yL_holds cL_holds 6 (some .int) [(0, 18, 21, 13)] ∈ gws := gws_of 975 (by decide +kernel) (by decide +kernel)
theorem wh_type : Wh yL_type cL_type 6 [(0, 11, 14, 13)] 4 := ⟨⟨lL_107, lL_108, lL_109⟩, ⟨by decide, by decide, by decide +kernel⟩, by decide⟩
theorem wh_read : Wh yL_read cL_read 5 [(0, 10, 13, 13)] 4 := ⟨⟨lL_110, lL_111, lL_112⟩, ⟨by decide, by decide, by decide +kernel⟩, by decide⟩
theorem wh_shortest : Wh yL_shortest cL_shortest 7 [(0, 13, 16, 13)] 5 := ⟨⟨lL_113, lL_114, lL_115⟩, ⟨by decide, by decide, by decide +kernel⟩, by decide⟩
theorem wh_exact : Wh yL_exact cL_exact 7 [(0, 13, 16, 13)] 5 := ⟨⟨lL_116, lL_117, lL_118⟩, ⟨by decide, by decide, by decide +kernel⟩, by decide⟩
theorem wh_middle : Wh yL_middle cL_middle 7 [(0, 13, 16, 13)] 5 := ⟨⟨lL_119, lL_120, lL_121⟩, ⟨by decide, by decide, by decide +kernel⟩, by decide⟩
theorem wh_digits : Wh yL_digits cL_digits 9 [(0, 17, 20, 13)] 7 := ⟨⟨lL_122, lL_123, lL_124⟩, ⟨by decide, by decide, by decide +kernel⟩, by decide⟩
theorem wh_fixed : Wh yL_fixed cL_fixed 8 [(0, 15, 18, 13)] 6 := ⟨⟨lL_125, lL_126, lL_127⟩, ⟨by decide, by decide, by decide +kernel⟩, by decide⟩
theorem wh_hex : Wh yL_hex cL_hex 6 [(0, 11, 14, 13)] 4 := ⟨⟨lL_128, lL_129, lL_130⟩, ⟨by decide, by decide, by decide +kernel⟩, by decide⟩
theorem wh_out : Wh yL_out cL_out 4 [(0, 9, 12, 45)] 3 := ⟨⟨lL_131, lL_132, lL_133⟩, ⟨by decide, by decide, by decide +kernel⟩, by decide⟩
theorem wh_decimal : Wh yL_decimal cL_decimal 4 [(0, 9, 12, 13)] 3 := ⟨⟨lL_134, lL_135, lL_136⟩, ⟨by decide, by decide, by decide +kernel⟩, by decide⟩
theorem wh_digit : Wh yL_digit cL_digit 4 [(0, 9, 12, 45)] 3 := ⟨⟨lL_137, lL_138, lL_139⟩, ⟨by decide, by decide, by decide +kernel⟩, by decide⟩
theorem wh_nearest : Wh yL_nearest cL_nearest 8 [(0, 14, 17, 13)] 6 := ⟨⟨lL_140, lL_141, lL_142⟩, ⟨by decide, by decide, by decide +kernel⟩, by decide⟩
theorem wh_power : Wh yL_power cL_power 8 [(0, 14, 17, 13)] 6 := ⟨⟨lL_143, lL_144, lL_145⟩, ⟨by decide, by decide, by decide +kernel⟩, by decide⟩
theorem wh_convert : Wh yL_convert cL_convert 8 [(0, 14, 17, 13)] 6 := ⟨⟨lL_146, lL_147, lL_148⟩, ⟨by decide, by decide, by decide +kernel⟩, by decide⟩
theorem wh_next : Wh yL_next cL_next 7 [(0, 12, 15, 13)] 5 := ⟨⟨lL_149, lL_150, lL_151⟩, ⟨by decide, by decide, by decide +kernel⟩, by decide⟩
theorem wh_steps : Wh yL_steps cL_steps 8 [(0, 12, 15, 13)] 5 := ⟨⟨lL_152, lL_153, lL_154⟩, ⟨by decide, by decide, by decide +kernel⟩, by decide⟩
theorem wh_compare : Wh yL_compare cL_compare 8 [(0, 13, 16, 13)] 5 := ⟨⟨lL_155, lL_156, lL_157⟩, ⟨by decide, by decide, by decide +kernel⟩, by decide⟩
theorem wh_order : Wh yL_order cL_order 8 [(0, 13, 16, 13)] 5 := ⟨⟨lL_158, lL_159, lL_160⟩, ⟨by decide, by decide, by decide +kernel⟩, by decide⟩
theorem wh_kind : Wh yL_kind cL_kind 6 [(0, 11, 14, 13)] 4 := ⟨⟨lL_161, lL_162, lL_163⟩, ⟨by decide, by decide, by decide +kernel⟩, by decide⟩
theorem wh_reads : Wh yL_reads cL_reads 9 [(0, 22, 25, 13)] 6 := ⟨⟨lL_164, lL_165, lL_166⟩, ⟨by decide, by decide, by decide +kernel⟩, by decide⟩
theorem wh_holds : Wh yL_holds cL_holds 6 [(0, 18, 21, 13)] 4 := ⟨⟨lL_167, lL_168, lL_169⟩, ⟨by decide, by decide, by decide +kernel⟩, by decide⟩
noncomputable def cl_type (x1 : Int64) (x3 : Int32) (c : CS) : Option (Unit ⊕ (Int64 × CS)) := (f_X6_type x1 x3 c).map (Sum.map id (fun s => (s.1.toInt64, s.2)))
set_option maxRecDepth 20000 in
theorem w_L_type {g : Cx} {c : CS} {m : MS} {z : Nat → Int64} {x1 : Int64} {x3 : Int32} {s : Unit ⊕ (Int64 × CS)} (hG : Gd g RL cL_type 6 11 1 6) (hst : g.1.2.1.stackTraces = false) (htab : g.2.1.2.2.2.2.exceptionTable.toList = tableOf [(0, 11, 14, 13)]) (h : cl_type x1 x3 c = some s) (hK : FinI g cL_type 1 6 (Sum.elim (fun _ => 1) (fun _ => 0) s) (Sum.elim (fun _ => (c, m, z)) (fun r => (r.2, m, vp_updL z 0 r.1)) s)) : AW g 0 [(0, .ref (wad (cxw g) 0)), (1, .long x1), (3, .int x3), (4, .ref (wad (cxw g) 26))] [] (c, m, z) 0 0 := by
  unfold cl_type at h
  refine aw_aload hG 3 rfl dL_type_0 ?_
  refine aw_iconst (v := 0) hG dL_type_2 rfl ?_
  refine aw_aload_n hG 0 rfl dL_type_3 rfl ?_
  refine aw_lload_n hG 1 rfl dL_type_4 rfl ?_
  refine aw_iload_n hG 2 rfl dL_type_5 rfl ?_
  cases hf : f_X6_type x1 x3 c with
  | none => rw [hf] at h; cases h
  | some v9 =>
    rw [hf] at h
    cases v9 with
    | inl u9 =>
      obtain rfl := Option.some.inj h
      refine aw_catchV (As := [.long x1, .int x3]) (rest := [.int 0, .ref (wad (cxw g) 26)]) (hs := 0) (he := 11) (hp := 14) (ct := 13) hG hst htab (ct_X6_type (x1 := x1) (x3 := x3) (c := c) hf) lL_0 wvL_X6_type (rv_X6 hG) rfl rfl rfl (by decide) (Nat.le_of_ble_eq_true rfl) dL_type_6 (by decide) (by decide) lL_5 (fun U h => h.2.2.2.1) (fun q => ?_)
      refine aw_astore (L' := [(5, .ref q), (0, .ref (wad (cxw g) 0)), (1, .long x1), (3, .int x3), (4, .ref (wad (cxw g) 26))]) hG dL_type_14 (by decide) rfl ?_
      refine aw_iconst (v := 1) hG dL_type_16 rfl ?_
      exact hK _ _ 1 6 (Nat.le_refl _) (Nat.le_refl _) dL_type_17
    | inr v9 =>
      obtain rfl := Option.some.inj h
      refine aw_callVi (As := [.long x1, .int x3]) (rest := [.int 0, .ref (wad (cxw g) 26)]) hG (c_X6_type (x1 := x1) (x3 := x3) (c := c) hf) lL_0 wvL_X6_type (rv_X6 hG) rfl rfl rfl (by decide) (Nat.zero_le _) (Nat.zero_le _) (Nat.le_of_ble_eq_true rfl) dL_type_6 ?_
      refine aw_i2l hG dL_type_9 ?_
      refine as_out hG dL_type_10 ?_
      refine aw_goto (t := 18) hG dL_type_11 rfl ?_
      refine aw_iconst (v := 0) hG dL_type_18 rfl ?_
      exact hK _ _ 0 0 (Nat.zero_le _) (Nat.zero_le _) dL_type_19
theorem c_L_type {c : CS} {m : MS} {z : Nat → Int64} {x1 : Int64} {x3 : Int32} {s : Unit ⊕ (Int64 × CS)} (h : cl_type x1 x3 c = some s) : CtH yL_type cL_type 6 [(0, 11, 14, 13)] 11 (fun w => [.ref (wad w 0), .long x1, .int x3, .ref (wad w 26)]) (c, m, z) (Sum.elim (fun _ => 1) (fun _ => 0) s) (Sum.elim (fun _ => (c, m, z)) (fun r => (r.2, m, vp_updL z 0 r.1)) s) := CtH_of (by decide +kernel) (fun _ => Nat.le_of_ble_eq_true rfl) (fun g hG hst htab hK => w_L_type hG hst htab h hK)
noncomputable def cl_read (x1 : Int32) (x2 : Int32) (c : CS) : Option (Unit ⊕ (Int64 × CS)) := (f_X6_read x1 x2 c).map (Sum.map id (fun s => (s.1.toInt64, s.2)))
set_option maxRecDepth 20000 in
theorem w_L_read {g : Cx} {c : CS} {m : MS} {z : Nat → Int64} {x1 : Int32} {x2 : Int32} {s : Unit ⊕ (Int64 × CS)} (hG : Gd g RL cL_read 5 11 1 6) (hst : g.1.2.1.stackTraces = false) (htab : g.2.1.2.2.2.2.exceptionTable.toList = tableOf [(0, 10, 13, 13)]) (h : cl_read x1 x2 c = some s) (hK : FinI g cL_read 1 6 (Sum.elim (fun _ => 1) (fun _ => 0) s) (Sum.elim (fun _ => (c, m, z)) (fun r => (r.2, m, vp_updL z 0 r.1)) s)) : AW g 0 [(0, .ref (wad (cxw g) 0)), (1, .int x1), (2, .int x2), (3, .ref (wad (cxw g) 26))] [] (c, m, z) 0 0 := by
  unfold cl_read at h
  refine aw_aload_n hG 3 rfl dL_read_0 rfl ?_
  refine aw_iconst (v := 0) hG dL_read_1 rfl ?_
  refine aw_aload_n hG 0 rfl dL_read_2 rfl ?_
  refine aw_iload_n hG 1 rfl dL_read_3 rfl ?_
  refine aw_iload_n hG 2 rfl dL_read_4 rfl ?_
  cases hf : f_X6_read x1 x2 c with
  | none => rw [hf] at h; cases h
  | some v9 =>
    rw [hf] at h
    cases v9 with
    | inl u9 =>
      obtain rfl := Option.some.inj h
      refine aw_catchV (As := [.int x1, .int x2]) (rest := [.int 0, .ref (wad (cxw g) 26)]) (hs := 0) (he := 10) (hp := 13) (ct := 13) hG hst htab (ct_X6_read (x1 := x1) (x2 := x2) (c := c) hf) lL_6 wvL_X6_read (rv_X6 hG) rfl rfl rfl (by decide) (Nat.le_of_ble_eq_true rfl) dL_read_5 (by decide) (by decide) lL_5 (fun U h => h.2.2.2.1) (fun q => ?_)
      refine aw_astore (L' := [(4, .ref q), (0, .ref (wad (cxw g) 0)), (1, .int x1), (2, .int x2), (3, .ref (wad (cxw g) 26))]) hG dL_read_13 (by decide) rfl ?_
      refine aw_iconst (v := 1) hG dL_read_15 rfl ?_
      exact hK _ _ 1 6 (Nat.le_refl _) (Nat.le_refl _) dL_read_16
    | inr v9 =>
      obtain rfl := Option.some.inj h
      refine aw_callVi (As := [.int x1, .int x2]) (rest := [.int 0, .ref (wad (cxw g) 26)]) hG (c_X6_read (x1 := x1) (x2 := x2) (c := c) hf) lL_6 wvL_X6_read (rv_X6 hG) rfl rfl rfl (by decide) (Nat.zero_le _) (Nat.zero_le _) (Nat.le_of_ble_eq_true rfl) dL_read_5 ?_
      refine aw_i2l hG dL_read_8 ?_
      refine as_out hG dL_read_9 ?_
      refine aw_goto (t := 17) hG dL_read_10 rfl ?_
      refine aw_iconst (v := 0) hG dL_read_17 rfl ?_
      exact hK _ _ 0 0 (Nat.zero_le _) (Nat.zero_le _) dL_read_18
theorem c_L_read {c : CS} {m : MS} {z : Nat → Int64} {x1 : Int32} {x2 : Int32} {s : Unit ⊕ (Int64 × CS)} (h : cl_read x1 x2 c = some s) : CtH yL_read cL_read 5 [(0, 10, 13, 13)] 11 (fun w => [.ref (wad w 0), .int x1, .int x2, .ref (wad w 26)]) (c, m, z) (Sum.elim (fun _ => 1) (fun _ => 0) s) (Sum.elim (fun _ => (c, m, z)) (fun r => (r.2, m, vp_updL z 0 r.1)) s) := CtH_of (by decide +kernel) (fun _ => Nat.le_of_ble_eq_true rfl) (fun g hG hst htab hK => w_L_read hG hst htab h hK)
noncomputable def cl_shortest (x1 : Int32) (x2 : Int64) (x4 : Int32) (c : CS) : Option (Unit ⊕ (Int64 × CS)) := (f_X6_shortest x1 x2 x4 c).map (Sum.map id (fun s => (s.1.toInt64, s.2)))
set_option maxRecDepth 20000 in
theorem w_L_shortest {g : Cx} {c : CS} {m : MS} {z : Nat → Int64} {x1 : Int32} {x2 : Int64} {x4 : Int32} {s : Unit ⊕ (Int64 × CS)} (hG : Gd g RL cL_shortest 7 11 1 6) (hst : g.1.2.1.stackTraces = false) (htab : g.2.1.2.2.2.2.exceptionTable.toList = tableOf [(0, 13, 16, 13)]) (h : cl_shortest x1 x2 x4 c = some s) (hK : FinI g cL_shortest 1 6 (Sum.elim (fun _ => 1) (fun _ => 0) s) (Sum.elim (fun _ => (c, m, z)) (fun r => (r.2, m, vp_updL z 0 r.1)) s)) : AW g 0 [(0, .ref (wad (cxw g) 0)), (1, .int x1), (2, .long x2), (4, .int x4), (5, .ref (wad (cxw g) 26))] [] (c, m, z) 0 0 := by
  unfold cl_shortest at h
  refine aw_aload hG 4 rfl dL_shortest_0 ?_
  refine aw_iconst (v := 0) hG dL_shortest_2 rfl ?_
  refine aw_aload_n hG 0 rfl dL_shortest_3 rfl ?_
  refine aw_iload_n hG 1 rfl dL_shortest_4 rfl ?_
  refine aw_lload_n hG 2 rfl dL_shortest_5 rfl ?_
  refine aw_iload hG 3 rfl dL_shortest_6 ?_
  cases hf : f_X6_shortest x1 x2 x4 c with
  | none => rw [hf] at h; cases h
  | some v9 =>
    rw [hf] at h
    cases v9 with
    | inl u9 =>
      obtain rfl := Option.some.inj h
      refine aw_catchV (As := [.int x1, .long x2, .int x4]) (rest := [.int 0, .ref (wad (cxw g) 26)]) (hs := 0) (he := 13) (hp := 16) (ct := 13) hG hst htab (ct_X6_shortest (x1 := x1) (x2 := x2) (x4 := x4) (c := c) hf) lL_11 wvL_X6_shortest (rv_X6 hG) rfl rfl rfl (by decide) (Nat.le_of_ble_eq_true rfl) dL_shortest_8 (by decide) (by decide) lL_5 (fun U h => h.2.2.2.1) (fun q => ?_)
      refine aw_astore (L' := [(6, .ref q), (0, .ref (wad (cxw g) 0)), (1, .int x1), (2, .long x2), (4, .int x4), (5, .ref (wad (cxw g) 26))]) hG dL_shortest_16 (by decide) rfl ?_
      refine aw_iconst (v := 1) hG dL_shortest_18 rfl ?_
      exact hK _ _ 1 6 (Nat.le_refl _) (Nat.le_refl _) dL_shortest_19
    | inr v9 =>
      obtain rfl := Option.some.inj h
      refine aw_callVi (As := [.int x1, .long x2, .int x4]) (rest := [.int 0, .ref (wad (cxw g) 26)]) hG (c_X6_shortest (x1 := x1) (x2 := x2) (x4 := x4) (c := c) hf) lL_11 wvL_X6_shortest (rv_X6 hG) rfl rfl rfl (by decide) (Nat.zero_le _) (Nat.zero_le _) (Nat.le_of_ble_eq_true rfl) dL_shortest_8 ?_
      refine aw_i2l hG dL_shortest_11 ?_
      refine as_out hG dL_shortest_12 ?_
      refine aw_goto (t := 20) hG dL_shortest_13 rfl ?_
      refine aw_iconst (v := 0) hG dL_shortest_20 rfl ?_
      exact hK _ _ 0 0 (Nat.zero_le _) (Nat.zero_le _) dL_shortest_21
theorem c_L_shortest {c : CS} {m : MS} {z : Nat → Int64} {x1 : Int32} {x2 : Int64} {x4 : Int32} {s : Unit ⊕ (Int64 × CS)} (h : cl_shortest x1 x2 x4 c = some s) : CtH yL_shortest cL_shortest 7 [(0, 13, 16, 13)] 11 (fun w => [.ref (wad w 0), .int x1, .long x2, .int x4, .ref (wad w 26)]) (c, m, z) (Sum.elim (fun _ => 1) (fun _ => 0) s) (Sum.elim (fun _ => (c, m, z)) (fun r => (r.2, m, vp_updL z 0 r.1)) s) := CtH_of (by decide +kernel) (fun _ => Nat.le_of_ble_eq_true rfl) (fun g hG hst htab hK => w_L_shortest hG hst htab h hK)
noncomputable def cl_exact (x1 : Int32) (x2 : Int64) (x4 : Int32) (c : CS) : Option (Unit ⊕ (Int64 × CS)) := (f_X6_exact x1 x2 x4 c).map (Sum.map id (fun s => (s.1.toInt64, s.2)))
set_option maxRecDepth 20000 in
theorem w_L_exact {g : Cx} {c : CS} {m : MS} {z : Nat → Int64} {x1 : Int32} {x2 : Int64} {x4 : Int32} {s : Unit ⊕ (Int64 × CS)} (hG : Gd g RL cL_exact 7 11 1 6) (hst : g.1.2.1.stackTraces = false) (htab : g.2.1.2.2.2.2.exceptionTable.toList = tableOf [(0, 13, 16, 13)]) (h : cl_exact x1 x2 x4 c = some s) (hK : FinI g cL_exact 1 6 (Sum.elim (fun _ => 1) (fun _ => 0) s) (Sum.elim (fun _ => (c, m, z)) (fun r => (r.2, m, vp_updL z 0 r.1)) s)) : AW g 0 [(0, .ref (wad (cxw g) 0)), (1, .int x1), (2, .long x2), (4, .int x4), (5, .ref (wad (cxw g) 26))] [] (c, m, z) 0 0 := by
  unfold cl_exact at h
  refine aw_aload hG 4 rfl dL_exact_0 ?_
  refine aw_iconst (v := 0) hG dL_exact_2 rfl ?_
  refine aw_aload_n hG 0 rfl dL_exact_3 rfl ?_
  refine aw_iload_n hG 1 rfl dL_exact_4 rfl ?_
  refine aw_lload_n hG 2 rfl dL_exact_5 rfl ?_
  refine aw_iload hG 3 rfl dL_exact_6 ?_
  cases hf : f_X6_exact x1 x2 x4 c with
  | none => rw [hf] at h; cases h
  | some v9 =>
    rw [hf] at h
    cases v9 with
    | inl u9 =>
      obtain rfl := Option.some.inj h
      refine aw_catchV (As := [.int x1, .long x2, .int x4]) (rest := [.int 0, .ref (wad (cxw g) 26)]) (hs := 0) (he := 13) (hp := 16) (ct := 13) hG hst htab (ct_X6_exact (x1 := x1) (x2 := x2) (x4 := x4) (c := c) hf) lL_16 wvL_X6_exact (rv_X6 hG) rfl rfl rfl (by decide) (Nat.le_of_ble_eq_true rfl) dL_exact_8 (by decide) (by decide) lL_5 (fun U h => h.2.2.2.1) (fun q => ?_)
      refine aw_astore (L' := [(6, .ref q), (0, .ref (wad (cxw g) 0)), (1, .int x1), (2, .long x2), (4, .int x4), (5, .ref (wad (cxw g) 26))]) hG dL_exact_16 (by decide) rfl ?_
      refine aw_iconst (v := 1) hG dL_exact_18 rfl ?_
      exact hK _ _ 1 6 (Nat.le_refl _) (Nat.le_refl _) dL_exact_19
    | inr v9 =>
      obtain rfl := Option.some.inj h
      refine aw_callVi (As := [.int x1, .long x2, .int x4]) (rest := [.int 0, .ref (wad (cxw g) 26)]) hG (c_X6_exact (x1 := x1) (x2 := x2) (x4 := x4) (c := c) hf) lL_16 wvL_X6_exact (rv_X6 hG) rfl rfl rfl (by decide) (Nat.zero_le _) (Nat.zero_le _) (Nat.le_of_ble_eq_true rfl) dL_exact_8 ?_
      refine aw_i2l hG dL_exact_11 ?_
      refine as_out hG dL_exact_12 ?_
      refine aw_goto (t := 20) hG dL_exact_13 rfl ?_
      refine aw_iconst (v := 0) hG dL_exact_20 rfl ?_
      exact hK _ _ 0 0 (Nat.zero_le _) (Nat.zero_le _) dL_exact_21
theorem c_L_exact {c : CS} {m : MS} {z : Nat → Int64} {x1 : Int32} {x2 : Int64} {x4 : Int32} {s : Unit ⊕ (Int64 × CS)} (h : cl_exact x1 x2 x4 c = some s) : CtH yL_exact cL_exact 7 [(0, 13, 16, 13)] 11 (fun w => [.ref (wad w 0), .int x1, .long x2, .int x4, .ref (wad w 26)]) (c, m, z) (Sum.elim (fun _ => 1) (fun _ => 0) s) (Sum.elim (fun _ => (c, m, z)) (fun r => (r.2, m, vp_updL z 0 r.1)) s) := CtH_of (by decide +kernel) (fun _ => Nat.le_of_ble_eq_true rfl) (fun g hG hst htab hK => w_L_exact hG hst htab h hK)
noncomputable def cl_middle (x1 : Int32) (x2 : Int64) (x4 : Int32) (c : CS) : Option (Unit ⊕ (Int64 × CS)) := (f_X6_middle x1 x2 x4 c).map (Sum.map id (fun s => (s.1.toInt64, s.2)))
set_option maxRecDepth 20000 in
theorem w_L_middle {g : Cx} {c : CS} {m : MS} {z : Nat → Int64} {x1 : Int32} {x2 : Int64} {x4 : Int32} {s : Unit ⊕ (Int64 × CS)} (hG : Gd g RL cL_middle 7 11 1 6) (hst : g.1.2.1.stackTraces = false) (htab : g.2.1.2.2.2.2.exceptionTable.toList = tableOf [(0, 13, 16, 13)]) (h : cl_middle x1 x2 x4 c = some s) (hK : FinI g cL_middle 1 6 (Sum.elim (fun _ => 1) (fun _ => 0) s) (Sum.elim (fun _ => (c, m, z)) (fun r => (r.2, m, vp_updL z 0 r.1)) s)) : AW g 0 [(0, .ref (wad (cxw g) 0)), (1, .int x1), (2, .long x2), (4, .int x4), (5, .ref (wad (cxw g) 26))] [] (c, m, z) 0 0 := by
  unfold cl_middle at h
  refine aw_aload hG 4 rfl dL_middle_0 ?_
  refine aw_iconst (v := 0) hG dL_middle_2 rfl ?_
  refine aw_aload_n hG 0 rfl dL_middle_3 rfl ?_
  refine aw_iload_n hG 1 rfl dL_middle_4 rfl ?_
  refine aw_lload_n hG 2 rfl dL_middle_5 rfl ?_
  refine aw_iload hG 3 rfl dL_middle_6 ?_
  cases hf : f_X6_middle x1 x2 x4 c with
  | none => rw [hf] at h; cases h
  | some v9 =>
    rw [hf] at h
    cases v9 with
    | inl u9 =>
      obtain rfl := Option.some.inj h
      refine aw_catchV (As := [.int x1, .long x2, .int x4]) (rest := [.int 0, .ref (wad (cxw g) 26)]) (hs := 0) (he := 13) (hp := 16) (ct := 13) hG hst htab (ct_X6_middle (x1 := x1) (x2 := x2) (x4 := x4) (c := c) hf) lL_21 wvL_X6_middle (rv_X6 hG) rfl rfl rfl (by decide) (Nat.le_of_ble_eq_true rfl) dL_middle_8 (by decide) (by decide) lL_5 (fun U h => h.2.2.2.1) (fun q => ?_)
      refine aw_astore (L' := [(6, .ref q), (0, .ref (wad (cxw g) 0)), (1, .int x1), (2, .long x2), (4, .int x4), (5, .ref (wad (cxw g) 26))]) hG dL_middle_16 (by decide) rfl ?_
      refine aw_iconst (v := 1) hG dL_middle_18 rfl ?_
      exact hK _ _ 1 6 (Nat.le_refl _) (Nat.le_refl _) dL_middle_19
    | inr v9 =>
      obtain rfl := Option.some.inj h
      refine aw_callVi (As := [.int x1, .long x2, .int x4]) (rest := [.int 0, .ref (wad (cxw g) 26)]) hG (c_X6_middle (x1 := x1) (x2 := x2) (x4 := x4) (c := c) hf) lL_21 wvL_X6_middle (rv_X6 hG) rfl rfl rfl (by decide) (Nat.zero_le _) (Nat.zero_le _) (Nat.le_of_ble_eq_true rfl) dL_middle_8 ?_
      refine aw_i2l hG dL_middle_11 ?_
      refine as_out hG dL_middle_12 ?_
      refine aw_goto (t := 20) hG dL_middle_13 rfl ?_
      refine aw_iconst (v := 0) hG dL_middle_20 rfl ?_
      exact hK _ _ 0 0 (Nat.zero_le _) (Nat.zero_le _) dL_middle_21
theorem c_L_middle {c : CS} {m : MS} {z : Nat → Int64} {x1 : Int32} {x2 : Int64} {x4 : Int32} {s : Unit ⊕ (Int64 × CS)} (h : cl_middle x1 x2 x4 c = some s) : CtH yL_middle cL_middle 7 [(0, 13, 16, 13)] 11 (fun w => [.ref (wad w 0), .int x1, .long x2, .int x4, .ref (wad w 26)]) (c, m, z) (Sum.elim (fun _ => 1) (fun _ => 0) s) (Sum.elim (fun _ => (c, m, z)) (fun r => (r.2, m, vp_updL z 0 r.1)) s) := CtH_of (by decide +kernel) (fun _ => Nat.le_of_ble_eq_true rfl) (fun g hG hst htab hK => w_L_middle hG hst htab h hK)
noncomputable def cl_digits (x1 : Int32) (x2 : Int64) (x4 : Int32) (x5 : Int32) (x6 : Int32) (c : CS) : Option (Unit ⊕ (Int64 × CS)) := (f_X6_digits x1 x2 x4 x5 x6 c).map (Sum.map id (fun s => (s.1.toInt64, s.2)))
set_option maxRecDepth 20000 in
theorem w_L_digits {g : Cx} {c : CS} {m : MS} {z : Nat → Int64} {x1 : Int32} {x2 : Int64} {x4 : Int32} {x5 : Int32} {x6 : Int32} {s : Unit ⊕ (Int64 × CS)} (hG : Gd g RL cL_digits 9 11 1 6) (hst : g.1.2.1.stackTraces = false) (htab : g.2.1.2.2.2.2.exceptionTable.toList = tableOf [(0, 17, 20, 13)]) (h : cl_digits x1 x2 x4 x5 x6 c = some s) (hK : FinI g cL_digits 1 6 (Sum.elim (fun _ => 1) (fun _ => 0) s) (Sum.elim (fun _ => (c, m, z)) (fun r => (r.2, m, vp_updL z 0 r.1)) s)) : AW g 0 [(0, .ref (wad (cxw g) 0)), (1, .int x1), (2, .long x2), (4, .int x4), (5, .int x5), (6, .int x6), (7, .ref (wad (cxw g) 26))] [] (c, m, z) 0 0 := by
  unfold cl_digits at h
  refine aw_aload hG 6 rfl dL_digits_0 ?_
  refine aw_iconst (v := 0) hG dL_digits_2 rfl ?_
  refine aw_aload_n hG 0 rfl dL_digits_3 rfl ?_
  refine aw_iload_n hG 1 rfl dL_digits_4 rfl ?_
  refine aw_lload_n hG 2 rfl dL_digits_5 rfl ?_
  refine aw_iload hG 3 rfl dL_digits_6 ?_
  refine aw_iload hG 4 rfl dL_digits_8 ?_
  refine aw_iload hG 5 rfl dL_digits_10 ?_
  cases hf : f_X6_digits x1 x2 x4 x5 x6 c with
  | none => rw [hf] at h; cases h
  | some v9 =>
    rw [hf] at h
    cases v9 with
    | inl u9 =>
      obtain rfl := Option.some.inj h
      refine aw_catchV (As := [.int x1, .long x2, .int x4, .int x5, .int x6]) (rest := [.int 0, .ref (wad (cxw g) 26)]) (hs := 0) (he := 17) (hp := 20) (ct := 13) hG hst htab (ct_X6_digits (x1 := x1) (x2 := x2) (x4 := x4) (x5 := x5) (x6 := x6) (c := c) hf) lL_26 wvL_X6_digits (rv_X6 hG) rfl rfl rfl (by decide) (Nat.le_of_ble_eq_true rfl) dL_digits_12 (by decide) (by decide) lL_5 (fun U h => h.2.2.2.1) (fun q => ?_)
      refine aw_astore (L' := [(8, .ref q), (0, .ref (wad (cxw g) 0)), (1, .int x1), (2, .long x2), (4, .int x4), (5, .int x5), (6, .int x6), (7, .ref (wad (cxw g) 26))]) hG dL_digits_20 (by decide) rfl ?_
      refine aw_iconst (v := 1) hG dL_digits_22 rfl ?_
      exact hK _ _ 1 6 (Nat.le_refl _) (Nat.le_refl _) dL_digits_23
    | inr v9 =>
      obtain rfl := Option.some.inj h
      refine aw_callVi (As := [.int x1, .long x2, .int x4, .int x5, .int x6]) (rest := [.int 0, .ref (wad (cxw g) 26)]) hG (c_X6_digits (x1 := x1) (x2 := x2) (x4 := x4) (x5 := x5) (x6 := x6) (c := c) hf) lL_26 wvL_X6_digits (rv_X6 hG) rfl rfl rfl (by decide) (Nat.zero_le _) (Nat.zero_le _) (Nat.le_of_ble_eq_true rfl) dL_digits_12 ?_
      refine aw_i2l hG dL_digits_15 ?_
      refine as_out hG dL_digits_16 ?_
      refine aw_goto (t := 24) hG dL_digits_17 rfl ?_
      refine aw_iconst (v := 0) hG dL_digits_24 rfl ?_
      exact hK _ _ 0 0 (Nat.zero_le _) (Nat.zero_le _) dL_digits_25
theorem c_L_digits {c : CS} {m : MS} {z : Nat → Int64} {x1 : Int32} {x2 : Int64} {x4 : Int32} {x5 : Int32} {x6 : Int32} {s : Unit ⊕ (Int64 × CS)} (h : cl_digits x1 x2 x4 x5 x6 c = some s) : CtH yL_digits cL_digits 9 [(0, 17, 20, 13)] 11 (fun w => [.ref (wad w 0), .int x1, .long x2, .int x4, .int x5, .int x6, .ref (wad w 26)]) (c, m, z) (Sum.elim (fun _ => 1) (fun _ => 0) s) (Sum.elim (fun _ => (c, m, z)) (fun r => (r.2, m, vp_updL z 0 r.1)) s) := CtH_of (by decide +kernel) (fun _ => Nat.le_of_ble_eq_true rfl) (fun g hG hst htab hK => w_L_digits hG hst htab h hK)
noncomputable def cl_fixed (x1 : Int32) (x2 : Int64) (x4 : Int32) (x5 : Int32) (c : CS) : Option (Unit ⊕ (Int64 × CS)) := (f_X6_fixed x1 x2 x4 x5 c).map (Sum.map id (fun s => (s.1.toInt64, s.2)))
set_option maxRecDepth 20000 in
theorem w_L_fixed {g : Cx} {c : CS} {m : MS} {z : Nat → Int64} {x1 : Int32} {x2 : Int64} {x4 : Int32} {x5 : Int32} {s : Unit ⊕ (Int64 × CS)} (hG : Gd g RL cL_fixed 8 11 1 6) (hst : g.1.2.1.stackTraces = false) (htab : g.2.1.2.2.2.2.exceptionTable.toList = tableOf [(0, 15, 18, 13)]) (h : cl_fixed x1 x2 x4 x5 c = some s) (hK : FinI g cL_fixed 1 6 (Sum.elim (fun _ => 1) (fun _ => 0) s) (Sum.elim (fun _ => (c, m, z)) (fun r => (r.2, m, vp_updL z 0 r.1)) s)) : AW g 0 [(0, .ref (wad (cxw g) 0)), (1, .int x1), (2, .long x2), (4, .int x4), (5, .int x5), (6, .ref (wad (cxw g) 26))] [] (c, m, z) 0 0 := by
  unfold cl_fixed at h
  refine aw_aload hG 5 rfl dL_fixed_0 ?_
  refine aw_iconst (v := 0) hG dL_fixed_2 rfl ?_
  refine aw_aload_n hG 0 rfl dL_fixed_3 rfl ?_
  refine aw_iload_n hG 1 rfl dL_fixed_4 rfl ?_
  refine aw_lload_n hG 2 rfl dL_fixed_5 rfl ?_
  refine aw_iload hG 3 rfl dL_fixed_6 ?_
  refine aw_iload hG 4 rfl dL_fixed_8 ?_
  cases hf : f_X6_fixed x1 x2 x4 x5 c with
  | none => rw [hf] at h; cases h
  | some v9 =>
    rw [hf] at h
    cases v9 with
    | inl u9 =>
      obtain rfl := Option.some.inj h
      refine aw_catchV (As := [.int x1, .long x2, .int x4, .int x5]) (rest := [.int 0, .ref (wad (cxw g) 26)]) (hs := 0) (he := 15) (hp := 18) (ct := 13) hG hst htab (ct_X6_fixed (x1 := x1) (x2 := x2) (x4 := x4) (x5 := x5) (c := c) hf) lL_31 wvL_X6_fixed (rv_X6 hG) rfl rfl rfl (by decide) (Nat.le_of_ble_eq_true rfl) dL_fixed_10 (by decide) (by decide) lL_5 (fun U h => h.2.2.2.1) (fun q => ?_)
      refine aw_astore (L' := [(7, .ref q), (0, .ref (wad (cxw g) 0)), (1, .int x1), (2, .long x2), (4, .int x4), (5, .int x5), (6, .ref (wad (cxw g) 26))]) hG dL_fixed_18 (by decide) rfl ?_
      refine aw_iconst (v := 1) hG dL_fixed_20 rfl ?_
      exact hK _ _ 1 6 (Nat.le_refl _) (Nat.le_refl _) dL_fixed_21
    | inr v9 =>
      obtain rfl := Option.some.inj h
      refine aw_callVi (As := [.int x1, .long x2, .int x4, .int x5]) (rest := [.int 0, .ref (wad (cxw g) 26)]) hG (c_X6_fixed (x1 := x1) (x2 := x2) (x4 := x4) (x5 := x5) (c := c) hf) lL_31 wvL_X6_fixed (rv_X6 hG) rfl rfl rfl (by decide) (Nat.zero_le _) (Nat.zero_le _) (Nat.le_of_ble_eq_true rfl) dL_fixed_10 ?_
      refine aw_i2l hG dL_fixed_13 ?_
      refine as_out hG dL_fixed_14 ?_
      refine aw_goto (t := 22) hG dL_fixed_15 rfl ?_
      refine aw_iconst (v := 0) hG dL_fixed_22 rfl ?_
      exact hK _ _ 0 0 (Nat.zero_le _) (Nat.zero_le _) dL_fixed_23
theorem c_L_fixed {c : CS} {m : MS} {z : Nat → Int64} {x1 : Int32} {x2 : Int64} {x4 : Int32} {x5 : Int32} {s : Unit ⊕ (Int64 × CS)} (h : cl_fixed x1 x2 x4 x5 c = some s) : CtH yL_fixed cL_fixed 8 [(0, 15, 18, 13)] 11 (fun w => [.ref (wad w 0), .int x1, .long x2, .int x4, .int x5, .ref (wad w 26)]) (c, m, z) (Sum.elim (fun _ => 1) (fun _ => 0) s) (Sum.elim (fun _ => (c, m, z)) (fun r => (r.2, m, vp_updL z 0 r.1)) s) := CtH_of (by decide +kernel) (fun _ => Nat.le_of_ble_eq_true rfl) (fun g hG hst htab hK => w_L_fixed hG hst htab h hK)
noncomputable def cl_hex (x1 : Int32) (x2 : Int64) (c : CS) : Option (Unit ⊕ (Int64 × CS)) := (f_X6_hex x1 x2 c).map (Sum.map id (fun s => (s.1.toInt64, s.2)))
set_option maxRecDepth 20000 in
theorem w_L_hex {g : Cx} {c : CS} {m : MS} {z : Nat → Int64} {x1 : Int32} {x2 : Int64} {s : Unit ⊕ (Int64 × CS)} (hG : Gd g RL cL_hex 6 11 1 6) (hst : g.1.2.1.stackTraces = false) (htab : g.2.1.2.2.2.2.exceptionTable.toList = tableOf [(0, 11, 14, 13)]) (h : cl_hex x1 x2 c = some s) (hK : FinI g cL_hex 1 6 (Sum.elim (fun _ => 1) (fun _ => 0) s) (Sum.elim (fun _ => (c, m, z)) (fun r => (r.2, m, vp_updL z 0 r.1)) s)) : AW g 0 [(0, .ref (wad (cxw g) 0)), (1, .int x1), (2, .long x2), (4, .ref (wad (cxw g) 26))] [] (c, m, z) 0 0 := by
  unfold cl_hex at h
  refine aw_aload hG 3 rfl dL_hex_0 ?_
  refine aw_iconst (v := 0) hG dL_hex_2 rfl ?_
  refine aw_aload_n hG 0 rfl dL_hex_3 rfl ?_
  refine aw_iload_n hG 1 rfl dL_hex_4 rfl ?_
  refine aw_lload_n hG 2 rfl dL_hex_5 rfl ?_
  cases hf : f_X6_hex x1 x2 c with
  | none => rw [hf] at h; cases h
  | some v9 =>
    rw [hf] at h
    cases v9 with
    | inl u9 =>
      obtain rfl := Option.some.inj h
      refine aw_catchV (As := [.int x1, .long x2]) (rest := [.int 0, .ref (wad (cxw g) 26)]) (hs := 0) (he := 11) (hp := 14) (ct := 13) hG hst htab (ct_X6_hex (x1 := x1) (x2 := x2) (c := c) hf) lL_36 wvL_X6_hex (rv_X6 hG) rfl rfl rfl (by decide) (Nat.le_of_ble_eq_true rfl) dL_hex_6 (by decide) (by decide) lL_5 (fun U h => h.2.2.2.1) (fun q => ?_)
      refine aw_astore (L' := [(5, .ref q), (0, .ref (wad (cxw g) 0)), (1, .int x1), (2, .long x2), (4, .ref (wad (cxw g) 26))]) hG dL_hex_14 (by decide) rfl ?_
      refine aw_iconst (v := 1) hG dL_hex_16 rfl ?_
      exact hK _ _ 1 6 (Nat.le_refl _) (Nat.le_refl _) dL_hex_17
    | inr v9 =>
      obtain rfl := Option.some.inj h
      refine aw_callVi (As := [.int x1, .long x2]) (rest := [.int 0, .ref (wad (cxw g) 26)]) hG (c_X6_hex (x1 := x1) (x2 := x2) (c := c) hf) lL_36 wvL_X6_hex (rv_X6 hG) rfl rfl rfl (by decide) (Nat.zero_le _) (Nat.zero_le _) (Nat.le_of_ble_eq_true rfl) dL_hex_6 ?_
      refine aw_i2l hG dL_hex_9 ?_
      refine as_out hG dL_hex_10 ?_
      refine aw_goto (t := 18) hG dL_hex_11 rfl ?_
      refine aw_iconst (v := 0) hG dL_hex_18 rfl ?_
      exact hK _ _ 0 0 (Nat.zero_le _) (Nat.zero_le _) dL_hex_19
theorem c_L_hex {c : CS} {m : MS} {z : Nat → Int64} {x1 : Int32} {x2 : Int64} {s : Unit ⊕ (Int64 × CS)} (h : cl_hex x1 x2 c = some s) : CtH yL_hex cL_hex 6 [(0, 11, 14, 13)] 11 (fun w => [.ref (wad w 0), .int x1, .long x2, .ref (wad w 26)]) (c, m, z) (Sum.elim (fun _ => 1) (fun _ => 0) s) (Sum.elim (fun _ => (c, m, z)) (fun r => (r.2, m, vp_updL z 0 r.1)) s) := CtH_of (by decide +kernel) (fun _ => Nat.le_of_ble_eq_true rfl) (fun g hG hst htab hK => w_L_hex hG hst htab h hK)
noncomputable def cl_out (x1 : Int32) (c : CS) : Option (Unit ⊕ (Int64 × CS)) := (f_X6_out x1 c).map (Sum.map id (fun s => (s.toInt64, c)))
set_option maxRecDepth 20000 in
theorem w_L_out {g : Cx} {c : CS} {m : MS} {z : Nat → Int64} {x1 : Int32} {s : Unit ⊕ (Int64 × CS)} (hG : Gd g RL cL_out 4 11 1 6) (hst : g.1.2.1.stackTraces = false) (htab : g.2.1.2.2.2.2.exceptionTable.toList = tableOf [(0, 9, 12, 45)]) (h : cl_out x1 c = some s) (hK : FinI g cL_out 1 6 (Sum.elim (fun _ => 1) (fun _ => 0) s) (Sum.elim (fun _ => (c, m, z)) (fun r => (r.2, m, vp_updL z 0 r.1)) s)) : AW g 0 [(0, .ref (wad (cxw g) 0)), (1, .int x1), (2, .ref (wad (cxw g) 26))] [] (c, m, z) 0 0 := by
  unfold cl_out at h
  refine aw_aload_n hG 2 rfl dL_out_0 rfl ?_
  refine aw_iconst (v := 0) hG dL_out_1 rfl ?_
  refine aw_aload_n hG 0 rfl dL_out_2 rfl ?_
  refine aw_iload_n hG 1 rfl dL_out_3 rfl ?_
  cases hf : f_X6_out x1 c with
  | none => rw [hf] at h; cases h
  | some v9 =>
    rw [hf] at h
    cases v9 with
    | inl u9 =>
      obtain rfl := Option.some.inj h
      refine aw_catchV (As := [.int x1]) (rest := [.int 0, .ref (wad (cxw g) 26)]) (hs := 0) (he := 9) (hp := 12) (ct := 45) hG hst htab (ct_X6_out (x1 := x1) (c := c) hf) lL_41 wvL_X6_out (rv_X6 hG) rfl rfl rfl (by decide) (Nat.le_of_ble_eq_true rfl) dL_out_4 (by decide) (by decide) lL_46 (fun U h => h.2.2.2.2.1) (fun q => ?_)
      refine aw_astore_n (L' := [(3, .ref q), (0, .ref (wad (cxw g) 0)), (1, .int x1), (2, .ref (wad (cxw g) 26))]) hG dL_out_12 rfl (by decide) rfl ?_
      refine aw_iconst (v := 1) hG dL_out_13 rfl ?_
      exact hK _ _ 1 6 (Nat.le_refl _) (Nat.le_refl _) dL_out_14
    | inr v9 =>
      obtain rfl := Option.some.inj h
      refine aw_callVi (As := [.int x1]) (rest := [.int 0, .ref (wad (cxw g) 26)]) hG (c_X6_out (x1 := x1) (c := c) hf) lL_41 wvL_X6_out (rv_X6 hG) rfl rfl rfl (by decide) (Nat.zero_le _) (Nat.zero_le _) (Nat.le_of_ble_eq_true rfl) dL_out_4 ?_
      refine aw_i2l hG dL_out_7 ?_
      refine as_out hG dL_out_8 ?_
      refine aw_goto (t := 15) hG dL_out_9 rfl ?_
      refine aw_iconst (v := 0) hG dL_out_15 rfl ?_
      exact hK _ _ 0 0 (Nat.zero_le _) (Nat.zero_le _) dL_out_16
theorem c_L_out {c : CS} {m : MS} {z : Nat → Int64} {x1 : Int32} {s : Unit ⊕ (Int64 × CS)} (h : cl_out x1 c = some s) : CtH yL_out cL_out 4 [(0, 9, 12, 45)] 11 (fun w => [.ref (wad w 0), .int x1, .ref (wad w 26)]) (c, m, z) (Sum.elim (fun _ => 1) (fun _ => 0) s) (Sum.elim (fun _ => (c, m, z)) (fun r => (r.2, m, vp_updL z 0 r.1)) s) := CtH_of (by decide +kernel) (fun _ => Nat.le_of_ble_eq_true rfl) (fun g hG hst htab hK => w_L_out hG hst htab h hK)
noncomputable def cl_decimal (x1 : Int32) (c : CS) : Option (Unit ⊕ (Int64 × CS)) := (f_X6_decimal x1 c).map (Sum.map id (fun s => (s.toInt64, c)))
set_option maxRecDepth 20000 in
theorem w_L_decimal {g : Cx} {c : CS} {m : MS} {z : Nat → Int64} {x1 : Int32} {s : Unit ⊕ (Int64 × CS)} (hG : Gd g RL cL_decimal 4 11 1 6) (hst : g.1.2.1.stackTraces = false) (htab : g.2.1.2.2.2.2.exceptionTable.toList = tableOf [(0, 9, 12, 13)]) (h : cl_decimal x1 c = some s) (hK : FinI g cL_decimal 1 6 (Sum.elim (fun _ => 1) (fun _ => 0) s) (Sum.elim (fun _ => (c, m, z)) (fun r => (r.2, m, vp_updL z 0 r.1)) s)) : AW g 0 [(0, .ref (wad (cxw g) 0)), (1, .int x1), (2, .ref (wad (cxw g) 26))] [] (c, m, z) 0 0 := by
  unfold cl_decimal at h
  refine aw_aload_n hG 2 rfl dL_decimal_0 rfl ?_
  refine aw_iconst (v := 0) hG dL_decimal_1 rfl ?_
  refine aw_aload_n hG 0 rfl dL_decimal_2 rfl ?_
  refine aw_iload_n hG 1 rfl dL_decimal_3 rfl ?_
  cases hf : f_X6_decimal x1 c with
  | none => rw [hf] at h; cases h
  | some v9 =>
    rw [hf] at h
    cases v9 with
    | inl u9 =>
      obtain rfl := Option.some.inj h
      refine aw_catchV (As := [.int x1]) (rest := [.int 0, .ref (wad (cxw g) 26)]) (hs := 0) (he := 9) (hp := 12) (ct := 13) hG hst htab (ct_X6_decimal (x1 := x1) (c := c) hf) lL_47 wvL_X6_decimal (rv_X6 hG) rfl rfl rfl (by decide) (Nat.le_of_ble_eq_true rfl) dL_decimal_4 (by decide) (by decide) lL_5 (fun U h => h.2.2.2.1) (fun q => ?_)
      refine aw_astore_n (L' := [(3, .ref q), (0, .ref (wad (cxw g) 0)), (1, .int x1), (2, .ref (wad (cxw g) 26))]) hG dL_decimal_12 rfl (by decide) rfl ?_
      refine aw_iconst (v := 1) hG dL_decimal_13 rfl ?_
      exact hK _ _ 1 6 (Nat.le_refl _) (Nat.le_refl _) dL_decimal_14
    | inr v9 =>
      obtain rfl := Option.some.inj h
      refine aw_callVi (As := [.int x1]) (rest := [.int 0, .ref (wad (cxw g) 26)]) hG (c_X6_decimal (x1 := x1) (c := c) hf) lL_47 wvL_X6_decimal (rv_X6 hG) rfl rfl rfl (by decide) (Nat.zero_le _) (Nat.zero_le _) (Nat.le_of_ble_eq_true rfl) dL_decimal_4 ?_
      refine aw_i2l hG dL_decimal_7 ?_
      refine as_out hG dL_decimal_8 ?_
      refine aw_goto (t := 15) hG dL_decimal_9 rfl ?_
      refine aw_iconst (v := 0) hG dL_decimal_15 rfl ?_
      exact hK _ _ 0 0 (Nat.zero_le _) (Nat.zero_le _) dL_decimal_16
theorem c_L_decimal {c : CS} {m : MS} {z : Nat → Int64} {x1 : Int32} {s : Unit ⊕ (Int64 × CS)} (h : cl_decimal x1 c = some s) : CtH yL_decimal cL_decimal 4 [(0, 9, 12, 13)] 11 (fun w => [.ref (wad w 0), .int x1, .ref (wad w 26)]) (c, m, z) (Sum.elim (fun _ => 1) (fun _ => 0) s) (Sum.elim (fun _ => (c, m, z)) (fun r => (r.2, m, vp_updL z 0 r.1)) s) := CtH_of (by decide +kernel) (fun _ => Nat.le_of_ble_eq_true rfl) (fun g hG hst htab hK => w_L_decimal hG hst htab h hK)
noncomputable def cl_digit (x1 : Int32) (c : CS) : Option (Unit ⊕ (Int64 × CS)) := (f_X6_digit x1 c).map (Sum.map id (fun s => (s.toInt64, c)))
set_option maxRecDepth 20000 in
theorem w_L_digit {g : Cx} {c : CS} {m : MS} {z : Nat → Int64} {x1 : Int32} {s : Unit ⊕ (Int64 × CS)} (hG : Gd g RL cL_digit 4 11 1 6) (hst : g.1.2.1.stackTraces = false) (htab : g.2.1.2.2.2.2.exceptionTable.toList = tableOf [(0, 9, 12, 45)]) (h : cl_digit x1 c = some s) (hK : FinI g cL_digit 1 6 (Sum.elim (fun _ => 1) (fun _ => 0) s) (Sum.elim (fun _ => (c, m, z)) (fun r => (r.2, m, vp_updL z 0 r.1)) s)) : AW g 0 [(0, .ref (wad (cxw g) 0)), (1, .int x1), (2, .ref (wad (cxw g) 26))] [] (c, m, z) 0 0 := by
  unfold cl_digit at h
  refine aw_aload_n hG 2 rfl dL_digit_0 rfl ?_
  refine aw_iconst (v := 0) hG dL_digit_1 rfl ?_
  refine aw_aload_n hG 0 rfl dL_digit_2 rfl ?_
  refine aw_iload_n hG 1 rfl dL_digit_3 rfl ?_
  cases hf : f_X6_digit x1 c with
  | none => rw [hf] at h; cases h
  | some v9 =>
    rw [hf] at h
    cases v9 with
    | inl u9 =>
      obtain rfl := Option.some.inj h
      refine aw_catchV (As := [.int x1]) (rest := [.int 0, .ref (wad (cxw g) 26)]) (hs := 0) (he := 9) (hp := 12) (ct := 45) hG hst htab (ct_X6_digit (x1 := x1) (c := c) hf) lL_52 wvL_X6_digit (rv_X6 hG) rfl rfl rfl (by decide) (Nat.le_of_ble_eq_true rfl) dL_digit_4 (by decide) (by decide) lL_46 (fun U h => h.2.2.2.2.1) (fun q => ?_)
      refine aw_astore_n (L' := [(3, .ref q), (0, .ref (wad (cxw g) 0)), (1, .int x1), (2, .ref (wad (cxw g) 26))]) hG dL_digit_12 rfl (by decide) rfl ?_
      refine aw_iconst (v := 1) hG dL_digit_13 rfl ?_
      exact hK _ _ 1 6 (Nat.le_refl _) (Nat.le_refl _) dL_digit_14
    | inr v9 =>
      obtain rfl := Option.some.inj h
      refine aw_callVi (As := [.int x1]) (rest := [.int 0, .ref (wad (cxw g) 26)]) hG (c_X6_digit (x1 := x1) (c := c) hf) lL_52 wvL_X6_digit (rv_X6 hG) rfl rfl rfl (by decide) (Nat.zero_le _) (Nat.zero_le _) (Nat.le_of_ble_eq_true rfl) dL_digit_4 ?_
      refine aw_i2l hG dL_digit_7 ?_
      refine as_out hG dL_digit_8 ?_
      refine aw_goto (t := 15) hG dL_digit_9 rfl ?_
      refine aw_iconst (v := 0) hG dL_digit_15 rfl ?_
      exact hK _ _ 0 0 (Nat.zero_le _) (Nat.zero_le _) dL_digit_16
theorem c_L_digit {c : CS} {m : MS} {z : Nat → Int64} {x1 : Int32} {s : Unit ⊕ (Int64 × CS)} (h : cl_digit x1 c = some s) : CtH yL_digit cL_digit 4 [(0, 9, 12, 45)] 11 (fun w => [.ref (wad w 0), .int x1, .ref (wad w 26)]) (c, m, z) (Sum.elim (fun _ => 1) (fun _ => 0) s) (Sum.elim (fun _ => (c, m, z)) (fun r => (r.2, m, vp_updL z 0 r.1)) s) := CtH_of (by decide +kernel) (fun _ => Nat.le_of_ble_eq_true rfl) (fun g hG hst htab hK => w_L_digit hG hst htab h hK)
noncomputable def cl_nearest (x1 : Int32) (x2 : Int64) (x4 : Int32) (x5 : Int32) (c : CS) : Option (Unit ⊕ (Int64 × CS)) := (f_X6_nearest x1 x2 x4 x5 c).map (Sum.map id (fun s => (s.1, s.2)))
set_option maxRecDepth 20000 in
theorem w_L_nearest {g : Cx} {c : CS} {m : MS} {z : Nat → Int64} {x1 : Int32} {x2 : Int64} {x4 : Int32} {x5 : Int32} {s : Unit ⊕ (Int64 × CS)} (hG : Gd g RL cL_nearest 8 11 1 6) (hst : g.1.2.1.stackTraces = false) (htab : g.2.1.2.2.2.2.exceptionTable.toList = tableOf [(0, 14, 17, 13)]) (h : cl_nearest x1 x2 x4 x5 c = some s) (hK : FinI g cL_nearest 1 6 (Sum.elim (fun _ => 1) (fun _ => 0) s) (Sum.elim (fun _ => (c, m, z)) (fun r => (r.2, m, vp_updL z 0 r.1)) s)) : AW g 0 [(0, .ref (wad (cxw g) 0)), (1, .int x1), (2, .long x2), (4, .int x4), (5, .int x5), (6, .ref (wad (cxw g) 26))] [] (c, m, z) 0 0 := by
  unfold cl_nearest at h
  refine aw_aload hG 5 rfl dL_nearest_0 ?_
  refine aw_iconst (v := 0) hG dL_nearest_2 rfl ?_
  refine aw_aload_n hG 0 rfl dL_nearest_3 rfl ?_
  refine aw_iload_n hG 1 rfl dL_nearest_4 rfl ?_
  refine aw_lload_n hG 2 rfl dL_nearest_5 rfl ?_
  refine aw_iload hG 3 rfl dL_nearest_6 ?_
  refine aw_iload hG 4 rfl dL_nearest_8 ?_
  cases hf : f_X6_nearest x1 x2 x4 x5 c with
  | none => rw [hf] at h; cases h
  | some v9 =>
    rw [hf] at h
    cases v9 with
    | inl u9 =>
      obtain rfl := Option.some.inj h
      refine aw_catchV (As := [.int x1, .long x2, .int x4, .int x5]) (rest := [.int 0, .ref (wad (cxw g) 26)]) (hs := 0) (he := 14) (hp := 17) (ct := 13) hG hst htab (ct_X6_nearest (x1 := x1) (x2 := x2) (x4 := x4) (x5 := x5) (c := c) hf) lL_57 wvL_X6_nearest (rv_X6 hG) rfl rfl rfl (by decide) (Nat.le_of_ble_eq_true rfl) dL_nearest_10 (by decide) (by decide) lL_5 (fun U h => h.2.2.2.1) (fun q => ?_)
      refine aw_astore (L' := [(7, .ref q), (0, .ref (wad (cxw g) 0)), (1, .int x1), (2, .long x2), (4, .int x4), (5, .int x5), (6, .ref (wad (cxw g) 26))]) hG dL_nearest_17 (by decide) rfl ?_
      refine aw_iconst (v := 1) hG dL_nearest_19 rfl ?_
      exact hK _ _ 1 6 (Nat.le_refl _) (Nat.le_refl _) dL_nearest_20
    | inr v9 =>
      obtain rfl := Option.some.inj h
      refine aw_callVl (As := [.int x1, .long x2, .int x4, .int x5]) (rest := [.int 0, .ref (wad (cxw g) 26)]) hG (c_X6_nearest (x1 := x1) (x2 := x2) (x4 := x4) (x5 := x5) (c := c) hf) lL_57 wvL_X6_nearest (rv_X6 hG) rfl rfl rfl (by decide) (Nat.zero_le _) (Nat.zero_le _) (Nat.le_of_ble_eq_true rfl) dL_nearest_10 ?_
      refine as_out hG dL_nearest_13 ?_
      refine aw_goto (t := 21) hG dL_nearest_14 rfl ?_
      refine aw_iconst (v := 0) hG dL_nearest_21 rfl ?_
      exact hK _ _ 0 0 (Nat.zero_le _) (Nat.zero_le _) dL_nearest_22
theorem c_L_nearest {c : CS} {m : MS} {z : Nat → Int64} {x1 : Int32} {x2 : Int64} {x4 : Int32} {x5 : Int32} {s : Unit ⊕ (Int64 × CS)} (h : cl_nearest x1 x2 x4 x5 c = some s) : CtH yL_nearest cL_nearest 8 [(0, 14, 17, 13)] 11 (fun w => [.ref (wad w 0), .int x1, .long x2, .int x4, .int x5, .ref (wad w 26)]) (c, m, z) (Sum.elim (fun _ => 1) (fun _ => 0) s) (Sum.elim (fun _ => (c, m, z)) (fun r => (r.2, m, vp_updL z 0 r.1)) s) := CtH_of (by decide +kernel) (fun _ => Nat.le_of_ble_eq_true rfl) (fun g hG hst htab hK => w_L_nearest hG hst htab h hK)
noncomputable def cl_power (x1 : Int32) (x2 : Int64) (x4 : Int32) (x5 : Int32) (c : CS) : Option (Unit ⊕ (Int64 × CS)) := (f_X6_power x1 x2 x4 x5 c).map (Sum.map id (fun s => (s.1, s.2)))
set_option maxRecDepth 20000 in
theorem w_L_power {g : Cx} {c : CS} {m : MS} {z : Nat → Int64} {x1 : Int32} {x2 : Int64} {x4 : Int32} {x5 : Int32} {s : Unit ⊕ (Int64 × CS)} (hG : Gd g RL cL_power 8 11 1 6) (hst : g.1.2.1.stackTraces = false) (htab : g.2.1.2.2.2.2.exceptionTable.toList = tableOf [(0, 14, 17, 13)]) (h : cl_power x1 x2 x4 x5 c = some s) (hK : FinI g cL_power 1 6 (Sum.elim (fun _ => 1) (fun _ => 0) s) (Sum.elim (fun _ => (c, m, z)) (fun r => (r.2, m, vp_updL z 0 r.1)) s)) : AW g 0 [(0, .ref (wad (cxw g) 0)), (1, .int x1), (2, .long x2), (4, .int x4), (5, .int x5), (6, .ref (wad (cxw g) 26))] [] (c, m, z) 0 0 := by
  unfold cl_power at h
  refine aw_aload hG 5 rfl dL_power_0 ?_
  refine aw_iconst (v := 0) hG dL_power_2 rfl ?_
  refine aw_aload_n hG 0 rfl dL_power_3 rfl ?_
  refine aw_iload_n hG 1 rfl dL_power_4 rfl ?_
  refine aw_lload_n hG 2 rfl dL_power_5 rfl ?_
  refine aw_iload hG 3 rfl dL_power_6 ?_
  refine aw_iload hG 4 rfl dL_power_8 ?_
  cases hf : f_X6_power x1 x2 x4 x5 c with
  | none => rw [hf] at h; cases h
  | some v9 =>
    rw [hf] at h
    cases v9 with
    | inl u9 =>
      obtain rfl := Option.some.inj h
      refine aw_catchV (As := [.int x1, .long x2, .int x4, .int x5]) (rest := [.int 0, .ref (wad (cxw g) 26)]) (hs := 0) (he := 14) (hp := 17) (ct := 13) hG hst htab (ct_X6_power (x1 := x1) (x2 := x2) (x4 := x4) (x5 := x5) (c := c) hf) lL_62 wvL_X6_power (rv_X6 hG) rfl rfl rfl (by decide) (Nat.le_of_ble_eq_true rfl) dL_power_10 (by decide) (by decide) lL_5 (fun U h => h.2.2.2.1) (fun q => ?_)
      refine aw_astore (L' := [(7, .ref q), (0, .ref (wad (cxw g) 0)), (1, .int x1), (2, .long x2), (4, .int x4), (5, .int x5), (6, .ref (wad (cxw g) 26))]) hG dL_power_17 (by decide) rfl ?_
      refine aw_iconst (v := 1) hG dL_power_19 rfl ?_
      exact hK _ _ 1 6 (Nat.le_refl _) (Nat.le_refl _) dL_power_20
    | inr v9 =>
      obtain rfl := Option.some.inj h
      refine aw_callVl (As := [.int x1, .long x2, .int x4, .int x5]) (rest := [.int 0, .ref (wad (cxw g) 26)]) hG (c_X6_power (x1 := x1) (x2 := x2) (x4 := x4) (x5 := x5) (c := c) hf) lL_62 wvL_X6_power (rv_X6 hG) rfl rfl rfl (by decide) (Nat.zero_le _) (Nat.zero_le _) (Nat.le_of_ble_eq_true rfl) dL_power_10 ?_
      refine as_out hG dL_power_13 ?_
      refine aw_goto (t := 21) hG dL_power_14 rfl ?_
      refine aw_iconst (v := 0) hG dL_power_21 rfl ?_
      exact hK _ _ 0 0 (Nat.zero_le _) (Nat.zero_le _) dL_power_22
theorem c_L_power {c : CS} {m : MS} {z : Nat → Int64} {x1 : Int32} {x2 : Int64} {x4 : Int32} {x5 : Int32} {s : Unit ⊕ (Int64 × CS)} (h : cl_power x1 x2 x4 x5 c = some s) : CtH yL_power cL_power 8 [(0, 14, 17, 13)] 11 (fun w => [.ref (wad w 0), .int x1, .long x2, .int x4, .int x5, .ref (wad w 26)]) (c, m, z) (Sum.elim (fun _ => 1) (fun _ => 0) s) (Sum.elim (fun _ => (c, m, z)) (fun r => (r.2, m, vp_updL z 0 r.1)) s) := CtH_of (by decide +kernel) (fun _ => Nat.le_of_ble_eq_true rfl) (fun g hG hst htab hK => w_L_power hG hst htab h hK)
noncomputable def cl_convert (x1 : Int32) (x2 : Int64) (x4 : Int32) (x5 : Int32) (c : CS) : Option (Unit ⊕ (Int64 × CS)) := (f_X6_convert x1 x2 x4 x5 c).map (Sum.map id (fun s => (s.1, s.2)))
set_option maxRecDepth 20000 in
theorem w_L_convert {g : Cx} {c : CS} {m : MS} {z : Nat → Int64} {x1 : Int32} {x2 : Int64} {x4 : Int32} {x5 : Int32} {s : Unit ⊕ (Int64 × CS)} (hG : Gd g RL cL_convert 8 11 1 6) (hst : g.1.2.1.stackTraces = false) (htab : g.2.1.2.2.2.2.exceptionTable.toList = tableOf [(0, 14, 17, 13)]) (h : cl_convert x1 x2 x4 x5 c = some s) (hK : FinI g cL_convert 1 6 (Sum.elim (fun _ => 1) (fun _ => 0) s) (Sum.elim (fun _ => (c, m, z)) (fun r => (r.2, m, vp_updL z 0 r.1)) s)) : AW g 0 [(0, .ref (wad (cxw g) 0)), (1, .int x1), (2, .long x2), (4, .int x4), (5, .int x5), (6, .ref (wad (cxw g) 26))] [] (c, m, z) 0 0 := by
  unfold cl_convert at h
  refine aw_aload hG 5 rfl dL_convert_0 ?_
  refine aw_iconst (v := 0) hG dL_convert_2 rfl ?_
  refine aw_aload_n hG 0 rfl dL_convert_3 rfl ?_
  refine aw_iload_n hG 1 rfl dL_convert_4 rfl ?_
  refine aw_lload_n hG 2 rfl dL_convert_5 rfl ?_
  refine aw_iload hG 3 rfl dL_convert_6 ?_
  refine aw_iload hG 4 rfl dL_convert_8 ?_
  cases hf : f_X6_convert x1 x2 x4 x5 c with
  | none => rw [hf] at h; cases h
  | some v9 =>
    rw [hf] at h
    cases v9 with
    | inl u9 =>
      obtain rfl := Option.some.inj h
      refine aw_catchV (As := [.int x1, .long x2, .int x4, .int x5]) (rest := [.int 0, .ref (wad (cxw g) 26)]) (hs := 0) (he := 14) (hp := 17) (ct := 13) hG hst htab (ct_X6_convert (x1 := x1) (x2 := x2) (x4 := x4) (x5 := x5) (c := c) hf) lL_67 wvL_X6_convert (rv_X6 hG) rfl rfl rfl (by decide) (Nat.le_of_ble_eq_true rfl) dL_convert_10 (by decide) (by decide) lL_5 (fun U h => h.2.2.2.1) (fun q => ?_)
      refine aw_astore (L' := [(7, .ref q), (0, .ref (wad (cxw g) 0)), (1, .int x1), (2, .long x2), (4, .int x4), (5, .int x5), (6, .ref (wad (cxw g) 26))]) hG dL_convert_17 (by decide) rfl ?_
      refine aw_iconst (v := 1) hG dL_convert_19 rfl ?_
      exact hK _ _ 1 6 (Nat.le_refl _) (Nat.le_refl _) dL_convert_20
    | inr v9 =>
      obtain rfl := Option.some.inj h
      refine aw_callVl (As := [.int x1, .long x2, .int x4, .int x5]) (rest := [.int 0, .ref (wad (cxw g) 26)]) hG (c_X6_convert (x1 := x1) (x2 := x2) (x4 := x4) (x5 := x5) (c := c) hf) lL_67 wvL_X6_convert (rv_X6 hG) rfl rfl rfl (by decide) (Nat.zero_le _) (Nat.zero_le _) (Nat.le_of_ble_eq_true rfl) dL_convert_10 ?_
      refine as_out hG dL_convert_13 ?_
      refine aw_goto (t := 21) hG dL_convert_14 rfl ?_
      refine aw_iconst (v := 0) hG dL_convert_21 rfl ?_
      exact hK _ _ 0 0 (Nat.zero_le _) (Nat.zero_le _) dL_convert_22
theorem c_L_convert {c : CS} {m : MS} {z : Nat → Int64} {x1 : Int32} {x2 : Int64} {x4 : Int32} {x5 : Int32} {s : Unit ⊕ (Int64 × CS)} (h : cl_convert x1 x2 x4 x5 c = some s) : CtH yL_convert cL_convert 8 [(0, 14, 17, 13)] 11 (fun w => [.ref (wad w 0), .int x1, .long x2, .int x4, .int x5, .ref (wad w 26)]) (c, m, z) (Sum.elim (fun _ => 1) (fun _ => 0) s) (Sum.elim (fun _ => (c, m, z)) (fun r => (r.2, m, vp_updL z 0 r.1)) s) := CtH_of (by decide +kernel) (fun _ => Nat.le_of_ble_eq_true rfl) (fun g hG hst htab hK => w_L_convert hG hst htab h hK)
noncomputable def cl_next (x1 : Int32) (x2 : Int64) (x4 : Int32) (c : CS) : Option (Unit ⊕ (Int64 × CS)) := (f_X6_next x1 x2 x4).map (Sum.map id (fun s => (s, c)))
set_option maxRecDepth 20000 in
theorem w_L_next {g : Cx} {c : CS} {m : MS} {z : Nat → Int64} {x1 : Int32} {x2 : Int64} {x4 : Int32} {s : Unit ⊕ (Int64 × CS)} (hG : Gd g RL cL_next 7 11 1 6) (hst : g.1.2.1.stackTraces = false) (htab : g.2.1.2.2.2.2.exceptionTable.toList = tableOf [(0, 12, 15, 13)]) (h : cl_next x1 x2 x4 c = some s) (hK : FinI g cL_next 1 6 (Sum.elim (fun _ => 1) (fun _ => 0) s) (Sum.elim (fun _ => (c, m, z)) (fun r => (r.2, m, vp_updL z 0 r.1)) s)) : AW g 0 [(0, .ref (wad (cxw g) 0)), (1, .int x1), (2, .long x2), (4, .int x4), (5, .ref (wad (cxw g) 26))] [] (c, m, z) 0 0 := by
  unfold cl_next at h
  refine aw_aload hG 4 rfl dL_next_0 ?_
  refine aw_iconst (v := 0) hG dL_next_2 rfl ?_
  refine aw_aload_n hG 0 rfl dL_next_3 rfl ?_
  refine aw_iload_n hG 1 rfl dL_next_4 rfl ?_
  refine aw_lload_n hG 2 rfl dL_next_5 rfl ?_
  refine aw_iload hG 3 rfl dL_next_6 ?_
  cases hf : f_X6_next x1 x2 x4 with
  | none => rw [hf] at h; cases h
  | some v9 =>
    rw [hf] at h
    cases v9 with
    | inl u9 =>
      obtain rfl := Option.some.inj h
      refine aw_catchV (As := [.int x1, .long x2, .int x4]) (rest := [.int 0, .ref (wad (cxw g) 26)]) (hs := 0) (he := 12) (hp := 15) (ct := 13) hG hst htab (ct_X6_next (x1 := x1) (x2 := x2) (x4 := x4) (c := c) hf) lL_72 wvL_X6_next (rv_X6 hG) rfl rfl rfl (by decide) (Nat.le_of_ble_eq_true rfl) dL_next_8 (by decide) (by decide) lL_5 (fun U h => h.2.2.2.1) (fun q => ?_)
      refine aw_astore (L' := [(6, .ref q), (0, .ref (wad (cxw g) 0)), (1, .int x1), (2, .long x2), (4, .int x4), (5, .ref (wad (cxw g) 26))]) hG dL_next_15 (by decide) rfl ?_
      refine aw_iconst (v := 1) hG dL_next_17 rfl ?_
      exact hK _ _ 1 6 (Nat.le_refl _) (Nat.le_refl _) dL_next_18
    | inr v9 =>
      obtain rfl := Option.some.inj h
      refine aw_callVl (As := [.int x1, .long x2, .int x4]) (rest := [.int 0, .ref (wad (cxw g) 26)]) hG (c_X6_next (x1 := x1) (x2 := x2) (x4 := x4) (c := c) hf) lL_72 wvL_X6_next (rv_X6 hG) rfl rfl rfl (by decide) (Nat.zero_le _) (Nat.zero_le _) (Nat.le_of_ble_eq_true rfl) dL_next_8 ?_
      refine as_out hG dL_next_11 ?_
      refine aw_goto (t := 19) hG dL_next_12 rfl ?_
      refine aw_iconst (v := 0) hG dL_next_19 rfl ?_
      exact hK _ _ 0 0 (Nat.zero_le _) (Nat.zero_le _) dL_next_20
theorem c_L_next {c : CS} {m : MS} {z : Nat → Int64} {x1 : Int32} {x2 : Int64} {x4 : Int32} {s : Unit ⊕ (Int64 × CS)} (h : cl_next x1 x2 x4 c = some s) : CtH yL_next cL_next 7 [(0, 12, 15, 13)] 11 (fun w => [.ref (wad w 0), .int x1, .long x2, .int x4, .ref (wad w 26)]) (c, m, z) (Sum.elim (fun _ => 1) (fun _ => 0) s) (Sum.elim (fun _ => (c, m, z)) (fun r => (r.2, m, vp_updL z 0 r.1)) s) := CtH_of (by decide +kernel) (fun _ => Nat.le_of_ble_eq_true rfl) (fun g hG hst htab hK => w_L_next hG hst htab h hK)
noncomputable def cl_steps (x1 : Int32) (x2 : Int64) (x4 : Int64) (c : CS) : Option (Unit ⊕ (Int64 × CS)) := (f_X6_steps x1 x2 x4).map (Sum.map id (fun s => (s, c)))
set_option maxRecDepth 20000 in
theorem w_L_steps {g : Cx} {c : CS} {m : MS} {z : Nat → Int64} {x1 : Int32} {x2 : Int64} {x4 : Int64} {s : Unit ⊕ (Int64 × CS)} (hG : Gd g RL cL_steps 8 11 1 6) (hst : g.1.2.1.stackTraces = false) (htab : g.2.1.2.2.2.2.exceptionTable.toList = tableOf [(0, 12, 15, 13)]) (h : cl_steps x1 x2 x4 c = some s) (hK : FinI g cL_steps 1 6 (Sum.elim (fun _ => 1) (fun _ => 0) s) (Sum.elim (fun _ => (c, m, z)) (fun r => (r.2, m, vp_updL z 0 r.1)) s)) : AW g 0 [(0, .ref (wad (cxw g) 0)), (1, .int x1), (2, .long x2), (4, .long x4), (6, .ref (wad (cxw g) 26))] [] (c, m, z) 0 0 := by
  unfold cl_steps at h
  refine aw_aload hG 4 rfl dL_steps_0 ?_
  refine aw_iconst (v := 0) hG dL_steps_2 rfl ?_
  refine aw_aload_n hG 0 rfl dL_steps_3 rfl ?_
  refine aw_iload_n hG 1 rfl dL_steps_4 rfl ?_
  refine aw_lload_n hG 2 rfl dL_steps_5 rfl ?_
  refine aw_lload hG 3 rfl dL_steps_6 ?_
  cases hf : f_X6_steps x1 x2 x4 with
  | none => rw [hf] at h; cases h
  | some v9 =>
    rw [hf] at h
    cases v9 with
    | inl u9 =>
      obtain rfl := Option.some.inj h
      refine aw_catchV (As := [.int x1, .long x2, .long x4]) (rest := [.int 0, .ref (wad (cxw g) 26)]) (hs := 0) (he := 12) (hp := 15) (ct := 13) hG hst htab (ct_X6_steps (x1 := x1) (x2 := x2) (x4 := x4) (c := c) hf) lL_77 wvL_X6_steps (rv_X6 hG) rfl rfl rfl (by decide) (Nat.le_of_ble_eq_true rfl) dL_steps_8 (by decide) (by decide) lL_5 (fun U h => h.2.2.2.1) (fun q => ?_)
      refine aw_astore (L' := [(7, .ref q), (0, .ref (wad (cxw g) 0)), (1, .int x1), (2, .long x2), (4, .long x4), (6, .ref (wad (cxw g) 26))]) hG dL_steps_15 (by decide) rfl ?_
      refine aw_iconst (v := 1) hG dL_steps_17 rfl ?_
      exact hK _ _ 1 6 (Nat.le_refl _) (Nat.le_refl _) dL_steps_18
    | inr v9 =>
      obtain rfl := Option.some.inj h
      refine aw_callVl (As := [.int x1, .long x2, .long x4]) (rest := [.int 0, .ref (wad (cxw g) 26)]) hG (c_X6_steps (x1 := x1) (x2 := x2) (x4 := x4) (c := c) hf) lL_77 wvL_X6_steps (rv_X6 hG) rfl rfl rfl (by decide) (Nat.zero_le _) (Nat.zero_le _) (Nat.le_of_ble_eq_true rfl) dL_steps_8 ?_
      refine as_out hG dL_steps_11 ?_
      refine aw_goto (t := 19) hG dL_steps_12 rfl ?_
      refine aw_iconst (v := 0) hG dL_steps_19 rfl ?_
      exact hK _ _ 0 0 (Nat.zero_le _) (Nat.zero_le _) dL_steps_20
theorem c_L_steps {c : CS} {m : MS} {z : Nat → Int64} {x1 : Int32} {x2 : Int64} {x4 : Int64} {s : Unit ⊕ (Int64 × CS)} (h : cl_steps x1 x2 x4 c = some s) : CtH yL_steps cL_steps 8 [(0, 12, 15, 13)] 11 (fun w => [.ref (wad w 0), .int x1, .long x2, .long x4, .ref (wad w 26)]) (c, m, z) (Sum.elim (fun _ => 1) (fun _ => 0) s) (Sum.elim (fun _ => (c, m, z)) (fun r => (r.2, m, vp_updL z 0 r.1)) s) := CtH_of (by decide +kernel) (fun _ => Nat.le_of_ble_eq_true rfl) (fun g hG hst htab hK => w_L_steps hG hst htab h hK)
noncomputable def cl_compare (x1 : Int32) (x2 : Int64) (x4 : Int64) (c : CS) : Option (Unit ⊕ (Int64 × CS)) := (f_X6_compare x1 x2 x4).map (Sum.map id (fun s => (s.toInt64, c)))
set_option maxRecDepth 20000 in
theorem w_L_compare {g : Cx} {c : CS} {m : MS} {z : Nat → Int64} {x1 : Int32} {x2 : Int64} {x4 : Int64} {s : Unit ⊕ (Int64 × CS)} (hG : Gd g RL cL_compare 8 11 1 6) (hst : g.1.2.1.stackTraces = false) (htab : g.2.1.2.2.2.2.exceptionTable.toList = tableOf [(0, 13, 16, 13)]) (h : cl_compare x1 x2 x4 c = some s) (hK : FinI g cL_compare 1 6 (Sum.elim (fun _ => 1) (fun _ => 0) s) (Sum.elim (fun _ => (c, m, z)) (fun r => (r.2, m, vp_updL z 0 r.1)) s)) : AW g 0 [(0, .ref (wad (cxw g) 0)), (1, .int x1), (2, .long x2), (4, .long x4), (6, .ref (wad (cxw g) 26))] [] (c, m, z) 0 0 := by
  unfold cl_compare at h
  refine aw_aload hG 4 rfl dL_compare_0 ?_
  refine aw_iconst (v := 0) hG dL_compare_2 rfl ?_
  refine aw_aload_n hG 0 rfl dL_compare_3 rfl ?_
  refine aw_iload_n hG 1 rfl dL_compare_4 rfl ?_
  refine aw_lload_n hG 2 rfl dL_compare_5 rfl ?_
  refine aw_lload hG 3 rfl dL_compare_6 ?_
  cases hf : f_X6_compare x1 x2 x4 with
  | none => rw [hf] at h; cases h
  | some v9 =>
    rw [hf] at h
    cases v9 with
    | inl u9 =>
      obtain rfl := Option.some.inj h
      refine aw_catchV (As := [.int x1, .long x2, .long x4]) (rest := [.int 0, .ref (wad (cxw g) 26)]) (hs := 0) (he := 13) (hp := 16) (ct := 13) hG hst htab (ct_X6_compare (x1 := x1) (x2 := x2) (x4 := x4) (c := c) hf) lL_82 wvL_X6_compare (rv_X6 hG) rfl rfl rfl (by decide) (Nat.le_of_ble_eq_true rfl) dL_compare_8 (by decide) (by decide) lL_5 (fun U h => h.2.2.2.1) (fun q => ?_)
      refine aw_astore (L' := [(7, .ref q), (0, .ref (wad (cxw g) 0)), (1, .int x1), (2, .long x2), (4, .long x4), (6, .ref (wad (cxw g) 26))]) hG dL_compare_16 (by decide) rfl ?_
      refine aw_iconst (v := 1) hG dL_compare_18 rfl ?_
      exact hK _ _ 1 6 (Nat.le_refl _) (Nat.le_refl _) dL_compare_19
    | inr v9 =>
      obtain rfl := Option.some.inj h
      refine aw_callVi (As := [.int x1, .long x2, .long x4]) (rest := [.int 0, .ref (wad (cxw g) 26)]) hG (c_X6_compare (x1 := x1) (x2 := x2) (x4 := x4) (c := c) hf) lL_82 wvL_X6_compare (rv_X6 hG) rfl rfl rfl (by decide) (Nat.zero_le _) (Nat.zero_le _) (Nat.le_of_ble_eq_true rfl) dL_compare_8 ?_
      refine aw_i2l hG dL_compare_11 ?_
      refine as_out hG dL_compare_12 ?_
      refine aw_goto (t := 20) hG dL_compare_13 rfl ?_
      refine aw_iconst (v := 0) hG dL_compare_20 rfl ?_
      exact hK _ _ 0 0 (Nat.zero_le _) (Nat.zero_le _) dL_compare_21
theorem c_L_compare {c : CS} {m : MS} {z : Nat → Int64} {x1 : Int32} {x2 : Int64} {x4 : Int64} {s : Unit ⊕ (Int64 × CS)} (h : cl_compare x1 x2 x4 c = some s) : CtH yL_compare cL_compare 8 [(0, 13, 16, 13)] 11 (fun w => [.ref (wad w 0), .int x1, .long x2, .long x4, .ref (wad w 26)]) (c, m, z) (Sum.elim (fun _ => 1) (fun _ => 0) s) (Sum.elim (fun _ => (c, m, z)) (fun r => (r.2, m, vp_updL z 0 r.1)) s) := CtH_of (by decide +kernel) (fun _ => Nat.le_of_ble_eq_true rfl) (fun g hG hst htab hK => w_L_compare hG hst htab h hK)
noncomputable def cl_order (x1 : Int32) (x2 : Int64) (x4 : Int64) (c : CS) : Option (Unit ⊕ (Int64 × CS)) := (f_X6_order x1 x2 x4).map (Sum.map id (fun s => (s.toInt64, c)))
set_option maxRecDepth 20000 in
theorem w_L_order {g : Cx} {c : CS} {m : MS} {z : Nat → Int64} {x1 : Int32} {x2 : Int64} {x4 : Int64} {s : Unit ⊕ (Int64 × CS)} (hG : Gd g RL cL_order 8 11 1 6) (hst : g.1.2.1.stackTraces = false) (htab : g.2.1.2.2.2.2.exceptionTable.toList = tableOf [(0, 13, 16, 13)]) (h : cl_order x1 x2 x4 c = some s) (hK : FinI g cL_order 1 6 (Sum.elim (fun _ => 1) (fun _ => 0) s) (Sum.elim (fun _ => (c, m, z)) (fun r => (r.2, m, vp_updL z 0 r.1)) s)) : AW g 0 [(0, .ref (wad (cxw g) 0)), (1, .int x1), (2, .long x2), (4, .long x4), (6, .ref (wad (cxw g) 26))] [] (c, m, z) 0 0 := by
  unfold cl_order at h
  refine aw_aload hG 4 rfl dL_order_0 ?_
  refine aw_iconst (v := 0) hG dL_order_2 rfl ?_
  refine aw_aload_n hG 0 rfl dL_order_3 rfl ?_
  refine aw_iload_n hG 1 rfl dL_order_4 rfl ?_
  refine aw_lload_n hG 2 rfl dL_order_5 rfl ?_
  refine aw_lload hG 3 rfl dL_order_6 ?_
  cases hf : f_X6_order x1 x2 x4 with
  | none => rw [hf] at h; cases h
  | some v9 =>
    rw [hf] at h
    cases v9 with
    | inl u9 =>
      obtain rfl := Option.some.inj h
      refine aw_catchV (As := [.int x1, .long x2, .long x4]) (rest := [.int 0, .ref (wad (cxw g) 26)]) (hs := 0) (he := 13) (hp := 16) (ct := 13) hG hst htab (ct_X6_order (x1 := x1) (x2 := x2) (x4 := x4) (c := c) hf) lL_87 wvL_X6_order (rv_X6 hG) rfl rfl rfl (by decide) (Nat.le_of_ble_eq_true rfl) dL_order_8 (by decide) (by decide) lL_5 (fun U h => h.2.2.2.1) (fun q => ?_)
      refine aw_astore (L' := [(7, .ref q), (0, .ref (wad (cxw g) 0)), (1, .int x1), (2, .long x2), (4, .long x4), (6, .ref (wad (cxw g) 26))]) hG dL_order_16 (by decide) rfl ?_
      refine aw_iconst (v := 1) hG dL_order_18 rfl ?_
      exact hK _ _ 1 6 (Nat.le_refl _) (Nat.le_refl _) dL_order_19
    | inr v9 =>
      obtain rfl := Option.some.inj h
      refine aw_callVi (As := [.int x1, .long x2, .long x4]) (rest := [.int 0, .ref (wad (cxw g) 26)]) hG (c_X6_order (x1 := x1) (x2 := x2) (x4 := x4) (c := c) hf) lL_87 wvL_X6_order (rv_X6 hG) rfl rfl rfl (by decide) (Nat.zero_le _) (Nat.zero_le _) (Nat.le_of_ble_eq_true rfl) dL_order_8 ?_
      refine aw_i2l hG dL_order_11 ?_
      refine as_out hG dL_order_12 ?_
      refine aw_goto (t := 20) hG dL_order_13 rfl ?_
      refine aw_iconst (v := 0) hG dL_order_20 rfl ?_
      exact hK _ _ 0 0 (Nat.zero_le _) (Nat.zero_le _) dL_order_21
theorem c_L_order {c : CS} {m : MS} {z : Nat → Int64} {x1 : Int32} {x2 : Int64} {x4 : Int64} {s : Unit ⊕ (Int64 × CS)} (h : cl_order x1 x2 x4 c = some s) : CtH yL_order cL_order 8 [(0, 13, 16, 13)] 11 (fun w => [.ref (wad w 0), .int x1, .long x2, .long x4, .ref (wad w 26)]) (c, m, z) (Sum.elim (fun _ => 1) (fun _ => 0) s) (Sum.elim (fun _ => (c, m, z)) (fun r => (r.2, m, vp_updL z 0 r.1)) s) := CtH_of (by decide +kernel) (fun _ => Nat.le_of_ble_eq_true rfl) (fun g hG hst htab hK => w_L_order hG hst htab h hK)
noncomputable def cl_kind (x1 : Int32) (x2 : Int64) (c : CS) : Option (Unit ⊕ (Int64 × CS)) := (f_X6_kind x1 x2).map (Sum.map id (fun s => (s.toInt64, c)))
set_option maxRecDepth 20000 in
theorem w_L_kind {g : Cx} {c : CS} {m : MS} {z : Nat → Int64} {x1 : Int32} {x2 : Int64} {s : Unit ⊕ (Int64 × CS)} (hG : Gd g RL cL_kind 6 11 1 6) (hst : g.1.2.1.stackTraces = false) (htab : g.2.1.2.2.2.2.exceptionTable.toList = tableOf [(0, 11, 14, 13)]) (h : cl_kind x1 x2 c = some s) (hK : FinI g cL_kind 1 6 (Sum.elim (fun _ => 1) (fun _ => 0) s) (Sum.elim (fun _ => (c, m, z)) (fun r => (r.2, m, vp_updL z 0 r.1)) s)) : AW g 0 [(0, .ref (wad (cxw g) 0)), (1, .int x1), (2, .long x2), (4, .ref (wad (cxw g) 26))] [] (c, m, z) 0 0 := by
  unfold cl_kind at h
  refine aw_aload hG 3 rfl dL_kind_0 ?_
  refine aw_iconst (v := 0) hG dL_kind_2 rfl ?_
  refine aw_aload_n hG 0 rfl dL_kind_3 rfl ?_
  refine aw_iload_n hG 1 rfl dL_kind_4 rfl ?_
  refine aw_lload_n hG 2 rfl dL_kind_5 rfl ?_
  cases hf : f_X6_kind x1 x2 with
  | none => rw [hf] at h; cases h
  | some v9 =>
    rw [hf] at h
    cases v9 with
    | inl u9 =>
      obtain rfl := Option.some.inj h
      refine aw_catchV (As := [.int x1, .long x2]) (rest := [.int 0, .ref (wad (cxw g) 26)]) (hs := 0) (he := 11) (hp := 14) (ct := 13) hG hst htab (ct_X6_kind (x1 := x1) (x2 := x2) (c := c) hf) lL_92 wvL_X6_kind (rv_X6 hG) rfl rfl rfl (by decide) (Nat.le_of_ble_eq_true rfl) dL_kind_6 (by decide) (by decide) lL_5 (fun U h => h.2.2.2.1) (fun q => ?_)
      refine aw_astore (L' := [(5, .ref q), (0, .ref (wad (cxw g) 0)), (1, .int x1), (2, .long x2), (4, .ref (wad (cxw g) 26))]) hG dL_kind_14 (by decide) rfl ?_
      refine aw_iconst (v := 1) hG dL_kind_16 rfl ?_
      exact hK _ _ 1 6 (Nat.le_refl _) (Nat.le_refl _) dL_kind_17
    | inr v9 =>
      obtain rfl := Option.some.inj h
      refine aw_callVi (As := [.int x1, .long x2]) (rest := [.int 0, .ref (wad (cxw g) 26)]) hG (c_X6_kind (x1 := x1) (x2 := x2) (c := c) hf) lL_92 wvL_X6_kind (rv_X6 hG) rfl rfl rfl (by decide) (Nat.zero_le _) (Nat.zero_le _) (Nat.le_of_ble_eq_true rfl) dL_kind_6 ?_
      refine aw_i2l hG dL_kind_9 ?_
      refine as_out hG dL_kind_10 ?_
      refine aw_goto (t := 18) hG dL_kind_11 rfl ?_
      refine aw_iconst (v := 0) hG dL_kind_18 rfl ?_
      exact hK _ _ 0 0 (Nat.zero_le _) (Nat.zero_le _) dL_kind_19
theorem c_L_kind {c : CS} {m : MS} {z : Nat → Int64} {x1 : Int32} {x2 : Int64} {s : Unit ⊕ (Int64 × CS)} (h : cl_kind x1 x2 c = some s) : CtH yL_kind cL_kind 6 [(0, 11, 14, 13)] 11 (fun w => [.ref (wad w 0), .int x1, .long x2, .ref (wad w 26)]) (c, m, z) (Sum.elim (fun _ => 1) (fun _ => 0) s) (Sum.elim (fun _ => (c, m, z)) (fun r => (r.2, m, vp_updL z 0 r.1)) s) := CtH_of (by decide +kernel) (fun _ => Nat.le_of_ble_eq_true rfl) (fun g hG hst htab hK => w_L_kind hG hst htab h hK)
noncomputable def cl_reads (x1 : Int32) (x2 : Int64) (x4 : Int64) (x6 : Int32) (c : CS) : Option (Unit ⊕ (Int64 × CS)) := (f_X6_reads x1 x2 x4 x6 c).map (Sum.map id (fun s => ((if s.1 = 0 then 0 else 1), s.2)))
set_option maxRecDepth 20000 in
theorem w_L_reads {g : Cx} {c : CS} {m : MS} {z : Nat → Int64} {x1 : Int32} {x2 : Int64} {x4 : Int64} {x6 : Int32} {s : Unit ⊕ (Int64 × CS)} (hG : Gd g RL cL_reads 9 11 1 6) (hst : g.1.2.1.stackTraces = false) (htab : g.2.1.2.2.2.2.exceptionTable.toList = tableOf [(0, 22, 25, 13)]) (h : cl_reads x1 x2 x4 x6 c = some s) (hK : FinI g cL_reads 1 6 (Sum.elim (fun _ => 1) (fun _ => 0) s) (Sum.elim (fun _ => (c, m, z)) (fun r => (r.2, m, vp_updL z 0 r.1)) s)) : AW g 0 [(0, .ref (wad (cxw g) 0)), (1, .int x1), (2, .long x2), (4, .long x4), (6, .int x6), (7, .ref (wad (cxw g) 26))] [] (c, m, z) 0 0 := by
  unfold cl_reads at h
  refine aw_aload hG 5 rfl dL_reads_0 ?_
  refine aw_iconst (v := 0) hG dL_reads_2 rfl ?_
  refine aw_aload_n hG 0 rfl dL_reads_3 rfl ?_
  refine aw_iload_n hG 1 rfl dL_reads_4 rfl ?_
  refine aw_lload_n hG 2 rfl dL_reads_5 rfl ?_
  refine aw_lload hG 3 rfl dL_reads_6 ?_
  refine aw_iload hG 4 rfl dL_reads_8 ?_
  cases hf : f_X6_reads x1 x2 x4 x6 c with
  | none => rw [hf] at h; cases h
  | some v9 =>
    rw [hf] at h
    cases v9 with
    | inl u9 =>
      obtain rfl := Option.some.inj h
      refine aw_catchV (As := [.int x1, .long x2, .long x4, .int x6]) (rest := [.int 0, .ref (wad (cxw g) 26)]) (hs := 0) (he := 22) (hp := 25) (ct := 13) hG hst htab (ct_X6_reads (x1 := x1) (x2 := x2) (x4 := x4) (x6 := x6) (c := c) hf) lL_97 wvL_X6_reads (rv_X6 hG) rfl rfl rfl (by decide) (Nat.le_of_ble_eq_true rfl) dL_reads_10 (by decide) (by decide) lL_5 (fun U h => h.2.2.2.1) (fun q => ?_)
      refine aw_astore (L' := [(8, .ref q), (0, .ref (wad (cxw g) 0)), (1, .int x1), (2, .long x2), (4, .long x4), (6, .int x6), (7, .ref (wad (cxw g) 26))]) hG dL_reads_25 (by decide) rfl ?_
      refine aw_iconst (v := 1) hG dL_reads_27 rfl ?_
      exact hK _ _ 1 6 (Nat.le_refl _) (Nat.le_refl _) dL_reads_28
    | inr v9 =>
      obtain rfl := Option.some.inj h
      refine aw_callVi (As := [.int x1, .long x2, .long x4, .int x6]) (rest := [.int 0, .ref (wad (cxw g) 26)]) hG (c_X6_reads (x1 := x1) (x2 := x2) (x4 := x4) (x6 := x6) (c := c) hf) lL_97 wvL_X6_reads (rv_X6 hG) rfl rfl rfl (by decide) (Nat.zero_le _) (Nat.zero_le _) (Nat.le_of_ble_eq_true rfl) dL_reads_10 ?_
      refine aw_if_eq (t := 20) hG dL_reads_13 rfl (fun hc => ?_) (fun hc => ?_)
      · replace hK : FinI g cL_reads 1 6 0 (v9.2, m, vp_updL z 0 (if v9.1 = 0 then 0 else 1)) := hK
        rw [if_pos hc] at hK
        refine aw_lconst (v := 0) hG dL_reads_20 rfl ?_
        refine as_out hG dL_reads_21 ?_
        refine aw_goto (t := 29) hG dL_reads_22 rfl ?_
        refine aw_iconst (v := 0) hG dL_reads_29 rfl ?_
        exact hK _ _ 0 0 (Nat.zero_le _) (Nat.zero_le _) dL_reads_30
      · replace hK : FinI g cL_reads 1 6 0 (v9.2, m, vp_updL z 0 (if v9.1 = 0 then 0 else 1)) := hK
        rw [if_neg hc] at hK
        refine aw_lconst (v := 1) hG dL_reads_16 rfl ?_
        refine aw_goto (t := 21) hG dL_reads_17 rfl ?_
        refine as_out hG dL_reads_21 ?_
        refine aw_goto (t := 29) hG dL_reads_22 rfl ?_
        refine aw_iconst (v := 0) hG dL_reads_29 rfl ?_
        exact hK _ _ 0 0 (Nat.zero_le _) (Nat.zero_le _) dL_reads_30
theorem c_L_reads {c : CS} {m : MS} {z : Nat → Int64} {x1 : Int32} {x2 : Int64} {x4 : Int64} {x6 : Int32} {s : Unit ⊕ (Int64 × CS)} (h : cl_reads x1 x2 x4 x6 c = some s) : CtH yL_reads cL_reads 9 [(0, 22, 25, 13)] 11 (fun w => [.ref (wad w 0), .int x1, .long x2, .long x4, .int x6, .ref (wad w 26)]) (c, m, z) (Sum.elim (fun _ => 1) (fun _ => 0) s) (Sum.elim (fun _ => (c, m, z)) (fun r => (r.2, m, vp_updL z 0 r.1)) s) := CtH_of (by decide +kernel) (fun _ => Nat.le_of_ble_eq_true rfl) (fun g hG hst htab hK => w_L_reads hG hst htab h hK)
noncomputable def cl_holds (x1 : Int32) (x2 : Int64) (c : CS) : Option (Unit ⊕ (Int64 × CS)) := (f_X6_holds x1 x2 c).map (Sum.map id (fun s => ((if s.1 = 0 then 0 else 1), s.2)))
set_option maxRecDepth 20000 in
theorem w_L_holds {g : Cx} {c : CS} {m : MS} {z : Nat → Int64} {x1 : Int32} {x2 : Int64} {s : Unit ⊕ (Int64 × CS)} (hG : Gd g RL cL_holds 6 11 1 6) (hst : g.1.2.1.stackTraces = false) (htab : g.2.1.2.2.2.2.exceptionTable.toList = tableOf [(0, 18, 21, 13)]) (h : cl_holds x1 x2 c = some s) (hK : FinI g cL_holds 1 6 (Sum.elim (fun _ => 1) (fun _ => 0) s) (Sum.elim (fun _ => (c, m, z)) (fun r => (r.2, m, vp_updL z 0 r.1)) s)) : AW g 0 [(0, .ref (wad (cxw g) 0)), (1, .int x1), (2, .long x2), (4, .ref (wad (cxw g) 26))] [] (c, m, z) 0 0 := by
  unfold cl_holds at h
  refine aw_aload hG 3 rfl dL_holds_0 ?_
  refine aw_iconst (v := 0) hG dL_holds_2 rfl ?_
  refine aw_aload_n hG 0 rfl dL_holds_3 rfl ?_
  refine aw_iload_n hG 1 rfl dL_holds_4 rfl ?_
  refine aw_lload_n hG 2 rfl dL_holds_5 rfl ?_
  cases hf : f_X6_holds x1 x2 c with
  | none => rw [hf] at h; cases h
  | some v9 =>
    rw [hf] at h
    cases v9 with
    | inl u9 =>
      obtain rfl := Option.some.inj h
      refine aw_catchV (As := [.int x1, .long x2]) (rest := [.int 0, .ref (wad (cxw g) 26)]) (hs := 0) (he := 18) (hp := 21) (ct := 13) hG hst htab (ct_X6_holds (x1 := x1) (x2 := x2) (c := c) hf) lL_102 wvL_X6_holds (rv_X6 hG) rfl rfl rfl (by decide) (Nat.le_of_ble_eq_true rfl) dL_holds_6 (by decide) (by decide) lL_5 (fun U h => h.2.2.2.1) (fun q => ?_)
      refine aw_astore (L' := [(5, .ref q), (0, .ref (wad (cxw g) 0)), (1, .int x1), (2, .long x2), (4, .ref (wad (cxw g) 26))]) hG dL_holds_21 (by decide) rfl ?_
      refine aw_iconst (v := 1) hG dL_holds_23 rfl ?_
      exact hK _ _ 1 6 (Nat.le_refl _) (Nat.le_refl _) dL_holds_24
    | inr v9 =>
      obtain rfl := Option.some.inj h
      refine aw_callVi (As := [.int x1, .long x2]) (rest := [.int 0, .ref (wad (cxw g) 26)]) hG (c_X6_holds (x1 := x1) (x2 := x2) (c := c) hf) lL_102 wvL_X6_holds (rv_X6 hG) rfl rfl rfl (by decide) (Nat.zero_le _) (Nat.zero_le _) (Nat.le_of_ble_eq_true rfl) dL_holds_6 ?_
      refine aw_if_eq (t := 16) hG dL_holds_9 rfl (fun hc => ?_) (fun hc => ?_)
      · replace hK : FinI g cL_holds 1 6 0 (v9.2, m, vp_updL z 0 (if v9.1 = 0 then 0 else 1)) := hK
        rw [if_pos hc] at hK
        refine aw_lconst (v := 0) hG dL_holds_16 rfl ?_
        refine as_out hG dL_holds_17 ?_
        refine aw_goto (t := 25) hG dL_holds_18 rfl ?_
        refine aw_iconst (v := 0) hG dL_holds_25 rfl ?_
        exact hK _ _ 0 0 (Nat.zero_le _) (Nat.zero_le _) dL_holds_26
      · replace hK : FinI g cL_holds 1 6 0 (v9.2, m, vp_updL z 0 (if v9.1 = 0 then 0 else 1)) := hK
        rw [if_neg hc] at hK
        refine aw_lconst (v := 1) hG dL_holds_12 rfl ?_
        refine aw_goto (t := 17) hG dL_holds_13 rfl ?_
        refine as_out hG dL_holds_17 ?_
        refine aw_goto (t := 25) hG dL_holds_18 rfl ?_
        refine aw_iconst (v := 0) hG dL_holds_25 rfl ?_
        exact hK _ _ 0 0 (Nat.zero_le _) (Nat.zero_le _) dL_holds_26
theorem c_L_holds {c : CS} {m : MS} {z : Nat → Int64} {x1 : Int32} {x2 : Int64} {s : Unit ⊕ (Int64 × CS)} (h : cl_holds x1 x2 c = some s) : CtH yL_holds cL_holds 6 [(0, 18, 21, 13)] 11 (fun w => [.ref (wad w 0), .int x1, .long x2, .ref (wad w 26)]) (c, m, z) (Sum.elim (fun _ => 1) (fun _ => 0) s) (Sum.elim (fun _ => (c, m, z)) (fun r => (r.2, m, vp_updL z 0 r.1)) s) := CtH_of (by decide +kernel) (fun _ => Nat.le_of_ble_eq_true rfl) (fun g hG hst htab hK => w_L_holds hG hst htab h hK)
