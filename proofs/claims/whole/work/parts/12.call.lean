theorem ofWF {l : Launch} {y : MethodName} {ws ws' : List Cond} {rm : Room} {Pc : Array Value → State → Prop} {Qc : Array Value → State → Outcome → State → Prop} {mc ms : Nat} {free : Addr → Prop} {cc : ByteArray} {maxL : Nat} {ret : Option FieldType}
    (hy : plainFor y = true) (hw : ws = Cond.code y cc maxL ret :: ws')
    (body : ∀ p e s m args below meth c s₁, BodyLoose p l y (headSpec ws rm) cc maxL ret e s m args below meth c s₁ → c.maxLocals = maxL → Pc args s →
      W p l e (headSpec ws rm).room s m args below meth c s.heap [] 0 0 (MQ below Qc args s mc ms free) (entryFrame m args maxL)) : Met l y ws rm Pc Qc mc ms free := by
  refine MetFree.of_bodySF (code := cc) (maxLocals := maxL) (ret := ret) hy ?_ ?_
  · intro args s m h hn
    obtain ⟨meth, c, h1, h2, h3, h4, h5, h6, -, -⟩ := Cond.code_spec hn (atoms_spec (ws := ws) h _ (by rw [hw]; exact List.mem_cons_self))
    exact ⟨meth, c, h1, h2, h3, h4, h5, h6⟩
  · intro p e s m args below meth c s₁ B hml hP _
    have hh0 : s₁.heap = s.heap := by rw [B.state]; rfl
    obtain ⟨t, a1, o, b1, b2, b3⟩ := body p e s m args below meth c s₁ B hml hP s₁ hh0 (Stand.of_body B)
    exact ⟨t, o, a1, b1, b2, ⟨b3.1, b3.2⟩⟩
theorem pqk {w : Wc} {σ : SS} {H : Heap} {t : State} (hP : Pq w σ H) (h1 : H.size ≤ t.heap.size) (h2 : ∀ q : Nat, q < H.size → t.heap[q]? = H[q]?) : Pq w σ t.heap := ⟨va_P.kept hP.1 (fun k q hk => h2 q.1 (vx_lt hP.1 hk)), hP.2⟩
theorem inC {a : Cond} (ha : a ∈ gws) : GoodIn gws (a :: gws) := fun c hc => (List.mem_cons.mp hc).elim (fun e => by subst e; exact ⟨ha, good_of_word (List.mem_filter.mp ha).2⟩) (fun h => ⟨h, good_of_word (List.mem_filter.mp h).2⟩)
theorem inK {a : Cond} {ws : List Cond} (ha : a ∈ gws) (h : GoodIn gws ws) : GoodIn gws (a :: ws) := fun c hc => (List.mem_cons.mp hc).elim (fun e => by subst e; exact ⟨ha, good_of_word (List.mem_filter.mp ha).2⟩) (h c)
theorem inV {own : String} {idx : Nat} {C : String} {y : MethodName} {k : Cond} (h1 : Cond.methodLink own idx y ∈ gws) (h2 : Cond.instanceMethod y ∈ gws) (h3 : Cond.selects C y y ∈ gws) (h4 : Cond.initialized C ∈ gws) (h5 : k ∈ gws) : GoodIn gws (wsV own idx C y (k :: gws)) := inK h1 (inK h2 (inK h3 (inK h4 (inC h5))))
theorem inS {own : String} {idx : Nat} {y : MethodName} {k : Cond} (h1 : Cond.methodLink own idx y ∈ gws) (h2 : Cond.static y ∈ gws) (h4 : Cond.initialized y.cls ∈ gws) (h5 : k ∈ gws) : GoodIn gws (va_wsS own idx y (k :: gws)) := inK h1 (inK h2 (inK h4 (inC h5)))
theorem gws_word {c : Cond} (h : c ∈ gws) : goodWord c = true := (List.mem_filter.mp h).2
theorem gws_in {ws : List Cond} (h : ∀ c ∈ ws, c ∈ gws) : GoodIn gws ws := fun c hc => ⟨h c hc, good_of_word (gws_word (h c hc))⟩
theorem Wd.calling {w : Wc} {σ : SS} {U : State} {f : JFrame} {mk : MethodId} {a : Array Value} (h : Wd w σ U) : Wd w σ (U.calling f mk a) := ⟨h.1, va_K.moved (u := U) (U := U.calling f mk a) (Vm.Alike.refl U.vm) h.2.1, Cns.moved (u := U) (U := U.calling f mk a) (Vm.Alike.refl U.vm) h.2.2.1, Nst.same (s := U) (U := U.calling f mk a) rfl h.2.2.2.1, h.2.2.2.2⟩
theorem Wd_of {w : Wc} {σ : SS} {s U : State} {H : Heap} {locs : List Loc} (hP : Pq w σ H) (hK : va_K w.1 vwCl (wty w) s) (hC : Cns w s s.heap) (hN : Nst w s) (hsz : w.2.2.2 ≤ s.heap.size) (hS : va_S (wA w) s.heap H locs) (hU : U.heap = H) (hW : s.WarmedH U.vm) : Wd w σ U := by
  subst hU
  exact ⟨hP, va_K.moved hW.alike hK, Cns.moved hW.alike (hC.kept hS.2.1), hN.warm hW, Nat.le_trans hsz hS.1⟩
theorem va_S.step {A : Nat → Prop} {H0 H : Heap} {locs L : List Loc} {st t T' : State} (hS : va_S A H0 H locs) (h0 : st.heap = H) (e1 : T'.heap = t.heap) (hF : va_F A st t) (hL : ∀ q ∈ L, A q.base) : va_S A H0 T'.heap (locs ++ L) := by
  obtain ⟨hz, hk⟩ := hF
  rw [h0] at hz hk
  exact ⟨Nat.le_trans hS.1 (by rw [e1]; exact hz), fun q h1 h2 => by rw [e1, hk q (Nat.lt_of_lt_of_le h1 hS.1) h2]; exact hS.2.1 q h1 h2, fun q hq => by
    rcases List.mem_append.mp hq with h | h
    · exact hS.2.2 q h
    · exact hL q h⟩
/-! contracts: Ct a method that returns, CtT one that throws -/
def Qr (w : Wc) (r : Option Value) (σ' : SS) : Array Value → State → Outcome → State → Prop := fun _ st oc t => oc = .returned r ∧ Pq w σ' t.heap ∧ va_F (wA w) st t
def Xr (w : Wc) (E : String) (σ : SS) : String → State → State → Prop := fun E' st t => E' = E ∧ Pq w σ t.heap ∧ va_F (wA w) st t
def Ct (y : MethodName) (cc : ByteArray) (nL : Nat) (ret : Option FieldType) (d : Nat) (as : Wc → List Value) (σ : SS) (r : Wc → Option Value) (σ' : SS) : Prop :=
  ∀ (l : Launch) (w : Wc), Met l y (Cond.code y cc nL ret :: gws) (rmd d 0 0) (va_Pc (as w) (Wd w σ)) (Qr w (r w) σ') 0 0 (wA w)
def CtT (y : MethodName) (cc : ByteArray) (nL : Nat) (ret : Option FieldType) (d : Nat) (as : Wc → List Value) (σ : SS) (E : String) : Prop :=
  ∀ (l : Launch) (w : Wc), l.stackTraces = false → vx_Met l y (Cond.code y cc nL ret :: gws) (rmd d 1 6) (va_Pc (as w) (Wd w σ)) (fun _ _ _ _ => False) (Xr w E σ) 1 6 (wA w)
/-- what a method's end gives -/
def FinI (g : Cx) (cc : ByteArray) (mc ms : Nat) (v : Int32) (σ : SS) : Prop := ∀ (pc : Nat) (L : List (Nat × Value)) (k n : Nat), k ≤ mc → n ≤ ms → decode cc pc = .ok (.ireturn, 1) → AW g pc L [.int v] σ k n
def FinZ (g : Cx) (cc : ByteArray) (mc ms : Nat) (v : Int32) (σ : SS) : Prop := ∀ (pc : Nat) (L : List (Nat × Value)) (k n : Nat), k ≤ mc → n ≤ ms → (v = 0 ∨ v = 1) → decode cc pc = .ok (.ireturn, 1) → AW g pc L [.int v] σ k n
def FinC (g : Cx) (cc : ByteArray) (mc ms : Nat) (v : Int32) (σ : SS) : Prop := ∀ (pc : Nat) (L : List (Nat × Value)) (k n : Nat), k ≤ mc → n ≤ ms → narrow .char (.int v) = .int v → decode cc pc = .ok (.ireturn, 1) → AW g pc L [.int v] σ k n
def FinB (g : Cx) (cc : ByteArray) (mc ms : Nat) (v : Int32) (σ : SS) : Prop := ∀ (pc : Nat) (L : List (Nat × Value)) (k n : Nat), k ≤ mc → n ≤ ms → narrow .byte (.int v) = .int v → decode cc pc = .ok (.ireturn, 1) → AW g pc L [.int v] σ k n
def FinJ (g : Cx) (cc : ByteArray) (mc ms : Nat) (v : Int64) (σ : SS) : Prop := ∀ (pc : Nat) (L : List (Nat × Value)) (k n : Nat), k ≤ mc → n ≤ ms → decode cc pc = .ok (.lreturn, 1) → AW g pc L [.long v] σ k n
def FinA (g : Cx) (cc : ByteArray) (mc ms : Nat) (v : Nat) (σ : SS) : Prop := ∀ (pc : Nat) (L : List (Nat × Value)) (k n : Nat), k ≤ mc → n ≤ ms → decode cc pc = .ok (.areturn, 1) → AW g pc L [.ref v] σ k n
def FinV (g : Cx) (cc : ByteArray) (mc ms : Nat) (σ : SS) : Prop := ∀ (pc : Nat) (L : List (Nat × Value)) (k n : Nat), k ≤ mc → n ≤ ms → decode cc pc = .ok (.return_, 1) → AW g pc L [] σ k n
theorem FinI.z {g : Cx} {cc : ByteArray} {mc ms pc : Nat} {v : Int32} {σ : SS} {L : List (Nat × Value)} (h : FinI g cc mc ms v σ) (hd : decode cc pc = .ok (.ireturn, 1)) : AW g pc L [.int v] σ 0 0 := h pc L 0 0 (Nat.zero_le _) (Nat.zero_le _) hd
theorem FinZ.z {g : Cx} {cc : ByteArray} {mc ms pc : Nat} {v : Int32} {σ : SS} {L : List (Nat × Value)} (h : FinZ g cc mc ms v σ) (hv : v = 0 ∨ v = 1) (hd : decode cc pc = .ok (.ireturn, 1)) : AW g pc L [.int v] σ 0 0 := h pc L 0 0 (Nat.zero_le _) (Nat.zero_le _) hv hd
theorem FinC.z {g : Cx} {cc : ByteArray} {mc ms pc : Nat} {v : Int32} {σ : SS} {L : List (Nat × Value)} (h : FinC g cc mc ms v σ) (hv : narrow .char (.int v) = .int v) (hd : decode cc pc = .ok (.ireturn, 1)) : AW g pc L [.int v] σ 0 0 := h pc L 0 0 (Nat.zero_le _) (Nat.zero_le _) hv hd
theorem FinB.z {g : Cx} {cc : ByteArray} {mc ms pc : Nat} {v : Int32} {σ : SS} {L : List (Nat × Value)} (h : FinB g cc mc ms v σ) (hv : narrow .byte (.int v) = .int v) (hd : decode cc pc = .ok (.ireturn, 1)) : AW g pc L [.int v] σ 0 0 := h pc L 0 0 (Nat.zero_le _) (Nat.zero_le _) hv hd
theorem FinJ.z {g : Cx} {cc : ByteArray} {mc ms pc : Nat} {v : Int64} {σ : SS} {L : List (Nat × Value)} (h : FinJ g cc mc ms v σ) (hd : decode cc pc = .ok (.lreturn, 1)) : AW g pc L [.long v] σ 0 0 := h pc L 0 0 (Nat.zero_le _) (Nat.zero_le _) hd
theorem FinA.z {g : Cx} {cc : ByteArray} {mc ms pc : Nat} {v : Nat} {σ : SS} {L : List (Nat × Value)} (h : FinA g cc mc ms v σ) (hd : decode cc pc = .ok (.areturn, 1)) : AW g pc L [.ref v] σ 0 0 := h pc L 0 0 (Nat.zero_le _) (Nat.zero_le _) hd
theorem FinV.z {g : Cx} {cc : ByteArray} {mc ms pc : Nat} {σ : SS} {L : List (Nat × Value)} (h : FinV g cc mc ms σ) (hd : decode cc pc = .ok (.return_, 1)) : AW g pc L [] σ 0 0 := h pc L 0 0 (Nat.zero_le _) (Nat.zero_le _) hd
/-- what a throw needs -/
def FinT (g : Cx) (E : String) (σ : SS) : Prop := g.1.2.1.stackTraces = false ∧ (∀ x ∈ g.2.1.2.2.2.2.exceptionTable.toList, False) ∧ ∃ (Qc : Array Value → State → Outcome → State → Prop) (XC : String → State → State → Prop), g.2.2.2.2 = vx_MQ g.2.1.2.2.1 Qc XC g.2.1.2.1 (cxs g) 1 6 (wA (cxw g)) ∧ ∀ t : State, Pq (cxw g) σ t.heap → va_F (wA (cxw g)) (cxs g) t → XC E (cxs g) t
theorem Ct_ofI {y : MethodName} {cc : ByteArray} {nL d : Nat} {as : Wc → List Value} {σ σ' : SS} {v : Int32} (hy : plainFor y = true) (hl : ∀ w : Wc, (lg_sl (as w)).length ≤ nL) (body : ∀ g : Cx, Gd g y.cls cc nL d 0 0 → FinI g cc 0 0 v σ' → AW g 0 (lv_args 0 (as (cxw g))) [] σ 0 0) : Ct y cc nL (some .int) d as σ (fun _ => some (.int v)) σ' := by
  intro l w
  refine ofWF (cc := cc) (maxL := nL) (ret := (some .int)) hy rfl ?_
  intro p e s m args below meth c s₁ B hml hv
  obtain ⟨rfl, hP, hK, hC, hNs, hsz⟩ := hv
  have hx := B.exec
  have hb := B.bytes
  have hr := B.returns
  have hts := atoms_spec (ws := Cond.code y cc nL (some .int) :: gws) B.pre
  have hown : s.vm.findClass y.cls = some m.cls := findClass_of_methodNamed B.named
  have hlk := B.notSynchronized
  have hl9 := lv_entry (as w) (n := nL) (hl w)
  rw [lg_entry_eq]
  generalize (lg_sl (as w) ++ List.replicate (nL - (lg_sl (as w)).length) Slot.unset).toArray = ls at hl9 ⊢
  refine body ((p, l, e, rmd d 0 0, s), (m, (as w).toArray, below, meth, c), (w, nL, MQ below (Qr w ((fun _ => some (.int v)) w) σ') (as w).toArray s 0 0 (wA w))) ⟨hx, hb, hml, rfl, hown, fun w hw => hts w (List.mem_cons_of_mem _ hw), hlk, hK, hC, hNs, hsz, Nat.le_refl _, Nat.le_refl _, Nat.le_refl _, Nat.le_refl _⟩ ?_ s.heap [] ls hP va_S.rf hl9
  intro pc L k n hk hn hd H locs ls hP hS hl
  refine W.widen hk hn ?_
  exact W.iret hx hb hr (fun t ht hW => ⟨rfl, by rw [ht]; exact hP, hS.F ht⟩) hS.2.2 hd hlk
theorem Ct_ofZ {y : MethodName} {cc : ByteArray} {nL d : Nat} {as : Wc → List Value} {σ σ' : SS} {v : Int32} (hy : plainFor y = true) (hl : ∀ w : Wc, (lg_sl (as w)).length ≤ nL) (body : ∀ g : Cx, Gd g y.cls cc nL d 0 0 → FinZ g cc 0 0 v σ' → AW g 0 (lv_args 0 (as (cxw g))) [] σ 0 0) : Ct y cc nL (some .boolean) d as σ (fun _ => some (.int v)) σ' := by
  intro l w
  refine ofWF (cc := cc) (maxL := nL) (ret := (some .boolean)) hy rfl ?_
  intro p e s m args below meth c s₁ B hml hv
  obtain ⟨rfl, hP, hK, hC, hNs, hsz⟩ := hv
  have hx := B.exec
  have hb := B.bytes
  have hr := B.returns
  have hts := atoms_spec (ws := Cond.code y cc nL (some .boolean) :: gws) B.pre
  have hown : s.vm.findClass y.cls = some m.cls := findClass_of_methodNamed B.named
  have hlk := B.notSynchronized
  have hl9 := lv_entry (as w) (n := nL) (hl w)
  rw [lg_entry_eq]
  generalize (lg_sl (as w) ++ List.replicate (nL - (lg_sl (as w)).length) Slot.unset).toArray = ls at hl9 ⊢
  refine body ((p, l, e, rmd d 0 0, s), (m, (as w).toArray, below, meth, c), (w, nL, MQ below (Qr w ((fun _ => some (.int v)) w) σ') (as w).toArray s 0 0 (wA w))) ⟨hx, hb, hml, rfl, hown, fun w hw => hts w (List.mem_cons_of_mem _ hw), hlk, hK, hC, hNs, hsz, Nat.le_refl _, Nat.le_refl _, Nat.le_refl _, Nat.le_refl _⟩ ?_ s.heap [] ls hP va_S.rf hl9
  intro pc L k n hk hn hbl hd H locs ls hP hS hl
  refine W.widen hk hn ?_
  exact W.zret hx hb hr (by rcases hbl with rfl | rfl <;> rfl) (fun t ht hW => ⟨rfl, by rw [ht]; exact hP, hS.F ht⟩) hS.2.2 hd hlk
theorem Ct_ofB {y : MethodName} {cc : ByteArray} {nL d : Nat} {as : Wc → List Value} {σ σ' : SS} {v : Int32} (hy : plainFor y = true) (hl : ∀ w : Wc, (lg_sl (as w)).length ≤ nL) (body : ∀ g : Cx, Gd g y.cls cc nL d 0 0 → FinB g cc 0 0 v σ' → AW g 0 (lv_args 0 (as (cxw g))) [] σ 0 0) : Ct y cc nL (some .byte) d as σ (fun _ => some (.int v)) σ' := by
  intro l w
  refine ofWF (cc := cc) (maxL := nL) (ret := (some .byte)) hy rfl ?_
  intro p e s m args below meth c s₁ B hml hv
  obtain ⟨rfl, hP, hK, hC, hNs, hsz⟩ := hv
  have hx := B.exec
  have hb := B.bytes
  have hr := B.returns
  have hts := atoms_spec (ws := Cond.code y cc nL (some .byte) :: gws) B.pre
  have hown : s.vm.findClass y.cls = some m.cls := findClass_of_methodNamed B.named
  have hlk := B.notSynchronized
  have hl9 := lv_entry (as w) (n := nL) (hl w)
  rw [lg_entry_eq]
  generalize (lg_sl (as w) ++ List.replicate (nL - (lg_sl (as w)).length) Slot.unset).toArray = ls at hl9 ⊢
  refine body ((p, l, e, rmd d 0 0, s), (m, (as w).toArray, below, meth, c), (w, nL, MQ below (Qr w ((fun _ => some (.int v)) w) σ') (as w).toArray s 0 0 (wA w))) ⟨hx, hb, hml, rfl, hown, fun w hw => hts w (List.mem_cons_of_mem _ hw), hlk, hK, hC, hNs, hsz, Nat.le_refl _, Nat.le_refl _, Nat.le_refl _, Nat.le_refl _⟩ ?_ s.heap [] ls hP va_S.rf hl9
  intro pc L k n hk hn hbl hd H locs ls hP hS hl
  refine W.widen hk hn ?_
  exact W.zret hx hb hr hbl (fun t ht hW => ⟨rfl, by rw [ht]; exact hP, hS.F ht⟩) hS.2.2 hd hlk
theorem Ct_ofC {y : MethodName} {cc : ByteArray} {nL d : Nat} {as : Wc → List Value} {σ σ' : SS} {v : Int32} (hy : plainFor y = true) (hl : ∀ w : Wc, (lg_sl (as w)).length ≤ nL) (body : ∀ g : Cx, Gd g y.cls cc nL d 0 0 → FinC g cc 0 0 v σ' → AW g 0 (lv_args 0 (as (cxw g))) [] σ 0 0) : Ct y cc nL (some .char) d as σ (fun _ => some (.int v)) σ' := by
  intro l w
  refine ofWF (cc := cc) (maxL := nL) (ret := (some .char)) hy rfl ?_
  intro p e s m args below meth c s₁ B hml hv
  obtain ⟨rfl, hP, hK, hC, hNs, hsz⟩ := hv
  have hx := B.exec
  have hb := B.bytes
  have hr := B.returns
  have hts := atoms_spec (ws := Cond.code y cc nL (some .char) :: gws) B.pre
  have hown : s.vm.findClass y.cls = some m.cls := findClass_of_methodNamed B.named
  have hlk := B.notSynchronized
  have hl9 := lv_entry (as w) (n := nL) (hl w)
  rw [lg_entry_eq]
  generalize (lg_sl (as w) ++ List.replicate (nL - (lg_sl (as w)).length) Slot.unset).toArray = ls at hl9 ⊢
  refine body ((p, l, e, rmd d 0 0, s), (m, (as w).toArray, below, meth, c), (w, nL, MQ below (Qr w ((fun _ => some (.int v)) w) σ') (as w).toArray s 0 0 (wA w))) ⟨hx, hb, hml, rfl, hown, fun w hw => hts w (List.mem_cons_of_mem _ hw), hlk, hK, hC, hNs, hsz, Nat.le_refl _, Nat.le_refl _, Nat.le_refl _, Nat.le_refl _⟩ ?_ s.heap [] ls hP va_S.rf hl9
  intro pc L k n hk hn hbl hd H locs ls hP hS hl
  refine W.widen hk hn ?_
  exact W.zret hx hb hr hbl (fun t ht hW => ⟨rfl, by rw [ht]; exact hP, hS.F ht⟩) hS.2.2 hd hlk
theorem Ct_ofJ {y : MethodName} {cc : ByteArray} {nL d : Nat} {as : Wc → List Value} {σ σ' : SS} {v : Int64} (hy : plainFor y = true) (hl : ∀ w : Wc, (lg_sl (as w)).length ≤ nL) (body : ∀ g : Cx, Gd g y.cls cc nL d 0 0 → FinJ g cc 0 0 v σ' → AW g 0 (lv_args 0 (as (cxw g))) [] σ 0 0) : Ct y cc nL (some .long) d as σ (fun _ => some (.long v)) σ' := by
  intro l w
  refine ofWF (cc := cc) (maxL := nL) (ret := (some .long)) hy rfl ?_
  intro p e s m args below meth c s₁ B hml hv
  obtain ⟨rfl, hP, hK, hC, hNs, hsz⟩ := hv
  have hx := B.exec
  have hb := B.bytes
  have hr := B.returns
  have hts := atoms_spec (ws := Cond.code y cc nL (some .long) :: gws) B.pre
  have hown : s.vm.findClass y.cls = some m.cls := findClass_of_methodNamed B.named
  have hlk := B.notSynchronized
  have hl9 := lv_entry (as w) (n := nL) (hl w)
  rw [lg_entry_eq]
  generalize (lg_sl (as w) ++ List.replicate (nL - (lg_sl (as w)).length) Slot.unset).toArray = ls at hl9 ⊢
  refine body ((p, l, e, rmd d 0 0, s), (m, (as w).toArray, below, meth, c), (w, nL, MQ below (Qr w ((fun _ => some (.long v)) w) σ') (as w).toArray s 0 0 (wA w))) ⟨hx, hb, hml, rfl, hown, fun w hw => hts w (List.mem_cons_of_mem _ hw), hlk, hK, hC, hNs, hsz, Nat.le_refl _, Nat.le_refl _, Nat.le_refl _, Nat.le_refl _⟩ ?_ s.heap [] ls hP va_S.rf hl9
  intro pc L k n hk hn hd H locs ls hP hS hl
  refine W.widen hk hn ?_
  exact W.lret hx hb hr (fun t ht hW => ⟨rfl, by rw [ht]; exact hP, hS.F ht⟩) hS.2.2 hd hlk
theorem Ct_ofV {y : MethodName} {cc : ByteArray} {nL d : Nat} {as : Wc → List Value} {σ σ' : SS} (hy : plainFor y = true) (hl : ∀ w : Wc, (lg_sl (as w)).length ≤ nL) (body : ∀ g : Cx, Gd g y.cls cc nL d 0 0 → FinV g cc 0 0 σ' → AW g 0 (lv_args 0 (as (cxw g))) [] σ 0 0) : Ct y cc nL none d as σ (fun _ => none) σ' := by
  intro l w
  refine ofWF (cc := cc) (maxL := nL) (ret := none) hy rfl ?_
  intro p e s m args below meth c s₁ B hml hv
  obtain ⟨rfl, hP, hK, hC, hNs, hsz⟩ := hv
  have hx := B.exec
  have hb := B.bytes
  have hr := B.returns
  have hts := atoms_spec (ws := Cond.code y cc nL none :: gws) B.pre
  have hown : s.vm.findClass y.cls = some m.cls := findClass_of_methodNamed B.named
  have hlk := B.notSynchronized
  have hl9 := lv_entry (as w) (n := nL) (hl w)
  rw [lg_entry_eq]
  generalize (lg_sl (as w) ++ List.replicate (nL - (lg_sl (as w)).length) Slot.unset).toArray = ls at hl9 ⊢
  refine body ((p, l, e, rmd d 0 0, s), (m, (as w).toArray, below, meth, c), (w, nL, MQ below (Qr w ((fun _ => none) w) σ') (as w).toArray s 0 0 (wA w))) ⟨hx, hb, hml, rfl, hown, fun w hw => hts w (List.mem_cons_of_mem _ hw), hlk, hK, hC, hNs, hsz, Nat.le_refl _, Nat.le_refl _, Nat.le_refl _, Nat.le_refl _⟩ ?_ s.heap [] ls hP va_S.rf hl9
  intro pc L k n hk hn hd H locs ls hP hS hl
  refine W.widen hk hn ?_
  exact W.vret hx hb hr (fun t ht hW => ⟨rfl, by rw [ht]; exact hP, hS.F ht⟩) hS.2.2 hd hlk
theorem Ct_ofA {y : MethodName} {cc : ByteArray} {nL d : Nat} {as : Wc → List Value} {σ σ' : SS} {v : Nat} {E : String} (hy : plainFor y = true) (hl : ∀ w : Wc, (lg_sl (as w)).length ≤ nL) (body : ∀ g : Cx, Gd g y.cls cc nL d 0 0 → FinA g cc 0 0 (wad (cxw g) v) σ' → AW g 0 (lv_args 0 (as (cxw g))) [] σ 0 0) : Ct y cc nL (some (.object E)) d as σ (fun w => some (.ref (wad w v))) σ' := by
  intro l w
  refine ofWF (cc := cc) (maxL := nL) (ret := (some (.object E))) hy rfl ?_
  intro p e s m args below meth c s₁ B hml hv
  obtain ⟨rfl, hP, hK, hC, hNs, hsz⟩ := hv
  have hx := B.exec
  have hb := B.bytes
  have hr := B.returns
  have hts := atoms_spec (ws := Cond.code y cc nL (some (.object E)) :: gws) B.pre
  have hown : s.vm.findClass y.cls = some m.cls := findClass_of_methodNamed B.named
  have hlk := B.notSynchronized
  have hl9 := lv_entry (as w) (n := nL) (hl w)
  rw [lg_entry_eq]
  generalize (lg_sl (as w) ++ List.replicate (nL - (lg_sl (as w)).length) Slot.unset).toArray = ls at hl9 ⊢
  refine body ((p, l, e, rmd d 0 0, s), (m, (as w).toArray, below, meth, c), (w, nL, MQ below (Qr w ((fun w => some (.ref (wad w v))) w) σ') (as w).toArray s 0 0 (wA w))) ⟨hx, hb, hml, rfl, hown, fun w hw => hts w (List.mem_cons_of_mem _ hw), hlk, hK, hC, hNs, hsz, Nat.le_refl _, Nat.le_refl _, Nat.le_refl _, Nat.le_refl _⟩ ?_ s.heap [] ls hP va_S.rf hl9
  intro pc L k n hk hn hd H locs ls hP hS hl
  refine W.widen hk hn ?_
  exact W.aret hx hb hr (Or.inl ⟨_, rfl⟩) (Or.inr ⟨_, rfl⟩) (fun t ht hW => ⟨rfl, by rw [ht]; exact hP, hS.F ht⟩) hS.2.2 hd hlk
theorem CtT_of {y : MethodName} {cc : ByteArray} {nL d : Nat} {ret : Option FieldType} {as : Wc → List Value} {σ : SS} {E : String} (hy : plainName y.cls = true) (hl : ∀ w : Wc, (lg_sl (as w)).length ≤ nL) (body : ∀ g : Cx, Gd g y.cls cc nL d 1 6 → FinT g E σ → AW g 0 (lv_args 0 (as (cxw g))) [] σ 0 0) : CtT y cc nL ret d as σ E := by
  intro l w hst
  refine vx_ofW (cc := cc) (maxL := nL) (ret := ret) hy rfl ?_
  intro p e s m args below meth c s₁ B hml htab hv
  obtain ⟨rfl, hP, hK, hC, hNs, hsz⟩ := hv
  have hx := B.exec
  have hb := B.bytes
  have hts := atoms_spec (ws := Cond.code y cc nL ret :: gws) B.pre
  have hown : s.vm.findClass y.cls = some m.cls := findClass_of_methodNamed B.named
  have hlk := B.notSynchronized
  have hl9 := lv_entry (as w) (n := nL) (hl w)
  rw [lg_entry_eq]
  generalize (lg_sl (as w) ++ List.replicate (nL - (lg_sl (as w)).length) Slot.unset).toArray = ls at hl9 ⊢
  exact body ((p, l, e, rmd d 1 6, s), (m, (as w).toArray, below, meth, c), (w, nL, vx_MQ below (fun _ _ _ _ => False) (Xr w E σ) (as w).toArray s 1 6 (wA w))) ⟨hx, hb, hml, rfl, hown, fun w hw => hts w (List.mem_cons_of_mem _ hw), hlk, hK, hC, hNs, hsz, Nat.le_refl _, Nat.le_refl _, Nat.le_refl _, Nat.le_refl _⟩ ⟨hst, htab, _, _, rfl, fun t h1 h2 => ⟨rfl, h1, h2⟩⟩ s.heap [] ls hP va_S.rf hl9
/-! calls -/
section AWC
variable {g : Cx} {own : String} {cc : ByteArray} {nL d mc ms pc k n : Nat} {L L' : List (Nat × Value)} {st : List Value} {σ σ' : SS}
def Rv (g : Cx) (C : String) (b : Nat) (σ : SS) : Prop := ∀ (H : Heap) (locs : List Loc), Pq (cxw g) σ H → va_S (wA (cxw g)) (cxs g).heap H locs → ∃ cell : Cell, H[b]? = some cell ∧ cell.vm.isStatics = false ∧ (cxs g).vm.findClass C = some cell.cls
/-- the words of a method that is called on an object, of a static one -/
def Wv (y : MethodName) (cc : ByteArray) (nL : Nat) (ret : Option FieldType) (np : Nat) : Prop := (Cond.instanceMethod y ∈ gws ∧ Cond.selects y.cls y y ∈ gws ∧ Cond.initialized y.cls ∈ gws ∧ Cond.code y cc nL ret ∈ gws) ∧ (y.cls = y.cls ∧ y.cls ≠ "java/lang/invoke/MethodHandle" ∧ y.cls ≠ "java/lang/invoke/VarHandle" ∧ (parseMethodDescriptor y.desc).map (fun d => d.parameters.length) = some np) ∧ nL ≤ 19
def Ws (y : MethodName) (cc : ByteArray) (nL : Nat) (ret : Option FieldType) (np : Nat) : Prop := (Cond.static y ∈ gws ∧ Cond.initialized y.cls ∈ gws ∧ Cond.code y cc nL ret ∈ gws) ∧ (y.cls ≠ "java/lang/invoke/MethodHandle" ∧ y.cls ≠ "java/lang/invoke/VarHandle" ∧ (parseMethodDescriptor y.desc).map (fun d => d.parameters.length) = some np) ∧ nL ≤ 19
theorem aw_callV {y : MethodName} {cc' : ByteArray} {nL' d' idx b np : Nat} {ret : Option FieldType} {as : Wc → List Value} {r : Wc → Option Value} {As rest : List Value} (hG : Gd g own cc nL d mc ms) (hM : Ct y cc' nL' ret d' as σ r σ') (h1 : Cond.methodLink own idx y ∈ gws) (hw : Wv y cc' nL' ret np) (hrv : Rv g y.cls b σ) (has : as (cxw g) = .ref b :: As) (hn : As.length = np) (hst : st = As.reverse ++ .ref b :: rest) (hdd : d' + 1 ≤ d) (hk : k ≤ mc) (hk2 : n ≤ ms) (hcat : (rest.map fun v => v.category).sum ≤ 8) (hd : decode cc pc = .ok (.invokevirtual idx, 3)) (kk : AW g (pc + 3) L ((r (cxw g)).toList ++ rest) σ' k n) : AW g pc L st σ k n := by
  obtain ⟨⟨p, l, e, R, s⟩, ⟨m, args, below, meth, c⟩, w, N, Q⟩ := g
  obtain ⟨hx, hb, hml, hN, hown, hts, hlk, hK, hC, hNs, hsz, hR⟩ := hG
  intro H locs ls hP hS hl
  dsimp only [cxw, cxs] at *
  obtain ⟨⟨w1, w2, w3, w4⟩, w5, w6⟩ := hw
  have hM9 := hM l w
  rw [has] at hM9
  have hr := va_runV (e := e) (below := below) (meth := meth) (g := F0 m pc ls st) (As := As) (rest := rest) (b := b) (H := H) (locs := locs) (cells := k) (slots := n) ⟨hx, hb, hml, hown, hts⟩ hM9 (cwV (R := R) (rm := rmd d' 0 0) (mc := 0) (ms := 0) np hts (inV h1 w1 w2 w3 w4) rfl rfl rfl w5 (by simp only [rmd]; omega)) ⟨fun a U f mk q => ⟨q.1, q.2.calling⟩, hrv H locs hP hS, fun U hU hW => ⟨rfl, Wd_of hP hK hC hNs hsz hS hU hW⟩⟩ rfl hn (hl.1.trans hN) (by rw [hst]) (lv_room hcat) hd (by omega)
  intro T hT X
  obtain ⟨v, st₀, t, T', L9, h0, X', hL, e1, e2, ⟨hv, hWd, hF⟩, hgo⟩ := hr T hT X
  cases hv
  obtain ⟨t2, a1, b1⟩ := kk T'.heap (locs ++ L9) ls (by rw [e1]; exact hWd) (va_S.step hS h0 e1 hF hL) hl T' rfl X'
  exact ⟨t2, hgo t2 a1, b1⟩
theorem aw_callS {y : MethodName} {cc' : ByteArray} {nL' d' idx np : Nat} {ret : Option FieldType} {as : Wc → List Value} {r : Wc → Option Value} {As rest : List Value} (hG : Gd g own cc nL d mc ms) (hM : Ct y cc' nL' ret d' as σ r σ') (h1 : Cond.methodLink own idx y ∈ gws) (hw : Ws y cc' nL' ret np) (has : as (cxw g) = As) (hn : As.length = np) (hst : st = As.reverse ++ rest) (hdd : d' + 1 ≤ d) (hk : k ≤ mc) (hk2 : n ≤ ms) (hcat : (rest.map fun v => v.category).sum ≤ 8) (hd : decode cc pc = .ok (.invokestatic idx, 3)) (kk : AW g (pc + 3) L ((r (cxw g)).toList ++ rest) σ' k n) : AW g pc L st σ k n := by
  obtain ⟨⟨p, l, e, R, s⟩, ⟨m, args, below, meth, c⟩, w, N, Q⟩ := g
  obtain ⟨hx, hb, hml, hN, hown, hts, hlk, hK, hC, hNs, hsz, hR⟩ := hG
  intro H locs ls hP hS hl
  dsimp only [cxw, cxs] at *
  obtain ⟨⟨w1, w3, w4⟩, w5, w6⟩ := hw
  have hM9 := hM l w
  rw [has] at hM9
  have hr := va_runS (e := e) (below := below) (meth := meth) (g := F0 m pc ls st) (As := As) (rest := rest) (H := H) (locs := locs) (cells := k) (slots := n) ⟨hx, hb, hml, hown, hts⟩ hM9 (va_cwS (R := R) (rm := rmd d' 0 0) (mc := 0) (ms := 0) np hts (inS h1 w1 w3 w4) rfl rfl rfl w5 (by simp only [rmd]; omega)) ⟨fun a U f mk q => ⟨q.1, q.2.calling⟩, fun U hU hW => ⟨rfl, Wd_of hP hK hC hNs hsz hS hU hW⟩⟩ rfl hn (hl.1.trans hN) (by rw [hst]) (lv_room hcat) hd (by omega)
  intro T hT X
  obtain ⟨v, st₀, t, T', L9, h0, X', hL, e1, e2, ⟨hv, hWd, hF⟩, hgo⟩ := hr T hT X
  cases hv
  obtain ⟨t2, a1, b1⟩ := kk T'.heap (locs ++ L9) ls (by rw [e1]; exact hWd) (va_S.step hS h0 e1 hF hL) hl T' rfl X'
  exact ⟨t2, hgo t2 a1, b1⟩
theorem aw_callSN {y : MethodName} {cc' : ByteArray} {nL' d' idx np : Nat} {ret : Option FieldType} {as : Wc → List Value} {r : Wc → Option Value} {As rest : List Value} {host : String} (hG : Gd g own cc nL d mc ms) (hM : Ct y cc' nL' ret d' as σ r σ') (h1 : ∀ U : State, Nst (cxw g) U → va_Nw (.methodLinkNest own idx y host) U) (hw : Ws y cc' nL' ret np) (has : as (cxw g) = As) (hn : As.length = np) (hst : st = As.reverse ++ rest) (hdd : d' + 1 ≤ d) (hk : k ≤ mc) (hk2 : n ≤ ms) (hcat : (rest.map fun v => v.category).sum ≤ 8) (hd : decode cc pc = .ok (.invokestatic idx, 3)) (kk : AW g (pc + 3) L ((r (cxw g)).toList ++ rest) σ' k n) : AW g pc L st σ k n := by
  obtain ⟨⟨p, l, e, R, s⟩, ⟨m, args, below, meth, c⟩, w, N, Q⟩ := g
  obtain ⟨hx, hb, hml, hN, hown, hts, hlk, hK, hC, hNs, hsz, hR⟩ := hG
  intro H locs ls hP hS hl
  dsimp only [cxw, cxs] at *
  obtain ⟨⟨w1, w3, w4⟩, w5, w6⟩ := hw
  have hM9 := hM l w
  rw [has] at hM9
  have hr := va_runSN (e := e) (below := below) (meth := meth) (g := F0 m pc ls st) (As := As) (rest := rest) (H := H) (locs := locs) (cells := k) (slots := n) (host := host) ⟨hx, hb, hml, hown, hts⟩ hM9 ⟨va_cnB (R := R) (rm := rmd d' 0 0) (mc := 0) (ms := 0) np hts (inC w4) rfl rfl rfl (h1 s hNs) (hts _ w3) w5 (by simp only [rmd]; omega), hts _ w1, trivial⟩ ⟨fun a U f mk q => ⟨q.1, q.2.calling⟩, fun U hU hW => ⟨rfl, Wd_of hP hK hC hNs hsz hS hU hW⟩⟩ rfl hn (hl.1.trans hN) (by rw [hst]) (lv_room hcat) hd (by omega)
  intro T hT X
  obtain ⟨v, st₀, t, T', L9, h0, X', hL, e1, e2, ⟨hv, hWd, hF⟩, hgo⟩ := hr T hT X
  cases hv
  obtain ⟨t2, a1, b1⟩ := kk T'.heap (locs ++ L9) ls (by rw [e1]; exact hWd) (va_S.step hS h0 e1 hF hL) hl T' rfl X'
  exact ⟨t2, hgo t2 a1, b1⟩
theorem aw_callVT {y : MethodName} {cc' : ByteArray} {nL' d' idx b np : Nat} {ret : Option FieldType} {as : Wc → List Value} {E : String} {As rest : List Value} (hG : Gd g own cc nL d 1 6) (hM : CtT y cc' nL' ret d' as σ E) (hT9 : FinT g E σ) (h1 : Cond.methodLink own idx y ∈ gws) (hw : Wv y cc' nL' ret np) (hrv : Rv g y.cls b σ) (has : as (cxw g) = .ref b :: As) (hn : As.length = np) (hst : st = As.reverse ++ .ref b :: rest) (hdd : d' + 1 ≤ d) (hcat : (rest.map fun v => v.category).sum ≤ 8) (hd : decode cc pc = .ok (.invokevirtual idx, 3)) : AW g pc L st σ 0 0 := by
  obtain ⟨⟨p, l, e, R, s⟩, ⟨m, args, below, meth, c⟩, w, N, Q⟩ := g
  obtain ⟨hx, hb, hml, hN, hown, hts, hlk, hK, hC, hNs, hsz, hR⟩ := hG
  intro H locs ls hP hS hl
  dsimp only [cxw, cxs] at *
  obtain ⟨⟨w1, w2, w3, w4⟩, w5, w6⟩ := hw
  have hM9 := hM l w hT9.1
  rw [has] at hM9
  have hr := vx_runV (e := e) (below := below) (meth := meth) (g := F0 m pc ls st) (As := As) (rest := rest) (b := b) (H := H) (locs := locs) (cells := 0) (slots := 0) ⟨hx, hb, hml, hown, hts⟩ hM9 (cwV (R := R) (rm := rmd d' 1 6) (mc := 1) (ms := 6) np hts (inV h1 w1 w2 w3 w4) rfl rfl rfl w5 (by simp only [rmd]; omega)) ⟨fun a U f mk q => ⟨q.1, q.2.calling⟩, hrv H locs hP hS, fun U hU hW => ⟨rfl, Wd_of hP hK hC hNs hsz hS hU hW⟩⟩ rfl hn (hl.1.trans hN) (by rw [hst]) (lv_room hcat) hd (by omega)
  obtain ⟨hst9, htab, Qc, XC, hQ, hXC⟩ := hT9
  dsimp only [cxw, cxs] at hst9 htab hQ hXC
  subst hQ
  intro T hT X
  rcases hr T hT X with ⟨v, st₀, t, T', L9, h0, X', hL, e1, e2, hv, hgo⟩ | ⟨q, st₀, t, T', L9, E9, ce, h0, X', hL, e1, e2, ⟨hE, hWd, hF⟩, hce, hcv, hcl, hgo⟩
  · exact hv.elim
  · subst hE
    have hS1 := va_S.step hS h0 e1 hF hL
    obtain ⟨t2, a1, b1⟩ := vx_out (E := E9) (ce := ce) (Qc := Qc) (XC := XC) (pc := pc) (ls := ls) (rest := rest) (fun x hx => (htab x hx).elim) hlk (by rw [e1]; exact hce) hcv hcl (fun t9 h9 hA => hXC t9 (by rw [h9, e1]; exact hWd) (hS1.F h9)) hS1.2.2 (Nat.le_refl _) (Nat.le_refl _) T' rfl X'
    exact ⟨t2, hgo.trans a1, b1⟩
theorem aw_callST {y : MethodName} {cc' : ByteArray} {nL' d' idx np : Nat} {ret : Option FieldType} {as : Wc → List Value} {E : String} {As rest : List Value} (hG : Gd g own cc nL d 1 6) (hM : CtT y cc' nL' ret d' as σ E) (hT9 : FinT g E σ) (h1 : Cond.methodLink own idx y ∈ gws) (hw : Ws y cc' nL' ret np) (has : as (cxw g) = As) (hn : As.length = np) (hst : st = As.reverse ++ rest) (hdd : d' + 1 ≤ d) (hcat : (rest.map fun v => v.category).sum ≤ 8) (hd : decode cc pc = .ok (.invokestatic idx, 3)) : AW g pc L st σ 0 0 := by
  obtain ⟨⟨p, l, e, R, s⟩, ⟨m, args, below, meth, c⟩, w, N, Q⟩ := g
  obtain ⟨hx, hb, hml, hN, hown, hts, hlk, hK, hC, hNs, hsz, hR⟩ := hG
  intro H locs ls hP hS hl
  dsimp only [cxw, cxs] at *
  obtain ⟨⟨w1, w3, w4⟩, w5, w6⟩ := hw
  have hM9 := hM l w hT9.1
  rw [has] at hM9
  have hr := vx_runS (e := e) (below := below) (meth := meth) (g := F0 m pc ls st) (As := As) (rest := rest) (H := H) (locs := locs) (cells := 0) (slots := 0) ⟨hx, hb, hml, hown, hts⟩ hM9 (va_cwS (R := R) (rm := rmd d' 1 6) (mc := 1) (ms := 6) np hts (inS h1 w1 w3 w4) rfl rfl rfl w5 (by simp only [rmd]; omega)) ⟨fun a U f mk q => ⟨q.1, q.2.calling⟩, fun U hU hW => ⟨rfl, Wd_of hP hK hC hNs hsz hS hU hW⟩⟩ rfl hn (hl.1.trans hN) (by rw [hst]) (lv_room hcat) hd (by omega)
  obtain ⟨hst9, htab, Qc, XC, hQ, hXC⟩ := hT9
  dsimp only [cxw, cxs] at hst9 htab hQ hXC
  subst hQ
  intro T hT X
  rcases hr T hT X with ⟨v, st₀, t, T', L9, h0, X', hL, e1, e2, hv, hgo⟩ | ⟨q, st₀, t, T', L9, E9, ce, h0, X', hL, e1, e2, ⟨hE, hWd, hF⟩, hce, hcv, hcl, hgo⟩
  · exact hv.elim
  · subst hE
    have hS1 := va_S.step hS h0 e1 hF hL
    obtain ⟨t2, a1, b1⟩ := vx_out (E := E9) (ce := ce) (Qc := Qc) (XC := XC) (pc := pc) (ls := ls) (rest := rest) (fun x hx => (htab x hx).elim) hlk (by rw [e1]; exact hce) hcv hcl (fun t9 h9 hA => hXC t9 (by rw [h9, e1]; exact hWd) (hS1.F h9)) hS1.2.2 (Nat.le_refl _) (Nat.le_refl _) T' rfl X'
    exact ⟨t2, hgo.trans a1, b1⟩
end AWC
