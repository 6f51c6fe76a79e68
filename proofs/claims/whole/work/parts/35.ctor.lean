/-! The constructors: a world of some cells, and those that come. -/
def Pw (w : Wc) (ws : va_W) (H : Heap) : Prop := va_P w.1 vwCl ws H ∧ va_D (wA w) ws
def Wb (w : Wc) (ws : va_W) (U : State) : Prop := Pw w ws U.heap ∧ va_K w.1 vwCl (wty w) U ∧ Cns w U U.heap ∧ Nst w U ∧ w.2.2.2 ≤ U.heap.size
def BP (g : Cx) (pc : Nat) (L : List (Nat × Value)) (st : List Value) (pre ws : va_W) (k n : Nat) : Prop :=
  ∀ (H : Heap) (locs : List Loc) (ls : Array Slot), Pw (cxw g) (pre ++ ws) H → va_S (wA (cxw g)) (cxs g).heap H locs → lv_has ls g.2.2.2.1 L →
    W g.1.1 g.1.2.1 g.1.2.2.1 g.1.2.2.2.1 (cxs g) g.2.1.1 g.2.1.2.1 g.2.1.2.2.1 g.2.1.2.2.2.1 g.2.1.2.2.2.2 H locs k n g.2.2.2.2 (F0 g.2.1.1 pc ls st)
theorem Wb.calling {w : Wc} {ws : va_W} {U : State} {f : JFrame} {mk : MethodId} {a : Array Value} (h : Wb w ws U) : Wb w ws (U.calling f mk a) := ⟨h.1, va_K.moved (u := U) (U := U.calling f mk a) (Vm.Alike.refl U.vm) h.2.1, Cns.moved (u := U) (U := U.calling f mk a) (Vm.Alike.refl U.vm) h.2.2.1, Nst.same (s := U) (U := U.calling f mk a) rfl h.2.2.2.1, h.2.2.2.2⟩
theorem Wb_of {w : Wc} {ws : va_W} {s U : State} {H : Heap} {locs : List Loc} (hP : Pw w ws H) (hK : va_K w.1 vwCl (wty w) s) (hC : Cns w s s.heap) (hN : Nst w s) (hsz : w.2.2.2 ≤ s.heap.size) (hS : va_S (wA w) s.heap H locs) (hU : U.heap = H) (hW : s.WarmedH U.vm) : Wb w ws U := by
  subst hU
  exact ⟨hP, va_K.moved hW.alike hK, Cns.moved hW.alike (hC.kept hS.2.1), hN.warm hW, Nat.le_trans hsz hS.1⟩
def CtB (w : Wc) (y : MethodName) (cc : ByteArray) (nL d mc ms : Nat) (as : List Value) (ws : va_W) (Post : va_W → Prop) : Prop :=
  ∀ l : Launch, Met l y (Cond.code y cc nL none :: gws) (rmd d mc ms) (va_Pc as (Wb w ws)) (fun _ st oc t => oc = .returned none ∧ (∃ ws', Post ws' ∧ Pw w ws' t.heap) ∧ va_F (wA w) st t) mc ms (wA w)
theorem CtB_of {w : Wc} {y : MethodName} {cc : ByteArray} {nL d mc ms : Nat} {as : List Value} {pre ws : va_W} {Post : va_W → Prop} (hy : plainFor y = true) (hl : (lg_sl as).length ≤ nL) (hyn : y.name = "<init>") (body : ∀ g : Cx, cxw g = w → Gd g y.cls cc nL d mc ms → g.2.1.2.2.2.1.name = "<init>" → (∀ (pc : Nat) (L : List (Nat × Value)) (ws' : va_W) (k n : Nat), k ≤ mc → n ≤ ms → Post (pre ++ ws') → decode cc pc = .ok (.return_, 1) → BP g pc L [] pre ws' k n) → BP g 0 (lv_args 0 as) [] pre ws 0 0) : CtB w y cc nL d mc ms as (pre ++ ws) Post := by
  intro l
  refine ofWF (cc := cc) (maxL := nL) (ret := none) hy rfl ?_
  intro p e s m args below meth c s₁ B hml hv
  obtain ⟨rfl, hP, hK, hC, hNs, hsz⟩ := hv
  have hx := B.exec
  have hb := B.bytes
  have hr := B.returns
  have hts := atoms_spec (ws := Cond.code y cc nL none :: gws) B.pre
  have hown : s.vm.findClass y.cls = some m.cls := findClass_of_methodNamed B.named
  have hlk := B.notSynchronized
  have hin : meth.name = "<init>" := (name_of_methodNamed B.named B.method).1.trans hyn
  have hl9 := lv_entry as (n := nL) hl
  rw [lg_entry_eq]
  generalize (lg_sl as ++ List.replicate (nL - (lg_sl as).length) Slot.unset).toArray = ls at hl9 ⊢
  refine body ((p, l, e, rmd d mc ms, s), (m, as.toArray, below, meth, c), (w, nL, MQ below (fun _ st oc t => oc = .returned none ∧ (∃ ws', Post ws' ∧ Pw w ws' t.heap) ∧ va_F (wA w) st t) as.toArray s mc ms (wA w))) rfl ⟨hx, hb, hml, rfl, hown, fun w hw => hts w (List.mem_cons_of_mem _ hw), hlk, hK, hC, hNs, hsz, Nat.le_refl _, Nat.le_refl _, Nat.le_refl _, Nat.le_refl _⟩ hin ?_ s.heap [] ls hP va_S.rf hl9
  intro pc L ws' k n hk hn hPost hd H locs ls hP hS hl
  refine W.widen hk hn ?_
  exact W.vret (Qc := fun _ st oc t => oc = .returned none ∧ (∃ ws', Post ws' ∧ Pw w ws' t.heap) ∧ va_F (wA w) st t) hx hb hr (fun t ht hW => ⟨rfl, ⟨pre ++ ws', hPost, by rw [ht]; exact hP⟩, hS.F ht⟩) hS.2.2 hd hlk
theorem pre_get {α : Type} (pre l : List α) (j : Nat) : (pre ++ l)[pre.length + j]? = l[j]? := by
  rw [List.getElem?_append_right (by omega)]; congr 1; omega
theorem pre_set {α : Type} (pre l : List α) (j : Nat) (x : α) : (pre ++ l).set (pre.length + j) x = pre ++ l.set j x := by
  rw [List.set_append_right _ _ (by omega)]; congr 2; omega
section BPR
variable {g : Cx} {own : String} {cc : ByteArray} {nL d mc ms pc k n : Nat} {L L' : List (Nat × Value)} {st : List Value} {pre ws ws' : va_W}
theorem bp_aload_n {i : Nat} {j : Fin 4} {x : Nat} (hG : Gd g own cc nL d mc ms) (q : Nat) (hq : L[q]? = some (i, .ref x)) (hd : decode cc pc = .ok (.aload_n j, 1)) (hj : (j : Nat) = i) (kk : BP g (pc + 1) L (.ref x :: st) pre ws k n) : BP g pc L st pre ws k n := by
  obtain ⟨⟨p, l, e, R, s⟩, ⟨m, args, below, meth, c⟩, w, N, Q⟩ := g
  obtain ⟨hx, hb, hml, hN, hown, hts, hlk, hK, hC, hNs, hsz, hR⟩ := hG
  intro H locs ls hP hS hl
  exact lv_aload_n hx hb hd hj (lv_at hl q hq) (kk H locs ls hP hS hl)
theorem bp_iload_n {i : Nat} {j : Fin 4} {x : Int32} (hG : Gd g own cc nL d mc ms) (q : Nat) (hq : L[q]? = some (i, .int x)) (hd : decode cc pc = .ok (.iload_n j, 1)) (hj : (j : Nat) = i) (kk : BP g (pc + 1) L (.int x :: st) pre ws k n) : BP g pc L st pre ws k n := by
  obtain ⟨⟨p, l, e, R, s⟩, ⟨m, args, below, meth, c⟩, w, N, Q⟩ := g
  obtain ⟨hx, hb, hml, hN, hown, hts, hlk, hK, hC, hNs, hsz, hR⟩ := hG
  intro H locs ls hP hS hl
  exact lv_iload_n hx hb hd hj (lv_at hl q hq) (kk H locs ls hP hS hl)
theorem bp_iconst {z : Int} {v : Int32} (hG : Gd g own cc nL d mc ms) (hd : decode cc pc = .ok (.iconst z, 1)) (hv : Int32.ofInt z = v) (kk : BP g (pc + 1) L (.int v :: st) pre ws k n) : BP g pc L st pre ws k n := by
  obtain ⟨⟨p, l, e, R, s⟩, ⟨m, args, below, meth, c⟩, w, N, Q⟩ := g
  obtain ⟨hx, hb, hml, hN, hown, hts, hlk, hK, hC, hNs, hsz, hR⟩ := hG
  intro H locs ls hP hS hl
  exact lv_iconst hx hb hd hv (kk H locs ls hP hS hl)
theorem bp_sipush {z : Int} {v : Int32} (hG : Gd g own cc nL d mc ms) (hd : decode cc pc = .ok (.sipush z, 3)) (hv : (Int16.ofInt z).toInt32 = v) (kk : BP g (pc + 3) L (.int v :: st) pre ws k n) : BP g pc L st pre ws k n := by
  obtain ⟨⟨p, l, e, R, s⟩, ⟨m, args, below, meth, c⟩, w, N, Q⟩ := g
  obtain ⟨hx, hb, hml, hN, hown, hts, hlk, hK, hC, hNs, hsz, hR⟩ := hG
  intro H locs ls hP hS hl
  exact lv_sipush hx hb hd hv (kk H locs ls hP hS hl)
theorem bp_lconst {z : Fin 2} {v : Int64} (hG : Gd g own cc nL d mc ms) (hd : decode cc pc = .ok (.lconst z, 1)) (hv : Int64.ofNat (z : Nat) = v) (kk : BP g (pc + 1) L (.long v :: st) pre ws k n) : BP g pc L st pre ws k n := by
  obtain ⟨⟨p, l, e, R, s⟩, ⟨m, args, below, meth, c⟩, w, N, Q⟩ := g
  obtain ⟨hx, hb, hml, hN, hown, hts, hlk, hK, hC, hNs, hsz, hR⟩ := hG
  intro H locs ls hP hS hl
  exact lv_lconst hx hb hd hv (kk H locs ls hP hS hl)
theorem bp_dup {v : Value} (hG : Gd g own cc nL d mc ms) (hd : decode cc pc = .ok (.dup, 1)) (hv : v.category = 1) (kk : BP g (pc + 1) L (v :: v :: st) pre ws k n) : BP g pc L (v :: st) pre ws k n := by
  obtain ⟨⟨p, l, e, R, s⟩, ⟨m, args, below, meth, c⟩, w, N, Q⟩ := g
  obtain ⟨hx, hb, hml, hN, hown, hts, hlk, hK, hC, hNs, hsz, hR⟩ := hG
  intro H locs ls hP hS hl
  exact lv_dup hx hb hd hv (kk H locs ls hP hS hl)
theorem bp_astore_n {i : Nat} {j : Fin 4} {x : Nat} (hG : Gd g own cc nL d mc ms) (hd : decode cc pc = .ok (.astore_n j, 1)) (hj : (j : Nat) = i) (hn : i < nL) (hL : (i, Value.ref x) :: L.filter (fun q => !(q.1 == i) && !(q.1 + 1 == i && q.2.category == 2)) = L') (kk : BP g (pc + 1) L' st pre ws k n) : BP g pc L (.ref x :: st) pre ws k n := by
  obtain ⟨⟨p, l, e, R, s⟩, ⟨m, args, below, meth, c⟩, w, N, Q⟩ := g
  obtain ⟨hx, hb, hml, hN, hown, hts, hlk, hK, hC, hNs, hsz, hR⟩ := hG
  intro H locs ls hP hS hl
  subst hN
  exact lv_astore_n hx hb hd hj hl hn hL (fun ls hl => kk H locs ls hP hS hl)
theorem bp_new {C : String} {T : u_T} {M ci idx : Nat} {fs : List Value} (hG : Gd g own cc nL d mc ms) (hin : ∀ w ∈ u_ws C T M, w ∈ gws) (ty0 : Nat → FieldType) (hty : ∀ k, k < M → parseFieldDescriptor (T k).2.2.1 = some (ty0 k)) (hcl : Cond.classLink own idx C ∈ gws) (hinst : Cond.instantiable C M ∈ gws) (hini : Cond.initialized C ∈ gws) (hc : vwCl[ci]? = some (C, T, M)) (hfs : ∀ j, j < M → defaultValue (ty0 j) = vp_V fs j) (h1 : k + 1 ≤ mc) (h2 : n + M ≤ ms) (hd : decode cc pc = .ok (.new idx, 3)) (kk : ∀ q : Nat, BP g (pc + 3) L (.ref q :: st) pre (ws ++ [(q, .inr (ci, fs))]) (k + 1) (n + M)) : BP g pc L st pre ws k n := by
  obtain ⟨⟨p, l, e, R, s⟩, ⟨m, args, below, meth, c⟩, w, N, Q⟩ := g
  obtain ⟨hx, hb, hml, hN, hown, hts, hlk, hK, hC, hNs, hsz, hR⟩ := hG
  intro H locs ls hP hS hl
  refine va_new hx hb hts hin ty0 hty hown (hts _ hcl) (hts _ hinst) (hts _ hini) hK hP.1 hP.2 hS (fun q h => Nat.le_trans hsz h) hc hfs (by omega) (by omega) hd (fun q H1 hP1 hD1 hS1 => ?_)
  rw [List.append_assoc] at hP1 hD1
  exact kk q H1 locs ls ⟨hP1, hD1⟩ hS1 hl
theorem bp_putF {C : String} {T : u_T} {M ci idx a : Nat} {fs : List Value} {v : Value} {ty : FieldType} (hG : Gd g own cc nL d mc ms) (hnm0 : g.2.1.2.2.2.1.name = "<init>") (hin : ∀ w ∈ u_ws C T M, w ∈ gws) (ty0 : Nat → FieldType) (hty : ∀ k, k < M → parseFieldDescriptor (T k).2.2.1 = some (ty0 k)) (hnm : ∀ a, a < M → ∀ b, b < M → a ≠ b → (T a).2.1 ≠ (T b).2.1) (j : Nat) (he : ws[j]? = some (a, .inr (ci, fs))) (hc : vwCl[ci]? = some (C, T, M)) (kf : Nat) (hkf : kf < M) (hfin : (T kf).2.2.2 = true) (hdec : (T kf).1 = own) (hpd : parseFieldDescriptor (T kf).2.2.1 = some ty) (hn : narrow ty v = v) (hfit : fits ty v = true) (hlen : kf < fs.length) (hset : ws.set j (a, .inr (ci, fs.set kf v)) = ws') (hlink : Cond.fieldLink own idx (T kf).1 (T kf).2.1 (T kf).2.2.1 ∈ gws) (hd : decode cc pc = .ok (.putfield idx, 3)) (kk : BP g (pc + 3) L st pre ws' k n) : BP g pc L (v :: .ref a :: st) pre ws k n := by
  obtain ⟨⟨p, l, e, R, s⟩, ⟨m, args, below, meth, c⟩, w, N, Q⟩ := g
  obtain ⟨hx, hb, hml, hN, hown, hts, hlk, hK, hC, hNs, hsz, hR⟩ := hG
  intro H locs ls hP hS hl
  refine va_putF hx hb hts hin ty0 hty hnm hown hK hP.1 hP.2 hS (pre.length + j) ((pre_get pre ws j).trans he) hc kf hkf (hts _ hlink) (fun _ h9 => h9) hfin hnm0 hdec hpd hn hfit hlen hd (fun H1 locs1 hP1 hD1 hS1 => ?_)
  rw [pre_set, hset] at hP1 hD1
  exact kk H1 locs1 ls ⟨hP1, hD1⟩ hS1 hl
theorem bp_put {C : String} {T : u_T} {M ci idx a : Nat} {fs : List Value} {v : Value} {ty : FieldType} (hG : Gd g own cc nL d mc ms) (hin : ∀ w ∈ u_ws C T M, w ∈ gws) (ty0 : Nat → FieldType) (hty : ∀ k, k < M → parseFieldDescriptor (T k).2.2.1 = some (ty0 k)) (hnm : ∀ a, a < M → ∀ b, b < M → a ≠ b → (T a).2.1 ≠ (T b).2.1) (j : Nat) (he : ws[j]? = some (a, .inr (ci, fs))) (hc : vwCl[ci]? = some (C, T, M)) (kf : Nat) (hkf : kf < M) (hfin : (T kf).2.2.2 = false) (hpd : parseFieldDescriptor (T kf).2.2.1 = some ty) (hn : narrow ty v = v) (hfit : fits ty v = true) (hlen : kf < fs.length) (hset : ws.set j (a, .inr (ci, fs.set kf v)) = ws') (hlink : Cond.fieldLink own idx (T kf).1 (T kf).2.1 (T kf).2.2.1 ∈ gws) (hd : decode cc pc = .ok (.putfield idx, 3)) (kk : BP g (pc + 3) L st pre ws' k n) : BP g pc L (v :: .ref a :: st) pre ws k n := by
  obtain ⟨⟨p, l, e, R, s⟩, ⟨m, args, below, meth, c⟩, w, N, Q⟩ := g
  obtain ⟨hx, hb, hml, hN, hown, hts, hlk, hK, hC, hNs, hsz, hR⟩ := hG
  intro H locs ls hP hS hl
  refine va_put hx hb hts hin ty0 hty hnm hown hK hP.1 hP.2 hS (pre.length + j) ((pre_get pre ws j).trans he) hc kf hkf (hts _ hlink) (fun _ h9 => h9) hfin hpd hn hfit hlen hd (fun H1 locs1 hP1 hD1 hS1 => ?_)
  rw [pre_set, hset] at hP1 hD1
  exact kk H1 locs1 ls ⟨hP1, hD1⟩ hS1 hl
theorem bp_obj {idx a : Nat} (hG : Gd g own cc nL d mc ms) (hlink : Cond.methodLink own idx Lib.objectInit ∈ gws) (hi : Cond.instanceMethod Lib.objectInit ∈ gws) (hco : Cond.code Lib.objectInit ⟨#[0xb1]⟩ 1 none ∈ gws) (hd1 : 1 ≤ d) (hcat : (st.map fun v => v.category).sum ≤ 8) (hd : decode cc pc = .ok (.invokespecial idx, 3)) (kk : BP g (pc + 3) L st pre ws k n) : BP g pc L (.ref a :: st) pre ws k n := by
  obtain ⟨⟨p, l, e, R, s⟩, ⟨m, args, below, meth, c⟩, w, N, Q⟩ := g
  obtain ⟨hx, hb, hml, hN, hown, hts, hlk, hK, hC, hNs, hsz, hR⟩ := hG
  intro H locs ls hP hS hl
  have h9 := lv_room (m := m) (pc := pc) (ls := ls) (rest := .ref a :: st) hcat
  refine W.objInit (g := F0 m pc ls (.ref a :: st)) hx hb hown (hts _ hlink) (hts _ hi) (hts _ hco) rfl (hl.1.trans (hN.trans hml.symm)) rfl hd (by omega) (by omega) ?_
  exact kk H locs ls hP hS hl
theorem bp_max {idx : Nat} {x y : Int32} (hG : Gd g own cc nL d mc ms) (hlink : Cond.methodLink own idx Lib.Math.max.name ∈ gws) (hs0 : Cond.static Lib.Math.max.name ∈ gws) (hi : Cond.initialized "java/lang/Math" ∈ gws) (hco : Cond.code Lib.Math.max.name Lib.Math.max.code 2 (some .int) ∈ gws) (hd1 : 1 ≤ d) (hk : k ≤ mc) (hn : n ≤ ms) (hcat : (st.map fun v => v.category).sum ≤ 8) (hd : decode cc pc = .ok (.invokestatic idx, 3)) (kk : BP g (pc + 3) L (.int (if x < y then y else x) :: st) pre ws k n) : BP g pc L (.int y :: .int x :: st) pre ws k n := by
  obtain ⟨⟨p, l, e, R, s⟩, ⟨m, args, below, meth, c⟩, w, N, Q⟩ := g
  obtain ⟨hx, hb, hml, hN, hown, hts, hlk, hK, hC, hNs, hsz, hR⟩ := hG
  intro H locs ls hP hS hl
  exact va_mmax hx hb (by rw [hml, hl.1, hN]) hown (hts _ hlink) (hts _ hs0) (hts _ hi) (hts _ hco) (by omega) (by omega) (by omega) (by omega) hd (kk H locs ls hP hS hl)
theorem bp_init {y : MethodName} {cc' : ByteArray} {nL' d' mc' ms' idx a np : Nat} {As : List Value} {pre0 ws0 : va_W} {Post : va_W → Prop} (hG : Gd g own cc nL d mc ms) (hM : CtB (cxw g) y cc' nL' d' mc' ms' (.ref a :: As) (pre0 ++ ws0) Post) (hws : pre ++ ws = pre0 ++ ws0) (h1 : Cond.methodLink own idx y ∈ gws) (h2 : Cond.instanceMethod y ∈ gws) (h3 : Cond.initialized y.cls ∈ gws) (h4 : Cond.code y cc' nL' none ∈ gws) (hyn : y.name = "<init>") (hdc : y.cls ≠ "java/lang/invoke/MethodHandle" ∧ y.cls ≠ "java/lang/invoke/VarHandle" ∧ (parseMethodDescriptor y.desc).map (fun d => d.parameters.length) = some np) (hnl : nL' ≤ 19) (hn : As.length = np) {st0 : List Value} (hst : st0 = As.reverse ++ .ref a :: st) (hdd : d' + 1 ≤ d) (hk : k + mc' ≤ mc) (hk2 : n + ms' ≤ ms) (hcat : (st.map fun v => v.category).sum ≤ 8) (hd : decode cc pc = .ok (.invokespecial idx, 3)) (kk : ∀ ws', Post (pre ++ ws') → BP g (pc + 3) L st pre ws' (k + mc') (n + ms')) (hpo : ∀ w2, Post w2 → ∃ w3, w2 = pre ++ w3) : BP g pc L st0 pre ws k n := by
  obtain ⟨⟨p, l, e, R, s⟩, ⟨m, args, below, meth, c⟩, w, N, Q⟩ := g
  obtain ⟨hx, hb, hml, hN, hown, hts, hlk, hK, hC, hNs, hsz, hR⟩ := hG
  intro H locs ls hP hS hl
  dsimp only [cxw, cxs] at *
  have hr := va_runI (e := e) (below := below) (meth := meth) (g := F0 m pc ls st0) (As := As) (rest := st) (b := a) (H := H) (locs := locs) (cells := k) (slots := n) ⟨hx, hb, hml, hown, hts⟩ (hM l) (cwI (R := R) (rm := rmd d' mc' ms') np hts (inC h4) rfl rfl rfl (hts _ h3) (hts _ h1) (hts _ h2) hyn hdc (by simp only [rmd]; omega)) ⟨fun a U f mk q => ⟨q.1, q.2.calling⟩, fun U hU hW => ⟨rfl, Wb_of (by rw [← hws]; exact hP) hK hC hNs hsz hS hU hW⟩⟩ rfl hn (hl.1.trans hN) (by rw [hst]) (lv_room hcat) hd (by omega)
  intro T hT X
  obtain ⟨v, st₀, t, T', L9, h0, X', hL, e1, e2, ⟨hv, ⟨ws2, hPo, hWd⟩, hF⟩, hgo⟩ := hr T hT X
  cases hv
  obtain ⟨w3, rfl⟩ := hpo ws2 hPo
  obtain ⟨t2, a1, b1⟩ := kk w3 hPo T'.heap (locs ++ L9) ls (by rw [e1]; exact hWd) (va_S.step hS h0 e1 hF hL) hl T' rfl X'
  exact ⟨t2, hgo t2 a1, b1⟩
theorem bp_newab {x : Int32} {M : Nat} (hG : Gd g own cc nL d mc ms) (harr : Cond.arrayClass .byte ∈ gws) (hx0 : ¬ x < 0) (hM : x.toNatClampNeg = M) (hby : M * componentBytes .byte ≤ 536870912) (h1 : k + 1 ≤ mc) (h2 : n + M ≤ ms) (hd : decode cc pc = .ok (.newarray .byte, 2)) (kk : ∀ q : Nat, BP g (pc + 2) L (.ref q :: st) pre (ws ++ [(q, .inl ((cxw g).2.1 0, M, .inl (fun _ => 0)))]) (k + 1) (n + M)) : BP g pc L (.int x :: st) pre ws k n := by
  obtain ⟨⟨p, l, e, R, s⟩, ⟨m, args, below, meth, c⟩, w, N, Q⟩ := g
  obtain ⟨hx, hb, hml, hN, hown, hts, hlk, hK, hC, hNs, hsz, hR⟩ := hG
  intro H locs ls hP hS hl
  refine va_newa (atype := .byte) (ty := .byte) (a0 := (M, .inl (fun _ => 0))) hx hb (hts _ harr) rfl hK hP.1 hP.2 hS (fun q h => Nat.le_trans hsz h) (fun cA => rfl) hx0 hM hby (by omega) (by omega) hd (fun q cA H1 hK1 hP1 hD1 hS1 => ?_)
  have e1 := (hK1.2 3 (cA, .byte) rfl).2
  have e2 := (hK.2 0 (w.2.1 0, .byte) rfl).2
  have e3 : cA = w.2.1 0 := Option.some.inj ((show s.vm.findClass ("[" ++ FieldType.toString .byte) = some cA from e1).symm.trans (show s.vm.findClass ("[" ++ FieldType.toString .byte) = some (w.2.1 0) from e2))
  subst e3
  rw [List.append_assoc] at hP1 hD1
  exact kk q H1 locs ls ⟨hP1, hD1⟩ hS1 hl
theorem bp_newai {x : Int32} {M : Nat} (hG : Gd g own cc nL d mc ms) (harr : Cond.arrayClass .int ∈ gws) (hx0 : ¬ x < 0) (hM : x.toNatClampNeg = M) (hby : M * componentBytes .int ≤ 536870912) (h1 : k + 1 ≤ mc) (h2 : n + M ≤ ms) (hd : decode cc pc = .ok (.newarray .int, 2)) (kk : ∀ q : Nat, BP g (pc + 2) L (.ref q :: st) pre (ws ++ [(q, .inl ((cxw g).2.1 1, M, .inl (fun _ => 0)))]) (k + 1) (n + M)) : BP g pc L (.int x :: st) pre ws k n := by
  obtain ⟨⟨p, l, e, R, s⟩, ⟨m, args, below, meth, c⟩, w, N, Q⟩ := g
  obtain ⟨hx, hb, hml, hN, hown, hts, hlk, hK, hC, hNs, hsz, hR⟩ := hG
  intro H locs ls hP hS hl
  refine va_newa (atype := .int) (ty := .int) (a0 := (M, .inl (fun _ => 0))) hx hb (hts _ harr) rfl hK hP.1 hP.2 hS (fun q h => Nat.le_trans hsz h) (fun cA => rfl) hx0 hM hby (by omega) (by omega) hd (fun q cA H1 hK1 hP1 hD1 hS1 => ?_)
  have e1 := (hK1.2 3 (cA, .int) rfl).2
  have e2 := (hK.2 1 (w.2.1 1, .int) rfl).2
  have e3 : cA = w.2.1 1 := Option.some.inj ((show s.vm.findClass ("[" ++ FieldType.toString .int) = some cA from e1).symm.trans (show s.vm.findClass ("[" ++ FieldType.toString .int) = some (w.2.1 1) from e2))
  subst e3
  rw [List.append_assoc] at hP1 hD1
  exact kk q H1 locs ls ⟨hP1, hD1⟩ hS1 hl
theorem bp_newal {x : Int32} {M : Nat} (hG : Gd g own cc nL d mc ms) (harr : Cond.arrayClass .long ∈ gws) (hx0 : ¬ x < 0) (hM : x.toNatClampNeg = M) (hby : M * componentBytes .long ≤ 536870912) (h1 : k + 1 ≤ mc) (h2 : n + M ≤ ms) (hd : decode cc pc = .ok (.newarray .long, 2)) (kk : ∀ q : Nat, BP g (pc + 2) L (.ref q :: st) pre (ws ++ [(q, .inl ((cxw g).2.1 2, M, .inr (.inl (fun _ => 0))))]) (k + 1) (n + M)) : BP g pc L (.int x :: st) pre ws k n := by
  obtain ⟨⟨p, l, e, R, s⟩, ⟨m, args, below, meth, c⟩, w, N, Q⟩ := g
  obtain ⟨hx, hb, hml, hN, hown, hts, hlk, hK, hC, hNs, hsz, hR⟩ := hG
  intro H locs ls hP hS hl
  refine va_newa (atype := .long) (ty := .long) (a0 := (M, .inr (.inl (fun _ => 0)))) hx hb (hts _ harr) rfl hK hP.1 hP.2 hS (fun q h => Nat.le_trans hsz h) (fun cA => rfl) hx0 hM hby (by omega) (by omega) hd (fun q cA H1 hK1 hP1 hD1 hS1 => ?_)
  have e1 := (hK1.2 3 (cA, .long) rfl).2
  have e2 := (hK.2 2 (w.2.1 2, .long) rfl).2
  have e3 : cA = w.2.1 2 := Option.some.inj ((show s.vm.findClass ("[" ++ FieldType.toString .long) = some cA from e1).symm.trans (show s.vm.findClass ("[" ++ FieldType.toString .long) = some (w.2.1 2) from e2))
  subst e3
  rw [List.append_assoc] at hP1 hD1
  exact kk q H1 locs ls ⟨hP1, hD1⟩ hS1 hl
end BPR
