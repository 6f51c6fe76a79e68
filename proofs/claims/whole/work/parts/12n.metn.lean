/-! A method called on an object of a class of which no word says that it is initialised: the machine doesn't ask at such a call. These follow the shape of the library's own proofs for the others (MetFree.of_bodySF, Stand.of_body, Steps.callFree, Back.of_free), less that one demand. -/
def apN (S : Spec) (x : MethodName) (pl : Platform) (s : State) (m : MethodId) (args : Array Value) (below : List Frame) : Prop := s.status = .running ∧ s.curStatus? = some .runnable ∧ s.alone = true ∧ s.methodNamed? x = some m ∧ s.hears m below = true ∧ s.hasRoom pl S.room = true ∧ S.pre.before args s = true
def MetN (l : Launch) (y : MethodName) (ws : List Cond) (rm : Room) (Pc : Array Value → State → Prop) (Qc : Array Value → State → Outcome → State → Prop) (mc ms : Nat) (free : Addr → Prop) : Prop :=
  ∀ (p : Program) (e : Env), l.admits e → FairCas e.choices → FairClock e.choices → ∀ (s : State) (m : MethodId) (args : Array Value) (below : List Frame), s.frames = .invoking m args :: below → apN (headSpec ws rm) y e.platform s m args below → Pc args s →
    ∃ n o, (∀ k, k < n → Within (stepsAlone p.tables e k s) below) ∧ (stepsAlone p.tables e n s).status = .running ∧ Ended (stepsAlone p.tables e n s) below o ∧ Qc args s o (stepsAlone p.tables e n s) ∧ ∃ L, FrameEnd s o (stepsAlone p.tables e n s) L mc ms ∧ ∀ q ∈ L, free q.base
theorem MetN.ofW {l : Launch} {y : MethodName} {ws ws' : List Cond} {rm : Room} {Pc : Array Value → State → Prop} {Qc : Array Value → State → Outcome → State → Prop} {mc ms : Nat} {free : Addr → Prop} {cc : ByteArray} {maxL : Nat} {ret : Option FieldType}
    (hy : plainName y.cls = true) (hw : ws = Cond.code y cc maxL ret :: ws')
    (body : ∀ (p : Program) (e : Env) (s : State) (m : MethodId) (args : Array Value) (below : List Frame) (meth : Method) (c : Code), p.tables.exec = Jvm.exec → c.code = cc → meth.sig.returnType = ret → meth.locks = false → (∀ w ∈ ws, w.before args s = true) → s.vm.findClass y.cls = some m.cls → c.maxLocals = maxL → Pc args s →
      W p l e (headSpec ws rm).room s m args below meth c s.heap [] 0 0 (MQ below Qc args s mc ms free) (entryFrame m args maxL)) : MetN l y ws rm Pc Qc mc ms free := by
  intro p e ha hc hk s m args below hf happ hP
  obtain ⟨hrun, hable, halone, hname, hhears, hroom, hpre⟩ := happ
  have hts := atoms_spec (ws := ws) hpre
  obtain ⟨meth, c, hmeth, hcode, hbytes, hlocals, hret, hlocks, -, -⟩ := Cond.code_spec hname (hts _ (by rw [hw]; exact List.mem_cons_self))
  have hcur := State.cur_lt_of_frames hf
  have hf1 : (s.setFrames (.java (entryFrame m args maxL) :: below)).frames = .java (entryFrame m args maxL) :: below := State.frames_setFrames _ hcur
  have ht1 := State.topJava?_of_frames hf1
  have hplain : (s.setFrames (.java (entryFrame m args maxL) :: below)).plainMethod m := State.plainMethod.of_named (s := s) (plainFor_of_name hy) hname hmeth
  have hAt : At (s.setFrames (.java (entryFrame m args maxL) :: below)) m c below :=
    ⟨by rw [ht1]; rfl, ⟨[], by rw [hf1]; rfl⟩, hrun, by simpa using hable, by simpa using halone,
      by rw [State.code?_eq]; simp [State.setFrames, hmeth, hcode], hplain⟩
  have hstep : (stepThread p.tables e s).1 = (s.setFrames (.java (entryFrame m args maxL) :: below)).setTop (entryFrame m args maxL) := by
    have hfull : e.platform.stackFull (s.setFrames below).me (s.setFrames below).frames c.maxLocals = false := by
      obtain ⟨-, h1, -, h2⟩ := State.hasRoom_stack hroom
      rw [hf, List.length_cons] at h1
      rw [State.localsInUse_invoking hf hmeth hcode] at h2
      have hw := stackUse_le_stackWeight below
      rw [State.frames_setFrames _ hcur]
      exact Platform.stackFull_eq_false (by rw [State.stackLimits_setFrames]; omega) (by rw [State.stackLimits_setFrames]; omega)
    rw [stepThread_invoking hf, (doInvoke_java (s := s.setFrames below) (e := e) (meth := meth) (code := c) hmeth hcode hlocks hfull).1, State.setTop_self ht1]
    simp only [State.pushFrame, State.frames_setFrames _ hcur, State.setFrames_setFrames, hlocals, entryFrame]
  obtain ⟨t, ht, -⟩ := State.frames_cons hf
  have X : Stand p l e (headSpec ws rm).room s m args below meth c (s.setFrames (.java (entryFrame m args maxL) :: below)) [] 0 0 := by
    refine ⟨ha, hc, hk, hf, hroom, hhears, hmeth, hcode, hAt, by rw [hf1]; rfl, State.WarmedH.refl s, by rw [State.stackLimits_setFrames], by rw [State.stackBytes_setFrames], ?_⟩
    exact (State.sameButNew.refl s ht).setFrames (.java (entryFrame m args maxL) :: below) hcur
  obtain ⟨t2, a1, o, b1, b2, b3, b4⟩ := body p e s m args below meth c (by cases p <;> rfl) hbytes hret hlocks hts (findClass_of_methodNamed hname) hlocals hP (s.setFrames (.java (entryFrame m args maxL) :: below)) rfl X
  obtain ⟨n, hn, hw⟩ := Steps.head (tb := p.tables) (e := e) ⟨hrun, hable, halone⟩ ⟨[.invoking m args], hf, by simp, by simp⟩ (hstep ▸ a1)
  exact ⟨n, o, hw, hn ▸ b1, hn ▸ b2, hn ▸ b3, hn ▸ b4⟩
theorem stN {l : Launch} {y : MethodName} {ws : List Cond} {rm : Room} {Pc : Array Value → State → Prop} {Qc : Array Value → State → Outcome → State → Prop} {mc ms : Nat} {free : Addr → Prop} {e : Env} (hM : MetN l y ws rm Pc Qc mc ms free) (p : Program) (ha : l.admits e) (hc : FairCas e.choices) (hk : FairClock e.choices)
    {s : State} {m : MethodId} {args : Array Value} {acts : List Action} {mid below : List Frame} {t : Thread} (ht : s.threads[s.cur]? = some t)
    (hfr : s.frames = mid ++ below) (happ : apN (headSpec ws rm) y e.platform (s.pushFrame (.invoking m args)) m args s.frames) (hP : Pc args (s.pushFrame (.invoking m args))) :
    ∃ o s₂, Steps p.tables e below (doInvoke e s acts m args).1 s₂ ∧ Ended s₂ s.frames o ∧ Qc args (s.pushFrame (.invoking m args)) o s₂ ∧ ∃ L, FrameEnd (s.pushFrame (.invoking m args)) o s₂ L mc ms ∧ ∀ q ∈ L, free q.base := by
  have hlt : s.cur < s.threads.size := (Array.getElem?_eq_some_iff.mp ht).1
  have hf' : (s.pushFrame (.invoking m args)).frames = .invoking m args :: s.frames := State.frames_setFrames _ hlt
  have hgo : (s.pushFrame (.invoking m args)).goesOn := ⟨happ.1, happ.2.1, happ.2.2.1⟩
  obtain ⟨n, o, hw, hr, he, hp, hp2⟩ := hM p e ha hc hk (s.pushFrame (.invoking m args)) m args s.frames hf' happ hP
  have hstep : (stepThread p.tables e (s.pushFrame (.invoking m args))).1 = (doInvoke e s acts m args).1 := by
    rw [stepThread_invoking hf', doInvoke_state e s acts, State.pushFrame, State.setFrames_setFrames, State.setFrames_self ht]
  cases n with
  | zero => exact absurd ⟨[.invoking m args], hf', by simp, by simp⟩ he.not_within
  | succ k =>
    rw [stepsAlone_succ _ hgo, hstep] at hr he hp hp2
    refine ⟨o, _, ⟨k, rfl, fun j hj => ?_⟩, he, hp, hp2⟩
    have := hw (j + 1) (by omega)
    rw [stepsAlone_succ _ hgo, hstep, hfr] at this
    exact this.weaken
theorem backN {l : Launch} {R : Room} {p : Program} {e : Env} {below : List Frame} {s : State} {sargs : Array Value} {y : MethodName} {len W9 : Nat} {ws : List Cond} {rm : Room} {Pc : Array Value → State → Prop} {Qc : Array Value → State → Outcome → State → Prop} {mc ms : Nat} {free : Addr → Prop} {bytes : ByteArray} {maxL : Nat} {ret : Option FieldType}
    (hM : MetN l y ws rm Pc Qc mc ms free) (hblind : FrameBlind Pc) (hrc : rm.cells = mc) (hrs : rm.slots = ms)
    (hframes : rm.frames + 1 ≤ R.frames) (hlocals : W9 + (maxL + 11) + rm.locals ≤ R.locals)
    (hws : ∀ w ∈ ws, ∀ a' U, s.WarmedH U.vm → w.before a' U = true) (hcode : Cond.code y bytes maxL ret ∈ ws) :
    Back l R p e below s sargs y len W9 (PreOf R mc ms Pc) (PostOf Qc mc ms free) := by
  intro m meth c A g ig mk a X hg hsize hdg hW hn hp
  have h1 : (headSpec ws rm).pre.before a A.U = true := atoms_intro fun w hw => hws w hw _ _ X.warmed
  have h2 : (Cond.code y bytes maxL ret).before a A.U = true := hws _ hcode _ _ X.warmed
  have h4 : A.cells + (headSpec ws rm).room.cells ≤ R.cells := by rw [show (headSpec ws rm).room.cells = mc from hrc]; exact hp.1
  have h5 : A.slots + (headSpec ws rm).room.slots ≤ R.slots := by rw [show (headSpec ws rm).room.slots = ms from hrs]; exact hp.2.1
  have hPc : Pc a (A.U.calling g mk a) := hblind _ _ _ _ hp.2.2
  obtain ⟨U, Ls, c0, s0⟩ := A
  dsimp only [Pt.U, Pt.locs, Pt.cells, Pt.slots] at h1 h2 h4 h5 X hn hPc ⊢
  obtain ⟨methY, cY, hmY, hcY, -, hlY, -, -, -, -⟩ := Cond.code_spec hn h2
  have h : At U g.method c below := by rw [hg]; exact X.here
  have hlocals9 : W9 + (maxL + 11) + (headSpec ws rm).room.locals ≤ R.locals := hlocals
  obtain ⟨mid, hmid⟩ := h.above
  have hfr : (U.setTop g).frames = (.java g :: mid) ++ below := by rw [State.frames_setTop' g h.top, hmid]; rfl
  have happ : apN (headSpec ws rm) y e.platform (U.calling g mk a) mk a (U.setTop g).frames := by
    have hcodeC : (U.calling g mk a).code? g.method = some c := by
      have := h.code
      rw [State.code?_eq] at this ⊢
      simpa [State.calling, State.pushFrame, State.setFrames] using this
    refine ⟨h.running, ?_, ?_, hn, ?_, X.room_calling (g := g) (R' := (headSpec ws rm).room) hsize hmY hcY hframes (by rw [hlY]; omega) h4 h5, ?_⟩
    · simpa [State.calling] using h.runnable
    · simpa [State.calling] using h.alone
    · rw [hfr]; simp [State.hears, hcodeC, hdg, Except.toOption]
    · rw [State.calling_eq h.top, Cond.before_setFrames]; exact h1
  obtain ⟨t9, ht9, -⟩ := State.frames_cons hfr
  obtain ⟨o, s₂, hsteps, hend, hqc, L, hfe, hL⟩ := stN hM p X.admits X.cas X.clock (acts := []) ht9 hfr happ hPc
  rw [State.frames_setTop' g h.top] at hend
  obtain ⟨g₀, hg0⟩ := Option.isSome_iff_exists.mp h.top
  obtain ⟨r, hr⟩ := State.topJava?_eq_some.mp hg0
  have hr' : (({ U with heap := s₂.heap, slotsUsed := s₂.slotsUsed } : State).setVm s₂.vm).frames = .java g₀ :: r := hr
  obtain ⟨⟨v, rfl⟩, hW₂, e2, q2, q3, q4, q5, q6⟩ := id hfe
  have e3 : s₂ = ({ (U.calling g mk a).setFrames s₂.frames with heap := s₂.heap, slotsUsed := s₂.slotsUsed } : State).setVm s₂.vm := by
    have : s₂ = ({ s₂ with vm := (U.calling g mk a).vm } : State).setVm s₂.vm := rfl
    rw [show (U.calling g mk a).vm = ((U.setTop g).pushFrame (.invoking mk a)).vm from rfl, e2] at this
    exact this
  obtain ⟨c₂, i₂, len₂, hc₂, hd₂, hf₂⟩ := hend
  have hW' : U.WarmedH s₂.vm := hW₂
  have hcc : c₂ = c := by
    have h1 : s₂.code? g.method = U.code? g.method := by
      rw [State.code?_eq, State.code?_eq, hW'.alike.method?]
    exact Option.some.inj (hc₂.symm.trans (h1.trans h.code))
  subst hcc
  have hlen : len₂ = len := by rw [hdg] at hd₂; cases hd₂; rfl
  subst hlen
  have hs₂ : s₂ = (({ U with heap := s₂.heap, slotsUsed := s₂.slotsUsed } : State).setVm s₂.vm).setTop { g with pc := g.pc + len₂, stack := v.toList ++ g.stack } := by
    refine e3.trans ?_
    rw [hf₂, State.calling_eq h.top, State.setFrames_setFrames, State.setTop_of_frames _ hr', hr]
    rfl
  have hsame : U.sameButNew ({ U with heap := s₂.heap, slotsUsed := s₂.slotsUsed } : State) L mc ms := by
    refine ⟨?_, q2, q3, q4, q5, q6⟩
    obtain ⟨t, ht, -⟩ := State.frames_cons hr
    show ({ U with heap := s₂.heap, slotsUsed := s₂.slotsUsed } : State) = { U.setFrames U.frames with heap := s₂.heap, slotsUsed := s₂.slotsUsed }
    rw [State.setFrames_self ht]
  subst hg
  refine ⟨v, ⟨(({ U with heap := s₂.heap, slotsUsed := s₂.slotsUsed } : State).setVm s₂.vm), Ls ++ L, c0 + mc, s0 + ms⟩,
    ⟨X.admits, X.cas, X.clock, X.frames, X.room, X.hears, X.method, X.code, (X.here.setHeapUsed s₂.heap s₂.slotsUsed).setVm hW'.alike, X.tail, State.WarmedH.trans X.warmed hW', X.limits, X.bytes, X.same.trans (hsame.setVm s.vm)⟩,
    ⟨g, mk, s₂, L, rfl, rfl, hqc, rfl, hL, rfl, rfl⟩, ?_⟩
  show Steps p.tables e below _ ((({ U with heap := s₂.heap, slotsUsed := s₂.slotsUsed } : State).setVm s₂.vm).setTop { g with pc := g.pc + len₂, stack := v.toList ++ g.stack })
  rw [← hs₂]
  exact hsteps
def CtN (y : MethodName) (cc : ByteArray) (nL : Nat) (ret : Option FieldType) (d : Nat) (as : Wc → List Value) (σ : SS) (r : Wc → Option Value) (σ' : SS) : Prop :=
  ∀ (l : Launch) (w : Wc), MetN l y (Cond.code y cc nL ret :: gws) (rmd d 0 0) (va_Pc (as w) (Wd w σ)) (Qr w (r w) σ') 0 0 (wA w)
theorem CtN_ofI {y : MethodName} {cc : ByteArray} {nL d : Nat} {as : Wc → List Value} {σ σ' : SS} {v : Int32} (hy : plainName y.cls = true) (hl : ∀ w : Wc, (lg_sl (as w)).length ≤ nL) (body : ∀ g : Cx, Gd g y.cls cc nL d 0 0 → FinI g cc 0 0 v σ' → AW g 0 (lv_args 0 (as (cxw g))) [] σ 0 0) : CtN y cc nL (some .int) d as σ (fun _ => some (.int v)) σ' := by
  intro l w
  refine MetN.ofW (cc := cc) (maxL := nL) (ret := (some .int)) hy rfl ?_
  intro p e s m args below meth c hx hb hr hlk hts hown hml hv
  obtain ⟨rfl, hP, hK, hC, hNs, hsz⟩ := hv
  have hl9 := lv_entry (as w) (n := nL) (hl w)
  rw [lg_entry_eq]
  generalize (lg_sl (as w) ++ List.replicate (nL - (lg_sl (as w)).length) Slot.unset).toArray = ls at hl9 ⊢
  refine body ((p, l, e, rmd d 0 0, s), (m, (as w).toArray, below, meth, c), (w, nL, MQ below (Qr w ((fun _ => some (.int v)) w) σ') (as w).toArray s 0 0 (wA w))) ⟨hx, hb, hml, rfl, hown, fun w hw => hts w (List.mem_cons_of_mem _ hw), hlk, hK, hC, hNs, hsz, Nat.le_refl _, Nat.le_refl _, Nat.le_refl _, Nat.le_refl _⟩ ?_ s.heap [] ls hP va_S.rf hl9
  intro pc L k n hk hn hd H locs ls hP hS hl
  refine W.widen hk hn ?_
  exact W.iret hx hb hr (fun t ht hW => ⟨rfl, by rw [ht]; exact hP, hS.F ht⟩) hS.2.2 hd hlk
theorem CtN_ofZ {y : MethodName} {cc : ByteArray} {nL d : Nat} {as : Wc → List Value} {σ σ' : SS} {v : Int32} (hy : plainName y.cls = true) (hl : ∀ w : Wc, (lg_sl (as w)).length ≤ nL) (body : ∀ g : Cx, Gd g y.cls cc nL d 0 0 → FinZ g cc 0 0 v σ' → AW g 0 (lv_args 0 (as (cxw g))) [] σ 0 0) : CtN y cc nL (some .boolean) d as σ (fun _ => some (.int v)) σ' := by
  intro l w
  refine MetN.ofW (cc := cc) (maxL := nL) (ret := (some .boolean)) hy rfl ?_
  intro p e s m args below meth c hx hb hr hlk hts hown hml hv
  obtain ⟨rfl, hP, hK, hC, hNs, hsz⟩ := hv
  have hl9 := lv_entry (as w) (n := nL) (hl w)
  rw [lg_entry_eq]
  generalize (lg_sl (as w) ++ List.replicate (nL - (lg_sl (as w)).length) Slot.unset).toArray = ls at hl9 ⊢
  refine body ((p, l, e, rmd d 0 0, s), (m, (as w).toArray, below, meth, c), (w, nL, MQ below (Qr w ((fun _ => some (.int v)) w) σ') (as w).toArray s 0 0 (wA w))) ⟨hx, hb, hml, rfl, hown, fun w hw => hts w (List.mem_cons_of_mem _ hw), hlk, hK, hC, hNs, hsz, Nat.le_refl _, Nat.le_refl _, Nat.le_refl _, Nat.le_refl _⟩ ?_ s.heap [] ls hP va_S.rf hl9
  intro pc L k n hk hn hbl hd H locs ls hP hS hl
  refine W.widen hk hn ?_
  exact W.zret hx hb hr (by rcases hbl with rfl | rfl <;> rfl) (fun t ht hW => ⟨rfl, by rw [ht]; exact hP, hS.F ht⟩) hS.2.2 hd hlk
theorem CtN_ofJ {y : MethodName} {cc : ByteArray} {nL d : Nat} {as : Wc → List Value} {σ σ' : SS} {v : Int64} (hy : plainName y.cls = true) (hl : ∀ w : Wc, (lg_sl (as w)).length ≤ nL) (body : ∀ g : Cx, Gd g y.cls cc nL d 0 0 → FinJ g cc 0 0 v σ' → AW g 0 (lv_args 0 (as (cxw g))) [] σ 0 0) : CtN y cc nL (some .long) d as σ (fun _ => some (.long v)) σ' := by
  intro l w
  refine MetN.ofW (cc := cc) (maxL := nL) (ret := (some .long)) hy rfl ?_
  intro p e s m args below meth c hx hb hr hlk hts hown hml hv
  obtain ⟨rfl, hP, hK, hC, hNs, hsz⟩ := hv
  have hl9 := lv_entry (as w) (n := nL) (hl w)
  rw [lg_entry_eq]
  generalize (lg_sl (as w) ++ List.replicate (nL - (lg_sl (as w)).length) Slot.unset).toArray = ls at hl9 ⊢
  refine body ((p, l, e, rmd d 0 0, s), (m, (as w).toArray, below, meth, c), (w, nL, MQ below (Qr w ((fun _ => some (.long v)) w) σ') (as w).toArray s 0 0 (wA w))) ⟨hx, hb, hml, rfl, hown, fun w hw => hts w (List.mem_cons_of_mem _ hw), hlk, hK, hC, hNs, hsz, Nat.le_refl _, Nat.le_refl _, Nat.le_refl _, Nat.le_refl _⟩ ?_ s.heap [] ls hP va_S.rf hl9
  intro pc L k n hk hn hd H locs ls hP hS hl
  refine W.widen hk hn ?_
  exact W.lret hx hb hr (fun t ht hW => ⟨rfl, by rw [ht]; exact hP, hS.F ht⟩) hS.2.2 hd hlk
section AWCN
variable {g : Cx} {own : String} {cc : ByteArray} {nL d mc ms pc k n : Nat} {L L' : List (Nat × Value)} {st : List Value} {σ σ' : SS}
def Wf (y : MethodName) (cc : ByteArray) (nL : Nat) (ret : Option FieldType) (np : Nat) : Prop := (Cond.instanceMethod y ∈ gws ∧ Cond.selects y.cls y y ∈ gws ∧ Cond.code y cc nL ret ∈ gws) ∧ (y.cls ≠ "java/lang/invoke/MethodHandle" ∧ y.cls ≠ "java/lang/invoke/VarHandle" ∧ (parseMethodDescriptor y.desc).map (fun d => d.parameters.length) = some np) ∧ nL ≤ 19
theorem aw_callN {y : MethodName} {cc' : ByteArray} {nL' d' idx b np : Nat} {ret : Option FieldType} {as : Wc → List Value} {r : Wc → Option Value} {As rest : List Value} (hG : Gd g own cc nL d mc ms) (hM : CtN y cc' nL' ret d' as σ r σ') (h1 : Cond.methodLink own idx y ∈ gws) (hw : Wf y cc' nL' ret np) (hrv : Rv g y.cls b σ) (has : as (cxw g) = .ref b :: As) (hn : As.length = np) (hst : st = As.reverse ++ .ref b :: rest) (hdd : d' + 1 ≤ d) (hk : k ≤ mc) (hk2 : n ≤ ms) (hcat : (rest.map fun v => v.category).sum ≤ 8) (hd : decode cc pc = .ok (.invokevirtual idx, 3)) (kk : AW g (pc + 3) L ((r (cxw g)).toList ++ rest) σ' k n) : AW g pc L st σ k n := by
  obtain ⟨⟨p, l, e, R, s⟩, ⟨m, args, below, meth, c⟩, w, N, Q⟩ := g
  obtain ⟨hx, hb, hml, hN, hown, hts, hlk, hK, hC, hNs, hsz, hR⟩ := hG
  intro H locs ls hP hS hl
  dsimp only [cxw, cxs] at *
  obtain ⟨⟨w1, w2, w4⟩, w5, w6⟩ := hw
  have hM9 := hM l w
  rw [has] at hM9
  have hK9 : Back l R p e below s args y 3 8 (PreOf R 0 0 (va_Pc (.ref b :: As) (Wd w σ))) (PostOf (Qr w (r w) σ') 0 0 (wA w)) := backN (bytes := cc') (maxL := nL') (ret := ret) hM9 (fun a U f mk q => ⟨q.1, q.2.calling⟩) rfl rfl (by simp only [rmd]; omega) (by simp only [rmd]; omega) (pay_in hts (inC w4)) List.mem_cons_self
  obtain ⟨cellB, hcB, hoB, hclB⟩ := hrv H locs hP hS
  intro T hT X
  obtain ⟨v, vm₁, ⟨U', l2, c2, s2⟩, hW₁, X', ⟨g', mk, t, L9, e1, e2, ⟨hv, hWd, hF⟩, h1, hL, h2, h3⟩, hgo⟩ := callV X hx (C := y.cls) (bytes := cc') (maxL := nL') (ret := ret) hown (hts _ h1) (hts _ w1) (hts _ w2) (hts _ w4) ⟨w5.1, w5.2.1⟩ hK9 (g := F0 m pc ls st) (by rw [hT]; exact hcB) hoB hclB rfl ((hl.1.trans hN).trans hml.symm) (argsL := As) (rest := rest) (fun sig h => hn.trans (by have h9 := w5.2.2; rw [h] at h9; exact (Option.some.inj h9).symm)) (by rw [hst]) (lv_room hcat) (by rw [hb]; exact hd)
    (fun vm₁ hW₁ => ⟨by show k + 0 ≤ R.cells; omega, by show n + 0 ≤ R.slots; omega, rfl, Wd_of hP hK hC hNs hsz hS hT hW₁⟩)
  dsimp only [Pt.U, Pt.locs, Pt.cells, Pt.slots] at X' e1 e2 h1 h2 h3 hgo
  subst h1; subst h2; subst h3
  cases hv
  obtain ⟨t2, a1, b1⟩ := kk U'.heap (locs ++ L9) ls (by rw [e1]; exact hWd) (va_S.step hS (st := (T.setVm vm₁).calling g' mk (Value.ref b :: As).toArray) hT e1 hF hL) hl U' rfl X'
  exact ⟨t2, hgo t2 a1, b1⟩
theorem aw_callNi {y : MethodName} {cc' : ByteArray} {nL' d' idx b np : Nat} {ret : Option FieldType} {as : Wc → List Value} {v : Int32} {As rest : List Value} (hG : Gd g own cc nL d mc ms) (hM : CtN y cc' nL' ret d' as σ (fun _ => some (.int v)) σ') (h1 : Cond.methodLink own idx y ∈ gws) (hw : Wf y cc' nL' ret np) (hrv : Rv g y.cls b σ) (has : as (cxw g) = .ref b :: As) (hn : As.length = np) (hst : st = As.reverse ++ .ref b :: rest) (hdd : d' + 1 ≤ d) (hk : k ≤ mc) (hk2 : n ≤ ms) (hcat : (rest.map fun v => v.category).sum ≤ 8) (hd : decode cc pc = .ok (.invokevirtual idx, 3)) (kk : AW g (pc + 3) L (.int v :: rest) σ' k n) : AW g pc L st σ k n := aw_callN hG hM h1 hw hrv has hn hst hdd hk hk2 hcat hd kk
theorem aw_callNl {y : MethodName} {cc' : ByteArray} {nL' d' idx b np : Nat} {ret : Option FieldType} {as : Wc → List Value} {v : Int64} {As rest : List Value} (hG : Gd g own cc nL d mc ms) (hM : CtN y cc' nL' ret d' as σ (fun _ => some (.long v)) σ') (h1 : Cond.methodLink own idx y ∈ gws) (hw : Wf y cc' nL' ret np) (hrv : Rv g y.cls b σ) (has : as (cxw g) = .ref b :: As) (hn : As.length = np) (hst : st = As.reverse ++ .ref b :: rest) (hdd : d' + 1 ≤ d) (hk : k ≤ mc) (hk2 : n ≤ ms) (hcat : (rest.map fun v => v.category).sum ≤ 8) (hd : decode cc pc = .ok (.invokevirtual idx, 3)) (kk : AW g (pc + 3) L (.long v :: rest) σ' k n) : AW g pc L st σ k n := aw_callN hG hM h1 hw hrv has hn hst hdd hk hk2 hcat hd kk
end AWCN
