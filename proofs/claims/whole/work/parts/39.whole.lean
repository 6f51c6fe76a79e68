theorem lJ_0 : Cond.classLink RL 8 RX6 ∈ gws := gws_of 74 (by decide +kernel) (by decide +kernel)
theorem lJ_1 : Cond.instantiable RX6 11 ∈ gws := gws_of 75 (by decide +kernel) (by decide +kernel)
theorem lJ_2 : Cond.initialized RX6 ∈ gws := gws_of 56 (by decide +kernel) (by decide +kernel)
theorem lJ_3 : Cond.classLink RL 90 RX7 ∈ gws := gws_of 985 (by decide +kernel) (by decide +kernel)
theorem lJ_4 : Cond.instantiable RX7 25 ∈ gws := gws_of 986 (by decide +kernel) (by decide +kernel)
theorem lJ_5 : Cond.initialized RX7 ∈ gws := gws_of 63 (by decide +kernel) (by decide +kernel)
theorem lJ_6 : Cond.arrayClass .long ∈ gws := gws_of 1396 (by decide +kernel) (by decide +kernel)
theorem lJ_7 : Cond.methodLink RL 89 yX6_init ∈ gws := gws_of 76 (by decide +kernel) (by decide +kernel)
theorem lJ_8 : Cond.instanceMethod yX6_init ∈ gws := gws_of 77 (by decide +kernel) (by decide +kernel)
theorem lJ_9 : Cond.initialized yX6_init.cls ∈ gws := gws_of 56 (by decide +kernel) (by decide +kernel)
theorem lJ_10 : Cond.code yX6_init cX6_init 1 none ∈ gws := gws_of 78 (by decide +kernel) (by decide +kernel)
theorem lJ_11 : Cond.methodLink RL 92 yX7_init ∈ gws := gws_of 987 (by decide +kernel) (by decide +kernel)
theorem lJ_12 : Cond.instanceMethod yX7_init ∈ gws := gws_of 988 (by decide +kernel) (by decide +kernel)
theorem lJ_13 : Cond.initialized yX7_init.cls ∈ gws := gws_of 63 (by decide +kernel) (by decide +kernel)
theorem lJ_14 : Cond.code yX7_init cX7_init 1 none ∈ gws := gws_of 989 (by decide +kernel) (by decide +kernel)
/-! THE CLAIM OUT OF ONE WALK OF THE LAW'S BODY. Your part is whole_start (and what it stands on); all else here is the same for every law, but numbers. -/
def R_law : String := "FloatTextsLaw"
def lw_P (b : Addr) (xs : List Int32) (args : Array Value) (s : State) : Prop := args = #[.ref b] ∧ s.IntsAt b xs ∧ xs.length ≤ 3584 ∧ (Jvm.Cond.and given_1 narrow_1).before args s = true
def lw_Q (_ : Array Value) (s : State) (o : Outcome) (t : State) : Prop := o = .returned (some (.int 1)) ∧ Framed s o t [] 601024 7293034
def lw_Z (below : List Frame) (a : Array Value) (s : State) : State → Prop := fun t => ∃ o, t.status = .running ∧ Ended t below o ∧ lw_Q a s o t
/-- the law's own end, with 1 on the stack, nothing written that was there before, its room as the claim has it -/
theorem lw_ret {p : Program} {l : Launch} {e : Env} {s : State} {m : MethodId} {below : List Frame} {meth : Method} {c : Code} {b : Nat} (hx : p.tables.exec = Jvm.exec) (hb : c.code = code) (hr : meth.sig.returnType = ret) (hlocks : meth.locks = false) {pc : Nat} {H : Heap} {ls : Array Slot} (hdg : decode code pc = .ok (.ireturn, 1)) : W p l e room_1 s m #[Value.ref b] below meth c H [] 601024 7293034 (lw_Z below #[Value.ref b] s) (F0 m pc ls [.int 1]) := by
  intro T hT X
  obtain ⟨fs, hret, hrun, hended, hW, hframe⟩ := X.leave (v := some (.int 1)) (hlocks := hlocks) (fun h => by rw [hr] at h; cases h)
  have hmeth' : T.vm.method? m = some meth := X.method'
  refine ⟨T.setFrames fs, ?_, .returned (some (.int 1)), hrun, hended, rfl, ⟨_, rfl⟩, hW, hframe⟩
  jvm_step X.here [X.here.top, hx, hb, hdg, hmeth', hr, ret, narrow_b1]
  (try refine ⟨rfl, ?_⟩); (try refine ⟨rfl, ?_⟩)
  first | (intro acts; rw [hret _ acts rfl rfl rfl]) | rw [hret _ _ rfl rfl rfl]
  exact Steps.refl _
/-- what holds at the law's entry: the machine, the code, the tables' words (any of lw_tbl by 'hts w (by decide +kernel)'), the script of L ints xs at the cell b, what the Statement gives of the start (any of its parts by flat_of_before) -/
def lw_At (p : Program) (s : State) (m : MethodId) (meth : Method) (c : Code) (b L : Nat) (xs : Nat → Int32) : Prop :=
  p.tables.exec = Jvm.exec ∧ c.code = code ∧ meth.sig.returnType = ret ∧ c.maxLocals = 8 ∧ s.vm.findClass R_law = some m.cls ∧ (∀ w ∈ lw_tbl, w.before #[Value.ref b] s = true) ∧ va_X b L xs s s.heap ∧ b < s.heap.size ∧ meth.locks = false ∧ (Jvm.Cond.and given_1 narrow_1).before #[Value.ref b] s = true
def cs0 : CS := (fun _ => (fun _ => 0, 0), (fun _ => 0, 0, 0, 0), (0, 0, 0, 0, 0, 0, 0, 0), (0, 0), fun _ => (fun _ => 0, 156, -1, 0), 0, 0)
def ms0 : MS := (fun _ _ => 0, fun _ => 0, fun _ => 0)
theorem Cns.re {D : va_G} {cl : Nat → ClassId} {W0 W1 : Nat → Nat} {sz : Nat} {U : State} {H : Heap} (h : ∀ k, 30 ≤ k → W1 k = W0 k) (hc : Cns (D, cl, W0, sz) U H) : Cns (D, cl, W1, sz) U H := by
  have e1 : (fun k => W1 (30 + k)) = (fun k => W0 (30 + k)) := funext fun k => h _ (by omega)
  have e2 : (fun k => Value.ref (W1 (30 + k))) = (fun k => Value.ref (W0 (30 + k))) := funext fun k => by rw [h _ (by omega)]
  obtain ⟨h1, h2, h3, h4, h5, h6, h7, h8, h9, h10, h11, h12, h13⟩ := hc
  refine ⟨?_, ?_, ?_, ?_, ?_, ?_, ?_, ?_, ?_, h10, h11, h12, h13⟩
  · show va_Ef 4 _ _ _ _ (fun k => W1 (30 + k)) _ _ _
    rw [e1]; exact h1
  · show va_Ef 4 _ _ _ _ (fun k => W1 (30 + k)) _ _ _
    rw [e1]; exact h2
  · show va_Ef 4 _ _ _ _ (fun k => W1 (30 + k)) _ _ _
    rw [e1]; exact h3
  · intro k hk
    show va_O _ (W1 (30 + k)) _ _ _
    rw [h _ (by omega)]; exact h4 k hk
  · show va_Z _ _ _ (Value.ref (W1 34)) _ _ _
    rw [h _ (by omega)]; exact h5
  · show va_T _ (W1 34) 4 (fun k => Value.ref (W1 (30 + k))) _ _ _
    rw [h _ (by omega), e2]; exact h6
  · show va_Z _ _ _ (Value.ref (W1 35)) _ _ _
    rw [h _ (by omega)]; exact h7
  · show va_T _ (W1 35) 9 _ _ _ _
    rw [h _ (by omega)]; exact h8
  · intro j hj
    show va_O _ (W1 (40 + j)) _ _ _ ∧ va_OF _ _ _ (Value.ref (W1 (70 + j))) (W1 (40 + j)) _ _ _ ∧ va_OF _ _ _ _ (W1 (40 + j)) _ _ _ ∧ va_T _ (W1 (70 + j)) _ _ _ _ _
    rw [h (40 + j) (by omega), h (70 + j) (by omega)]; exact h9 j hj
theorem Nst.re {D : va_G} {cl : Nat → ClassId} {W0 W1 : Nat → Nat} {sz : Nat} {U : State} (h : ∀ k, 30 ≤ k → W1 k = W0 k) (hc : Nst (D, cl, W0, sz) U) : Nst (D, cl, W1, sz) U := by
  refine ⟨fun j q hq => ?_, hc.2⟩
  show vk_R _ _ _ (W1 (40 + j)) U
  rw [h _ (by omega)]; exact hc.1 j q hq
theorem bp_store4 {g : Cx} {own : String} {cc : ByteArray} {nL d mc ms pc k n i : Nat} {L L' : List (Nat × Value)} {st : List Value} {pre ws : va_W} {x : Int32} (hG : Gd g own cc nL d mc ms) (hd : decode cc pc = .ok (.istore i, 2)) (hn : i < nL) (hL : (i, Value.int x) :: L.filter (fun q => !(q.1 == i) && !(q.1 + 1 == i && q.2.category == 2)) = L') (kk : BP g (pc + 2) L' st pre ws k n) : BP g pc L (.int x :: st) pre ws k n := by
  obtain ⟨⟨p, l, e, R, s⟩, ⟨m, args, below, meth, c⟩, w, N, Q⟩ := g
  obtain ⟨hx, hb, hml, hN, hown, hts, hlk, hK, hC, hNs, hsz, hR⟩ := hG
  intro H locs ls hP hS hl
  subst hN
  exact lv_istore hx hb hd hl hn hL (fun ls hl => kk H locs ls hP hS hl)
set_option maxRecDepth 20000 in
set_option maxHeartbeats 4000000 in
/-- THE LAW, from its entry, over what class and reference have in common -/
theorem whole_start0 {p : Program} {e : Env} {s : State} {m : MethodId} {below : List Frame} {meth : Method} {c : Code} (l : Launch) (hst : l.stackTraces = false) {Inv : CS → MS → Prop} (hA : AllA Inv) (hI0 : Inv cs0 ms0) {b L : Nat} {xs : Nat → Int32} (hL : L ≤ 3584) (C0 : lw_At p s m meth c b L xs) : W p l e room_1 s m #[Value.ref b] below meth c s.heap [] 0 0 (lw_Z below #[Value.ref b] s) (entryFrame m ([Value.ref b] : List Value).toArray 8) := by
  obtain ⟨hx, hb, hr, hml, hown, hts, hX, hbl, hlocks, hgv⟩ := id C0
  obtain ⟨w, hwz, hK, hC, hNs⟩ := st_all hts hgv
  obtain ⟨g, hg⟩ : ∃ g : Cx, g = ((p, l, e, room_1, s), (m, #[Value.ref b], below, meth, c), (w, 8, lw_Z below #[Value.ref b] s)) := ⟨_, rfl⟩
  have hG : Gd g RL cL_law 8 12 601024 7293034 := by
    rw [hg]
    exact ⟨hx, hb, hml, rfl, hown, fun w h => hts w (List.mem_filter.mp h).1, hlocks, hK, hC, hNs, Nat.le_of_eq hwz, Nat.le_refl _, Nat.le_of_ble_eq_true rfl, Nat.le_refl _, Nat.le_refl _⟩
  have hl := lv_entry ([.ref b]) (n := 8) (Nat.le_of_ble_eq_true rfl)
  rw [lg_entry_eq]
  generalize (lg_sl ([.ref b]) ++ List.replicate (8 - (lg_sl ([.ref b])).length) Slot.unset).toArray = ls at hl ⊢
  have hl : lv_has ls 8 [(0, .ref b)] := hl
  have key : BP g 0 [(0, .ref b)] [] [] [] 0 0 := by
    refine bp_new (ci := 5) (fs := [.null, .null, .null, .null, .null, .null, .null, .null, .null, .long 0, .int 0]) (C := RX6) (T := TX6) (M := 11) hG uin6 tyX6 tyX6_ok lJ_0 lJ_1 lJ_2 rfl (fun j hj => by rcases (show j = 0 ∨ j = 1 ∨ j = 2 ∨ j = 3 ∨ j = 4 ∨ j = 5 ∨ j = 6 ∨ j = 7 ∨ j = 8 ∨ j = 9 ∨ j = 10 by omega) with rfl | rfl | rfl | rfl | rfl | rfl | rfl | rfl | rfl | rfl | rfl <;> rfl) (by omega) (by omega) dL_law_0 (fun a0 => ?_)
    show BP g _ _ _ [] [(a0, .inr (5, [.null, .null, .null, .null, .null, .null, .null, .null, .null, .long 0, .int 0]))] _ _
    refine bp_dup hG dL_law_3 rfl ?_
    refine bp_init (pre := []) (As := []) (pre0 := []) (ws0 := [(a0, .inr (5, [.null, .null, .null, .null, .null, .null, .null, .null, .null, .long 0, .int 0]))]) hG (ci_X6 (cxw g) [] a0) rfl lJ_7 lJ_8 lJ_9 lJ_10 rfl (by decide +kernel) (by decide) rfl rfl (by decide) (by decide) (by decide) (Nat.le_of_ble_eq_true rfl) dL_law_4 (fun ws2 hw2 => ?_) (fun w2 hw2 => ⟨w2, rfl⟩)
    obtain ⟨o1, q2, o3, q4, o5, q6, o7, o8, o9, q10, o11, q12, o13, q14, o15, q16, hw2⟩ := hw2
    obtain rfl : ws2 = [(a0, .inr (5, [.ref o1, .ref o3, .ref o5, .ref o7, .ref o8, .ref o9, .ref o11, .ref o13, .ref o15, .long 0, .int 0])), (o1, .inr (0, [.ref q2, .int 0])), (q2, .inl ((cxw g).2.1 0, 1600, .inl (fun _ => 0))), (o3, .inr (0, [.ref q4, .int 0])), (q4, .inl ((cxw g).2.1 0, 1500, .inl (fun _ => 0))), (o5, .inr (1, [.ref q6, .int 0, .int 0, .int 0])), (q6, .inl ((cxw g).2.1 0, 1420, .inl (fun _ => 0))), (o7, .inr (4, [.int 0, .int 0, .int 0, .int 0, .int 0, .int 0, .int 0, .int 0])), (o8, .inr (2, [.long 0, .int 0])), (o9, .inr (3, [.ref q10, .int 156, .int (-1), .int 0])), (q10, .inl ((cxw g).2.1 1, 156, .inl (fun _ => 0))), (o11, .inr (3, [.ref q12, .int 156, .int (-1), .int 0])), (q12, .inl ((cxw g).2.1 1, 156, .inl (fun _ => 0))), (o13, .inr (3, [.ref q14, .int 156, .int (-1), .int 0])), (q14, .inl ((cxw g).2.1 1, 156, .inl (fun _ => 0))), (o15, .inr (3, [.ref q16, .int 156, .int (-1), .int 0])), (q16, .inl ((cxw g).2.1 1, 156, .inl (fun _ => 0)))] := hw2
    refine bp_astore_n (L' := [(1, .ref a0), (0, .ref b)]) hG dL_law_7 rfl (by decide) rfl ?_
    refine bp_new (ci := 6) (fs := [.int 0, .null, .int 0, .null, .int 0, .null, .int 0, .int 0, .int 0, .long 0, .int 0, .null, .null, .null, .long 0, .int 0, .null, .int 0, .int 0, .null, .int 0, .long 0, .int 0, .int 0, .int 0]) (C := RX7) (T := TX7) (M := 25) hG uin7 tyX7 tyX7_ok lJ_3 lJ_4 lJ_5 rfl (fun j hj => by rcases (show j = 0 ∨ j = 1 ∨ j = 2 ∨ j = 3 ∨ j = 4 ∨ j = 5 ∨ j = 6 ∨ j = 7 ∨ j = 8 ∨ j = 9 ∨ j = 10 ∨ j = 11 ∨ j = 12 ∨ j = 13 ∨ j = 14 ∨ j = 15 ∨ j = 16 ∨ j = 17 ∨ j = 18 ∨ j = 19 ∨ j = 20 ∨ j = 21 ∨ j = 22 ∨ j = 23 ∨ j = 24 by omega) with rfl | rfl | rfl | rfl | rfl | rfl | rfl | rfl | rfl | rfl | rfl | rfl | rfl | rfl | rfl | rfl | rfl | rfl | rfl | rfl | rfl | rfl | rfl | rfl | rfl <;> rfl) (by omega) (by omega) dL_law_8 (fun b0 => ?_)
    refine bp_dup hG dL_law_11 rfl ?_
    refine bp_init (pre := []) (As := []) (pre0 := [(a0, .inr (5, [.ref o1, .ref o3, .ref o5, .ref o7, .ref o8, .ref o9, .ref o11, .ref o13, .ref o15, .long 0, .int 0])), (o1, .inr (0, [.ref q2, .int 0])), (q2, .inl ((cxw g).2.1 0, 1600, .inl (fun _ => 0))), (o3, .inr (0, [.ref q4, .int 0])), (q4, .inl ((cxw g).2.1 0, 1500, .inl (fun _ => 0))), (o5, .inr (1, [.ref q6, .int 0, .int 0, .int 0])), (q6, .inl ((cxw g).2.1 0, 1420, .inl (fun _ => 0))), (o7, .inr (4, [.int 0, .int 0, .int 0, .int 0, .int 0, .int 0, .int 0, .int 0])), (o8, .inr (2, [.long 0, .int 0])), (o9, .inr (3, [.ref q10, .int 156, .int (-1), .int 0])), (q10, .inl ((cxw g).2.1 1, 156, .inl (fun _ => 0))), (o11, .inr (3, [.ref q12, .int 156, .int (-1), .int 0])), (q12, .inl ((cxw g).2.1 1, 156, .inl (fun _ => 0))), (o13, .inr (3, [.ref q14, .int 156, .int (-1), .int 0])), (q14, .inl ((cxw g).2.1 1, 156, .inl (fun _ => 0))), (o15, .inr (3, [.ref q16, .int 156, .int (-1), .int 0])), (q16, .inl ((cxw g).2.1 1, 156, .inl (fun _ => 0)))]) (ws0 := [(b0, .inr (6, [.int 0, .null, .int 0, .null, .int 0, .null, .int 0, .int 0, .int 0, .long 0, .int 0, .null, .null, .null, .long 0, .int 0, .null, .int 0, .int 0, .null, .int 0, .long 0, .int 0, .int 0, .int 0]))]) hG (ci_X7 (cxw g) [(a0, .inr (5, [.ref o1, .ref o3, .ref o5, .ref o7, .ref o8, .ref o9, .ref o11, .ref o13, .ref o15, .long 0, .int 0])), (o1, .inr (0, [.ref q2, .int 0])), (q2, .inl ((cxw g).2.1 0, 1600, .inl (fun _ => 0))), (o3, .inr (0, [.ref q4, .int 0])), (q4, .inl ((cxw g).2.1 0, 1500, .inl (fun _ => 0))), (o5, .inr (1, [.ref q6, .int 0, .int 0, .int 0])), (q6, .inl ((cxw g).2.1 0, 1420, .inl (fun _ => 0))), (o7, .inr (4, [.int 0, .int 0, .int 0, .int 0, .int 0, .int 0, .int 0, .int 0])), (o8, .inr (2, [.long 0, .int 0])), (o9, .inr (3, [.ref q10, .int 156, .int (-1), .int 0])), (q10, .inl ((cxw g).2.1 1, 156, .inl (fun _ => 0))), (o11, .inr (3, [.ref q12, .int 156, .int (-1), .int 0])), (q12, .inl ((cxw g).2.1 1, 156, .inl (fun _ => 0))), (o13, .inr (3, [.ref q14, .int 156, .int (-1), .int 0])), (q14, .inl ((cxw g).2.1 1, 156, .inl (fun _ => 0))), (o15, .inr (3, [.ref q16, .int 156, .int (-1), .int 0])), (q16, .inl ((cxw g).2.1 1, 156, .inl (fun _ => 0)))] b0) rfl lJ_11 lJ_12 lJ_13 lJ_14 rfl (by decide +kernel) (by decide) rfl rfl (by decide) (by decide) (by decide) (Nat.le_of_ble_eq_true rfl) dL_law_12 (fun ws2 hw2 => ?_) (fun w2 hw2 => ⟨w2, rfl⟩)
    obtain ⟨b1, b2, b3, b4, b5, b6, b7, b8, hw2⟩ := hw2
    obtain rfl : ws2 = [(a0, .inr (5, [.ref o1, .ref o3, .ref o5, .ref o7, .ref o8, .ref o9, .ref o11, .ref o13, .ref o15, .long 0, .int 0])), (o1, .inr (0, [.ref q2, .int 0])), (q2, .inl ((cxw g).2.1 0, 1600, .inl (fun _ => 0))), (o3, .inr (0, [.ref q4, .int 0])), (q4, .inl ((cxw g).2.1 0, 1500, .inl (fun _ => 0))), (o5, .inr (1, [.ref q6, .int 0, .int 0, .int 0])), (q6, .inl ((cxw g).2.1 0, 1420, .inl (fun _ => 0))), (o7, .inr (4, [.int 0, .int 0, .int 0, .int 0, .int 0, .int 0, .int 0, .int 0])), (o8, .inr (2, [.long 0, .int 0])), (o9, .inr (3, [.ref q10, .int 156, .int (-1), .int 0])), (q10, .inl ((cxw g).2.1 1, 156, .inl (fun _ => 0))), (o11, .inr (3, [.ref q12, .int 156, .int (-1), .int 0])), (q12, .inl ((cxw g).2.1 1, 156, .inl (fun _ => 0))), (o13, .inr (3, [.ref q14, .int 156, .int (-1), .int 0])), (q14, .inl ((cxw g).2.1 1, 156, .inl (fun _ => 0))), (o15, .inr (3, [.ref q16, .int 156, .int (-1), .int 0])), (q16, .inl ((cxw g).2.1 1, 156, .inl (fun _ => 0))), (b0, .inr (6, [.int 0, .ref b1, .int 0, .ref b2, .int 0, .ref b3, .int 0, .int 0, .int 0, .long 0, .int 0, .ref b4, .ref b5, .ref b6, .long 0, .int 0, .ref b7, .int 0, .int 0, .ref b8, .int 0, .long 0, .int 0, .int 0, .int 0])), (b1, .inl ((cxw g).2.1 1, 1600, .inl (fun _ => 0))), (b2, .inl ((cxw g).2.1 1, 1600, .inl (fun _ => 0))), (b3, .inl ((cxw g).2.1 1, 1600, .inl (fun _ => 0))), (b4, .inl ((cxw g).2.1 1, 320, .inl (fun _ => 0))), (b5, .inl ((cxw g).2.1 1, 320, .inl (fun _ => 0))), (b6, .inl ((cxw g).2.1 1, 320, .inl (fun _ => 0))), (b7, .inl ((cxw g).2.1 1, 1600, .inl (fun _ => 0))), (b8, .inl ((cxw g).2.1 1, 1600, .inl (fun _ => 0)))] := hw2
    refine bp_astore_n (L' := [(2, .ref b0), (1, .ref a0), (0, .ref b)]) hG dL_law_15 rfl (by decide) rfl ?_
    refine bp_iconst (v := 1) hG dL_law_16 rfl ?_
    refine bp_newal (M := 1) hG lJ_6 (by decide) rfl (by decide) (by omega) (by omega) dL_law_17 (fun o0 => ?_)
    show BP g _ _ _ [] [(a0, .inr (5, [.ref o1, .ref o3, .ref o5, .ref o7, .ref o8, .ref o9, .ref o11, .ref o13, .ref o15, .long 0, .int 0])), (o1, .inr (0, [.ref q2, .int 0])), (q2, .inl ((cxw g).2.1 0, 1600, .inl (fun _ => 0))), (o3, .inr (0, [.ref q4, .int 0])), (q4, .inl ((cxw g).2.1 0, 1500, .inl (fun _ => 0))), (o5, .inr (1, [.ref q6, .int 0, .int 0, .int 0])), (q6, .inl ((cxw g).2.1 0, 1420, .inl (fun _ => 0))), (o7, .inr (4, [.int 0, .int 0, .int 0, .int 0, .int 0, .int 0, .int 0, .int 0])), (o8, .inr (2, [.long 0, .int 0])), (o9, .inr (3, [.ref q10, .int 156, .int (-1), .int 0])), (q10, .inl ((cxw g).2.1 1, 156, .inl (fun _ => 0))), (o11, .inr (3, [.ref q12, .int 156, .int (-1), .int 0])), (q12, .inl ((cxw g).2.1 1, 156, .inl (fun _ => 0))), (o13, .inr (3, [.ref q14, .int 156, .int (-1), .int 0])), (q14, .inl ((cxw g).2.1 1, 156, .inl (fun _ => 0))), (o15, .inr (3, [.ref q16, .int 156, .int (-1), .int 0])), (q16, .inl ((cxw g).2.1 1, 156, .inl (fun _ => 0))), (b0, .inr (6, [.int 0, .ref b1, .int 0, .ref b2, .int 0, .ref b3, .int 0, .int 0, .int 0, .long 0, .int 0, .ref b4, .ref b5, .ref b6, .long 0, .int 0, .ref b7, .int 0, .int 0, .ref b8, .int 0, .long 0, .int 0, .int 0, .int 0])), (b1, .inl ((cxw g).2.1 1, 1600, .inl (fun _ => 0))), (b2, .inl ((cxw g).2.1 1, 1600, .inl (fun _ => 0))), (b3, .inl ((cxw g).2.1 1, 1600, .inl (fun _ => 0))), (b4, .inl ((cxw g).2.1 1, 320, .inl (fun _ => 0))), (b5, .inl ((cxw g).2.1 1, 320, .inl (fun _ => 0))), (b6, .inl ((cxw g).2.1 1, 320, .inl (fun _ => 0))), (b7, .inl ((cxw g).2.1 1, 1600, .inl (fun _ => 0))), (b8, .inl ((cxw g).2.1 1, 1600, .inl (fun _ => 0))), (o0, .inl ((cxw g).2.1 2, 1, .inr (.inl (fun _ => 0))))] _ _
    refine bp_astore_n (L' := [(3, .ref o0), (2, .ref b0), (1, .ref a0), (0, .ref b)]) hG dL_law_19 rfl (by decide) rfl ?_
    refine bp_iconst (v := 0) hG dL_law_20 rfl ?_
    refine bp_store4 (L' := [(4, .int 0), (3, .ref o0), (2, .ref b0), (1, .ref a0), (0, .ref b)]) hG dL_law_21 (by decide) rfl ?_
    subst hg
    obtain ⟨D, cl, W0, sz⟩ := w
    obtain ⟨W1, hW1, hWr⟩ : ∃ W1 : Nat → Nat, (∀ k, 30 ≤ k → W1 k = W0 k) ∧ (W1 0 = a0 ∧ W1 1 = o1 ∧ W1 2 = q2 ∧ W1 3 = o3 ∧ W1 4 = q4 ∧ W1 5 = o5 ∧ W1 6 = q6 ∧ W1 7 = o7 ∧ W1 8 = o8 ∧ W1 9 = o9 ∧ W1 10 = q10 ∧ W1 11 = o11 ∧ W1 12 = q12 ∧ W1 13 = o13 ∧ W1 14 = q14 ∧ W1 15 = o15 ∧ W1 16 = q16 ∧ W1 17 = b0 ∧ W1 18 = b1 ∧ W1 19 = b2 ∧ W1 20 = b3 ∧ W1 21 = b4 ∧ W1 22 = b5 ∧ W1 23 = b6 ∧ W1 24 = b7 ∧ W1 25 = b8 ∧ W1 26 = o0) := ⟨fun k => if k < 30 then ([a0, o1, q2, o3, q4, o5, q6, o7, o8, o9, q10, o11, q12, o13, q14, o15, q16, b0, b1, b2, b3, b4, b5, b6, b7, b8, o0] : List Nat).getD k 0 else W0 k, fun k hk => if_neg (by omega), rfl, rfl, rfl, rfl, rfl, rfl, rfl, rfl, rfl, rfl, rfl, rfl, rfl, rfl, rfl, rfl, rfl, rfl, rfl, rfl, rfl, rfl, rfl, rfl, rfl, rfl, rfl⟩
    obtain ⟨hW_0, hW_1, hW_2, hW_3, hW_4, hW_5, hW_6, hW_7, hW_8, hW_9, hW_10, hW_11, hW_12, hW_13, hW_14, hW_15, hW_16, hW_17, hW_18, hW_19, hW_20, hW_21, hW_22, hW_23, hW_24, hW_25, hW_26⟩ := hWr
    have hsz : sz = s.heap.size := hwz
    obtain ⟨g1, hg1⟩ : ∃ g1 : Cx, g1 = ((p, l, e, room_1, s), (m, #[Value.ref b], below, meth, c), ((D, cl, W1, sz), 8, lw_Z below #[Value.ref b] s)) := ⟨_, rfl⟩
    have hG1 : Gd g1 RL cL_law 8 12 601024 7293034 := by
      rw [hg1]
      exact ⟨hx, hb, hml, rfl, hown, fun w h => hts w (List.mem_filter.mp h).1, hlocks, hK, Cns.re hW1 hC, Nst.re hW1 hNs, Nat.le_of_eq hwz, Nat.le_refl _, Nat.le_of_ble_eq_true rfl, Nat.le_refl _, Nat.le_refl _⟩
    have hX1 : LX g1 b L xs := by
      rw [hg1]
      refine ⟨hX, hbl, fun h => ?_⟩
      have h9 : sz ≤ b := h
      omega
    have hend : ∀ (L : List (Nat × Value)) (σ : SS) (k n : Nat), k ≤ 601024 → n ≤ 7293034 → AW g1 2549 L [.int 1] σ k n := by
      rw [hg1]
      intro L σ k n hk hn H locs ls hP hS hl
      refine va_forget (fun q hq => ?_) ?_
      · have h9 : sz ≤ q.base := hS.2.2 q hq
        show s.heap.size ≤ q.base
        omega
      · exact W.widen hk hn (lw_ret hx hb hr hlocks dL_law_2549)
    have hloop := law_loop (K0 := 27) (N0 := 14275) hA hG1 (by rw [hg1]; exact hst) hX1 hL (by omega) (by omega) hend (L + 1) 0 (by omega) (by omega) cs0 ms0 (fun _ => 0) hI0
    intro H locs ls hP hS hl
    subst hg1
    refine hloop H locs ls ?_ hS ?_
    · have hP2 : va_P D vwCl _ H ∧ va_D (fun q => sz ≤ q) _ := hP
      show va_P D vwCl (wlc (D, cl, W1, sz) cs0 ms0 (fun _ => 0)) H ∧ va_D (fun q => sz ≤ q) (wlc (D, cl, W1, sz) cs0 ms0 (fun _ => 0))
      have hw : wlc (D, cl, W1, sz) cs0 ms0 (fun _ => 0) = [(a0, .inr (5, [.ref o1, .ref o3, .ref o5, .ref o7, .ref o8, .ref o9, .ref o11, .ref o13, .ref o15, .long 0, .int 0])), (o1, .inr (0, [.ref q2, .int 0])), (q2, .inl (cl 0, 1600, .inl (fun _ => 0))), (o3, .inr (0, [.ref q4, .int 0])), (q4, .inl (cl 0, 1500, .inl (fun _ => 0))), (o5, .inr (1, [.ref q6, .int 0, .int 0, .int 0])), (q6, .inl (cl 0, 1420, .inl (fun _ => 0))), (o7, .inr (4, [.int 0, .int 0, .int 0, .int 0, .int 0, .int 0, .int 0, .int 0])), (o8, .inr (2, [.long 0, .int 0])), (o9, .inr (3, [.ref q10, .int 156, .int (-1), .int 0])), (q10, .inl (cl 1, 156, .inl (fun _ => 0))), (o11, .inr (3, [.ref q12, .int 156, .int (-1), .int 0])), (q12, .inl (cl 1, 156, .inl (fun _ => 0))), (o13, .inr (3, [.ref q14, .int 156, .int (-1), .int 0])), (q14, .inl (cl 1, 156, .inl (fun _ => 0))), (o15, .inr (3, [.ref q16, .int 156, .int (-1), .int 0])), (q16, .inl (cl 1, 156, .inl (fun _ => 0))), (b0, .inr (6, [.int 0, .ref b1, .int 0, .ref b2, .int 0, .ref b3, .int 0, .int 0, .int 0, .long 0, .int 0, .ref b4, .ref b5, .ref b6, .long 0, .int 0, .ref b7, .int 0, .int 0, .ref b8, .int 0, .long 0, .int 0, .int 0, .int 0])), (b1, .inl (cl 1, 1600, .inl (fun _ => 0))), (b2, .inl (cl 1, 1600, .inl (fun _ => 0))), (b3, .inl (cl 1, 1600, .inl (fun _ => 0))), (b4, .inl (cl 1, 320, .inl (fun _ => 0))), (b5, .inl (cl 1, 320, .inl (fun _ => 0))), (b6, .inl (cl 1, 320, .inl (fun _ => 0))), (b7, .inl (cl 1, 1600, .inl (fun _ => 0))), (b8, .inl (cl 1, 1600, .inl (fun _ => 0))), (o0, .inl (cl 2, 1, .inr (.inl (fun _ => 0))))] := by
        unfold wlc
        simp only [wad, hW_0, hW_1, hW_2, hW_3, hW_4, hW_5, hW_6, hW_7, hW_8, hW_9, hW_10, hW_11, hW_12, hW_13, hW_14, hW_15, hW_16, hW_17, hW_18, hW_19, hW_20, hW_21, hW_22, hW_23, hW_24, hW_25, hW_26]
        rfl
      rw [hw]
      exact hP2
    · have h9 := lv_sub hl [4, 3, 2, 1, 0] rfl
      show lv_has ls 8 [(0, .ref b), (1, .ref (W1 0)), (2, .ref (W1 17)), (3, .ref (W1 26)), (4, .int 0)]
      rw [hW_0, hW_17, hW_26]
      exact h9
  subst hg
  refine key s.heap [] ls ⟨fun k q h => by simp at h, ⟨fun i j p q h => by simp at h, fun k q h => by simp at h⟩⟩ va_S.rf hl
