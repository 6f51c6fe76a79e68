/-! a loop: a step that says 'again, with this' or 'out, with that' -/
def lpn {α β : Type} (F : α → Option (α ⊕ β)) : Nat → α → Option β
  | 0, _ => none
  | n + 1, a => (F a).bind (fun s => match s with
    | .inl a' => lpn F n a'
    | .inr b => some b)
theorem lpn_mono {α β : Type} {F : α → Option (α ⊕ β)} {b : β} : ∀ {n : Nat} {a : α}, lpn F n a = some b → lpn F (n + 1) a = some b := by
  intro n
  induction n with
  | zero => intro a h; cases h
  | succ n ih =>
    intro a h
    rw [lpn] at h ⊢
    cases hs : F a with
    | none => rw [hs] at h; cases h
    | some s =>
      rw [hs] at h
      cases s with
      | inl a' => exact ih h
      | inr b' => exact h
theorem lpn_le {α β : Type} {F : α → Option (α ⊕ β)} {b : β} {n k : Nat} (hk : n ≤ k) {a : α} (h : lpn F n a = some b) : lpn F k a = some b := by
  induction hk with
  | refl => exact h
  | step _ ih => exact lpn_mono ih
noncomputable def Lp {α β : Type} (F : α → Option (α ⊕ β)) (a : α) : Option β := @dite _ (∃ n, ∃ b, lpn F n a = some b) (Classical.propDecidable _) (fun h => lpn F h.choose a) (fun _ => none)
theorem Lp_of {α β : Type} {F : α → Option (α ⊕ β)} {a : α} {b : β} {n : Nat} (h : lpn F n a = some b) : Lp F a = some b := by
  have hx : ∃ n, ∃ b, lpn F n a = some b := ⟨n, b, h⟩
  unfold Lp
  rw [dif_pos hx]
  obtain ⟨b', hb'⟩ := hx.choose_spec
  rw [hb']
  have h1 := lpn_le (Nat.le_max_left n hx.choose) h
  have h2 := lpn_le (Nat.le_max_right n hx.choose) hb'
  rw [h1] at h2
  exact h2.symm
theorem Lp_ex {α β : Type} {F : α → Option (α ⊕ β)} {a : α} {b : β} (h : Lp F a = some b) : ∃ n, lpn F n a = some b := by
  by_cases hx : ∃ n, ∃ b, lpn F n a = some b
  · unfold Lp at h
    rw [dif_pos hx] at h
    exact ⟨_, h⟩
  · unfold Lp at h
    rw [dif_neg hx] at h
    cases h
theorem Lp_l {α β : Type} {F : α → Option (α ⊕ β)} {a a' : α} (h : F a = some (.inl a')) : Lp F a = Lp F a' := by
  cases hq : Lp F a' with
  | none =>
    cases hp : Lp F a with
    | none => rfl
    | some b =>
      obtain ⟨n, hn⟩ := Lp_ex hp
      cases n with
      | zero => cases hn
      | succ n =>
        rw [lpn, h] at hn
        rw [Lp_of (show lpn F n a' = some b from hn)] at hq
        cases hq
  | some b =>
    obtain ⟨n, hn⟩ := Lp_ex hq
    exact Lp_of (n := n + 1) (by rw [lpn, h]; exact hn)
theorem Lp_r {α β : Type} {F : α → Option (α ⊕ β)} {a : α} {b : β} (h : F a = some (.inr b)) : Lp F a = some b := Lp_of (n := 1) (by rw [lpn, h]; rfl)
/-- a loop that comes to its end: what holds at the end, and goes back over each step, holds at the start -/
theorem Lp_w {α β : Type} {F : α → Option (α ⊕ β)} {S : α → Prop} {E : β → Prop} {a : α} {e : β} (h : Lp F a = some e) (hs : ∀ a s, F a = some s → Sum.elim S E s → S a) (he : E e) : S a := by
  obtain ⟨n, hn⟩ := Lp_ex h
  induction n generalizing a with
  | zero => cases hn
  | succ n ih =>
    rw [lpn] at hn
    cases hF : F a with
    | none => rw [hF] at hn; cases hn
    | some s =>
      rw [hF] at hn
      refine hs a s hF ?_
      cases s with
      | inl a' => exact ih (Lp_of hn) hn
      | inr b' => cases hn; exact he
def tbd {α β : Type} (a : Option (Unit ⊕ α)) (f : α → Option (Unit ⊕ β)) : Option (Unit ⊕ β) := a.bind (fun s => match s with
  | .inl _ => some (.inl ())
  | .inr v => f v)
theorem tb_o {α β : Type} {a : Option (Unit ⊕ α)} {f : α → Option (Unit ⊕ β)} {s : Unit ⊕ β} (h : tbd a f = some s) : (a = some (.inl ()) ∧ s = .inl ()) ∨ ∃ v, a = some (.inr v) ∧ f v = some s := by
  cases ha : a with
  | none => rw [ha] at h; cases h
  | some x =>
    rw [ha] at h
    cases x with
    | inl u => cases h; exact Or.inl ⟨rfl, rfl⟩
    | inr v => exact Or.inr ⟨v, rfl, h⟩
theorem el_l {α β γ : Type} {f : α → γ} {g : β → γ} {a : α} {r : γ} (h : Sum.elim f g (.inl a) = r) : f a = r := h
theorem el_r {α β γ : Type} {f : α → γ} {g : β → γ} {b : β} {r : γ} (h : Sum.elim f g (.inr b) = r) : g b = r := h
theorem fmt_lt {i : Int32} (h : vI i 4) : i.toNatClampNeg < 4 := by
  have h1 := h.1
  have h2 := h.2
  have : i.toNatClampNeg = i.toInt.toNat := rfl
  omega
def irm (x y : Int32) : Int32 := x - x / y * y
def lrm (x y : Int64) : Int64 := x - x / y * y
def jshl (x : Int64) (y : Int32) : Int64 := x <<< (y.toInt64 &&& 63)
def jshr (x : Int64) (y : Int32) : Int64 := x >>> (y.toInt64 &&& 63)
def jushr (x : Int64) (y : Int32) : Int64 := (x.toUInt64 >>> (y.toInt64.toUInt64 &&& Int64.toUInt64 63)).toInt64
def kshl (x y : Int32) : Int32 := x <<< (y &&& 31)
def kshr (x y : Int32) : Int32 := x >>> (y &&& 31)
def i2ch (x : Int32) : Int32 := x.toUInt32.toUInt16.toUInt32.toInt32
def i2by (x : Int32) : Int32 := x.toInt8.toInt32
theorem nz_of {y : Int32} (h : ¬ y ≤ 0) : ¬ y = 0 := fun e => h (by rw [e]; decide)
theorem nz_of2 {y : Int32} (h : 0 < y) : ¬ y = 0 := fun e => absurd h (by rw [e]; decide)
section AWN
variable {g : Cx} {own : String} {cc : ByteArray} {nL d mc ms pc k n : Nat} {L L' : List (Nat × Value)} {st : List Value} {σ σ' : SS} {c : CS} {m : MS} {z : Nat → Int64}
theorem aw_stc (kk : ∀ c' : CS, c' = c → AW g pc L st (c', m, z) k n) : AW g pc L st (c, m, z) k n := kk c rfl
theorem aw_stm (kk : ∀ m' : MS, m' = m → AW g pc L st (c, m', z) k n) : AW g pc L st (c, m, z) k n := kk m rfl
theorem aw_pc {pc' : Nat} (h : pc = pc') (kk : AW g pc' L st σ k n) : AW g pc L st σ k n := h ▸ kk
theorem aw_wid {k' n' : Nat} (h1 : k ≤ k') (h2 : n ≤ n') (kk : AW g pc L st σ k' n') : AW g pc L st σ k n := fun H locs ls hP hS hl => W.widen h1 h2 (kk H locs ls hP hS hl)
theorem aw_lc_eq {x y : Int64} {off : Int} {t pc2 pc3 : Nat} (hG : Gd g own cc nL d mc ms) (hd : decode cc pc = .ok (.lcmp, 1)) (h2 : pc + 1 = pc2) (hd2 : decode cc pc2 = .ok (.ifCond .eq off, 3)) (h3 : pc2 + 3 = pc3) (ht : (pc2 : Int) + off = (t : Int)) (kt : x = y → AW g t L st σ k n) (kf : ¬ x = y → AW g pc3 L st σ k n) : AW g pc L (.long y :: .long x :: st) σ k n := by
  subst h2 h3
  exact aw_lcmp hG hd (aw_if_eq hG hd2 ht (fun h => kt ((lg_cmp_eq x y).mp h)) (fun h => kf (fun h9 => h ((lg_cmp_eq x y).mpr h9))))
theorem aw_lc_ne {x y : Int64} {off : Int} {t pc2 pc3 : Nat} (hG : Gd g own cc nL d mc ms) (hd : decode cc pc = .ok (.lcmp, 1)) (h2 : pc + 1 = pc2) (hd2 : decode cc pc2 = .ok (.ifCond .ne off, 3)) (h3 : pc2 + 3 = pc3) (ht : (pc2 : Int) + off = (t : Int)) (kt : ¬ x = y → AW g t L st σ k n) (kf : x = y → AW g pc3 L st σ k n) : AW g pc L (.long y :: .long x :: st) σ k n := by
  subst h2 h3
  exact aw_lcmp hG hd (aw_if_ne hG hd2 ht (fun h => kt (fun h9 => h ((lg_cmp_eq x y).mpr h9))) (fun h => kf ((lg_cmp_eq x y).mp h)))
theorem aw_lc_lt {x y : Int64} {off : Int} {t pc2 pc3 : Nat} (hG : Gd g own cc nL d mc ms) (hd : decode cc pc = .ok (.lcmp, 1)) (h2 : pc + 1 = pc2) (hd2 : decode cc pc2 = .ok (.ifCond .lt off, 3)) (h3 : pc2 + 3 = pc3) (ht : (pc2 : Int) + off = (t : Int)) (kt : x < y → AW g t L st σ k n) (kf : ¬ x < y → AW g pc3 L st σ k n) : AW g pc L (.long y :: .long x :: st) σ k n := by
  subst h2 h3
  exact aw_lcmp hG hd (aw_if_lt hG hd2 ht (fun h => kt ((lg_cmp_lt x y).mp h)) (fun h => kf (fun h9 => h ((lg_cmp_lt x y).mpr h9))))
theorem aw_lc_ge {x y : Int64} {off : Int} {t pc2 pc3 : Nat} (hG : Gd g own cc nL d mc ms) (hd : decode cc pc = .ok (.lcmp, 1)) (h2 : pc + 1 = pc2) (hd2 : decode cc pc2 = .ok (.ifCond .ge off, 3)) (h3 : pc2 + 3 = pc3) (ht : (pc2 : Int) + off = (t : Int)) (kt : y ≤ x → AW g t L st σ k n) (kf : ¬ y ≤ x → AW g pc3 L st σ k n) : AW g pc L (.long y :: .long x :: st) σ k n := by
  subst h2 h3
  exact aw_lcmp hG hd (aw_if_ge hG hd2 ht (fun h => kt ((lg_cmp_ge x y).mp h)) (fun h => kf (fun h9 => h ((lg_cmp_ge x y).mpr h9))))
theorem aw_lc_gt {x y : Int64} {off : Int} {t pc2 pc3 : Nat} (hG : Gd g own cc nL d mc ms) (hd : decode cc pc = .ok (.lcmp, 1)) (h2 : pc + 1 = pc2) (hd2 : decode cc pc2 = .ok (.ifCond .gt off, 3)) (h3 : pc2 + 3 = pc3) (ht : (pc2 : Int) + off = (t : Int)) (kt : y < x → AW g t L st σ k n) (kf : ¬ y < x → AW g pc3 L st σ k n) : AW g pc L (.long y :: .long x :: st) σ k n := by
  subst h2 h3
  exact aw_lcmp hG hd (aw_if_gt hG hd2 ht (fun h => kt ((lg_cmp_gt x y).mp h)) (fun h => kf (fun h9 => h ((lg_cmp_gt x y).mpr h9))))
theorem aw_lc_le {x y : Int64} {off : Int} {t pc2 pc3 : Nat} (hG : Gd g own cc nL d mc ms) (hd : decode cc pc = .ok (.lcmp, 1)) (h2 : pc + 1 = pc2) (hd2 : decode cc pc2 = .ok (.ifCond .le off, 3)) (h3 : pc2 + 3 = pc3) (ht : (pc2 : Int) + off = (t : Int)) (kt : x ≤ y → AW g t L st σ k n) (kf : ¬ x ≤ y → AW g pc3 L st σ k n) : AW g pc L (.long y :: .long x :: st) σ k n := by
  subst h2 h3
  exact aw_lcmp hG hd (aw_if_le hG hd2 ht (fun h => kt ((lg_cmp_le x y).mp h)) (fun h => kf (fun h9 => h ((lg_cmp_le x y).mpr h9))))
theorem rv_X0 {t : Nat} (hG : Gd g own cc nL d mc ms) (ht : t < 2) : Rv g RX0 (wad (cxw g) (1 + 2 * t)) (c, m, z) := fun H locs hP hS => va_recv (q := (RX0, TX0, 2)) hG.2.2.2.2.2.2.2.1 hP.1 rfl (he_br ht)
theorem rv_X1 (hG : Gd g own cc nL d mc ms) : Rv g RX1 (wad (cxw g) 5) (c, m, z) := fun H locs hP hS => va_recv (q := (RX1, TX1, 4)) hG.2.2.2.2.2.2.2.1 hP.1 (ci := 1) (q0 := 5) rfl rfl
theorem rv_X3 (hG : Gd g own cc nL d mc ms) : Rv g RX3 (wad (cxw g) 8) (c, m, z) := fun H locs hP hS => va_recv (q := (RX3, TX3, 2)) hG.2.2.2.2.2.2.2.1 hP.1 (ci := 2) (q0 := 8) rfl rfl
theorem rv_X4 {r : Nat} (hG : Gd g own cc nL d mc ms) (hr : r < 4) : Rv g RX4 (wad (cxw g) (9 + 2 * r)) (c, m, z) := fun H locs hP hS => va_recv (q := (RX4, TX4, 4)) hG.2.2.2.2.2.2.2.1 hP.1 rfl (he_rw hr)
theorem rv_X5 (hG : Gd g own cc nL d mc ms) : Rv g RX5 (wad (cxw g) 7) (c, m, z) := fun H locs hP hS => va_recv (q := (RX5, TX5, 8)) hG.2.2.2.2.2.2.2.1 hP.1 (ci := 4) (q0 := 7) rfl rfl
theorem rv_X6 (hG : Gd g own cc nL d mc ms) : Rv g RX6 (wad (cxw g) 0) (c, m, z) := fun H locs hP hS => va_recv (q := (RX6, TX6, 11)) hG.2.2.2.2.2.2.2.1 hP.1 (ci := 5) (q0 := 0) rfl rfl
theorem rv_X7 (hG : Gd g own cc nL d mc ms) : Rv g RX7 (wad (cxw g) 17) (c, m, z) := fun H locs hP hS => va_recv (q := (RX7, TX7, 25)) hG.2.2.2.2.2.2.2.1 hP.1 (ci := 6) (q0 := 17) rfl rfl
theorem rv_X2 {f : Nat} (hG : Gd g own cc nL d mc ms) (hf : f < 4) : Rv g RX2 (wad (cxw g) (30 + f)) σ := fun H locs hP hS => va_Orecv (hG.2.2.2.2.2.2.2.2.1.2.2.2.1 f hf) hS
theorem rv_S {j : Nat} (hG : Gd g own cc nL d mc ms) (hj : j < 27) : Rv g "java/lang/String" (wad (cxw g) (40 + j)) σ := fun H locs hP hS => va_Orecv (hG.2.2.2.2.2.2.2.2.1.2.2.2.2.2.2.2.2.1 j hj).1 hS
theorem aw_ldcSW {idx j : Nat} {tx : String} (hG : Gd g own cc nL d mc ms) (hj : sxR[j]? = some (own, idx, tx)) (hd : decode cc pc = .ok (.ldc_w idx, 3)) (kk : AW g (pc + 3) L (.ref (wad (cxw g) (40 + j)) :: st) σ k n) : AW g pc L st σ k n := by
  obtain ⟨⟨p, l, e, R, s⟩, ⟨m, args, below, meth, c⟩, w, N, Q⟩ := g
  obtain ⟨hx, hb, hml, hN, hown, hts, hlk, hK, hC, hNs, hsz, hR⟩ := hG
  intro H locs ls hP hS hl
  intro T hT X
  obtain ⟨t, a1, b1⟩ := kk H locs ls hP hS hl T hT X
  exact ⟨t, X.ldcStringW hx hown (text := tx) (a := w.2.2.1 (40 + j)) (hNs.1 j _ hj).1 (hNs.1 j _ hj).2 (g := F0 m pc ls st) rfl (by rw [hb]; exact hd) t a1, b1⟩
theorem aw_i2c {x : Int32} (hG : Gd g own cc nL d mc ms) (hd : decode cc pc = .ok (.i2c, 1)) (kk : AW g (pc + 1) L (.int x.toUInt32.toUInt16.toUInt32.toInt32 :: st) σ k n) : AW g pc L (.int x :: st) σ k n := by
  obtain ⟨⟨p, l, e, R, s⟩, ⟨m, args, below, meth, c⟩, w, N, Q⟩ := g
  obtain ⟨hx, hb, hml, hN, hown, hts, hlk, hK, hC, hNs, hsz, hR⟩ := hG
  intro H locs ls hP hS hl
  exact lv_i2c hx hb hd rfl (kk H locs ls hP hS hl)
theorem aw_iremJ {x y : Int32} (hG : Gd g own cc nL d mc ms) (hd : decode cc pc = .ok (.irem, 1)) (h0 : ¬ y = 0) (kk : AW g (pc + 1) L (.int (irm x y) :: st) σ k n) : AW g pc L (.int y :: .int x :: st) σ k n := aw_irem hG hd h0 kk
theorem aw_lremJ {x y : Int64} (hG : Gd g own cc nL d mc ms) (hd : decode cc pc = .ok (.lrem, 1)) (h0 : ¬ y = 0) (kk : AW g (pc + 1) L (.long (lrm x y) :: st) σ k n) : AW g pc L (.long y :: .long x :: st) σ k n := aw_lrem hG hd h0 kk
theorem aw_lshlJ {x : Int64} {y : Int32} (hG : Gd g own cc nL d mc ms) (hd : decode cc pc = .ok (.lshl, 1)) (kk : AW g (pc + 1) L (.long (jshl x y) :: st) σ k n) : AW g pc L (.int y :: .long x :: st) σ k n := aw_lshl hG hd kk
theorem aw_lshrJ {x : Int64} {y : Int32} (hG : Gd g own cc nL d mc ms) (hd : decode cc pc = .ok (.lshr, 1)) (kk : AW g (pc + 1) L (.long (jshr x y) :: st) σ k n) : AW g pc L (.int y :: .long x :: st) σ k n := aw_lshr hG hd kk
theorem aw_lushrJ {x : Int64} {y : Int32} (hG : Gd g own cc nL d mc ms) (hd : decode cc pc = .ok (.lushr, 1)) (kk : AW g (pc + 1) L (.long (jushr x y) :: st) σ k n) : AW g pc L (.int y :: .long x :: st) σ k n := aw_lushr hG hd kk
theorem aw_ishlJ {x : Int32} {y : Int32} (hG : Gd g own cc nL d mc ms) (hd : decode cc pc = .ok (.ishl, 1)) (kk : AW g (pc + 1) L (.int (kshl x y) :: st) σ k n) : AW g pc L (.int y :: .int x :: st) σ k n := aw_ishl hG hd kk
theorem aw_ishrJ {x : Int32} {y : Int32} (hG : Gd g own cc nL d mc ms) (hd : decode cc pc = .ok (.ishr, 1)) (kk : AW g (pc + 1) L (.int (kshr x y) :: st) σ k n) : AW g pc L (.int y :: .int x :: st) σ k n := aw_ishr hG hd kk
theorem aw_i2cJ {x : Int32} (hG : Gd g own cc nL d mc ms) (hd : decode cc pc = .ok (.i2c, 1)) (kk : AW g (pc + 1) L (.int (i2ch x) :: st) σ k n) : AW g pc L (.int x :: st) σ k n := aw_i2c hG hd kk
theorem aw_i2bJ {x : Int32} (hG : Gd g own cc nL d mc ms) (hd : decode cc pc = .ok (.i2b, 1)) (kk : AW g (pc + 1) L (.int (i2by x) :: st) σ k n) : AW g pc L (.int x :: st) σ k n := aw_i2b hG hd kk
theorem aw_callVi {y : MethodName} {cc' : ByteArray} {nL' d' : Nat} {idx b np : Nat} {ret : Option FieldType} {as : Wc → List Value} {v : Int32} {As rest : List Value} (hG : Gd g own cc nL d mc ms) (hM : Ct y cc' nL' ret d' as σ (fun _ => some (.int v)) σ') (h1 : Cond.methodLink own idx y ∈ gws) (hw : Wv y cc' nL' ret np) (hrv : Rv g y.cls b σ) (has : as (cxw g) = .ref b :: As) (hn : As.length = np) (hst : st = As.reverse ++ .ref b :: rest) (hdd : d' + 1 ≤ d) (hk : k ≤ mc) (hk2 : n ≤ ms) (hcat : (rest.map fun v => v.category).sum ≤ 8) (hd : decode cc pc = .ok (.invokevirtual idx, 3)) (kk : AW g (pc + 3) L (.int v :: rest) σ' k n) : AW g pc L st σ k n := aw_callV hG hM h1 hw hrv has hn hst hdd hk hk2 hcat hd kk
theorem aw_callVl {y : MethodName} {cc' : ByteArray} {nL' d' : Nat} {idx b np : Nat} {ret : Option FieldType} {as : Wc → List Value} {v : Int64} {As rest : List Value} (hG : Gd g own cc nL d mc ms) (hM : Ct y cc' nL' ret d' as σ (fun _ => some (.long v)) σ') (h1 : Cond.methodLink own idx y ∈ gws) (hw : Wv y cc' nL' ret np) (hrv : Rv g y.cls b σ) (has : as (cxw g) = .ref b :: As) (hn : As.length = np) (hst : st = As.reverse ++ .ref b :: rest) (hdd : d' + 1 ≤ d) (hk : k ≤ mc) (hk2 : n ≤ ms) (hcat : (rest.map fun v => v.category).sum ≤ 8) (hd : decode cc pc = .ok (.invokevirtual idx, 3)) (kk : AW g (pc + 3) L (.long v :: rest) σ' k n) : AW g pc L st σ k n := aw_callV hG hM h1 hw hrv has hn hst hdd hk hk2 hcat hd kk
theorem aw_callVv {y : MethodName} {cc' : ByteArray} {nL' d' : Nat} {idx b np : Nat} {ret : Option FieldType} {as : Wc → List Value} {As rest : List Value} (hG : Gd g own cc nL d mc ms) (hM : Ct y cc' nL' ret d' as σ (fun _ => none) σ') (h1 : Cond.methodLink own idx y ∈ gws) (hw : Wv y cc' nL' ret np) (hrv : Rv g y.cls b σ) (has : as (cxw g) = .ref b :: As) (hn : As.length = np) (hst : st = As.reverse ++ .ref b :: rest) (hdd : d' + 1 ≤ d) (hk : k ≤ mc) (hk2 : n ≤ ms) (hcat : (rest.map fun v => v.category).sum ≤ 8) (hd : decode cc pc = .ok (.invokevirtual idx, 3)) (kk : AW g (pc + 3) L rest σ' k n) : AW g pc L st σ k n := aw_callV hG hM h1 hw hrv has hn hst hdd hk hk2 hcat hd kk
theorem aw_callVa {y : MethodName} {cc' : ByteArray} {nL' d' : Nat} {idx b np : Nat} {ret : Option FieldType} {as : Wc → List Value} {a : Nat} {As rest : List Value} (hG : Gd g own cc nL d mc ms) (hM : Ct y cc' nL' ret d' as σ (fun w => some (.ref (wad w a))) σ') (h1 : Cond.methodLink own idx y ∈ gws) (hw : Wv y cc' nL' ret np) (hrv : Rv g y.cls b σ) (has : as (cxw g) = .ref b :: As) (hn : As.length = np) (hst : st = As.reverse ++ .ref b :: rest) (hdd : d' + 1 ≤ d) (hk : k ≤ mc) (hk2 : n ≤ ms) (hcat : (rest.map fun v => v.category).sum ≤ 8) (hd : decode cc pc = .ok (.invokevirtual idx, 3)) (kk : AW g (pc + 3) L (.ref (wad (cxw g) a) :: rest) σ' k n) : AW g pc L st σ k n := aw_callV hG hM h1 hw hrv has hn hst hdd hk hk2 hcat hd kk
theorem aw_callSi {y : MethodName} {cc' : ByteArray} {nL' d' : Nat} {idx np : Nat} {ret : Option FieldType} {as : Wc → List Value} {v : Int32} {As rest : List Value} (hG : Gd g own cc nL d mc ms) (hM : Ct y cc' nL' ret d' as σ (fun _ => some (.int v)) σ') (h1 : Cond.methodLink own idx y ∈ gws) (hw : Ws y cc' nL' ret np) (has : as (cxw g) = As) (hn : As.length = np) (hst : st = As.reverse ++ rest) (hdd : d' + 1 ≤ d) (hk : k ≤ mc) (hk2 : n ≤ ms) (hcat : (rest.map fun v => v.category).sum ≤ 8) (hd : decode cc pc = .ok (.invokestatic idx, 3)) (kk : AW g (pc + 3) L (.int v :: rest) σ' k n) : AW g pc L st σ k n := aw_callS hG hM h1 hw has hn hst hdd hk hk2 hcat hd kk
theorem aw_callSl {y : MethodName} {cc' : ByteArray} {nL' d' : Nat} {idx np : Nat} {ret : Option FieldType} {as : Wc → List Value} {v : Int64} {As rest : List Value} (hG : Gd g own cc nL d mc ms) (hM : Ct y cc' nL' ret d' as σ (fun _ => some (.long v)) σ') (h1 : Cond.methodLink own idx y ∈ gws) (hw : Ws y cc' nL' ret np) (has : as (cxw g) = As) (hn : As.length = np) (hst : st = As.reverse ++ rest) (hdd : d' + 1 ≤ d) (hk : k ≤ mc) (hk2 : n ≤ ms) (hcat : (rest.map fun v => v.category).sum ≤ 8) (hd : decode cc pc = .ok (.invokestatic idx, 3)) (kk : AW g (pc + 3) L (.long v :: rest) σ' k n) : AW g pc L st σ k n := aw_callS hG hM h1 hw has hn hst hdd hk hk2 hcat hd kk
theorem aw_callSv {y : MethodName} {cc' : ByteArray} {nL' d' : Nat} {idx np : Nat} {ret : Option FieldType} {as : Wc → List Value} {As rest : List Value} (hG : Gd g own cc nL d mc ms) (hM : Ct y cc' nL' ret d' as σ (fun _ => none) σ') (h1 : Cond.methodLink own idx y ∈ gws) (hw : Ws y cc' nL' ret np) (has : as (cxw g) = As) (hn : As.length = np) (hst : st = As.reverse ++ rest) (hdd : d' + 1 ≤ d) (hk : k ≤ mc) (hk2 : n ≤ ms) (hcat : (rest.map fun v => v.category).sum ≤ 8) (hd : decode cc pc = .ok (.invokestatic idx, 3)) (kk : AW g (pc + 3) L rest σ' k n) : AW g pc L st σ k n := aw_callS hG hM h1 hw has hn hst hdd hk hk2 hcat hd kk
theorem aw_callSa {y : MethodName} {cc' : ByteArray} {nL' d' : Nat} {idx np : Nat} {ret : Option FieldType} {as : Wc → List Value} {a : Nat} {As rest : List Value} (hG : Gd g own cc nL d mc ms) (hM : Ct y cc' nL' ret d' as σ (fun w => some (.ref (wad w a))) σ') (h1 : Cond.methodLink own idx y ∈ gws) (hw : Ws y cc' nL' ret np) (has : as (cxw g) = As) (hn : As.length = np) (hst : st = As.reverse ++ rest) (hdd : d' + 1 ≤ d) (hk : k ≤ mc) (hk2 : n ≤ ms) (hcat : (rest.map fun v => v.category).sum ≤ 8) (hd : decode cc pc = .ok (.invokestatic idx, 3)) (kk : AW g (pc + 3) L (.ref (wad (cxw g) a) :: rest) σ' k n) : AW g pc L st σ k n := aw_callS hG hM h1 hw has hn hst hdd hk hk2 hcat hd kk
theorem aw_callSNi {y : MethodName} {cc' : ByteArray} {nL' d' : Nat} {idx np : Nat} {ret : Option FieldType} {as : Wc → List Value} {v : Int32} {As rest : List Value} {host : String} (hG : Gd g own cc nL d mc ms) (hM : Ct y cc' nL' ret d' as σ (fun _ => some (.int v)) σ') (h1 : ∀ U : State, Nst (cxw g) U → va_Nw (.methodLinkNest own idx y host) U) (hw : Ws y cc' nL' ret np) (has : as (cxw g) = As) (hn : As.length = np) (hst : st = As.reverse ++ rest) (hdd : d' + 1 ≤ d) (hk : k ≤ mc) (hk2 : n ≤ ms) (hcat : (rest.map fun v => v.category).sum ≤ 8) (hd : decode cc pc = .ok (.invokestatic idx, 3)) (kk : AW g (pc + 3) L (.int v :: rest) σ' k n) : AW g pc L st σ k n := aw_callSN hG hM h1 hw has hn hst hdd hk hk2 hcat hd kk
theorem aw_callSNl {y : MethodName} {cc' : ByteArray} {nL' d' : Nat} {idx np : Nat} {ret : Option FieldType} {as : Wc → List Value} {v : Int64} {As rest : List Value} {host : String} (hG : Gd g own cc nL d mc ms) (hM : Ct y cc' nL' ret d' as σ (fun _ => some (.long v)) σ') (h1 : ∀ U : State, Nst (cxw g) U → va_Nw (.methodLinkNest own idx y host) U) (hw : Ws y cc' nL' ret np) (has : as (cxw g) = As) (hn : As.length = np) (hst : st = As.reverse ++ rest) (hdd : d' + 1 ≤ d) (hk : k ≤ mc) (hk2 : n ≤ ms) (hcat : (rest.map fun v => v.category).sum ≤ 8) (hd : decode cc pc = .ok (.invokestatic idx, 3)) (kk : AW g (pc + 3) L (.long v :: rest) σ' k n) : AW g pc L st σ k n := aw_callSN hG hM h1 hw has hn hst hdd hk hk2 hcat hd kk
theorem aw_callSNv {y : MethodName} {cc' : ByteArray} {nL' d' : Nat} {idx np : Nat} {ret : Option FieldType} {as : Wc → List Value} {As rest : List Value} {host : String} (hG : Gd g own cc nL d mc ms) (hM : Ct y cc' nL' ret d' as σ (fun _ => none) σ') (h1 : ∀ U : State, Nst (cxw g) U → va_Nw (.methodLinkNest own idx y host) U) (hw : Ws y cc' nL' ret np) (has : as (cxw g) = As) (hn : As.length = np) (hst : st = As.reverse ++ rest) (hdd : d' + 1 ≤ d) (hk : k ≤ mc) (hk2 : n ≤ ms) (hcat : (rest.map fun v => v.category).sum ≤ 8) (hd : decode cc pc = .ok (.invokestatic idx, 3)) (kk : AW g (pc + 3) L rest σ' k n) : AW g pc L st σ k n := aw_callSN hG hM h1 hw has hn hst hdd hk hk2 hcat hd kk
theorem aw_callSNa {y : MethodName} {cc' : ByteArray} {nL' d' : Nat} {idx np : Nat} {ret : Option FieldType} {as : Wc → List Value} {a : Nat} {As rest : List Value} {host : String} (hG : Gd g own cc nL d mc ms) (hM : Ct y cc' nL' ret d' as σ (fun w => some (.ref (wad w a))) σ') (h1 : ∀ U : State, Nst (cxw g) U → va_Nw (.methodLinkNest own idx y host) U) (hw : Ws y cc' nL' ret np) (has : as (cxw g) = As) (hn : As.length = np) (hst : st = As.reverse ++ rest) (hdd : d' + 1 ≤ d) (hk : k ≤ mc) (hk2 : n ≤ ms) (hcat : (rest.map fun v => v.category).sum ≤ 8) (hd : decode cc pc = .ok (.invokestatic idx, 3)) (kk : AW g (pc + 3) L (.ref (wad (cxw g) a) :: rest) σ' k n) : AW g pc L st σ k n := aw_callSN hG hM h1 hw has hn hst hdd hk hk2 hcat hd kk
theorem aw_gSIO {idx : Nat} (hG : Gd g own cc nL d mc ms) (hlink : Cond.fieldLink own idx "jdk/internal/util/Preconditions" "SIOOBE_FORMATTER" "Ljava/util/function/BiFunction;" ∈ gws) (hd : decode cc pc = .ok (.getstatic idx, 3)) (kk : ∀ v : Value, v.category = 1 → AW g (pc + 3) L (v :: st) σ k n) : AW g pc L st σ k n := by
  obtain ⟨⟨p, l, e, R, s⟩, ⟨m, args, below, meth, c⟩, w, N, Q⟩ := g
  obtain ⟨hx, hb, hml, hN, hown, hts, hlk, hK, hC, hNs, hsz, hR⟩ := hG
  intro H locs ls hP hS hl
  rcases hC.2.2.2.2.2.2.2.2.2.2.2.2 with h | ⟨t, h⟩
  · exact va_gets hx hb h hS hown (hts _ hlink) (fun _ h9 => h9) hd (kk _ rfl H locs ls hP hS hl)
  · exact va_gets hx hb h hS hown (hts _ hlink) (fun _ h9 => h9) hd (kk _ rfl H locs ls hP hS hl)
theorem aw_pop {v : Value} (hG : Gd g own cc nL d mc ms) (hd : decode cc pc = .ok (.pop, 1)) (hv : v.category = 1) (kk : AW g (pc + 1) L st σ k n) : AW g pc L (v :: st) σ k n := by
  obtain ⟨⟨p, l, e, R, s⟩, ⟨m, args, below, meth, c⟩, w, N, Q⟩ := g
  obtain ⟨hx, hb, hml, hN, hown, hts, hlk, hK, hC, hNs, hsz, hR⟩ := hG
  intro H locs ls hP hS hl
  exact lv_pop hx hb hd hv (kk H locs ls hP hS hl)
end AWN
theorem nar_c {v : Int32} (h0 : 0 ≤ v.toInt) (h1 : v.toInt < 65536) : narrow .char (.int v) = .int v := by
  have e : vp_nar .char v = v := by
    rw [vp_nar_char]
    obtain ⟨j, hj, rfl⟩ := nI_of (x := v) (fun h => by have := Int32.lt_iff_toInt_lt.mp h; simp at this; omega)
    rw [nI_toInt hj] at h1
    apply Int32.toBitVec_inj.mp
    simp [nI]
    apply BitVec.eq_of_toNat_eq
    simp
    omega
  rw [show narrow .char (.int v) = .int (vp_nar .char v) from rfl, e]
theorem brL_toInt {t : Nat} (ht : t < 2) : (Int32.ofNat (brLen t)).toInt = (brLen t : Int) := by rcases (show t = 0 ∨ t = 1 by omega) with rfl | rfl <;> rfl
theorem sw3 {x : Int32} (h0 : ¬ x = 0) (h1 : ¬ x = 1) (h2 : ¬ x = 2) : x.toInt < 0 ∨ 2 < x.toInt := by
  have e0 : x.toInt ≠ 0 := fun h => h0 (Int32.toInt_inj.mp h)
  have e1 : x.toInt ≠ 1 := fun h => h1 (Int32.toInt_inj.mp h)
  have e2 : x.toInt ≠ 2 := fun h => h2 (Int32.toInt_inj.mp h)
  omega
theorem sw5 {x : Int32} (h0 : ¬ x = 0) (h1 : ¬ x = 1) (h2 : ¬ x = 2) (h3 : ¬ x = 3) (h4 : ¬ x = 4) : x.toInt < 0 ∨ 4 < x.toInt := by
  have e0 : x.toInt ≠ 0 := fun h => h0 (Int32.toInt_inj.mp h)
  have e1 : x.toInt ≠ 1 := fun h => h1 (Int32.toInt_inj.mp h)
  have e2 : x.toInt ≠ 2 := fun h => h2 (Int32.toInt_inj.mp h)
  have e3 : x.toInt ≠ 3 := fun h => h3 (Int32.toInt_inj.mp h)
  have e4 : x.toInt ≠ 4 := fun h => h4 (Int32.toInt_inj.mp h)
  omega
theorem vI_mk {i a : Int32} {N : Nat} (h0 : ¬ i < 0) (h1 : ¬ a ≤ i) (ha : a.toInt = N) : vI i N := by
  have h2 : ¬ i.toInt < 0 := fun h => h0 (Int32.lt_iff_toInt_lt.mpr h)
  have h3 : ¬ a.toInt ≤ i.toInt := fun h => h1 (Int32.le_iff_toInt_le.mpr h)
  exact ⟨by omega, by omega⟩
theorem vI_mk2 {i a : Int32} {N : Nat} (h0 : ¬ i < 0) (h1 : i < a) (ha : a.toInt = N) : vI i N := by
  have h2 : ¬ i.toInt < 0 := fun h => h0 (Int32.lt_iff_toInt_lt.mpr h)
  have h3 : i.toInt < a.toInt := Int32.lt_iff_toInt_lt.mp h1
  exact ⟨by omega, by omega⟩
